set_option maxRecDepth 100000 in
set_option maxHeartbeats 4000000 in
theorem lf_1_201 {p : Program} {l : Launch} {e : Env} {s : State} {m : MethodId} {args : Array Value} {below : List Frame} {meth : Method} {c : Code} {g : gx_T} {Q : State → Prop} {σ : sx_T} {b t bS : Nat} {xs : Nat → Int32} (hlt : l.stackTraces = false) (B : zx_B p s m args meth c code RL 8 g) (hX : va_X bS 6 xs s s.heap) (hbl : bS < s.heap.size) (hbA : ¬ gx_b g ≤ bS) (hF : fz_P b t σ) (h_x1 : xs 1 = 2) {x2 : Int32} (h_x2 : xs 2 = x2) (q1_x2 : (0 : Int) ≤ x2.toInt) (q2_x2 : x2.toInt ≤ (19 : Int)) {x3 : Int32} (h_x3 : xs 3 = x3) (q1_x3 : (0 : Int) ≤ x3.toInt) (q2_x3 : x3.toInt ≤ (17 : Int)) {x4 : Int32} (h_x4 : xs 4 = x4) (q1_x4 : (100 : Int) ≤ x4.toInt) (q2_x4 : x4.toInt ≤ (2147483647 : Int)) {x5 : Int32} (h_x5 : xs 5 = x5) (q1_x5 : (-2147483648 : Int) ≤ x5.toInt) (q2_x5 : x5.toInt ≤ (2147483647 : Int)) (kk : ∀ σ', zx p l e room_1 s m args below meth c g 8 600002 7302232 Q σ' 1395 [(4, .int 0), (0, .ref bS)] []) : zx p l e room_1 s m args below meth c g 8 500 100000 Q σ 252 [(4, .int 0), (3, .ref (b + 431)), (2, .ref (b + 405)), (1, .ref (b + 0)), (0, .ref bS)] [] := by
  have hK := fz_lay hF
  refine z_eqs (σ' := (ap b σ [] [] [])) rfl ?_
  refine z_aload_n B dL_law_252 rfl 3 rfl ?_
  refine z_aload_n B dL_law_253 rfl 4 rfl ?_
  refine z_iload B dL_law_254 0 rfl ?_
  refine z_iconst (v := 1) B dL_law_256 (by decide) ?_
  refine z_iadd B dL_law_257 ?_
  refine z_seti (y := 1) (by decide) ?_
  refine z_sld (j := 1) (x := 2) B hX hbl hbA (by decide) (show ¬ ((1 : Int32) < 0 ∨ 6 ≤ (1 : Int32).toNatClampNeg) by decide) h_x1 dL_law_258 ?_
  refine z_aload_n B dL_law_259 rfl 4 rfl ?_
  refine z_iload B dL_law_260 0 rfl ?_
  refine z_iconst (v := 2) B dL_law_262 (by decide) ?_
  refine z_iadd B dL_law_263 ?_
  refine z_seti (y := 2) (by decide) ?_
  refine z_sld (j := 2) (x := x2) B hX hbl hbA (by decide) (show ¬ ((2 : Int32) < 0 ∨ 6 ≤ (2 : Int32).toNatClampNeg) by decide) h_x2 dL_law_264 ?_
  refine z_aload_n B dL_law_265 rfl 4 rfl ?_
  refine z_iload B dL_law_266 0 rfl ?_
  refine z_iconst (v := 3) B dL_law_268 (by decide) ?_
  refine z_iadd B dL_law_269 ?_
  refine z_seti (y := 3) (by decide) ?_
  refine z_sld (j := 3) (x := x3) B hX hbl hbA (by decide) (show ¬ ((3 : Int32) < 0 ∨ 6 ≤ (3 : Int32).toNatClampNeg) by decide) h_x3 dL_law_270 ?_
  refine z_aload_n B dL_law_271 rfl 4 rfl ?_
  refine z_iload B dL_law_272 0 rfl ?_
  refine z_iconst (v := 4) B dL_law_274 (by decide) ?_
  refine z_iadd B dL_law_275 ?_
  refine z_seti (y := 4) (by decide) ?_
  refine z_sld (j := 4) (x := x4) B hX hbl hbA (by decide) (show ¬ ((4 : Int32) < 0 ∨ 6 ≤ (4 : Int32).toNatClampNeg) by decide) h_x4 dL_law_276 ?_
  refine z_aload_n B dL_law_277 rfl 4 rfl ?_
  refine z_iload B dL_law_278 0 rfl ?_
  refine z_iconst (v := 5) B dL_law_280 (by decide) ?_
  refine z_iadd B dL_law_281 ?_
  refine z_seti (y := 5) (by decide) ?_
  refine z_sld (j := 5) (x := x5) B hX hbl hbA (by decide) (show ¬ ((5 : Int32) < 0 ∨ 6 ≤ (5 : Int32).toNatClampNeg) by decide) h_x5 dL_law_282 ?_
  refine z_aload_n B dL_law_283 rfl 1 rfl ?_
  refine z_cSWi (As := [.ref (b + 0), .int 2, .int x2, .int x3, .int x4, .int x5, .ref (b + 431)]) (rest := []) B cw_L_84 dL_law_284 (ci_L_check_500 l hlt (σ := (ap b σ [] [] [])) (b := b) (lyA hK) x2 x3 x4 x5 q1_x2 q2_x2 q1_x3 q2_x3 q1_x4 q2_x4 (rR_at 0 0 (fz_R hF 0 0 rfl rfl)) (rR_at 1 2 (fz_R hF 1 2 rfl rfl))) rfl (by decide) rfl (Nat.le_of_ble_eq_true rfl) (by decide) (fun r u hu => ?_)
  obtain ⟨hu1, z, hu⟩ := hu
  refine z_eqs (σ' := (ap b (wx_Z σ z) [] [] [])) (hu.trans az_ap) ?_
  show zx p l e _ s m _ below meth c g 8 _ _ _ _ 287 [(4, .int 0), (3, .ref (b + 431)), (2, .ref (b + 405)), (1, .ref (b + 0)), (0, .ref bS)] _
  refine z_seti (y := 2) hu1 ?_
  refine z_istore (lv' := [(5, .int 2), (4, .int 0), (3, .ref (b + 431)), (2, .ref (b + 405)), (1, .ref (b + 0)), (0, .ref bS)]) B dL_law_287 (by decide) rfl ?_
  refine z_aload_n B dL_law_289 rfl 3 rfl ?_
  refine z_aload_n B dL_law_290 rfl 5 rfl ?_
  refine z_iload B dL_law_291 1 rfl ?_
  refine z_iconst (v := 1) B dL_law_293 (by decide) ?_
  refine z_iadd B dL_law_294 ?_
  refine z_seti (y := 1) (by decide) ?_
  refine z_sld (j := 1) (x := 2) B hX hbl hbA (by decide) (show ¬ ((1 : Int32) < 0 ∨ 6 ≤ (1 : Int32).toNatClampNeg) by decide) h_x1 dL_law_295 ?_
  refine z_aload_n B dL_law_296 rfl 5 rfl ?_
  refine z_iload B dL_law_297 1 rfl ?_
  refine z_iconst (v := 2) B dL_law_299 (by decide) ?_
  refine z_iadd B dL_law_300 ?_
  refine z_seti (y := 2) (by decide) ?_
  refine z_sld (j := 2) (x := x2) B hX hbl hbA (by decide) (show ¬ ((2 : Int32) < 0 ∨ 6 ≤ (2 : Int32).toNatClampNeg) by decide) h_x2 dL_law_301 ?_
  refine z_aload_n B dL_law_302 rfl 5 rfl ?_
  refine z_iload B dL_law_303 1 rfl ?_
  refine z_iconst (v := 3) B dL_law_305 (by decide) ?_
  refine z_iadd B dL_law_306 ?_
  refine z_seti (y := 3) (by decide) ?_
  refine z_sld (j := 3) (x := x3) B hX hbl hbA (by decide) (show ¬ ((3 : Int32) < 0 ∨ 6 ≤ (3 : Int32).toNatClampNeg) by decide) h_x3 dL_law_307 ?_
  refine z_aload_n B dL_law_308 rfl 5 rfl ?_
  refine z_iload B dL_law_309 1 rfl ?_
  refine z_iconst (v := 4) B dL_law_311 (by decide) ?_
  refine z_iadd B dL_law_312 ?_
  refine z_seti (y := 4) (by decide) ?_
  refine z_sld (j := 4) (x := x4) B hX hbl hbA (by decide) (show ¬ ((4 : Int32) < 0 ∨ 6 ≤ (4 : Int32).toNatClampNeg) by decide) h_x4 dL_law_313 ?_
  refine z_aload_n B dL_law_314 rfl 5 rfl ?_
  refine z_iload B dL_law_315 1 rfl ?_
  refine z_iconst (v := 5) B dL_law_317 (by decide) ?_
  refine z_iadd B dL_law_318 ?_
  refine z_seti (y := 5) (by decide) ?_
  refine z_sld (j := 5) (x := x5) B hX hbl hbA (by decide) (show ¬ ((5 : Int32) < 0 ∨ 6 ≤ (5 : Int32).toNatClampNeg) by decide) h_x5 dL_law_319 ?_
  refine z_cVi (As := [.int 2, .int x2, .int x3, .int x4, .int x5]) (rest := []) B cw_L_86 cx_10 dL_law_320 (ci_X9_check_501 l (σ := (ap b (wx_Z σ z) [] [] [])) (b := b) (lyA (lyZ hK)) x2 x3 x4 x5 q1_x2 q2_x2 q1_x3 q2_x3 q1_x4 q2_x4) (lKA (lKZ (hk_K hK 405 rfl rfl))) rfl (by decide) rfl (Nat.le_of_ble_eq_true rfl) (by decide) (fun r u hu => ?_)
  refine z_eqs (σ' := (ap b (wx_Z σ z) [(405, 0, 2)] [] [])) (hu.2.trans ap_ap) ?_
  show zx p l e _ s m _ below meth c g 8 _ _ _ _ 323 [(5, .int 2), (4, .int 0), (3, .ref (b + 431)), (2, .ref (b + 405)), (1, .ref (b + 0)), (0, .ref bS)] _
  refine z_seti (y := 0) hu.1 ?_
  refine z_istore (lv' := [(6, .int 0), (5, .int 2), (4, .int 0), (3, .ref (b + 431)), (2, .ref (b + 405)), (1, .ref (b + 0)), (0, .ref bS)]) B dL_law_323 (by decide) rfl ?_
  refine z_aload_n B dL_law_325 rfl 4 rfl ?_
  refine z_cVi (As := []) (rest := []) B cw_L_80 cx_10 dL_law_326 (ci_X9_thrown_73 l (σ := (ap b (wx_Z σ z) [(405, 0, 2)] [] [])) (b := b) (lyA (lyZ hK)) (rI_at 405 0 rfl)) (lKA (lKZ (hk_K hK 405 rfl rfl))) rfl (by decide) rfl (Nat.le_of_ble_eq_true rfl) (by decide) (fun r u hu => ?_)
  refine z_eqs (σ' := (ap b (wx_Z σ z) [(405, 0, 2)] [] [])) hu.2 ?_
  show zx p l e _ s m _ below meth c g 8 _ _ _ _ 329 [(6, .int 0), (5, .int 2), (4, .int 0), (3, .ref (b + 431)), (2, .ref (b + 405)), (1, .ref (b + 0)), (0, .ref bS)] _
  refine z_seti (y := 2) hu.1 ?_
  refine z_iload B dL_law_329 1 rfl ?_
  refine z_icmp_eq (tgt := 336) B dL_law_331 (by decide) (fun _ => ?_) (fun h => absurd (by decide) h)
  refine z_iload B dL_law_336 1 rfl ?_
  refine z_if_ne (tgt := 353) B dL_law_338 (by decide) (fun _ => ?_) (fun h => absurd h (by decide))
  refine z_goto (tgt := 1395) B dL_law_353 (by decide) ?_
  exact z_widen (Nat.le_of_ble_eq_true rfl) (Nat.le_of_ble_eq_true rfl) (z_sub _ [2, 6] rfl (kk _))
set_option maxRecDepth 100000 in
set_option maxHeartbeats 4000000 in
theorem lf_1_202 {p : Program} {l : Launch} {e : Env} {s : State} {m : MethodId} {args : Array Value} {below : List Frame} {meth : Method} {c : Code} {g : gx_T} {Q : State → Prop} {σ : sx_T} {b t bS : Nat} {xs : Nat → Int32} (hlt : l.stackTraces = false) (B : zx_B p s m args meth c code RL 8 g) (hX : va_X bS 6 xs s s.heap) (hbl : bS < s.heap.size) (hbA : ¬ gx_b g ≤ bS) (hF : fz_P b t σ) (h_x1 : xs 1 = 2) {x2 : Int32} (h_x2 : xs 2 = x2) (q1_x2 : (0 : Int) ≤ x2.toInt) (q2_x2 : x2.toInt ≤ (19 : Int)) {x3 : Int32} (h_x3 : xs 3 = x3) (q1_x3 : (18 : Int) ≤ x3.toInt) (q2_x3 : x3.toInt ≤ (2147483647 : Int)) {x4 : Int32} (h_x4 : xs 4 = x4) (q1_x4 : (-2147483648 : Int) ≤ x4.toInt) (q2_x4 : x4.toInt ≤ (2147483647 : Int)) {x5 : Int32} (h_x5 : xs 5 = x5) (q1_x5 : (-2147483648 : Int) ≤ x5.toInt) (q2_x5 : x5.toInt ≤ (2147483647 : Int)) (kk : ∀ σ', zx p l e room_1 s m args below meth c g 8 600002 7302232 Q σ' 1395 [(4, .int 0), (0, .ref bS)] []) : zx p l e room_1 s m args below meth c g 8 500 100000 Q σ 252 [(4, .int 0), (3, .ref (b + 431)), (2, .ref (b + 405)), (1, .ref (b + 0)), (0, .ref bS)] [] := by
  have hK := fz_lay hF
  refine z_eqs (σ' := (ap b σ [] [] [])) rfl ?_
  refine z_aload_n B dL_law_252 rfl 3 rfl ?_
  refine z_aload_n B dL_law_253 rfl 4 rfl ?_
  refine z_iload B dL_law_254 0 rfl ?_
  refine z_iconst (v := 1) B dL_law_256 (by decide) ?_
  refine z_iadd B dL_law_257 ?_
  refine z_seti (y := 1) (by decide) ?_
  refine z_sld (j := 1) (x := 2) B hX hbl hbA (by decide) (show ¬ ((1 : Int32) < 0 ∨ 6 ≤ (1 : Int32).toNatClampNeg) by decide) h_x1 dL_law_258 ?_
  refine z_aload_n B dL_law_259 rfl 4 rfl ?_
  refine z_iload B dL_law_260 0 rfl ?_
  refine z_iconst (v := 2) B dL_law_262 (by decide) ?_
  refine z_iadd B dL_law_263 ?_
  refine z_seti (y := 2) (by decide) ?_
  refine z_sld (j := 2) (x := x2) B hX hbl hbA (by decide) (show ¬ ((2 : Int32) < 0 ∨ 6 ≤ (2 : Int32).toNatClampNeg) by decide) h_x2 dL_law_264 ?_
  refine z_aload_n B dL_law_265 rfl 4 rfl ?_
  refine z_iload B dL_law_266 0 rfl ?_
  refine z_iconst (v := 3) B dL_law_268 (by decide) ?_
  refine z_iadd B dL_law_269 ?_
  refine z_seti (y := 3) (by decide) ?_
  refine z_sld (j := 3) (x := x3) B hX hbl hbA (by decide) (show ¬ ((3 : Int32) < 0 ∨ 6 ≤ (3 : Int32).toNatClampNeg) by decide) h_x3 dL_law_270 ?_
  refine z_aload_n B dL_law_271 rfl 4 rfl ?_
  refine z_iload B dL_law_272 0 rfl ?_
  refine z_iconst (v := 4) B dL_law_274 (by decide) ?_
  refine z_iadd B dL_law_275 ?_
  refine z_seti (y := 4) (by decide) ?_
  refine z_sld (j := 4) (x := x4) B hX hbl hbA (by decide) (show ¬ ((4 : Int32) < 0 ∨ 6 ≤ (4 : Int32).toNatClampNeg) by decide) h_x4 dL_law_276 ?_
  refine z_aload_n B dL_law_277 rfl 4 rfl ?_
  refine z_iload B dL_law_278 0 rfl ?_
  refine z_iconst (v := 5) B dL_law_280 (by decide) ?_
  refine z_iadd B dL_law_281 ?_
  refine z_seti (y := 5) (by decide) ?_
  refine z_sld (j := 5) (x := x5) B hX hbl hbA (by decide) (show ¬ ((5 : Int32) < 0 ∨ 6 ≤ (5 : Int32).toNatClampNeg) by decide) h_x5 dL_law_282 ?_
  refine z_aload_n B dL_law_283 rfl 1 rfl ?_
  refine z_cSWi (As := [.ref (b + 0), .int 2, .int x2, .int x3, .int x4, .int x5, .ref (b + 431)]) (rest := []) B cw_L_84 dL_law_284 (ci_L_check_503 l hlt (σ := (ap b σ [] [] [])) (b := b) (lyA hK) x2 x3 x4 x5 q1_x2 q2_x2 q1_x3 q2_x3 (rR_at 0 0 (fz_R hF 0 0 rfl rfl)) (rR_at 1 2 (fz_R hF 1 2 rfl rfl))) rfl (by decide) rfl (Nat.le_of_ble_eq_true rfl) (by decide) (fun r u hu => ?_)
  obtain ⟨hu1, z, hu⟩ := hu
  refine z_eqs (σ' := (ap b (wx_Z σ z) [] [] [])) (hu.trans az_ap) ?_
  show zx p l e _ s m _ below meth c g 8 _ _ _ _ 287 [(4, .int 0), (3, .ref (b + 431)), (2, .ref (b + 405)), (1, .ref (b + 0)), (0, .ref bS)] _
  refine z_seti (y := 2) hu1 ?_
  refine z_istore (lv' := [(5, .int 2), (4, .int 0), (3, .ref (b + 431)), (2, .ref (b + 405)), (1, .ref (b + 0)), (0, .ref bS)]) B dL_law_287 (by decide) rfl ?_
  refine z_aload_n B dL_law_289 rfl 3 rfl ?_
  refine z_aload_n B dL_law_290 rfl 5 rfl ?_
  refine z_iload B dL_law_291 1 rfl ?_
  refine z_iconst (v := 1) B dL_law_293 (by decide) ?_
  refine z_iadd B dL_law_294 ?_
  refine z_seti (y := 1) (by decide) ?_
  refine z_sld (j := 1) (x := 2) B hX hbl hbA (by decide) (show ¬ ((1 : Int32) < 0 ∨ 6 ≤ (1 : Int32).toNatClampNeg) by decide) h_x1 dL_law_295 ?_
  refine z_aload_n B dL_law_296 rfl 5 rfl ?_
  refine z_iload B dL_law_297 1 rfl ?_
  refine z_iconst (v := 2) B dL_law_299 (by decide) ?_
  refine z_iadd B dL_law_300 ?_
  refine z_seti (y := 2) (by decide) ?_
  refine z_sld (j := 2) (x := x2) B hX hbl hbA (by decide) (show ¬ ((2 : Int32) < 0 ∨ 6 ≤ (2 : Int32).toNatClampNeg) by decide) h_x2 dL_law_301 ?_
  refine z_aload_n B dL_law_302 rfl 5 rfl ?_
  refine z_iload B dL_law_303 1 rfl ?_
  refine z_iconst (v := 3) B dL_law_305 (by decide) ?_
  refine z_iadd B dL_law_306 ?_
  refine z_seti (y := 3) (by decide) ?_
  refine z_sld (j := 3) (x := x3) B hX hbl hbA (by decide) (show ¬ ((3 : Int32) < 0 ∨ 6 ≤ (3 : Int32).toNatClampNeg) by decide) h_x3 dL_law_307 ?_
  refine z_aload_n B dL_law_308 rfl 5 rfl ?_
  refine z_iload B dL_law_309 1 rfl ?_
  refine z_iconst (v := 4) B dL_law_311 (by decide) ?_
  refine z_iadd B dL_law_312 ?_
  refine z_seti (y := 4) (by decide) ?_
  refine z_sld (j := 4) (x := x4) B hX hbl hbA (by decide) (show ¬ ((4 : Int32) < 0 ∨ 6 ≤ (4 : Int32).toNatClampNeg) by decide) h_x4 dL_law_313 ?_
  refine z_aload_n B dL_law_314 rfl 5 rfl ?_
  refine z_iload B dL_law_315 1 rfl ?_
  refine z_iconst (v := 5) B dL_law_317 (by decide) ?_
  refine z_iadd B dL_law_318 ?_
  refine z_seti (y := 5) (by decide) ?_
  refine z_sld (j := 5) (x := x5) B hX hbl hbA (by decide) (show ¬ ((5 : Int32) < 0 ∨ 6 ≤ (5 : Int32).toNatClampNeg) by decide) h_x5 dL_law_319 ?_
  refine z_cVi (As := [.int 2, .int x2, .int x3, .int x4, .int x5]) (rest := []) B cw_L_86 cx_10 dL_law_320 (ci_X9_check_504 l (σ := (ap b (wx_Z σ z) [] [] [])) (b := b) (lyA (lyZ hK)) x2 x3 x4 x5 q1_x2 q2_x2 q1_x3 q2_x3) (lKA (lKZ (hk_K hK 405 rfl rfl))) rfl (by decide) rfl (Nat.le_of_ble_eq_true rfl) (by decide) (fun r u hu => ?_)
  refine z_eqs (σ' := (ap b (wx_Z σ z) [(405, 0, 2)] [] [])) (hu.2.trans ap_ap) ?_
  show zx p l e _ s m _ below meth c g 8 _ _ _ _ 323 [(5, .int 2), (4, .int 0), (3, .ref (b + 431)), (2, .ref (b + 405)), (1, .ref (b + 0)), (0, .ref bS)] _
  refine z_seti (y := 0) hu.1 ?_
  refine z_istore (lv' := [(6, .int 0), (5, .int 2), (4, .int 0), (3, .ref (b + 431)), (2, .ref (b + 405)), (1, .ref (b + 0)), (0, .ref bS)]) B dL_law_323 (by decide) rfl ?_
  refine z_aload_n B dL_law_325 rfl 4 rfl ?_
  refine z_cVi (As := []) (rest := []) B cw_L_80 cx_10 dL_law_326 (ci_X9_thrown_73 l (σ := (ap b (wx_Z σ z) [(405, 0, 2)] [] [])) (b := b) (lyA (lyZ hK)) (rI_at 405 0 rfl)) (lKA (lKZ (hk_K hK 405 rfl rfl))) rfl (by decide) rfl (Nat.le_of_ble_eq_true rfl) (by decide) (fun r u hu => ?_)
  refine z_eqs (σ' := (ap b (wx_Z σ z) [(405, 0, 2)] [] [])) hu.2 ?_
  show zx p l e _ s m _ below meth c g 8 _ _ _ _ 329 [(6, .int 0), (5, .int 2), (4, .int 0), (3, .ref (b + 431)), (2, .ref (b + 405)), (1, .ref (b + 0)), (0, .ref bS)] _
  refine z_seti (y := 2) hu.1 ?_
  refine z_iload B dL_law_329 1 rfl ?_
  refine z_icmp_eq (tgt := 336) B dL_law_331 (by decide) (fun _ => ?_) (fun h => absurd (by decide) h)
  refine z_iload B dL_law_336 1 rfl ?_
  refine z_if_ne (tgt := 353) B dL_law_338 (by decide) (fun _ => ?_) (fun h => absurd h (by decide))
  refine z_goto (tgt := 1395) B dL_law_353 (by decide) ?_
  exact z_widen (Nat.le_of_ble_eq_true rfl) (Nat.le_of_ble_eq_true rfl) (z_sub _ [2, 6] rfl (kk _))
set_option maxRecDepth 100000 in
set_option maxHeartbeats 4000000 in
theorem lf_1_203 {p : Program} {l : Launch} {e : Env} {s : State} {m : MethodId} {args : Array Value} {below : List Frame} {meth : Method} {c : Code} {g : gx_T} {Q : State → Prop} {σ : sx_T} {b t bS : Nat} {xs : Nat → Int32} (hlt : l.stackTraces = false) (B : zx_B p s m args meth c code RL 8 g) (hX : va_X bS 6 xs s s.heap) (hbl : bS < s.heap.size) (hbA : ¬ gx_b g ≤ bS) (hF : fz_P b t σ) (h_x1 : xs 1 = 2) {x2 : Int32} (h_x2 : xs 2 = x2) (q1_x2 : (20 : Int) ≤ x2.toInt) (q2_x2 : x2.toInt ≤ (2147483647 : Int)) {x3 : Int32} (h_x3 : xs 3 = x3) (q1_x3 : (-2147483648 : Int) ≤ x3.toInt) (q2_x3 : x3.toInt ≤ (-1 : Int)) {x4 : Int32} (h_x4 : xs 4 = x4) (q1_x4 : (-2147483648 : Int) ≤ x4.toInt) (q2_x4 : x4.toInt ≤ (2147483647 : Int)) {x5 : Int32} (h_x5 : xs 5 = x5) (q1_x5 : (-2147483648 : Int) ≤ x5.toInt) (q2_x5 : x5.toInt ≤ (2147483647 : Int)) (kk : ∀ σ', zx p l e room_1 s m args below meth c g 8 600002 7302232 Q σ' 1395 [(4, .int 0), (0, .ref bS)] []) : zx p l e room_1 s m args below meth c g 8 500 100000 Q σ 252 [(4, .int 0), (3, .ref (b + 431)), (2, .ref (b + 405)), (1, .ref (b + 0)), (0, .ref bS)] [] := by
  have hK := fz_lay hF
  refine z_eqs (σ' := (ap b σ [] [] [])) rfl ?_
  refine z_aload_n B dL_law_252 rfl 3 rfl ?_
  refine z_aload_n B dL_law_253 rfl 4 rfl ?_
  refine z_iload B dL_law_254 0 rfl ?_
  refine z_iconst (v := 1) B dL_law_256 (by decide) ?_
  refine z_iadd B dL_law_257 ?_
  refine z_seti (y := 1) (by decide) ?_
  refine z_sld (j := 1) (x := 2) B hX hbl hbA (by decide) (show ¬ ((1 : Int32) < 0 ∨ 6 ≤ (1 : Int32).toNatClampNeg) by decide) h_x1 dL_law_258 ?_
  refine z_aload_n B dL_law_259 rfl 4 rfl ?_
  refine z_iload B dL_law_260 0 rfl ?_
  refine z_iconst (v := 2) B dL_law_262 (by decide) ?_
  refine z_iadd B dL_law_263 ?_
  refine z_seti (y := 2) (by decide) ?_
  refine z_sld (j := 2) (x := x2) B hX hbl hbA (by decide) (show ¬ ((2 : Int32) < 0 ∨ 6 ≤ (2 : Int32).toNatClampNeg) by decide) h_x2 dL_law_264 ?_
  refine z_aload_n B dL_law_265 rfl 4 rfl ?_
  refine z_iload B dL_law_266 0 rfl ?_
  refine z_iconst (v := 3) B dL_law_268 (by decide) ?_
  refine z_iadd B dL_law_269 ?_
  refine z_seti (y := 3) (by decide) ?_
  refine z_sld (j := 3) (x := x3) B hX hbl hbA (by decide) (show ¬ ((3 : Int32) < 0 ∨ 6 ≤ (3 : Int32).toNatClampNeg) by decide) h_x3 dL_law_270 ?_
  refine z_aload_n B dL_law_271 rfl 4 rfl ?_
  refine z_iload B dL_law_272 0 rfl ?_
  refine z_iconst (v := 4) B dL_law_274 (by decide) ?_
  refine z_iadd B dL_law_275 ?_
  refine z_seti (y := 4) (by decide) ?_
  refine z_sld (j := 4) (x := x4) B hX hbl hbA (by decide) (show ¬ ((4 : Int32) < 0 ∨ 6 ≤ (4 : Int32).toNatClampNeg) by decide) h_x4 dL_law_276 ?_
  refine z_aload_n B dL_law_277 rfl 4 rfl ?_
  refine z_iload B dL_law_278 0 rfl ?_
  refine z_iconst (v := 5) B dL_law_280 (by decide) ?_
  refine z_iadd B dL_law_281 ?_
  refine z_seti (y := 5) (by decide) ?_
  refine z_sld (j := 5) (x := x5) B hX hbl hbA (by decide) (show ¬ ((5 : Int32) < 0 ∨ 6 ≤ (5 : Int32).toNatClampNeg) by decide) h_x5 dL_law_282 ?_
  refine z_aload_n B dL_law_283 rfl 1 rfl ?_
  refine z_cSWi (As := [.ref (b + 0), .int 2, .int x2, .int x3, .int x4, .int x5, .ref (b + 431)]) (rest := []) B cw_L_84 dL_law_284 (ci_L_check_506 l hlt (σ := (ap b σ [] [] [])) (b := b) (lyA hK) x2 x3 x4 x5 q1_x2 q2_x2 (rR_at 0 0 (fz_R hF 0 0 rfl rfl)) (rR_at 1 2 (fz_R hF 1 2 rfl rfl))) rfl (by decide) rfl (Nat.le_of_ble_eq_true rfl) (by decide) (fun r u hu => ?_)
  obtain ⟨hu1, z, hu⟩ := hu
  refine z_eqs (σ' := (ap b (wx_Z σ z) [] [] [])) (hu.trans az_ap) ?_
  show zx p l e _ s m _ below meth c g 8 _ _ _ _ 287 [(4, .int 0), (3, .ref (b + 431)), (2, .ref (b + 405)), (1, .ref (b + 0)), (0, .ref bS)] _
  refine z_seti (y := 1) hu1 ?_
  refine z_istore (lv' := [(5, .int 1), (4, .int 0), (3, .ref (b + 431)), (2, .ref (b + 405)), (1, .ref (b + 0)), (0, .ref bS)]) B dL_law_287 (by decide) rfl ?_
  refine z_aload_n B dL_law_289 rfl 3 rfl ?_
  refine z_aload_n B dL_law_290 rfl 5 rfl ?_
  refine z_iload B dL_law_291 1 rfl ?_
  refine z_iconst (v := 1) B dL_law_293 (by decide) ?_
  refine z_iadd B dL_law_294 ?_
  refine z_seti (y := 1) (by decide) ?_
  refine z_sld (j := 1) (x := 2) B hX hbl hbA (by decide) (show ¬ ((1 : Int32) < 0 ∨ 6 ≤ (1 : Int32).toNatClampNeg) by decide) h_x1 dL_law_295 ?_
  refine z_aload_n B dL_law_296 rfl 5 rfl ?_
  refine z_iload B dL_law_297 1 rfl ?_
  refine z_iconst (v := 2) B dL_law_299 (by decide) ?_
  refine z_iadd B dL_law_300 ?_
  refine z_seti (y := 2) (by decide) ?_
  refine z_sld (j := 2) (x := x2) B hX hbl hbA (by decide) (show ¬ ((2 : Int32) < 0 ∨ 6 ≤ (2 : Int32).toNatClampNeg) by decide) h_x2 dL_law_301 ?_
  refine z_aload_n B dL_law_302 rfl 5 rfl ?_
  refine z_iload B dL_law_303 1 rfl ?_
  refine z_iconst (v := 3) B dL_law_305 (by decide) ?_
  refine z_iadd B dL_law_306 ?_
  refine z_seti (y := 3) (by decide) ?_
  refine z_sld (j := 3) (x := x3) B hX hbl hbA (by decide) (show ¬ ((3 : Int32) < 0 ∨ 6 ≤ (3 : Int32).toNatClampNeg) by decide) h_x3 dL_law_307 ?_
  refine z_aload_n B dL_law_308 rfl 5 rfl ?_
  refine z_iload B dL_law_309 1 rfl ?_
  refine z_iconst (v := 4) B dL_law_311 (by decide) ?_
  refine z_iadd B dL_law_312 ?_
  refine z_seti (y := 4) (by decide) ?_
  refine z_sld (j := 4) (x := x4) B hX hbl hbA (by decide) (show ¬ ((4 : Int32) < 0 ∨ 6 ≤ (4 : Int32).toNatClampNeg) by decide) h_x4 dL_law_313 ?_
  refine z_aload_n B dL_law_314 rfl 5 rfl ?_
  refine z_iload B dL_law_315 1 rfl ?_
  refine z_iconst (v := 5) B dL_law_317 (by decide) ?_
  refine z_iadd B dL_law_318 ?_
  refine z_seti (y := 5) (by decide) ?_
  refine z_sld (j := 5) (x := x5) B hX hbl hbA (by decide) (show ¬ ((5 : Int32) < 0 ∨ 6 ≤ (5 : Int32).toNatClampNeg) by decide) h_x5 dL_law_319 ?_
  refine z_cVi (As := [.int 2, .int x2, .int x3, .int x4, .int x5]) (rest := []) B cw_L_86 cx_10 dL_law_320 (ci_X9_check_507 l (σ := (ap b (wx_Z σ z) [] [] [])) (b := b) (lyA (lyZ hK)) x2 x3 x4 x5 q1_x2 q2_x2 q1_x3 q2_x3) (lKA (lKZ (hk_K hK 405 rfl rfl))) rfl (by decide) rfl (Nat.le_of_ble_eq_true rfl) (by decide) (fun r u hu => ?_)
  refine z_eqs (σ' := (ap b (wx_Z σ z) [(405, 0, 1)] [] [])) (hu.2.trans ap_ap) ?_
  show zx p l e _ s m _ below meth c g 8 _ _ _ _ 323 [(5, .int 1), (4, .int 0), (3, .ref (b + 431)), (2, .ref (b + 405)), (1, .ref (b + 0)), (0, .ref bS)] _
  refine z_seti (y := 0) hu.1 ?_
  refine z_istore (lv' := [(6, .int 0), (5, .int 1), (4, .int 0), (3, .ref (b + 431)), (2, .ref (b + 405)), (1, .ref (b + 0)), (0, .ref bS)]) B dL_law_323 (by decide) rfl ?_
  refine z_aload_n B dL_law_325 rfl 4 rfl ?_
  refine z_cVi (As := []) (rest := []) B cw_L_80 cx_10 dL_law_326 (ci_X9_thrown_31 l (σ := (ap b (wx_Z σ z) [(405, 0, 1)] [] [])) (b := b) (lyA (lyZ hK)) (rI_at 405 0 rfl)) (lKA (lKZ (hk_K hK 405 rfl rfl))) rfl (by decide) rfl (Nat.le_of_ble_eq_true rfl) (by decide) (fun r u hu => ?_)
  refine z_eqs (σ' := (ap b (wx_Z σ z) [(405, 0, 1)] [] [])) hu.2 ?_
  show zx p l e _ s m _ below meth c g 8 _ _ _ _ 329 [(6, .int 0), (5, .int 1), (4, .int 0), (3, .ref (b + 431)), (2, .ref (b + 405)), (1, .ref (b + 0)), (0, .ref bS)] _
  refine z_seti (y := 1) hu.1 ?_
  refine z_iload B dL_law_329 1 rfl ?_
  refine z_icmp_eq (tgt := 336) B dL_law_331 (by decide) (fun _ => ?_) (fun h => absurd (by decide) h)
  refine z_iload B dL_law_336 1 rfl ?_
  refine z_if_ne (tgt := 353) B dL_law_338 (by decide) (fun _ => ?_) (fun h => absurd h (by decide))
  refine z_goto (tgt := 1395) B dL_law_353 (by decide) ?_
  exact z_widen (Nat.le_of_ble_eq_true rfl) (Nat.le_of_ble_eq_true rfl) (z_sub _ [2, 6] rfl (kk _))
set_option maxRecDepth 100000 in
set_option maxHeartbeats 4000000 in
theorem lf_1_204 {p : Program} {l : Launch} {e : Env} {s : State} {m : MethodId} {args : Array Value} {below : List Frame} {meth : Method} {c : Code} {g : gx_T} {Q : State → Prop} {σ : sx_T} {b t bS : Nat} {xs : Nat → Int32} (hlt : l.stackTraces = false) (B : zx_B p s m args meth c code RL 8 g) (hX : va_X bS 6 xs s s.heap) (hbl : bS < s.heap.size) (hbA : ¬ gx_b g ≤ bS) (hF : fz_P b t σ) (h_x1 : xs 1 = 2) {x2 : Int32} (h_x2 : xs 2 = x2) (q1_x2 : (20 : Int) ≤ x2.toInt) (q2_x2 : x2.toInt ≤ (2147483647 : Int)) {x3 : Int32} (h_x3 : xs 3 = x3) (q1_x3 : (0 : Int) ≤ x3.toInt) (q2_x3 : x3.toInt ≤ (17 : Int)) {x4 : Int32} (h_x4 : xs 4 = x4) (q1_x4 : (-2147483648 : Int) ≤ x4.toInt) (q2_x4 : x4.toInt ≤ (-1 : Int)) {x5 : Int32} (h_x5 : xs 5 = x5) (q1_x5 : (-2147483648 : Int) ≤ x5.toInt) (q2_x5 : x5.toInt ≤ (2147483647 : Int)) (kk : ∀ σ', zx p l e room_1 s m args below meth c g 8 600002 7302232 Q σ' 1395 [(4, .int 0), (0, .ref bS)] []) : zx p l e room_1 s m args below meth c g 8 500 100000 Q σ 252 [(4, .int 0), (3, .ref (b + 431)), (2, .ref (b + 405)), (1, .ref (b + 0)), (0, .ref bS)] [] := by
  have hK := fz_lay hF
  refine z_eqs (σ' := (ap b σ [] [] [])) rfl ?_
  refine z_aload_n B dL_law_252 rfl 3 rfl ?_
  refine z_aload_n B dL_law_253 rfl 4 rfl ?_
  refine z_iload B dL_law_254 0 rfl ?_
  refine z_iconst (v := 1) B dL_law_256 (by decide) ?_
  refine z_iadd B dL_law_257 ?_
  refine z_seti (y := 1) (by decide) ?_
  refine z_sld (j := 1) (x := 2) B hX hbl hbA (by decide) (show ¬ ((1 : Int32) < 0 ∨ 6 ≤ (1 : Int32).toNatClampNeg) by decide) h_x1 dL_law_258 ?_
  refine z_aload_n B dL_law_259 rfl 4 rfl ?_
  refine z_iload B dL_law_260 0 rfl ?_
  refine z_iconst (v := 2) B dL_law_262 (by decide) ?_
  refine z_iadd B dL_law_263 ?_
  refine z_seti (y := 2) (by decide) ?_
  refine z_sld (j := 2) (x := x2) B hX hbl hbA (by decide) (show ¬ ((2 : Int32) < 0 ∨ 6 ≤ (2 : Int32).toNatClampNeg) by decide) h_x2 dL_law_264 ?_
  refine z_aload_n B dL_law_265 rfl 4 rfl ?_
  refine z_iload B dL_law_266 0 rfl ?_
  refine z_iconst (v := 3) B dL_law_268 (by decide) ?_
  refine z_iadd B dL_law_269 ?_
  refine z_seti (y := 3) (by decide) ?_
  refine z_sld (j := 3) (x := x3) B hX hbl hbA (by decide) (show ¬ ((3 : Int32) < 0 ∨ 6 ≤ (3 : Int32).toNatClampNeg) by decide) h_x3 dL_law_270 ?_
  refine z_aload_n B dL_law_271 rfl 4 rfl ?_
  refine z_iload B dL_law_272 0 rfl ?_
  refine z_iconst (v := 4) B dL_law_274 (by decide) ?_
  refine z_iadd B dL_law_275 ?_
  refine z_seti (y := 4) (by decide) ?_
  refine z_sld (j := 4) (x := x4) B hX hbl hbA (by decide) (show ¬ ((4 : Int32) < 0 ∨ 6 ≤ (4 : Int32).toNatClampNeg) by decide) h_x4 dL_law_276 ?_
  refine z_aload_n B dL_law_277 rfl 4 rfl ?_
  refine z_iload B dL_law_278 0 rfl ?_
  refine z_iconst (v := 5) B dL_law_280 (by decide) ?_
  refine z_iadd B dL_law_281 ?_
  refine z_seti (y := 5) (by decide) ?_
  refine z_sld (j := 5) (x := x5) B hX hbl hbA (by decide) (show ¬ ((5 : Int32) < 0 ∨ 6 ≤ (5 : Int32).toNatClampNeg) by decide) h_x5 dL_law_282 ?_
  refine z_aload_n B dL_law_283 rfl 1 rfl ?_
  refine z_cSWi (As := [.ref (b + 0), .int 2, .int x2, .int x3, .int x4, .int x5, .ref (b + 431)]) (rest := []) B cw_L_84 dL_law_284 (ci_L_check_506 l hlt (σ := (ap b σ [] [] [])) (b := b) (lyA hK) x2 x3 x4 x5 q1_x2 q2_x2 (rR_at 0 0 (fz_R hF 0 0 rfl rfl)) (rR_at 1 2 (fz_R hF 1 2 rfl rfl))) rfl (by decide) rfl (Nat.le_of_ble_eq_true rfl) (by decide) (fun r u hu => ?_)
  obtain ⟨hu1, z, hu⟩ := hu
  refine z_eqs (σ' := (ap b (wx_Z σ z) [] [] [])) (hu.trans az_ap) ?_
  show zx p l e _ s m _ below meth c g 8 _ _ _ _ 287 [(4, .int 0), (3, .ref (b + 431)), (2, .ref (b + 405)), (1, .ref (b + 0)), (0, .ref bS)] _
  refine z_seti (y := 1) hu1 ?_
  refine z_istore (lv' := [(5, .int 1), (4, .int 0), (3, .ref (b + 431)), (2, .ref (b + 405)), (1, .ref (b + 0)), (0, .ref bS)]) B dL_law_287 (by decide) rfl ?_
  refine z_aload_n B dL_law_289 rfl 3 rfl ?_
  refine z_aload_n B dL_law_290 rfl 5 rfl ?_
  refine z_iload B dL_law_291 1 rfl ?_
  refine z_iconst (v := 1) B dL_law_293 (by decide) ?_
  refine z_iadd B dL_law_294 ?_
  refine z_seti (y := 1) (by decide) ?_
  refine z_sld (j := 1) (x := 2) B hX hbl hbA (by decide) (show ¬ ((1 : Int32) < 0 ∨ 6 ≤ (1 : Int32).toNatClampNeg) by decide) h_x1 dL_law_295 ?_
  refine z_aload_n B dL_law_296 rfl 5 rfl ?_
  refine z_iload B dL_law_297 1 rfl ?_
  refine z_iconst (v := 2) B dL_law_299 (by decide) ?_
  refine z_iadd B dL_law_300 ?_
  refine z_seti (y := 2) (by decide) ?_
  refine z_sld (j := 2) (x := x2) B hX hbl hbA (by decide) (show ¬ ((2 : Int32) < 0 ∨ 6 ≤ (2 : Int32).toNatClampNeg) by decide) h_x2 dL_law_301 ?_
  refine z_aload_n B dL_law_302 rfl 5 rfl ?_
  refine z_iload B dL_law_303 1 rfl ?_
  refine z_iconst (v := 3) B dL_law_305 (by decide) ?_
  refine z_iadd B dL_law_306 ?_
  refine z_seti (y := 3) (by decide) ?_
  refine z_sld (j := 3) (x := x3) B hX hbl hbA (by decide) (show ¬ ((3 : Int32) < 0 ∨ 6 ≤ (3 : Int32).toNatClampNeg) by decide) h_x3 dL_law_307 ?_
  refine z_aload_n B dL_law_308 rfl 5 rfl ?_
  refine z_iload B dL_law_309 1 rfl ?_
  refine z_iconst (v := 4) B dL_law_311 (by decide) ?_
  refine z_iadd B dL_law_312 ?_
  refine z_seti (y := 4) (by decide) ?_
  refine z_sld (j := 4) (x := x4) B hX hbl hbA (by decide) (show ¬ ((4 : Int32) < 0 ∨ 6 ≤ (4 : Int32).toNatClampNeg) by decide) h_x4 dL_law_313 ?_
  refine z_aload_n B dL_law_314 rfl 5 rfl ?_
  refine z_iload B dL_law_315 1 rfl ?_
  refine z_iconst (v := 5) B dL_law_317 (by decide) ?_
  refine z_iadd B dL_law_318 ?_
  refine z_seti (y := 5) (by decide) ?_
  refine z_sld (j := 5) (x := x5) B hX hbl hbA (by decide) (show ¬ ((5 : Int32) < 0 ∨ 6 ≤ (5 : Int32).toNatClampNeg) by decide) h_x5 dL_law_319 ?_
  refine z_cVi (As := [.int 2, .int x2, .int x3, .int x4, .int x5]) (rest := []) B cw_L_86 cx_10 dL_law_320 (ci_X9_check_508 l (σ := (ap b (wx_Z σ z) [] [] [])) (b := b) (lyA (lyZ hK)) x2 x3 x4 x5 q1_x2 q2_x2 q1_x3 q2_x3 q1_x4 q2_x4) (lKA (lKZ (hk_K hK 405 rfl rfl))) rfl (by decide) rfl (Nat.le_of_ble_eq_true rfl) (by decide) (fun r u hu => ?_)
  refine z_eqs (σ' := (ap b (wx_Z σ z) [(405, 0, 1)] [] [])) (hu.2.trans ap_ap) ?_
  show zx p l e _ s m _ below meth c g 8 _ _ _ _ 323 [(5, .int 1), (4, .int 0), (3, .ref (b + 431)), (2, .ref (b + 405)), (1, .ref (b + 0)), (0, .ref bS)] _
  refine z_seti (y := 0) hu.1 ?_
  refine z_istore (lv' := [(6, .int 0), (5, .int 1), (4, .int 0), (3, .ref (b + 431)), (2, .ref (b + 405)), (1, .ref (b + 0)), (0, .ref bS)]) B dL_law_323 (by decide) rfl ?_
  refine z_aload_n B dL_law_325 rfl 4 rfl ?_
  refine z_cVi (As := []) (rest := []) B cw_L_80 cx_10 dL_law_326 (ci_X9_thrown_31 l (σ := (ap b (wx_Z σ z) [(405, 0, 1)] [] [])) (b := b) (lyA (lyZ hK)) (rI_at 405 0 rfl)) (lKA (lKZ (hk_K hK 405 rfl rfl))) rfl (by decide) rfl (Nat.le_of_ble_eq_true rfl) (by decide) (fun r u hu => ?_)
  refine z_eqs (σ' := (ap b (wx_Z σ z) [(405, 0, 1)] [] [])) hu.2 ?_
  show zx p l e _ s m _ below meth c g 8 _ _ _ _ 329 [(6, .int 0), (5, .int 1), (4, .int 0), (3, .ref (b + 431)), (2, .ref (b + 405)), (1, .ref (b + 0)), (0, .ref bS)] _
  refine z_seti (y := 1) hu.1 ?_
  refine z_iload B dL_law_329 1 rfl ?_
  refine z_icmp_eq (tgt := 336) B dL_law_331 (by decide) (fun _ => ?_) (fun h => absurd (by decide) h)
  refine z_iload B dL_law_336 1 rfl ?_
  refine z_if_ne (tgt := 353) B dL_law_338 (by decide) (fun _ => ?_) (fun h => absurd h (by decide))
  refine z_goto (tgt := 1395) B dL_law_353 (by decide) ?_
  exact z_widen (Nat.le_of_ble_eq_true rfl) (Nat.le_of_ble_eq_true rfl) (z_sub _ [2, 6] rfl (kk _))
set_option maxRecDepth 100000 in
set_option maxHeartbeats 4000000 in
theorem lf_1_205 {p : Program} {l : Launch} {e : Env} {s : State} {m : MethodId} {args : Array Value} {below : List Frame} {meth : Method} {c : Code} {g : gx_T} {Q : State → Prop} {σ : sx_T} {b t bS : Nat} {xs : Nat → Int32} (hlt : l.stackTraces = false) (B : zx_B p s m args meth c code RL 8 g) (hX : va_X bS 6 xs s s.heap) (hbl : bS < s.heap.size) (hbA : ¬ gx_b g ≤ bS) (hF : fz_P b t σ) (h_x1 : xs 1 = 2) {x2 : Int32} (h_x2 : xs 2 = x2) (q1_x2 : (20 : Int) ≤ x2.toInt) (q2_x2 : x2.toInt ≤ (2147483647 : Int)) {x3 : Int32} (h_x3 : xs 3 = x3) (q1_x3 : (0 : Int) ≤ x3.toInt) (q2_x3 : x3.toInt ≤ (17 : Int)) {x4 : Int32} (h_x4 : xs 4 = x4) (q1_x4 : (0 : Int) ≤ x4.toInt) (q2_x4 : x4.toInt ≤ (99 : Int)) {x5 : Int32} (h_x5 : xs 5 = x5) (q1_x5 : (-2147483648 : Int) ≤ x5.toInt) (q2_x5 : x5.toInt ≤ (-1 : Int)) (kk : ∀ σ', zx p l e room_1 s m args below meth c g 8 600002 7302232 Q σ' 1395 [(4, .int 0), (0, .ref bS)] []) : zx p l e room_1 s m args below meth c g 8 500 100000 Q σ 252 [(4, .int 0), (3, .ref (b + 431)), (2, .ref (b + 405)), (1, .ref (b + 0)), (0, .ref bS)] [] := by
  have hK := fz_lay hF
  refine z_eqs (σ' := (ap b σ [] [] [])) rfl ?_
  refine z_aload_n B dL_law_252 rfl 3 rfl ?_
  refine z_aload_n B dL_law_253 rfl 4 rfl ?_
  refine z_iload B dL_law_254 0 rfl ?_
  refine z_iconst (v := 1) B dL_law_256 (by decide) ?_
  refine z_iadd B dL_law_257 ?_
  refine z_seti (y := 1) (by decide) ?_
  refine z_sld (j := 1) (x := 2) B hX hbl hbA (by decide) (show ¬ ((1 : Int32) < 0 ∨ 6 ≤ (1 : Int32).toNatClampNeg) by decide) h_x1 dL_law_258 ?_
  refine z_aload_n B dL_law_259 rfl 4 rfl ?_
  refine z_iload B dL_law_260 0 rfl ?_
  refine z_iconst (v := 2) B dL_law_262 (by decide) ?_
  refine z_iadd B dL_law_263 ?_
  refine z_seti (y := 2) (by decide) ?_
  refine z_sld (j := 2) (x := x2) B hX hbl hbA (by decide) (show ¬ ((2 : Int32) < 0 ∨ 6 ≤ (2 : Int32).toNatClampNeg) by decide) h_x2 dL_law_264 ?_
  refine z_aload_n B dL_law_265 rfl 4 rfl ?_
  refine z_iload B dL_law_266 0 rfl ?_
  refine z_iconst (v := 3) B dL_law_268 (by decide) ?_
  refine z_iadd B dL_law_269 ?_
  refine z_seti (y := 3) (by decide) ?_
  refine z_sld (j := 3) (x := x3) B hX hbl hbA (by decide) (show ¬ ((3 : Int32) < 0 ∨ 6 ≤ (3 : Int32).toNatClampNeg) by decide) h_x3 dL_law_270 ?_
  refine z_aload_n B dL_law_271 rfl 4 rfl ?_
  refine z_iload B dL_law_272 0 rfl ?_
  refine z_iconst (v := 4) B dL_law_274 (by decide) ?_
  refine z_iadd B dL_law_275 ?_
  refine z_seti (y := 4) (by decide) ?_
  refine z_sld (j := 4) (x := x4) B hX hbl hbA (by decide) (show ¬ ((4 : Int32) < 0 ∨ 6 ≤ (4 : Int32).toNatClampNeg) by decide) h_x4 dL_law_276 ?_
  refine z_aload_n B dL_law_277 rfl 4 rfl ?_
  refine z_iload B dL_law_278 0 rfl ?_
  refine z_iconst (v := 5) B dL_law_280 (by decide) ?_
  refine z_iadd B dL_law_281 ?_
  refine z_seti (y := 5) (by decide) ?_
  refine z_sld (j := 5) (x := x5) B hX hbl hbA (by decide) (show ¬ ((5 : Int32) < 0 ∨ 6 ≤ (5 : Int32).toNatClampNeg) by decide) h_x5 dL_law_282 ?_
  refine z_aload_n B dL_law_283 rfl 1 rfl ?_
  refine z_cSWi (As := [.ref (b + 0), .int 2, .int x2, .int x3, .int x4, .int x5, .ref (b + 431)]) (rest := []) B cw_L_84 dL_law_284 (ci_L_check_506 l hlt (σ := (ap b σ [] [] [])) (b := b) (lyA hK) x2 x3 x4 x5 q1_x2 q2_x2 (rR_at 0 0 (fz_R hF 0 0 rfl rfl)) (rR_at 1 2 (fz_R hF 1 2 rfl rfl))) rfl (by decide) rfl (Nat.le_of_ble_eq_true rfl) (by decide) (fun r u hu => ?_)
  obtain ⟨hu1, z, hu⟩ := hu
  refine z_eqs (σ' := (ap b (wx_Z σ z) [] [] [])) (hu.trans az_ap) ?_
  show zx p l e _ s m _ below meth c g 8 _ _ _ _ 287 [(4, .int 0), (3, .ref (b + 431)), (2, .ref (b + 405)), (1, .ref (b + 0)), (0, .ref bS)] _
  refine z_seti (y := 1) hu1 ?_
  refine z_istore (lv' := [(5, .int 1), (4, .int 0), (3, .ref (b + 431)), (2, .ref (b + 405)), (1, .ref (b + 0)), (0, .ref bS)]) B dL_law_287 (by decide) rfl ?_
  refine z_aload_n B dL_law_289 rfl 3 rfl ?_
  refine z_aload_n B dL_law_290 rfl 5 rfl ?_
  refine z_iload B dL_law_291 1 rfl ?_
  refine z_iconst (v := 1) B dL_law_293 (by decide) ?_
  refine z_iadd B dL_law_294 ?_
  refine z_seti (y := 1) (by decide) ?_
  refine z_sld (j := 1) (x := 2) B hX hbl hbA (by decide) (show ¬ ((1 : Int32) < 0 ∨ 6 ≤ (1 : Int32).toNatClampNeg) by decide) h_x1 dL_law_295 ?_
  refine z_aload_n B dL_law_296 rfl 5 rfl ?_
  refine z_iload B dL_law_297 1 rfl ?_
  refine z_iconst (v := 2) B dL_law_299 (by decide) ?_
  refine z_iadd B dL_law_300 ?_
  refine z_seti (y := 2) (by decide) ?_
  refine z_sld (j := 2) (x := x2) B hX hbl hbA (by decide) (show ¬ ((2 : Int32) < 0 ∨ 6 ≤ (2 : Int32).toNatClampNeg) by decide) h_x2 dL_law_301 ?_
  refine z_aload_n B dL_law_302 rfl 5 rfl ?_
  refine z_iload B dL_law_303 1 rfl ?_
  refine z_iconst (v := 3) B dL_law_305 (by decide) ?_
  refine z_iadd B dL_law_306 ?_
  refine z_seti (y := 3) (by decide) ?_
  refine z_sld (j := 3) (x := x3) B hX hbl hbA (by decide) (show ¬ ((3 : Int32) < 0 ∨ 6 ≤ (3 : Int32).toNatClampNeg) by decide) h_x3 dL_law_307 ?_
  refine z_aload_n B dL_law_308 rfl 5 rfl ?_
  refine z_iload B dL_law_309 1 rfl ?_
  refine z_iconst (v := 4) B dL_law_311 (by decide) ?_
  refine z_iadd B dL_law_312 ?_
  refine z_seti (y := 4) (by decide) ?_
  refine z_sld (j := 4) (x := x4) B hX hbl hbA (by decide) (show ¬ ((4 : Int32) < 0 ∨ 6 ≤ (4 : Int32).toNatClampNeg) by decide) h_x4 dL_law_313 ?_
  refine z_aload_n B dL_law_314 rfl 5 rfl ?_
  refine z_iload B dL_law_315 1 rfl ?_
  refine z_iconst (v := 5) B dL_law_317 (by decide) ?_
  refine z_iadd B dL_law_318 ?_
  refine z_seti (y := 5) (by decide) ?_
  refine z_sld (j := 5) (x := x5) B hX hbl hbA (by decide) (show ¬ ((5 : Int32) < 0 ∨ 6 ≤ (5 : Int32).toNatClampNeg) by decide) h_x5 dL_law_319 ?_
  refine z_cVi (As := [.int 2, .int x2, .int x3, .int x4, .int x5]) (rest := []) B cw_L_86 cx_10 dL_law_320 (ci_X9_check_509 l (σ := (ap b (wx_Z σ z) [] [] [])) (b := b) (lyA (lyZ hK)) x2 x3 x4 x5 q1_x2 q2_x2 q1_x3 q2_x3 q1_x4 q2_x4 q1_x5 q2_x5) (lKA (lKZ (hk_K hK 405 rfl rfl))) rfl (by decide) rfl (Nat.le_of_ble_eq_true rfl) (by decide) (fun r u hu => ?_)
  refine z_eqs (σ' := (ap b (wx_Z σ z) [(405, 0, 1)] [] [])) (hu.2.trans ap_ap) ?_
  show zx p l e _ s m _ below meth c g 8 _ _ _ _ 323 [(5, .int 1), (4, .int 0), (3, .ref (b + 431)), (2, .ref (b + 405)), (1, .ref (b + 0)), (0, .ref bS)] _
  refine z_seti (y := 0) hu.1 ?_
  refine z_istore (lv' := [(6, .int 0), (5, .int 1), (4, .int 0), (3, .ref (b + 431)), (2, .ref (b + 405)), (1, .ref (b + 0)), (0, .ref bS)]) B dL_law_323 (by decide) rfl ?_
  refine z_aload_n B dL_law_325 rfl 4 rfl ?_
  refine z_cVi (As := []) (rest := []) B cw_L_80 cx_10 dL_law_326 (ci_X9_thrown_31 l (σ := (ap b (wx_Z σ z) [(405, 0, 1)] [] [])) (b := b) (lyA (lyZ hK)) (rI_at 405 0 rfl)) (lKA (lKZ (hk_K hK 405 rfl rfl))) rfl (by decide) rfl (Nat.le_of_ble_eq_true rfl) (by decide) (fun r u hu => ?_)
  refine z_eqs (σ' := (ap b (wx_Z σ z) [(405, 0, 1)] [] [])) hu.2 ?_
  show zx p l e _ s m _ below meth c g 8 _ _ _ _ 329 [(6, .int 0), (5, .int 1), (4, .int 0), (3, .ref (b + 431)), (2, .ref (b + 405)), (1, .ref (b + 0)), (0, .ref bS)] _
  refine z_seti (y := 1) hu.1 ?_
  refine z_iload B dL_law_329 1 rfl ?_
  refine z_icmp_eq (tgt := 336) B dL_law_331 (by decide) (fun _ => ?_) (fun h => absurd (by decide) h)
  refine z_iload B dL_law_336 1 rfl ?_
  refine z_if_ne (tgt := 353) B dL_law_338 (by decide) (fun _ => ?_) (fun h => absurd h (by decide))
  refine z_goto (tgt := 1395) B dL_law_353 (by decide) ?_
  exact z_widen (Nat.le_of_ble_eq_true rfl) (Nat.le_of_ble_eq_true rfl) (z_sub _ [2, 6] rfl (kk _))
set_option maxRecDepth 100000 in
set_option maxHeartbeats 4000000 in
theorem lf_1_206 {p : Program} {l : Launch} {e : Env} {s : State} {m : MethodId} {args : Array Value} {below : List Frame} {meth : Method} {c : Code} {g : gx_T} {Q : State → Prop} {σ : sx_T} {b t bS : Nat} {xs : Nat → Int32} (hlt : l.stackTraces = false) (B : zx_B p s m args meth c code RL 8 g) (hX : va_X bS 6 xs s s.heap) (hbl : bS < s.heap.size) (hbA : ¬ gx_b g ≤ bS) (hF : fz_P b t σ) (h_x1 : xs 1 = 2) {x2 : Int32} (h_x2 : xs 2 = x2) (q1_x2 : (20 : Int) ≤ x2.toInt) (q2_x2 : x2.toInt ≤ (2147483647 : Int)) {x3 : Int32} (h_x3 : xs 3 = x3) (q1_x3 : (0 : Int) ≤ x3.toInt) (q2_x3 : x3.toInt ≤ (17 : Int)) {x4 : Int32} (h_x4 : xs 4 = x4) (q1_x4 : (0 : Int) ≤ x4.toInt) (q2_x4 : x4.toInt ≤ (99 : Int)) {x5 : Int32} (h_x5 : xs 5 = x5) (q1_x5 : (0 : Int) ≤ x5.toInt) (q2_x5 : x5.toInt ≤ (99 : Int)) (kk : ∀ σ', zx p l e room_1 s m args below meth c g 8 600002 7302232 Q σ' 1395 [(4, .int 0), (0, .ref bS)] []) : zx p l e room_1 s m args below meth c g 8 500 100000 Q σ 252 [(4, .int 0), (3, .ref (b + 431)), (2, .ref (b + 405)), (1, .ref (b + 0)), (0, .ref bS)] [] := by
  have hK := fz_lay hF
  refine z_eqs (σ' := (ap b σ [] [] [])) rfl ?_
  refine z_aload_n B dL_law_252 rfl 3 rfl ?_
  refine z_aload_n B dL_law_253 rfl 4 rfl ?_
  refine z_iload B dL_law_254 0 rfl ?_
  refine z_iconst (v := 1) B dL_law_256 (by decide) ?_
  refine z_iadd B dL_law_257 ?_
  refine z_seti (y := 1) (by decide) ?_
  refine z_sld (j := 1) (x := 2) B hX hbl hbA (by decide) (show ¬ ((1 : Int32) < 0 ∨ 6 ≤ (1 : Int32).toNatClampNeg) by decide) h_x1 dL_law_258 ?_
  refine z_aload_n B dL_law_259 rfl 4 rfl ?_
  refine z_iload B dL_law_260 0 rfl ?_
  refine z_iconst (v := 2) B dL_law_262 (by decide) ?_
  refine z_iadd B dL_law_263 ?_
  refine z_seti (y := 2) (by decide) ?_
  refine z_sld (j := 2) (x := x2) B hX hbl hbA (by decide) (show ¬ ((2 : Int32) < 0 ∨ 6 ≤ (2 : Int32).toNatClampNeg) by decide) h_x2 dL_law_264 ?_
  refine z_aload_n B dL_law_265 rfl 4 rfl ?_
  refine z_iload B dL_law_266 0 rfl ?_
  refine z_iconst (v := 3) B dL_law_268 (by decide) ?_
  refine z_iadd B dL_law_269 ?_
  refine z_seti (y := 3) (by decide) ?_
  refine z_sld (j := 3) (x := x3) B hX hbl hbA (by decide) (show ¬ ((3 : Int32) < 0 ∨ 6 ≤ (3 : Int32).toNatClampNeg) by decide) h_x3 dL_law_270 ?_
  refine z_aload_n B dL_law_271 rfl 4 rfl ?_
  refine z_iload B dL_law_272 0 rfl ?_
  refine z_iconst (v := 4) B dL_law_274 (by decide) ?_
  refine z_iadd B dL_law_275 ?_
  refine z_seti (y := 4) (by decide) ?_
  refine z_sld (j := 4) (x := x4) B hX hbl hbA (by decide) (show ¬ ((4 : Int32) < 0 ∨ 6 ≤ (4 : Int32).toNatClampNeg) by decide) h_x4 dL_law_276 ?_
  refine z_aload_n B dL_law_277 rfl 4 rfl ?_
  refine z_iload B dL_law_278 0 rfl ?_
  refine z_iconst (v := 5) B dL_law_280 (by decide) ?_
  refine z_iadd B dL_law_281 ?_
  refine z_seti (y := 5) (by decide) ?_
  refine z_sld (j := 5) (x := x5) B hX hbl hbA (by decide) (show ¬ ((5 : Int32) < 0 ∨ 6 ≤ (5 : Int32).toNatClampNeg) by decide) h_x5 dL_law_282 ?_
  refine z_aload_n B dL_law_283 rfl 1 rfl ?_
  refine z_cSWi (As := [.ref (b + 0), .int 2, .int x2, .int x3, .int x4, .int x5, .ref (b + 431)]) (rest := []) B cw_L_84 dL_law_284 (ci_L_check_506 l hlt (σ := (ap b σ [] [] [])) (b := b) (lyA hK) x2 x3 x4 x5 q1_x2 q2_x2 (rR_at 0 0 (fz_R hF 0 0 rfl rfl)) (rR_at 1 2 (fz_R hF 1 2 rfl rfl))) rfl (by decide) rfl (Nat.le_of_ble_eq_true rfl) (by decide) (fun r u hu => ?_)
  obtain ⟨hu1, z, hu⟩ := hu
  refine z_eqs (σ' := (ap b (wx_Z σ z) [] [] [])) (hu.trans az_ap) ?_
  show zx p l e _ s m _ below meth c g 8 _ _ _ _ 287 [(4, .int 0), (3, .ref (b + 431)), (2, .ref (b + 405)), (1, .ref (b + 0)), (0, .ref bS)] _
  refine z_seti (y := 1) hu1 ?_
  refine z_istore (lv' := [(5, .int 1), (4, .int 0), (3, .ref (b + 431)), (2, .ref (b + 405)), (1, .ref (b + 0)), (0, .ref bS)]) B dL_law_287 (by decide) rfl ?_
  refine z_aload_n B dL_law_289 rfl 3 rfl ?_
  refine z_aload_n B dL_law_290 rfl 5 rfl ?_
  refine z_iload B dL_law_291 1 rfl ?_
  refine z_iconst (v := 1) B dL_law_293 (by decide) ?_
  refine z_iadd B dL_law_294 ?_
  refine z_seti (y := 1) (by decide) ?_
  refine z_sld (j := 1) (x := 2) B hX hbl hbA (by decide) (show ¬ ((1 : Int32) < 0 ∨ 6 ≤ (1 : Int32).toNatClampNeg) by decide) h_x1 dL_law_295 ?_
  refine z_aload_n B dL_law_296 rfl 5 rfl ?_
  refine z_iload B dL_law_297 1 rfl ?_
  refine z_iconst (v := 2) B dL_law_299 (by decide) ?_
  refine z_iadd B dL_law_300 ?_
  refine z_seti (y := 2) (by decide) ?_
  refine z_sld (j := 2) (x := x2) B hX hbl hbA (by decide) (show ¬ ((2 : Int32) < 0 ∨ 6 ≤ (2 : Int32).toNatClampNeg) by decide) h_x2 dL_law_301 ?_
  refine z_aload_n B dL_law_302 rfl 5 rfl ?_
  refine z_iload B dL_law_303 1 rfl ?_
  refine z_iconst (v := 3) B dL_law_305 (by decide) ?_
  refine z_iadd B dL_law_306 ?_
  refine z_seti (y := 3) (by decide) ?_
  refine z_sld (j := 3) (x := x3) B hX hbl hbA (by decide) (show ¬ ((3 : Int32) < 0 ∨ 6 ≤ (3 : Int32).toNatClampNeg) by decide) h_x3 dL_law_307 ?_
  refine z_aload_n B dL_law_308 rfl 5 rfl ?_
  refine z_iload B dL_law_309 1 rfl ?_
  refine z_iconst (v := 4) B dL_law_311 (by decide) ?_
  refine z_iadd B dL_law_312 ?_
  refine z_seti (y := 4) (by decide) ?_
  refine z_sld (j := 4) (x := x4) B hX hbl hbA (by decide) (show ¬ ((4 : Int32) < 0 ∨ 6 ≤ (4 : Int32).toNatClampNeg) by decide) h_x4 dL_law_313 ?_
  refine z_aload_n B dL_law_314 rfl 5 rfl ?_
  refine z_iload B dL_law_315 1 rfl ?_
  refine z_iconst (v := 5) B dL_law_317 (by decide) ?_
  refine z_iadd B dL_law_318 ?_
  refine z_seti (y := 5) (by decide) ?_
  refine z_sld (j := 5) (x := x5) B hX hbl hbA (by decide) (show ¬ ((5 : Int32) < 0 ∨ 6 ≤ (5 : Int32).toNatClampNeg) by decide) h_x5 dL_law_319 ?_
  refine z_cVi (As := [.int 2, .int x2, .int x3, .int x4, .int x5]) (rest := []) B cw_L_86 cx_10 dL_law_320 (ci_X9_check_510 l (σ := (ap b (wx_Z σ z) [] [] [])) (b := b) (lyA (lyZ hK)) x2 x3 x4 x5 q1_x2 q2_x2 q1_x3 q2_x3 q1_x4 q2_x4 q1_x5 q2_x5) (lKA (lKZ (hk_K hK 405 rfl rfl))) rfl (by decide) rfl (Nat.le_of_ble_eq_true rfl) (by decide) (fun r u hu => ?_)
  refine z_eqs (σ' := (ap b (wx_Z σ z) [(405, 0, 1)] [] [])) (hu.2.trans ap_ap) ?_
  show zx p l e _ s m _ below meth c g 8 _ _ _ _ 323 [(5, .int 1), (4, .int 0), (3, .ref (b + 431)), (2, .ref (b + 405)), (1, .ref (b + 0)), (0, .ref bS)] _
  refine z_seti (y := 0) hu.1 ?_
  refine z_istore (lv' := [(6, .int 0), (5, .int 1), (4, .int 0), (3, .ref (b + 431)), (2, .ref (b + 405)), (1, .ref (b + 0)), (0, .ref bS)]) B dL_law_323 (by decide) rfl ?_
  refine z_aload_n B dL_law_325 rfl 4 rfl ?_
  refine z_cVi (As := []) (rest := []) B cw_L_80 cx_10 dL_law_326 (ci_X9_thrown_31 l (σ := (ap b (wx_Z σ z) [(405, 0, 1)] [] [])) (b := b) (lyA (lyZ hK)) (rI_at 405 0 rfl)) (lKA (lKZ (hk_K hK 405 rfl rfl))) rfl (by decide) rfl (Nat.le_of_ble_eq_true rfl) (by decide) (fun r u hu => ?_)
  refine z_eqs (σ' := (ap b (wx_Z σ z) [(405, 0, 1)] [] [])) hu.2 ?_
  show zx p l e _ s m _ below meth c g 8 _ _ _ _ 329 [(6, .int 0), (5, .int 1), (4, .int 0), (3, .ref (b + 431)), (2, .ref (b + 405)), (1, .ref (b + 0)), (0, .ref bS)] _
  refine z_seti (y := 1) hu.1 ?_
  refine z_iload B dL_law_329 1 rfl ?_
  refine z_icmp_eq (tgt := 336) B dL_law_331 (by decide) (fun _ => ?_) (fun h => absurd (by decide) h)
  refine z_iload B dL_law_336 1 rfl ?_
  refine z_if_ne (tgt := 353) B dL_law_338 (by decide) (fun _ => ?_) (fun h => absurd h (by decide))
  refine z_goto (tgt := 1395) B dL_law_353 (by decide) ?_
  exact z_widen (Nat.le_of_ble_eq_true rfl) (Nat.le_of_ble_eq_true rfl) (z_sub _ [2, 6] rfl (kk _))
set_option maxRecDepth 100000 in
set_option maxHeartbeats 4000000 in
theorem lf_1_207 {p : Program} {l : Launch} {e : Env} {s : State} {m : MethodId} {args : Array Value} {below : List Frame} {meth : Method} {c : Code} {g : gx_T} {Q : State → Prop} {σ : sx_T} {b t bS : Nat} {xs : Nat → Int32} (hlt : l.stackTraces = false) (B : zx_B p s m args meth c code RL 8 g) (hX : va_X bS 6 xs s s.heap) (hbl : bS < s.heap.size) (hbA : ¬ gx_b g ≤ bS) (hF : fz_P b t σ) (h_x1 : xs 1 = 2) {x2 : Int32} (h_x2 : xs 2 = x2) (q1_x2 : (20 : Int) ≤ x2.toInt) (q2_x2 : x2.toInt ≤ (2147483647 : Int)) {x3 : Int32} (h_x3 : xs 3 = x3) (q1_x3 : (0 : Int) ≤ x3.toInt) (q2_x3 : x3.toInt ≤ (17 : Int)) {x4 : Int32} (h_x4 : xs 4 = x4) (q1_x4 : (0 : Int) ≤ x4.toInt) (q2_x4 : x4.toInt ≤ (99 : Int)) {x5 : Int32} (h_x5 : xs 5 = x5) (q1_x5 : (100 : Int) ≤ x5.toInt) (q2_x5 : x5.toInt ≤ (2147483647 : Int)) (kk : ∀ σ', zx p l e room_1 s m args below meth c g 8 600002 7302232 Q σ' 1395 [(4, .int 0), (0, .ref bS)] []) : zx p l e room_1 s m args below meth c g 8 500 100000 Q σ 252 [(4, .int 0), (3, .ref (b + 431)), (2, .ref (b + 405)), (1, .ref (b + 0)), (0, .ref bS)] [] := by
  have hK := fz_lay hF
  refine z_eqs (σ' := (ap b σ [] [] [])) rfl ?_
  refine z_aload_n B dL_law_252 rfl 3 rfl ?_
  refine z_aload_n B dL_law_253 rfl 4 rfl ?_
  refine z_iload B dL_law_254 0 rfl ?_
  refine z_iconst (v := 1) B dL_law_256 (by decide) ?_
  refine z_iadd B dL_law_257 ?_
  refine z_seti (y := 1) (by decide) ?_
  refine z_sld (j := 1) (x := 2) B hX hbl hbA (by decide) (show ¬ ((1 : Int32) < 0 ∨ 6 ≤ (1 : Int32).toNatClampNeg) by decide) h_x1 dL_law_258 ?_
  refine z_aload_n B dL_law_259 rfl 4 rfl ?_
  refine z_iload B dL_law_260 0 rfl ?_
  refine z_iconst (v := 2) B dL_law_262 (by decide) ?_
  refine z_iadd B dL_law_263 ?_
  refine z_seti (y := 2) (by decide) ?_
  refine z_sld (j := 2) (x := x2) B hX hbl hbA (by decide) (show ¬ ((2 : Int32) < 0 ∨ 6 ≤ (2 : Int32).toNatClampNeg) by decide) h_x2 dL_law_264 ?_
  refine z_aload_n B dL_law_265 rfl 4 rfl ?_
  refine z_iload B dL_law_266 0 rfl ?_
  refine z_iconst (v := 3) B dL_law_268 (by decide) ?_
  refine z_iadd B dL_law_269 ?_
  refine z_seti (y := 3) (by decide) ?_
  refine z_sld (j := 3) (x := x3) B hX hbl hbA (by decide) (show ¬ ((3 : Int32) < 0 ∨ 6 ≤ (3 : Int32).toNatClampNeg) by decide) h_x3 dL_law_270 ?_
  refine z_aload_n B dL_law_271 rfl 4 rfl ?_
  refine z_iload B dL_law_272 0 rfl ?_
  refine z_iconst (v := 4) B dL_law_274 (by decide) ?_
  refine z_iadd B dL_law_275 ?_
  refine z_seti (y := 4) (by decide) ?_
  refine z_sld (j := 4) (x := x4) B hX hbl hbA (by decide) (show ¬ ((4 : Int32) < 0 ∨ 6 ≤ (4 : Int32).toNatClampNeg) by decide) h_x4 dL_law_276 ?_
  refine z_aload_n B dL_law_277 rfl 4 rfl ?_
  refine z_iload B dL_law_278 0 rfl ?_
  refine z_iconst (v := 5) B dL_law_280 (by decide) ?_
  refine z_iadd B dL_law_281 ?_
  refine z_seti (y := 5) (by decide) ?_
  refine z_sld (j := 5) (x := x5) B hX hbl hbA (by decide) (show ¬ ((5 : Int32) < 0 ∨ 6 ≤ (5 : Int32).toNatClampNeg) by decide) h_x5 dL_law_282 ?_
  refine z_aload_n B dL_law_283 rfl 1 rfl ?_
  refine z_cSWi (As := [.ref (b + 0), .int 2, .int x2, .int x3, .int x4, .int x5, .ref (b + 431)]) (rest := []) B cw_L_84 dL_law_284 (ci_L_check_506 l hlt (σ := (ap b σ [] [] [])) (b := b) (lyA hK) x2 x3 x4 x5 q1_x2 q2_x2 (rR_at 0 0 (fz_R hF 0 0 rfl rfl)) (rR_at 1 2 (fz_R hF 1 2 rfl rfl))) rfl (by decide) rfl (Nat.le_of_ble_eq_true rfl) (by decide) (fun r u hu => ?_)
  obtain ⟨hu1, z, hu⟩ := hu
  refine z_eqs (σ' := (ap b (wx_Z σ z) [] [] [])) (hu.trans az_ap) ?_
  show zx p l e _ s m _ below meth c g 8 _ _ _ _ 287 [(4, .int 0), (3, .ref (b + 431)), (2, .ref (b + 405)), (1, .ref (b + 0)), (0, .ref bS)] _
  refine z_seti (y := 1) hu1 ?_
  refine z_istore (lv' := [(5, .int 1), (4, .int 0), (3, .ref (b + 431)), (2, .ref (b + 405)), (1, .ref (b + 0)), (0, .ref bS)]) B dL_law_287 (by decide) rfl ?_
  refine z_aload_n B dL_law_289 rfl 3 rfl ?_
  refine z_aload_n B dL_law_290 rfl 5 rfl ?_
  refine z_iload B dL_law_291 1 rfl ?_
  refine z_iconst (v := 1) B dL_law_293 (by decide) ?_
  refine z_iadd B dL_law_294 ?_
  refine z_seti (y := 1) (by decide) ?_
  refine z_sld (j := 1) (x := 2) B hX hbl hbA (by decide) (show ¬ ((1 : Int32) < 0 ∨ 6 ≤ (1 : Int32).toNatClampNeg) by decide) h_x1 dL_law_295 ?_
  refine z_aload_n B dL_law_296 rfl 5 rfl ?_
  refine z_iload B dL_law_297 1 rfl ?_
  refine z_iconst (v := 2) B dL_law_299 (by decide) ?_
  refine z_iadd B dL_law_300 ?_
  refine z_seti (y := 2) (by decide) ?_
  refine z_sld (j := 2) (x := x2) B hX hbl hbA (by decide) (show ¬ ((2 : Int32) < 0 ∨ 6 ≤ (2 : Int32).toNatClampNeg) by decide) h_x2 dL_law_301 ?_
  refine z_aload_n B dL_law_302 rfl 5 rfl ?_
  refine z_iload B dL_law_303 1 rfl ?_
  refine z_iconst (v := 3) B dL_law_305 (by decide) ?_
  refine z_iadd B dL_law_306 ?_
  refine z_seti (y := 3) (by decide) ?_
  refine z_sld (j := 3) (x := x3) B hX hbl hbA (by decide) (show ¬ ((3 : Int32) < 0 ∨ 6 ≤ (3 : Int32).toNatClampNeg) by decide) h_x3 dL_law_307 ?_
  refine z_aload_n B dL_law_308 rfl 5 rfl ?_
  refine z_iload B dL_law_309 1 rfl ?_
  refine z_iconst (v := 4) B dL_law_311 (by decide) ?_
  refine z_iadd B dL_law_312 ?_
  refine z_seti (y := 4) (by decide) ?_
  refine z_sld (j := 4) (x := x4) B hX hbl hbA (by decide) (show ¬ ((4 : Int32) < 0 ∨ 6 ≤ (4 : Int32).toNatClampNeg) by decide) h_x4 dL_law_313 ?_
  refine z_aload_n B dL_law_314 rfl 5 rfl ?_
  refine z_iload B dL_law_315 1 rfl ?_
  refine z_iconst (v := 5) B dL_law_317 (by decide) ?_
  refine z_iadd B dL_law_318 ?_
  refine z_seti (y := 5) (by decide) ?_
  refine z_sld (j := 5) (x := x5) B hX hbl hbA (by decide) (show ¬ ((5 : Int32) < 0 ∨ 6 ≤ (5 : Int32).toNatClampNeg) by decide) h_x5 dL_law_319 ?_
  refine z_cVi (As := [.int 2, .int x2, .int x3, .int x4, .int x5]) (rest := []) B cw_L_86 cx_10 dL_law_320 (ci_X9_check_511 l (σ := (ap b (wx_Z σ z) [] [] [])) (b := b) (lyA (lyZ hK)) x2 x3 x4 x5 q1_x2 q2_x2 q1_x3 q2_x3 q1_x4 q2_x4 q1_x5 q2_x5) (lKA (lKZ (hk_K hK 405 rfl rfl))) rfl (by decide) rfl (Nat.le_of_ble_eq_true rfl) (by decide) (fun r u hu => ?_)
  refine z_eqs (σ' := (ap b (wx_Z σ z) [(405, 0, 1)] [] [])) (hu.2.trans ap_ap) ?_
  show zx p l e _ s m _ below meth c g 8 _ _ _ _ 323 [(5, .int 1), (4, .int 0), (3, .ref (b + 431)), (2, .ref (b + 405)), (1, .ref (b + 0)), (0, .ref bS)] _
  refine z_seti (y := 0) hu.1 ?_
  refine z_istore (lv' := [(6, .int 0), (5, .int 1), (4, .int 0), (3, .ref (b + 431)), (2, .ref (b + 405)), (1, .ref (b + 0)), (0, .ref bS)]) B dL_law_323 (by decide) rfl ?_
  refine z_aload_n B dL_law_325 rfl 4 rfl ?_
  refine z_cVi (As := []) (rest := []) B cw_L_80 cx_10 dL_law_326 (ci_X9_thrown_31 l (σ := (ap b (wx_Z σ z) [(405, 0, 1)] [] [])) (b := b) (lyA (lyZ hK)) (rI_at 405 0 rfl)) (lKA (lKZ (hk_K hK 405 rfl rfl))) rfl (by decide) rfl (Nat.le_of_ble_eq_true rfl) (by decide) (fun r u hu => ?_)
  refine z_eqs (σ' := (ap b (wx_Z σ z) [(405, 0, 1)] [] [])) hu.2 ?_
  show zx p l e _ s m _ below meth c g 8 _ _ _ _ 329 [(6, .int 0), (5, .int 1), (4, .int 0), (3, .ref (b + 431)), (2, .ref (b + 405)), (1, .ref (b + 0)), (0, .ref bS)] _
  refine z_seti (y := 1) hu.1 ?_
  refine z_iload B dL_law_329 1 rfl ?_
  refine z_icmp_eq (tgt := 336) B dL_law_331 (by decide) (fun _ => ?_) (fun h => absurd (by decide) h)
  refine z_iload B dL_law_336 1 rfl ?_
  refine z_if_ne (tgt := 353) B dL_law_338 (by decide) (fun _ => ?_) (fun h => absurd h (by decide))
  refine z_goto (tgt := 1395) B dL_law_353 (by decide) ?_
  exact z_widen (Nat.le_of_ble_eq_true rfl) (Nat.le_of_ble_eq_true rfl) (z_sub _ [2, 6] rfl (kk _))
set_option maxRecDepth 100000 in
set_option maxHeartbeats 4000000 in
theorem lf_1_208 {p : Program} {l : Launch} {e : Env} {s : State} {m : MethodId} {args : Array Value} {below : List Frame} {meth : Method} {c : Code} {g : gx_T} {Q : State → Prop} {σ : sx_T} {b t bS : Nat} {xs : Nat → Int32} (hlt : l.stackTraces = false) (B : zx_B p s m args meth c code RL 8 g) (hX : va_X bS 6 xs s s.heap) (hbl : bS < s.heap.size) (hbA : ¬ gx_b g ≤ bS) (hF : fz_P b t σ) (h_x1 : xs 1 = 2) {x2 : Int32} (h_x2 : xs 2 = x2) (q1_x2 : (20 : Int) ≤ x2.toInt) (q2_x2 : x2.toInt ≤ (2147483647 : Int)) {x3 : Int32} (h_x3 : xs 3 = x3) (q1_x3 : (0 : Int) ≤ x3.toInt) (q2_x3 : x3.toInt ≤ (17 : Int)) {x4 : Int32} (h_x4 : xs 4 = x4) (q1_x4 : (100 : Int) ≤ x4.toInt) (q2_x4 : x4.toInt ≤ (2147483647 : Int)) {x5 : Int32} (h_x5 : xs 5 = x5) (q1_x5 : (-2147483648 : Int) ≤ x5.toInt) (q2_x5 : x5.toInt ≤ (2147483647 : Int)) (kk : ∀ σ', zx p l e room_1 s m args below meth c g 8 600002 7302232 Q σ' 1395 [(4, .int 0), (0, .ref bS)] []) : zx p l e room_1 s m args below meth c g 8 500 100000 Q σ 252 [(4, .int 0), (3, .ref (b + 431)), (2, .ref (b + 405)), (1, .ref (b + 0)), (0, .ref bS)] [] := by
  have hK := fz_lay hF
  refine z_eqs (σ' := (ap b σ [] [] [])) rfl ?_
  refine z_aload_n B dL_law_252 rfl 3 rfl ?_
  refine z_aload_n B dL_law_253 rfl 4 rfl ?_
  refine z_iload B dL_law_254 0 rfl ?_
  refine z_iconst (v := 1) B dL_law_256 (by decide) ?_
  refine z_iadd B dL_law_257 ?_
  refine z_seti (y := 1) (by decide) ?_
  refine z_sld (j := 1) (x := 2) B hX hbl hbA (by decide) (show ¬ ((1 : Int32) < 0 ∨ 6 ≤ (1 : Int32).toNatClampNeg) by decide) h_x1 dL_law_258 ?_
  refine z_aload_n B dL_law_259 rfl 4 rfl ?_
  refine z_iload B dL_law_260 0 rfl ?_
  refine z_iconst (v := 2) B dL_law_262 (by decide) ?_
  refine z_iadd B dL_law_263 ?_
  refine z_seti (y := 2) (by decide) ?_
  refine z_sld (j := 2) (x := x2) B hX hbl hbA (by decide) (show ¬ ((2 : Int32) < 0 ∨ 6 ≤ (2 : Int32).toNatClampNeg) by decide) h_x2 dL_law_264 ?_
  refine z_aload_n B dL_law_265 rfl 4 rfl ?_
  refine z_iload B dL_law_266 0 rfl ?_
  refine z_iconst (v := 3) B dL_law_268 (by decide) ?_
  refine z_iadd B dL_law_269 ?_
  refine z_seti (y := 3) (by decide) ?_
  refine z_sld (j := 3) (x := x3) B hX hbl hbA (by decide) (show ¬ ((3 : Int32) < 0 ∨ 6 ≤ (3 : Int32).toNatClampNeg) by decide) h_x3 dL_law_270 ?_
  refine z_aload_n B dL_law_271 rfl 4 rfl ?_
  refine z_iload B dL_law_272 0 rfl ?_
  refine z_iconst (v := 4) B dL_law_274 (by decide) ?_
  refine z_iadd B dL_law_275 ?_
  refine z_seti (y := 4) (by decide) ?_
  refine z_sld (j := 4) (x := x4) B hX hbl hbA (by decide) (show ¬ ((4 : Int32) < 0 ∨ 6 ≤ (4 : Int32).toNatClampNeg) by decide) h_x4 dL_law_276 ?_
  refine z_aload_n B dL_law_277 rfl 4 rfl ?_
  refine z_iload B dL_law_278 0 rfl ?_
  refine z_iconst (v := 5) B dL_law_280 (by decide) ?_
  refine z_iadd B dL_law_281 ?_
  refine z_seti (y := 5) (by decide) ?_
  refine z_sld (j := 5) (x := x5) B hX hbl hbA (by decide) (show ¬ ((5 : Int32) < 0 ∨ 6 ≤ (5 : Int32).toNatClampNeg) by decide) h_x5 dL_law_282 ?_
  refine z_aload_n B dL_law_283 rfl 1 rfl ?_
  refine z_cSWi (As := [.ref (b + 0), .int 2, .int x2, .int x3, .int x4, .int x5, .ref (b + 431)]) (rest := []) B cw_L_84 dL_law_284 (ci_L_check_506 l hlt (σ := (ap b σ [] [] [])) (b := b) (lyA hK) x2 x3 x4 x5 q1_x2 q2_x2 (rR_at 0 0 (fz_R hF 0 0 rfl rfl)) (rR_at 1 2 (fz_R hF 1 2 rfl rfl))) rfl (by decide) rfl (Nat.le_of_ble_eq_true rfl) (by decide) (fun r u hu => ?_)
  obtain ⟨hu1, z, hu⟩ := hu
  refine z_eqs (σ' := (ap b (wx_Z σ z) [] [] [])) (hu.trans az_ap) ?_
  show zx p l e _ s m _ below meth c g 8 _ _ _ _ 287 [(4, .int 0), (3, .ref (b + 431)), (2, .ref (b + 405)), (1, .ref (b + 0)), (0, .ref bS)] _
  refine z_seti (y := 1) hu1 ?_
  refine z_istore (lv' := [(5, .int 1), (4, .int 0), (3, .ref (b + 431)), (2, .ref (b + 405)), (1, .ref (b + 0)), (0, .ref bS)]) B dL_law_287 (by decide) rfl ?_
  refine z_aload_n B dL_law_289 rfl 3 rfl ?_
  refine z_aload_n B dL_law_290 rfl 5 rfl ?_
  refine z_iload B dL_law_291 1 rfl ?_
  refine z_iconst (v := 1) B dL_law_293 (by decide) ?_
  refine z_iadd B dL_law_294 ?_
  refine z_seti (y := 1) (by decide) ?_
  refine z_sld (j := 1) (x := 2) B hX hbl hbA (by decide) (show ¬ ((1 : Int32) < 0 ∨ 6 ≤ (1 : Int32).toNatClampNeg) by decide) h_x1 dL_law_295 ?_
  refine z_aload_n B dL_law_296 rfl 5 rfl ?_
  refine z_iload B dL_law_297 1 rfl ?_
  refine z_iconst (v := 2) B dL_law_299 (by decide) ?_
  refine z_iadd B dL_law_300 ?_
  refine z_seti (y := 2) (by decide) ?_
  refine z_sld (j := 2) (x := x2) B hX hbl hbA (by decide) (show ¬ ((2 : Int32) < 0 ∨ 6 ≤ (2 : Int32).toNatClampNeg) by decide) h_x2 dL_law_301 ?_
  refine z_aload_n B dL_law_302 rfl 5 rfl ?_
  refine z_iload B dL_law_303 1 rfl ?_
  refine z_iconst (v := 3) B dL_law_305 (by decide) ?_
  refine z_iadd B dL_law_306 ?_
  refine z_seti (y := 3) (by decide) ?_
  refine z_sld (j := 3) (x := x3) B hX hbl hbA (by decide) (show ¬ ((3 : Int32) < 0 ∨ 6 ≤ (3 : Int32).toNatClampNeg) by decide) h_x3 dL_law_307 ?_
  refine z_aload_n B dL_law_308 rfl 5 rfl ?_
  refine z_iload B dL_law_309 1 rfl ?_
  refine z_iconst (v := 4) B dL_law_311 (by decide) ?_
  refine z_iadd B dL_law_312 ?_
  refine z_seti (y := 4) (by decide) ?_
  refine z_sld (j := 4) (x := x4) B hX hbl hbA (by decide) (show ¬ ((4 : Int32) < 0 ∨ 6 ≤ (4 : Int32).toNatClampNeg) by decide) h_x4 dL_law_313 ?_
  refine z_aload_n B dL_law_314 rfl 5 rfl ?_
  refine z_iload B dL_law_315 1 rfl ?_
  refine z_iconst (v := 5) B dL_law_317 (by decide) ?_
  refine z_iadd B dL_law_318 ?_
  refine z_seti (y := 5) (by decide) ?_
  refine z_sld (j := 5) (x := x5) B hX hbl hbA (by decide) (show ¬ ((5 : Int32) < 0 ∨ 6 ≤ (5 : Int32).toNatClampNeg) by decide) h_x5 dL_law_319 ?_
  refine z_cVi (As := [.int 2, .int x2, .int x3, .int x4, .int x5]) (rest := []) B cw_L_86 cx_10 dL_law_320 (ci_X9_check_512 l (σ := (ap b (wx_Z σ z) [] [] [])) (b := b) (lyA (lyZ hK)) x2 x3 x4 x5 q1_x2 q2_x2 q1_x3 q2_x3 q1_x4 q2_x4) (lKA (lKZ (hk_K hK 405 rfl rfl))) rfl (by decide) rfl (Nat.le_of_ble_eq_true rfl) (by decide) (fun r u hu => ?_)
  refine z_eqs (σ' := (ap b (wx_Z σ z) [(405, 0, 1)] [] [])) (hu.2.trans ap_ap) ?_
  show zx p l e _ s m _ below meth c g 8 _ _ _ _ 323 [(5, .int 1), (4, .int 0), (3, .ref (b + 431)), (2, .ref (b + 405)), (1, .ref (b + 0)), (0, .ref bS)] _
  refine z_seti (y := 0) hu.1 ?_
  refine z_istore (lv' := [(6, .int 0), (5, .int 1), (4, .int 0), (3, .ref (b + 431)), (2, .ref (b + 405)), (1, .ref (b + 0)), (0, .ref bS)]) B dL_law_323 (by decide) rfl ?_
  refine z_aload_n B dL_law_325 rfl 4 rfl ?_
  refine z_cVi (As := []) (rest := []) B cw_L_80 cx_10 dL_law_326 (ci_X9_thrown_31 l (σ := (ap b (wx_Z σ z) [(405, 0, 1)] [] [])) (b := b) (lyA (lyZ hK)) (rI_at 405 0 rfl)) (lKA (lKZ (hk_K hK 405 rfl rfl))) rfl (by decide) rfl (Nat.le_of_ble_eq_true rfl) (by decide) (fun r u hu => ?_)
  refine z_eqs (σ' := (ap b (wx_Z σ z) [(405, 0, 1)] [] [])) hu.2 ?_
  show zx p l e _ s m _ below meth c g 8 _ _ _ _ 329 [(6, .int 0), (5, .int 1), (4, .int 0), (3, .ref (b + 431)), (2, .ref (b + 405)), (1, .ref (b + 0)), (0, .ref bS)] _
  refine z_seti (y := 1) hu.1 ?_
  refine z_iload B dL_law_329 1 rfl ?_
  refine z_icmp_eq (tgt := 336) B dL_law_331 (by decide) (fun _ => ?_) (fun h => absurd (by decide) h)
  refine z_iload B dL_law_336 1 rfl ?_
  refine z_if_ne (tgt := 353) B dL_law_338 (by decide) (fun _ => ?_) (fun h => absurd h (by decide))
  refine z_goto (tgt := 1395) B dL_law_353 (by decide) ?_
  exact z_widen (Nat.le_of_ble_eq_true rfl) (Nat.le_of_ble_eq_true rfl) (z_sub _ [2, 6] rfl (kk _))
set_option maxRecDepth 100000 in
set_option maxHeartbeats 4000000 in
theorem lf_1_209 {p : Program} {l : Launch} {e : Env} {s : State} {m : MethodId} {args : Array Value} {below : List Frame} {meth : Method} {c : Code} {g : gx_T} {Q : State → Prop} {σ : sx_T} {b t bS : Nat} {xs : Nat → Int32} (hlt : l.stackTraces = false) (B : zx_B p s m args meth c code RL 8 g) (hX : va_X bS 6 xs s s.heap) (hbl : bS < s.heap.size) (hbA : ¬ gx_b g ≤ bS) (hF : fz_P b t σ) (h_x1 : xs 1 = 2) {x2 : Int32} (h_x2 : xs 2 = x2) (q1_x2 : (20 : Int) ≤ x2.toInt) (q2_x2 : x2.toInt ≤ (2147483647 : Int)) {x3 : Int32} (h_x3 : xs 3 = x3) (q1_x3 : (18 : Int) ≤ x3.toInt) (q2_x3 : x3.toInt ≤ (2147483647 : Int)) {x4 : Int32} (h_x4 : xs 4 = x4) (q1_x4 : (-2147483648 : Int) ≤ x4.toInt) (q2_x4 : x4.toInt ≤ (2147483647 : Int)) {x5 : Int32} (h_x5 : xs 5 = x5) (q1_x5 : (-2147483648 : Int) ≤ x5.toInt) (q2_x5 : x5.toInt ≤ (2147483647 : Int)) (kk : ∀ σ', zx p l e room_1 s m args below meth c g 8 600002 7302232 Q σ' 1395 [(4, .int 0), (0, .ref bS)] []) : zx p l e room_1 s m args below meth c g 8 500 100000 Q σ 252 [(4, .int 0), (3, .ref (b + 431)), (2, .ref (b + 405)), (1, .ref (b + 0)), (0, .ref bS)] [] := by
  have hK := fz_lay hF
  refine z_eqs (σ' := (ap b σ [] [] [])) rfl ?_
  refine z_aload_n B dL_law_252 rfl 3 rfl ?_
  refine z_aload_n B dL_law_253 rfl 4 rfl ?_
  refine z_iload B dL_law_254 0 rfl ?_
  refine z_iconst (v := 1) B dL_law_256 (by decide) ?_
  refine z_iadd B dL_law_257 ?_
  refine z_seti (y := 1) (by decide) ?_
  refine z_sld (j := 1) (x := 2) B hX hbl hbA (by decide) (show ¬ ((1 : Int32) < 0 ∨ 6 ≤ (1 : Int32).toNatClampNeg) by decide) h_x1 dL_law_258 ?_
  refine z_aload_n B dL_law_259 rfl 4 rfl ?_
  refine z_iload B dL_law_260 0 rfl ?_
  refine z_iconst (v := 2) B dL_law_262 (by decide) ?_
  refine z_iadd B dL_law_263 ?_
  refine z_seti (y := 2) (by decide) ?_
  refine z_sld (j := 2) (x := x2) B hX hbl hbA (by decide) (show ¬ ((2 : Int32) < 0 ∨ 6 ≤ (2 : Int32).toNatClampNeg) by decide) h_x2 dL_law_264 ?_
  refine z_aload_n B dL_law_265 rfl 4 rfl ?_
  refine z_iload B dL_law_266 0 rfl ?_
  refine z_iconst (v := 3) B dL_law_268 (by decide) ?_
  refine z_iadd B dL_law_269 ?_
  refine z_seti (y := 3) (by decide) ?_
  refine z_sld (j := 3) (x := x3) B hX hbl hbA (by decide) (show ¬ ((3 : Int32) < 0 ∨ 6 ≤ (3 : Int32).toNatClampNeg) by decide) h_x3 dL_law_270 ?_
  refine z_aload_n B dL_law_271 rfl 4 rfl ?_
  refine z_iload B dL_law_272 0 rfl ?_
  refine z_iconst (v := 4) B dL_law_274 (by decide) ?_
  refine z_iadd B dL_law_275 ?_
  refine z_seti (y := 4) (by decide) ?_
  refine z_sld (j := 4) (x := x4) B hX hbl hbA (by decide) (show ¬ ((4 : Int32) < 0 ∨ 6 ≤ (4 : Int32).toNatClampNeg) by decide) h_x4 dL_law_276 ?_
  refine z_aload_n B dL_law_277 rfl 4 rfl ?_
  refine z_iload B dL_law_278 0 rfl ?_
  refine z_iconst (v := 5) B dL_law_280 (by decide) ?_
  refine z_iadd B dL_law_281 ?_
  refine z_seti (y := 5) (by decide) ?_
  refine z_sld (j := 5) (x := x5) B hX hbl hbA (by decide) (show ¬ ((5 : Int32) < 0 ∨ 6 ≤ (5 : Int32).toNatClampNeg) by decide) h_x5 dL_law_282 ?_
  refine z_aload_n B dL_law_283 rfl 1 rfl ?_
  refine z_cSWi (As := [.ref (b + 0), .int 2, .int x2, .int x3, .int x4, .int x5, .ref (b + 431)]) (rest := []) B cw_L_84 dL_law_284 (ci_L_check_506 l hlt (σ := (ap b σ [] [] [])) (b := b) (lyA hK) x2 x3 x4 x5 q1_x2 q2_x2 (rR_at 0 0 (fz_R hF 0 0 rfl rfl)) (rR_at 1 2 (fz_R hF 1 2 rfl rfl))) rfl (by decide) rfl (Nat.le_of_ble_eq_true rfl) (by decide) (fun r u hu => ?_)
  obtain ⟨hu1, z, hu⟩ := hu
  refine z_eqs (σ' := (ap b (wx_Z σ z) [] [] [])) (hu.trans az_ap) ?_
  show zx p l e _ s m _ below meth c g 8 _ _ _ _ 287 [(4, .int 0), (3, .ref (b + 431)), (2, .ref (b + 405)), (1, .ref (b + 0)), (0, .ref bS)] _
  refine z_seti (y := 1) hu1 ?_
  refine z_istore (lv' := [(5, .int 1), (4, .int 0), (3, .ref (b + 431)), (2, .ref (b + 405)), (1, .ref (b + 0)), (0, .ref bS)]) B dL_law_287 (by decide) rfl ?_
  refine z_aload_n B dL_law_289 rfl 3 rfl ?_
  refine z_aload_n B dL_law_290 rfl 5 rfl ?_
  refine z_iload B dL_law_291 1 rfl ?_
  refine z_iconst (v := 1) B dL_law_293 (by decide) ?_
  refine z_iadd B dL_law_294 ?_
  refine z_seti (y := 1) (by decide) ?_
  refine z_sld (j := 1) (x := 2) B hX hbl hbA (by decide) (show ¬ ((1 : Int32) < 0 ∨ 6 ≤ (1 : Int32).toNatClampNeg) by decide) h_x1 dL_law_295 ?_
  refine z_aload_n B dL_law_296 rfl 5 rfl ?_
  refine z_iload B dL_law_297 1 rfl ?_
  refine z_iconst (v := 2) B dL_law_299 (by decide) ?_
  refine z_iadd B dL_law_300 ?_
  refine z_seti (y := 2) (by decide) ?_
  refine z_sld (j := 2) (x := x2) B hX hbl hbA (by decide) (show ¬ ((2 : Int32) < 0 ∨ 6 ≤ (2 : Int32).toNatClampNeg) by decide) h_x2 dL_law_301 ?_
  refine z_aload_n B dL_law_302 rfl 5 rfl ?_
  refine z_iload B dL_law_303 1 rfl ?_
  refine z_iconst (v := 3) B dL_law_305 (by decide) ?_
  refine z_iadd B dL_law_306 ?_
  refine z_seti (y := 3) (by decide) ?_
  refine z_sld (j := 3) (x := x3) B hX hbl hbA (by decide) (show ¬ ((3 : Int32) < 0 ∨ 6 ≤ (3 : Int32).toNatClampNeg) by decide) h_x3 dL_law_307 ?_
  refine z_aload_n B dL_law_308 rfl 5 rfl ?_
  refine z_iload B dL_law_309 1 rfl ?_
  refine z_iconst (v := 4) B dL_law_311 (by decide) ?_
  refine z_iadd B dL_law_312 ?_
  refine z_seti (y := 4) (by decide) ?_
  refine z_sld (j := 4) (x := x4) B hX hbl hbA (by decide) (show ¬ ((4 : Int32) < 0 ∨ 6 ≤ (4 : Int32).toNatClampNeg) by decide) h_x4 dL_law_313 ?_
  refine z_aload_n B dL_law_314 rfl 5 rfl ?_
  refine z_iload B dL_law_315 1 rfl ?_
  refine z_iconst (v := 5) B dL_law_317 (by decide) ?_
  refine z_iadd B dL_law_318 ?_
  refine z_seti (y := 5) (by decide) ?_
  refine z_sld (j := 5) (x := x5) B hX hbl hbA (by decide) (show ¬ ((5 : Int32) < 0 ∨ 6 ≤ (5 : Int32).toNatClampNeg) by decide) h_x5 dL_law_319 ?_
  refine z_cVi (As := [.int 2, .int x2, .int x3, .int x4, .int x5]) (rest := []) B cw_L_86 cx_10 dL_law_320 (ci_X9_check_513 l (σ := (ap b (wx_Z σ z) [] [] [])) (b := b) (lyA (lyZ hK)) x2 x3 x4 x5 q1_x2 q2_x2 q1_x3 q2_x3) (lKA (lKZ (hk_K hK 405 rfl rfl))) rfl (by decide) rfl (Nat.le_of_ble_eq_true rfl) (by decide) (fun r u hu => ?_)
  refine z_eqs (σ' := (ap b (wx_Z σ z) [(405, 0, 1)] [] [])) (hu.2.trans ap_ap) ?_
  show zx p l e _ s m _ below meth c g 8 _ _ _ _ 323 [(5, .int 1), (4, .int 0), (3, .ref (b + 431)), (2, .ref (b + 405)), (1, .ref (b + 0)), (0, .ref bS)] _
  refine z_seti (y := 0) hu.1 ?_
  refine z_istore (lv' := [(6, .int 0), (5, .int 1), (4, .int 0), (3, .ref (b + 431)), (2, .ref (b + 405)), (1, .ref (b + 0)), (0, .ref bS)]) B dL_law_323 (by decide) rfl ?_
  refine z_aload_n B dL_law_325 rfl 4 rfl ?_
  refine z_cVi (As := []) (rest := []) B cw_L_80 cx_10 dL_law_326 (ci_X9_thrown_31 l (σ := (ap b (wx_Z σ z) [(405, 0, 1)] [] [])) (b := b) (lyA (lyZ hK)) (rI_at 405 0 rfl)) (lKA (lKZ (hk_K hK 405 rfl rfl))) rfl (by decide) rfl (Nat.le_of_ble_eq_true rfl) (by decide) (fun r u hu => ?_)
  refine z_eqs (σ' := (ap b (wx_Z σ z) [(405, 0, 1)] [] [])) hu.2 ?_
  show zx p l e _ s m _ below meth c g 8 _ _ _ _ 329 [(6, .int 0), (5, .int 1), (4, .int 0), (3, .ref (b + 431)), (2, .ref (b + 405)), (1, .ref (b + 0)), (0, .ref bS)] _
  refine z_seti (y := 1) hu.1 ?_
  refine z_iload B dL_law_329 1 rfl ?_
  refine z_icmp_eq (tgt := 336) B dL_law_331 (by decide) (fun _ => ?_) (fun h => absurd (by decide) h)
  refine z_iload B dL_law_336 1 rfl ?_
  refine z_if_ne (tgt := 353) B dL_law_338 (by decide) (fun _ => ?_) (fun h => absurd h (by decide))
  refine z_goto (tgt := 1395) B dL_law_353 (by decide) ?_
  exact z_widen (Nat.le_of_ble_eq_true rfl) (Nat.le_of_ble_eq_true rfl) (z_sub _ [2, 6] rfl (kk _))
set_option maxRecDepth 100000 in
set_option maxHeartbeats 4000000 in
theorem lf_1_210 {p : Program} {l : Launch} {e : Env} {s : State} {m : MethodId} {args : Array Value} {below : List Frame} {meth : Method} {c : Code} {g : gx_T} {Q : State → Prop} {σ : sx_T} {b t bS : Nat} {xs : Nat → Int32} (hlt : l.stackTraces = false) (B : zx_B p s m args meth c code RL 8 g) (hX : va_X bS 6 xs s s.heap) (hbl : bS < s.heap.size) (hbA : ¬ gx_b g ≤ bS) (hF : fz_P b t σ) (h_x1 : xs 1 = 3) {x2 : Int32} (h_x2 : xs 2 = x2) (q1_x2 : (-2147483648 : Int) ≤ x2.toInt) (q2_x2 : x2.toInt ≤ (-1 : Int)) {x3 : Int32} (h_x3 : xs 3 = x3) (q1_x3 : (-2147483648 : Int) ≤ x3.toInt) (q2_x3 : x3.toInt ≤ (-1 : Int)) {x4 : Int32} (h_x4 : xs 4 = x4) (q1_x4 : (-2147483648 : Int) ≤ x4.toInt) (q2_x4 : x4.toInt ≤ (2147483647 : Int)) {x5 : Int32} (h_x5 : xs 5 = x5) (q1_x5 : (-2147483648 : Int) ≤ x5.toInt) (q2_x5 : x5.toInt ≤ (2147483647 : Int)) (kk : ∀ σ', zx p l e room_1 s m args below meth c g 8 600002 7302232 Q σ' 1395 [(4, .int 0), (0, .ref bS)] []) : zx p l e room_1 s m args below meth c g 8 500 100000 Q σ 252 [(4, .int 0), (3, .ref (b + 431)), (2, .ref (b + 405)), (1, .ref (b + 0)), (0, .ref bS)] [] := by
  have hK := fz_lay hF
  refine z_eqs (σ' := (ap b σ [] [] [])) rfl ?_
  refine z_aload_n B dL_law_252 rfl 3 rfl ?_
  refine z_aload_n B dL_law_253 rfl 4 rfl ?_
  refine z_iload B dL_law_254 0 rfl ?_
  refine z_iconst (v := 1) B dL_law_256 (by decide) ?_
  refine z_iadd B dL_law_257 ?_
  refine z_seti (y := 1) (by decide) ?_
  refine z_sld (j := 1) (x := 3) B hX hbl hbA (by decide) (show ¬ ((1 : Int32) < 0 ∨ 6 ≤ (1 : Int32).toNatClampNeg) by decide) h_x1 dL_law_258 ?_
  refine z_aload_n B dL_law_259 rfl 4 rfl ?_
  refine z_iload B dL_law_260 0 rfl ?_
  refine z_iconst (v := 2) B dL_law_262 (by decide) ?_
  refine z_iadd B dL_law_263 ?_
  refine z_seti (y := 2) (by decide) ?_
  refine z_sld (j := 2) (x := x2) B hX hbl hbA (by decide) (show ¬ ((2 : Int32) < 0 ∨ 6 ≤ (2 : Int32).toNatClampNeg) by decide) h_x2 dL_law_264 ?_
  refine z_aload_n B dL_law_265 rfl 4 rfl ?_
  refine z_iload B dL_law_266 0 rfl ?_
  refine z_iconst (v := 3) B dL_law_268 (by decide) ?_
  refine z_iadd B dL_law_269 ?_
  refine z_seti (y := 3) (by decide) ?_
  refine z_sld (j := 3) (x := x3) B hX hbl hbA (by decide) (show ¬ ((3 : Int32) < 0 ∨ 6 ≤ (3 : Int32).toNatClampNeg) by decide) h_x3 dL_law_270 ?_
  refine z_aload_n B dL_law_271 rfl 4 rfl ?_
  refine z_iload B dL_law_272 0 rfl ?_
  refine z_iconst (v := 4) B dL_law_274 (by decide) ?_
  refine z_iadd B dL_law_275 ?_
  refine z_seti (y := 4) (by decide) ?_
  refine z_sld (j := 4) (x := x4) B hX hbl hbA (by decide) (show ¬ ((4 : Int32) < 0 ∨ 6 ≤ (4 : Int32).toNatClampNeg) by decide) h_x4 dL_law_276 ?_
  refine z_aload_n B dL_law_277 rfl 4 rfl ?_
  refine z_iload B dL_law_278 0 rfl ?_
  refine z_iconst (v := 5) B dL_law_280 (by decide) ?_
  refine z_iadd B dL_law_281 ?_
  refine z_seti (y := 5) (by decide) ?_
  refine z_sld (j := 5) (x := x5) B hX hbl hbA (by decide) (show ¬ ((5 : Int32) < 0 ∨ 6 ≤ (5 : Int32).toNatClampNeg) by decide) h_x5 dL_law_282 ?_
  refine z_aload_n B dL_law_283 rfl 1 rfl ?_
  refine z_cSWi (As := [.ref (b + 0), .int 3, .int x2, .int x3, .int x4, .int x5, .ref (b + 431)]) (rest := []) B cw_L_84 dL_law_284 (ci_L_check_515 l hlt (σ := (ap b σ [] [] [])) (b := b) (lyA hK) x2 x3 x4 x5 q1_x2 q2_x2 (rR_at 0 0 (fz_R hF 0 0 rfl rfl)) (rR_at 1 3 (fz_R hF 1 3 rfl rfl))) rfl (by decide) rfl (Nat.le_of_ble_eq_true rfl) (by decide) (fun r u hu => ?_)
  obtain ⟨hu1, z, hu⟩ := hu
  refine z_eqs (σ' := (ap b (wx_Z σ z) [] [] [])) (hu.trans az_ap) ?_
  show zx p l e _ s m _ below meth c g 8 _ _ _ _ 287 [(4, .int 0), (3, .ref (b + 431)), (2, .ref (b + 405)), (1, .ref (b + 0)), (0, .ref bS)] _
  refine z_seti (y := 1) hu1 ?_
  refine z_istore (lv' := [(5, .int 1), (4, .int 0), (3, .ref (b + 431)), (2, .ref (b + 405)), (1, .ref (b + 0)), (0, .ref bS)]) B dL_law_287 (by decide) rfl ?_
  refine z_aload_n B dL_law_289 rfl 3 rfl ?_
  refine z_aload_n B dL_law_290 rfl 5 rfl ?_
  refine z_iload B dL_law_291 1 rfl ?_
  refine z_iconst (v := 1) B dL_law_293 (by decide) ?_
  refine z_iadd B dL_law_294 ?_
  refine z_seti (y := 1) (by decide) ?_
  refine z_sld (j := 1) (x := 3) B hX hbl hbA (by decide) (show ¬ ((1 : Int32) < 0 ∨ 6 ≤ (1 : Int32).toNatClampNeg) by decide) h_x1 dL_law_295 ?_
  refine z_aload_n B dL_law_296 rfl 5 rfl ?_
  refine z_iload B dL_law_297 1 rfl ?_
  refine z_iconst (v := 2) B dL_law_299 (by decide) ?_
  refine z_iadd B dL_law_300 ?_
  refine z_seti (y := 2) (by decide) ?_
  refine z_sld (j := 2) (x := x2) B hX hbl hbA (by decide) (show ¬ ((2 : Int32) < 0 ∨ 6 ≤ (2 : Int32).toNatClampNeg) by decide) h_x2 dL_law_301 ?_
  refine z_aload_n B dL_law_302 rfl 5 rfl ?_
  refine z_iload B dL_law_303 1 rfl ?_
  refine z_iconst (v := 3) B dL_law_305 (by decide) ?_
  refine z_iadd B dL_law_306 ?_
  refine z_seti (y := 3) (by decide) ?_
  refine z_sld (j := 3) (x := x3) B hX hbl hbA (by decide) (show ¬ ((3 : Int32) < 0 ∨ 6 ≤ (3 : Int32).toNatClampNeg) by decide) h_x3 dL_law_307 ?_
  refine z_aload_n B dL_law_308 rfl 5 rfl ?_
  refine z_iload B dL_law_309 1 rfl ?_
  refine z_iconst (v := 4) B dL_law_311 (by decide) ?_
  refine z_iadd B dL_law_312 ?_
  refine z_seti (y := 4) (by decide) ?_
  refine z_sld (j := 4) (x := x4) B hX hbl hbA (by decide) (show ¬ ((4 : Int32) < 0 ∨ 6 ≤ (4 : Int32).toNatClampNeg) by decide) h_x4 dL_law_313 ?_
  refine z_aload_n B dL_law_314 rfl 5 rfl ?_
  refine z_iload B dL_law_315 1 rfl ?_
  refine z_iconst (v := 5) B dL_law_317 (by decide) ?_
  refine z_iadd B dL_law_318 ?_
  refine z_seti (y := 5) (by decide) ?_
  refine z_sld (j := 5) (x := x5) B hX hbl hbA (by decide) (show ¬ ((5 : Int32) < 0 ∨ 6 ≤ (5 : Int32).toNatClampNeg) by decide) h_x5 dL_law_319 ?_
  refine z_cVi (As := [.int 3, .int x2, .int x3, .int x4, .int x5]) (rest := []) B cw_L_86 cx_10 dL_law_320 (ci_X9_check_516 l (σ := (ap b (wx_Z σ z) [] [] [])) (b := b) (lyA (lyZ hK)) x2 x3 x4 x5 q1_x2 q2_x2 q1_x3 q2_x3) (lKA (lKZ (hk_K hK 405 rfl rfl))) rfl (by decide) rfl (Nat.le_of_ble_eq_true rfl) (by decide) (fun r u hu => ?_)
  refine z_eqs (σ' := (ap b (wx_Z σ z) [(405, 0, 1)] [] [])) (hu.2.trans ap_ap) ?_
  show zx p l e _ s m _ below meth c g 8 _ _ _ _ 323 [(5, .int 1), (4, .int 0), (3, .ref (b + 431)), (2, .ref (b + 405)), (1, .ref (b + 0)), (0, .ref bS)] _
  refine z_seti (y := 0) hu.1 ?_
  refine z_istore (lv' := [(6, .int 0), (5, .int 1), (4, .int 0), (3, .ref (b + 431)), (2, .ref (b + 405)), (1, .ref (b + 0)), (0, .ref bS)]) B dL_law_323 (by decide) rfl ?_
  refine z_aload_n B dL_law_325 rfl 4 rfl ?_
  refine z_cVi (As := []) (rest := []) B cw_L_80 cx_10 dL_law_326 (ci_X9_thrown_31 l (σ := (ap b (wx_Z σ z) [(405, 0, 1)] [] [])) (b := b) (lyA (lyZ hK)) (rI_at 405 0 rfl)) (lKA (lKZ (hk_K hK 405 rfl rfl))) rfl (by decide) rfl (Nat.le_of_ble_eq_true rfl) (by decide) (fun r u hu => ?_)
  refine z_eqs (σ' := (ap b (wx_Z σ z) [(405, 0, 1)] [] [])) hu.2 ?_
  show zx p l e _ s m _ below meth c g 8 _ _ _ _ 329 [(6, .int 0), (5, .int 1), (4, .int 0), (3, .ref (b + 431)), (2, .ref (b + 405)), (1, .ref (b + 0)), (0, .ref bS)] _
  refine z_seti (y := 1) hu.1 ?_
  refine z_iload B dL_law_329 1 rfl ?_
  refine z_icmp_eq (tgt := 336) B dL_law_331 (by decide) (fun _ => ?_) (fun h => absurd (by decide) h)
  refine z_iload B dL_law_336 1 rfl ?_
  refine z_if_ne (tgt := 353) B dL_law_338 (by decide) (fun _ => ?_) (fun h => absurd h (by decide))
  refine z_goto (tgt := 1395) B dL_law_353 (by decide) ?_
  exact z_widen (Nat.le_of_ble_eq_true rfl) (Nat.le_of_ble_eq_true rfl) (z_sub _ [2, 6] rfl (kk _))
set_option maxRecDepth 100000 in
set_option maxHeartbeats 4000000 in
theorem lf_1_211 {p : Program} {l : Launch} {e : Env} {s : State} {m : MethodId} {args : Array Value} {below : List Frame} {meth : Method} {c : Code} {g : gx_T} {Q : State → Prop} {σ : sx_T} {b t bS : Nat} {xs : Nat → Int32} (hlt : l.stackTraces = false) (B : zx_B p s m args meth c code RL 8 g) (hX : va_X bS 6 xs s s.heap) (hbl : bS < s.heap.size) (hbA : ¬ gx_b g ≤ bS) (hF : fz_P b t σ) (h_x1 : xs 1 = 3) {x2 : Int32} (h_x2 : xs 2 = x2) (q1_x2 : (-2147483648 : Int) ≤ x2.toInt) (q2_x2 : x2.toInt ≤ (-1 : Int)) {x3 : Int32} (h_x3 : xs 3 = x3) (q1_x3 : (0 : Int) ≤ x3.toInt) (q2_x3 : x3.toInt ≤ (17 : Int)) {x4 : Int32} (h_x4 : xs 4 = x4) (q1_x4 : (-2147483648 : Int) ≤ x4.toInt) (q2_x4 : x4.toInt ≤ (-1 : Int)) {x5 : Int32} (h_x5 : xs 5 = x5) (q1_x5 : (-2147483648 : Int) ≤ x5.toInt) (q2_x5 : x5.toInt ≤ (2147483647 : Int)) (kk : ∀ σ', zx p l e room_1 s m args below meth c g 8 600002 7302232 Q σ' 1395 [(4, .int 0), (0, .ref bS)] []) : zx p l e room_1 s m args below meth c g 8 500 100000 Q σ 252 [(4, .int 0), (3, .ref (b + 431)), (2, .ref (b + 405)), (1, .ref (b + 0)), (0, .ref bS)] [] := by
  have hK := fz_lay hF
  refine z_eqs (σ' := (ap b σ [] [] [])) rfl ?_
  refine z_aload_n B dL_law_252 rfl 3 rfl ?_
  refine z_aload_n B dL_law_253 rfl 4 rfl ?_
  refine z_iload B dL_law_254 0 rfl ?_
  refine z_iconst (v := 1) B dL_law_256 (by decide) ?_
  refine z_iadd B dL_law_257 ?_
  refine z_seti (y := 1) (by decide) ?_
  refine z_sld (j := 1) (x := 3) B hX hbl hbA (by decide) (show ¬ ((1 : Int32) < 0 ∨ 6 ≤ (1 : Int32).toNatClampNeg) by decide) h_x1 dL_law_258 ?_
  refine z_aload_n B dL_law_259 rfl 4 rfl ?_
  refine z_iload B dL_law_260 0 rfl ?_
  refine z_iconst (v := 2) B dL_law_262 (by decide) ?_
  refine z_iadd B dL_law_263 ?_
  refine z_seti (y := 2) (by decide) ?_
  refine z_sld (j := 2) (x := x2) B hX hbl hbA (by decide) (show ¬ ((2 : Int32) < 0 ∨ 6 ≤ (2 : Int32).toNatClampNeg) by decide) h_x2 dL_law_264 ?_
  refine z_aload_n B dL_law_265 rfl 4 rfl ?_
  refine z_iload B dL_law_266 0 rfl ?_
  refine z_iconst (v := 3) B dL_law_268 (by decide) ?_
  refine z_iadd B dL_law_269 ?_
  refine z_seti (y := 3) (by decide) ?_
  refine z_sld (j := 3) (x := x3) B hX hbl hbA (by decide) (show ¬ ((3 : Int32) < 0 ∨ 6 ≤ (3 : Int32).toNatClampNeg) by decide) h_x3 dL_law_270 ?_
  refine z_aload_n B dL_law_271 rfl 4 rfl ?_
  refine z_iload B dL_law_272 0 rfl ?_
  refine z_iconst (v := 4) B dL_law_274 (by decide) ?_
  refine z_iadd B dL_law_275 ?_
  refine z_seti (y := 4) (by decide) ?_
  refine z_sld (j := 4) (x := x4) B hX hbl hbA (by decide) (show ¬ ((4 : Int32) < 0 ∨ 6 ≤ (4 : Int32).toNatClampNeg) by decide) h_x4 dL_law_276 ?_
  refine z_aload_n B dL_law_277 rfl 4 rfl ?_
  refine z_iload B dL_law_278 0 rfl ?_
  refine z_iconst (v := 5) B dL_law_280 (by decide) ?_
  refine z_iadd B dL_law_281 ?_
  refine z_seti (y := 5) (by decide) ?_
  refine z_sld (j := 5) (x := x5) B hX hbl hbA (by decide) (show ¬ ((5 : Int32) < 0 ∨ 6 ≤ (5 : Int32).toNatClampNeg) by decide) h_x5 dL_law_282 ?_
  refine z_aload_n B dL_law_283 rfl 1 rfl ?_
  refine z_cSWi (As := [.ref (b + 0), .int 3, .int x2, .int x3, .int x4, .int x5, .ref (b + 431)]) (rest := []) B cw_L_84 dL_law_284 (ci_L_check_515 l hlt (σ := (ap b σ [] [] [])) (b := b) (lyA hK) x2 x3 x4 x5 q1_x2 q2_x2 (rR_at 0 0 (fz_R hF 0 0 rfl rfl)) (rR_at 1 3 (fz_R hF 1 3 rfl rfl))) rfl (by decide) rfl (Nat.le_of_ble_eq_true rfl) (by decide) (fun r u hu => ?_)
  obtain ⟨hu1, z, hu⟩ := hu
  refine z_eqs (σ' := (ap b (wx_Z σ z) [] [] [])) (hu.trans az_ap) ?_
  show zx p l e _ s m _ below meth c g 8 _ _ _ _ 287 [(4, .int 0), (3, .ref (b + 431)), (2, .ref (b + 405)), (1, .ref (b + 0)), (0, .ref bS)] _
  refine z_seti (y := 1) hu1 ?_
  refine z_istore (lv' := [(5, .int 1), (4, .int 0), (3, .ref (b + 431)), (2, .ref (b + 405)), (1, .ref (b + 0)), (0, .ref bS)]) B dL_law_287 (by decide) rfl ?_
  refine z_aload_n B dL_law_289 rfl 3 rfl ?_
  refine z_aload_n B dL_law_290 rfl 5 rfl ?_
  refine z_iload B dL_law_291 1 rfl ?_
  refine z_iconst (v := 1) B dL_law_293 (by decide) ?_
  refine z_iadd B dL_law_294 ?_
  refine z_seti (y := 1) (by decide) ?_
  refine z_sld (j := 1) (x := 3) B hX hbl hbA (by decide) (show ¬ ((1 : Int32) < 0 ∨ 6 ≤ (1 : Int32).toNatClampNeg) by decide) h_x1 dL_law_295 ?_
  refine z_aload_n B dL_law_296 rfl 5 rfl ?_
  refine z_iload B dL_law_297 1 rfl ?_
  refine z_iconst (v := 2) B dL_law_299 (by decide) ?_
  refine z_iadd B dL_law_300 ?_
  refine z_seti (y := 2) (by decide) ?_
  refine z_sld (j := 2) (x := x2) B hX hbl hbA (by decide) (show ¬ ((2 : Int32) < 0 ∨ 6 ≤ (2 : Int32).toNatClampNeg) by decide) h_x2 dL_law_301 ?_
  refine z_aload_n B dL_law_302 rfl 5 rfl ?_
  refine z_iload B dL_law_303 1 rfl ?_
  refine z_iconst (v := 3) B dL_law_305 (by decide) ?_
  refine z_iadd B dL_law_306 ?_
  refine z_seti (y := 3) (by decide) ?_
  refine z_sld (j := 3) (x := x3) B hX hbl hbA (by decide) (show ¬ ((3 : Int32) < 0 ∨ 6 ≤ (3 : Int32).toNatClampNeg) by decide) h_x3 dL_law_307 ?_
  refine z_aload_n B dL_law_308 rfl 5 rfl ?_
  refine z_iload B dL_law_309 1 rfl ?_
  refine z_iconst (v := 4) B dL_law_311 (by decide) ?_
  refine z_iadd B dL_law_312 ?_
  refine z_seti (y := 4) (by decide) ?_
  refine z_sld (j := 4) (x := x4) B hX hbl hbA (by decide) (show ¬ ((4 : Int32) < 0 ∨ 6 ≤ (4 : Int32).toNatClampNeg) by decide) h_x4 dL_law_313 ?_
  refine z_aload_n B dL_law_314 rfl 5 rfl ?_
  refine z_iload B dL_law_315 1 rfl ?_
  refine z_iconst (v := 5) B dL_law_317 (by decide) ?_
  refine z_iadd B dL_law_318 ?_
  refine z_seti (y := 5) (by decide) ?_
  refine z_sld (j := 5) (x := x5) B hX hbl hbA (by decide) (show ¬ ((5 : Int32) < 0 ∨ 6 ≤ (5 : Int32).toNatClampNeg) by decide) h_x5 dL_law_319 ?_
  refine z_cVi (As := [.int 3, .int x2, .int x3, .int x4, .int x5]) (rest := []) B cw_L_86 cx_10 dL_law_320 (ci_X9_check_517 l (σ := (ap b (wx_Z σ z) [] [] [])) (b := b) (lyA (lyZ hK)) x2 x3 x4 x5 q1_x2 q2_x2 q1_x3 q2_x3 q1_x4 q2_x4) (lKA (lKZ (hk_K hK 405 rfl rfl))) rfl (by decide) rfl (Nat.le_of_ble_eq_true rfl) (by decide) (fun r u hu => ?_)
  refine z_eqs (σ' := (ap b (wx_Z σ z) [(405, 0, 1)] [] [])) (hu.2.trans ap_ap) ?_
  show zx p l e _ s m _ below meth c g 8 _ _ _ _ 323 [(5, .int 1), (4, .int 0), (3, .ref (b + 431)), (2, .ref (b + 405)), (1, .ref (b + 0)), (0, .ref bS)] _
  refine z_seti (y := 0) hu.1 ?_
  refine z_istore (lv' := [(6, .int 0), (5, .int 1), (4, .int 0), (3, .ref (b + 431)), (2, .ref (b + 405)), (1, .ref (b + 0)), (0, .ref bS)]) B dL_law_323 (by decide) rfl ?_
  refine z_aload_n B dL_law_325 rfl 4 rfl ?_
  refine z_cVi (As := []) (rest := []) B cw_L_80 cx_10 dL_law_326 (ci_X9_thrown_31 l (σ := (ap b (wx_Z σ z) [(405, 0, 1)] [] [])) (b := b) (lyA (lyZ hK)) (rI_at 405 0 rfl)) (lKA (lKZ (hk_K hK 405 rfl rfl))) rfl (by decide) rfl (Nat.le_of_ble_eq_true rfl) (by decide) (fun r u hu => ?_)
  refine z_eqs (σ' := (ap b (wx_Z σ z) [(405, 0, 1)] [] [])) hu.2 ?_
  show zx p l e _ s m _ below meth c g 8 _ _ _ _ 329 [(6, .int 0), (5, .int 1), (4, .int 0), (3, .ref (b + 431)), (2, .ref (b + 405)), (1, .ref (b + 0)), (0, .ref bS)] _
  refine z_seti (y := 1) hu.1 ?_
  refine z_iload B dL_law_329 1 rfl ?_
  refine z_icmp_eq (tgt := 336) B dL_law_331 (by decide) (fun _ => ?_) (fun h => absurd (by decide) h)
  refine z_iload B dL_law_336 1 rfl ?_
  refine z_if_ne (tgt := 353) B dL_law_338 (by decide) (fun _ => ?_) (fun h => absurd h (by decide))
  refine z_goto (tgt := 1395) B dL_law_353 (by decide) ?_
  exact z_widen (Nat.le_of_ble_eq_true rfl) (Nat.le_of_ble_eq_true rfl) (z_sub _ [2, 6] rfl (kk _))
set_option maxRecDepth 100000 in
set_option maxHeartbeats 4000000 in
theorem lf_1_212 {p : Program} {l : Launch} {e : Env} {s : State} {m : MethodId} {args : Array Value} {below : List Frame} {meth : Method} {c : Code} {g : gx_T} {Q : State → Prop} {σ : sx_T} {b t bS : Nat} {xs : Nat → Int32} (hlt : l.stackTraces = false) (B : zx_B p s m args meth c code RL 8 g) (hX : va_X bS 6 xs s s.heap) (hbl : bS < s.heap.size) (hbA : ¬ gx_b g ≤ bS) (hF : fz_P b t σ) (h_x1 : xs 1 = 3) {x2 : Int32} (h_x2 : xs 2 = x2) (q1_x2 : (-2147483648 : Int) ≤ x2.toInt) (q2_x2 : x2.toInt ≤ (-1 : Int)) {x3 : Int32} (h_x3 : xs 3 = x3) (q1_x3 : (0 : Int) ≤ x3.toInt) (q2_x3 : x3.toInt ≤ (17 : Int)) {x4 : Int32} (h_x4 : xs 4 = x4) (q1_x4 : (0 : Int) ≤ x4.toInt) (q2_x4 : x4.toInt ≤ (99 : Int)) {x5 : Int32} (h_x5 : xs 5 = x5) (q1_x5 : (-2147483648 : Int) ≤ x5.toInt) (q2_x5 : x5.toInt ≤ (-1 : Int)) (kk : ∀ σ', zx p l e room_1 s m args below meth c g 8 600002 7302232 Q σ' 1395 [(4, .int 0), (0, .ref bS)] []) : zx p l e room_1 s m args below meth c g 8 500 100000 Q σ 252 [(4, .int 0), (3, .ref (b + 431)), (2, .ref (b + 405)), (1, .ref (b + 0)), (0, .ref bS)] [] := by
  have hK := fz_lay hF
  refine z_eqs (σ' := (ap b σ [] [] [])) rfl ?_
  refine z_aload_n B dL_law_252 rfl 3 rfl ?_
  refine z_aload_n B dL_law_253 rfl 4 rfl ?_
  refine z_iload B dL_law_254 0 rfl ?_
  refine z_iconst (v := 1) B dL_law_256 (by decide) ?_
  refine z_iadd B dL_law_257 ?_
  refine z_seti (y := 1) (by decide) ?_
  refine z_sld (j := 1) (x := 3) B hX hbl hbA (by decide) (show ¬ ((1 : Int32) < 0 ∨ 6 ≤ (1 : Int32).toNatClampNeg) by decide) h_x1 dL_law_258 ?_
  refine z_aload_n B dL_law_259 rfl 4 rfl ?_
  refine z_iload B dL_law_260 0 rfl ?_
  refine z_iconst (v := 2) B dL_law_262 (by decide) ?_
  refine z_iadd B dL_law_263 ?_
  refine z_seti (y := 2) (by decide) ?_
  refine z_sld (j := 2) (x := x2) B hX hbl hbA (by decide) (show ¬ ((2 : Int32) < 0 ∨ 6 ≤ (2 : Int32).toNatClampNeg) by decide) h_x2 dL_law_264 ?_
  refine z_aload_n B dL_law_265 rfl 4 rfl ?_
  refine z_iload B dL_law_266 0 rfl ?_
  refine z_iconst (v := 3) B dL_law_268 (by decide) ?_
  refine z_iadd B dL_law_269 ?_
  refine z_seti (y := 3) (by decide) ?_
  refine z_sld (j := 3) (x := x3) B hX hbl hbA (by decide) (show ¬ ((3 : Int32) < 0 ∨ 6 ≤ (3 : Int32).toNatClampNeg) by decide) h_x3 dL_law_270 ?_
  refine z_aload_n B dL_law_271 rfl 4 rfl ?_
  refine z_iload B dL_law_272 0 rfl ?_
  refine z_iconst (v := 4) B dL_law_274 (by decide) ?_
  refine z_iadd B dL_law_275 ?_
  refine z_seti (y := 4) (by decide) ?_
  refine z_sld (j := 4) (x := x4) B hX hbl hbA (by decide) (show ¬ ((4 : Int32) < 0 ∨ 6 ≤ (4 : Int32).toNatClampNeg) by decide) h_x4 dL_law_276 ?_
  refine z_aload_n B dL_law_277 rfl 4 rfl ?_
  refine z_iload B dL_law_278 0 rfl ?_
  refine z_iconst (v := 5) B dL_law_280 (by decide) ?_
  refine z_iadd B dL_law_281 ?_
  refine z_seti (y := 5) (by decide) ?_
  refine z_sld (j := 5) (x := x5) B hX hbl hbA (by decide) (show ¬ ((5 : Int32) < 0 ∨ 6 ≤ (5 : Int32).toNatClampNeg) by decide) h_x5 dL_law_282 ?_
  refine z_aload_n B dL_law_283 rfl 1 rfl ?_
  refine z_cSWi (As := [.ref (b + 0), .int 3, .int x2, .int x3, .int x4, .int x5, .ref (b + 431)]) (rest := []) B cw_L_84 dL_law_284 (ci_L_check_515 l hlt (σ := (ap b σ [] [] [])) (b := b) (lyA hK) x2 x3 x4 x5 q1_x2 q2_x2 (rR_at 0 0 (fz_R hF 0 0 rfl rfl)) (rR_at 1 3 (fz_R hF 1 3 rfl rfl))) rfl (by decide) rfl (Nat.le_of_ble_eq_true rfl) (by decide) (fun r u hu => ?_)
  obtain ⟨hu1, z, hu⟩ := hu
  refine z_eqs (σ' := (ap b (wx_Z σ z) [] [] [])) (hu.trans az_ap) ?_
  show zx p l e _ s m _ below meth c g 8 _ _ _ _ 287 [(4, .int 0), (3, .ref (b + 431)), (2, .ref (b + 405)), (1, .ref (b + 0)), (0, .ref bS)] _
  refine z_seti (y := 1) hu1 ?_
  refine z_istore (lv' := [(5, .int 1), (4, .int 0), (3, .ref (b + 431)), (2, .ref (b + 405)), (1, .ref (b + 0)), (0, .ref bS)]) B dL_law_287 (by decide) rfl ?_
  refine z_aload_n B dL_law_289 rfl 3 rfl ?_
  refine z_aload_n B dL_law_290 rfl 5 rfl ?_
  refine z_iload B dL_law_291 1 rfl ?_
  refine z_iconst (v := 1) B dL_law_293 (by decide) ?_
  refine z_iadd B dL_law_294 ?_
  refine z_seti (y := 1) (by decide) ?_
  refine z_sld (j := 1) (x := 3) B hX hbl hbA (by decide) (show ¬ ((1 : Int32) < 0 ∨ 6 ≤ (1 : Int32).toNatClampNeg) by decide) h_x1 dL_law_295 ?_
  refine z_aload_n B dL_law_296 rfl 5 rfl ?_
  refine z_iload B dL_law_297 1 rfl ?_
  refine z_iconst (v := 2) B dL_law_299 (by decide) ?_
  refine z_iadd B dL_law_300 ?_
  refine z_seti (y := 2) (by decide) ?_
  refine z_sld (j := 2) (x := x2) B hX hbl hbA (by decide) (show ¬ ((2 : Int32) < 0 ∨ 6 ≤ (2 : Int32).toNatClampNeg) by decide) h_x2 dL_law_301 ?_
  refine z_aload_n B dL_law_302 rfl 5 rfl ?_
  refine z_iload B dL_law_303 1 rfl ?_
  refine z_iconst (v := 3) B dL_law_305 (by decide) ?_
  refine z_iadd B dL_law_306 ?_
  refine z_seti (y := 3) (by decide) ?_
  refine z_sld (j := 3) (x := x3) B hX hbl hbA (by decide) (show ¬ ((3 : Int32) < 0 ∨ 6 ≤ (3 : Int32).toNatClampNeg) by decide) h_x3 dL_law_307 ?_
  refine z_aload_n B dL_law_308 rfl 5 rfl ?_
  refine z_iload B dL_law_309 1 rfl ?_
  refine z_iconst (v := 4) B dL_law_311 (by decide) ?_
  refine z_iadd B dL_law_312 ?_
  refine z_seti (y := 4) (by decide) ?_
  refine z_sld (j := 4) (x := x4) B hX hbl hbA (by decide) (show ¬ ((4 : Int32) < 0 ∨ 6 ≤ (4 : Int32).toNatClampNeg) by decide) h_x4 dL_law_313 ?_
  refine z_aload_n B dL_law_314 rfl 5 rfl ?_
  refine z_iload B dL_law_315 1 rfl ?_
  refine z_iconst (v := 5) B dL_law_317 (by decide) ?_
  refine z_iadd B dL_law_318 ?_
  refine z_seti (y := 5) (by decide) ?_
  refine z_sld (j := 5) (x := x5) B hX hbl hbA (by decide) (show ¬ ((5 : Int32) < 0 ∨ 6 ≤ (5 : Int32).toNatClampNeg) by decide) h_x5 dL_law_319 ?_
  refine z_cVi (As := [.int 3, .int x2, .int x3, .int x4, .int x5]) (rest := []) B cw_L_86 cx_10 dL_law_320 (ci_X9_check_518 l (σ := (ap b (wx_Z σ z) [] [] [])) (b := b) (lyA (lyZ hK)) x2 x3 x4 x5 q1_x2 q2_x2 q1_x3 q2_x3 q1_x4 q2_x4 q1_x5 q2_x5) (lKA (lKZ (hk_K hK 405 rfl rfl))) rfl (by decide) rfl (Nat.le_of_ble_eq_true rfl) (by decide) (fun r u hu => ?_)
  refine z_eqs (σ' := (ap b (wx_Z σ z) [(405, 0, 1)] [] [])) (hu.2.trans ap_ap) ?_
  show zx p l e _ s m _ below meth c g 8 _ _ _ _ 323 [(5, .int 1), (4, .int 0), (3, .ref (b + 431)), (2, .ref (b + 405)), (1, .ref (b + 0)), (0, .ref bS)] _
  refine z_seti (y := 0) hu.1 ?_
  refine z_istore (lv' := [(6, .int 0), (5, .int 1), (4, .int 0), (3, .ref (b + 431)), (2, .ref (b + 405)), (1, .ref (b + 0)), (0, .ref bS)]) B dL_law_323 (by decide) rfl ?_
  refine z_aload_n B dL_law_325 rfl 4 rfl ?_
  refine z_cVi (As := []) (rest := []) B cw_L_80 cx_10 dL_law_326 (ci_X9_thrown_31 l (σ := (ap b (wx_Z σ z) [(405, 0, 1)] [] [])) (b := b) (lyA (lyZ hK)) (rI_at 405 0 rfl)) (lKA (lKZ (hk_K hK 405 rfl rfl))) rfl (by decide) rfl (Nat.le_of_ble_eq_true rfl) (by decide) (fun r u hu => ?_)
  refine z_eqs (σ' := (ap b (wx_Z σ z) [(405, 0, 1)] [] [])) hu.2 ?_
  show zx p l e _ s m _ below meth c g 8 _ _ _ _ 329 [(6, .int 0), (5, .int 1), (4, .int 0), (3, .ref (b + 431)), (2, .ref (b + 405)), (1, .ref (b + 0)), (0, .ref bS)] _
  refine z_seti (y := 1) hu.1 ?_
  refine z_iload B dL_law_329 1 rfl ?_
  refine z_icmp_eq (tgt := 336) B dL_law_331 (by decide) (fun _ => ?_) (fun h => absurd (by decide) h)
  refine z_iload B dL_law_336 1 rfl ?_
  refine z_if_ne (tgt := 353) B dL_law_338 (by decide) (fun _ => ?_) (fun h => absurd h (by decide))
  refine z_goto (tgt := 1395) B dL_law_353 (by decide) ?_
  exact z_widen (Nat.le_of_ble_eq_true rfl) (Nat.le_of_ble_eq_true rfl) (z_sub _ [2, 6] rfl (kk _))
set_option maxRecDepth 100000 in
set_option maxHeartbeats 4000000 in
theorem lf_1_213 {p : Program} {l : Launch} {e : Env} {s : State} {m : MethodId} {args : Array Value} {below : List Frame} {meth : Method} {c : Code} {g : gx_T} {Q : State → Prop} {σ : sx_T} {b t bS : Nat} {xs : Nat → Int32} (hlt : l.stackTraces = false) (B : zx_B p s m args meth c code RL 8 g) (hX : va_X bS 6 xs s s.heap) (hbl : bS < s.heap.size) (hbA : ¬ gx_b g ≤ bS) (hF : fz_P b t σ) (h_x1 : xs 1 = 3) {x2 : Int32} (h_x2 : xs 2 = x2) (q1_x2 : (-2147483648 : Int) ≤ x2.toInt) (q2_x2 : x2.toInt ≤ (-1 : Int)) {x3 : Int32} (h_x3 : xs 3 = x3) (q1_x3 : (0 : Int) ≤ x3.toInt) (q2_x3 : x3.toInt ≤ (17 : Int)) {x4 : Int32} (h_x4 : xs 4 = x4) (q1_x4 : (0 : Int) ≤ x4.toInt) (q2_x4 : x4.toInt ≤ (99 : Int)) {x5 : Int32} (h_x5 : xs 5 = x5) (q1_x5 : (0 : Int) ≤ x5.toInt) (q2_x5 : x5.toInt ≤ (99 : Int)) (kk : ∀ σ', zx p l e room_1 s m args below meth c g 8 600002 7302232 Q σ' 1395 [(4, .int 0), (0, .ref bS)] []) : zx p l e room_1 s m args below meth c g 8 500 100000 Q σ 252 [(4, .int 0), (3, .ref (b + 431)), (2, .ref (b + 405)), (1, .ref (b + 0)), (0, .ref bS)] [] := by
  have hK := fz_lay hF
  refine z_eqs (σ' := (ap b σ [] [] [])) rfl ?_
  refine z_aload_n B dL_law_252 rfl 3 rfl ?_
  refine z_aload_n B dL_law_253 rfl 4 rfl ?_
  refine z_iload B dL_law_254 0 rfl ?_
  refine z_iconst (v := 1) B dL_law_256 (by decide) ?_
  refine z_iadd B dL_law_257 ?_
  refine z_seti (y := 1) (by decide) ?_
  refine z_sld (j := 1) (x := 3) B hX hbl hbA (by decide) (show ¬ ((1 : Int32) < 0 ∨ 6 ≤ (1 : Int32).toNatClampNeg) by decide) h_x1 dL_law_258 ?_
  refine z_aload_n B dL_law_259 rfl 4 rfl ?_
  refine z_iload B dL_law_260 0 rfl ?_
  refine z_iconst (v := 2) B dL_law_262 (by decide) ?_
  refine z_iadd B dL_law_263 ?_
  refine z_seti (y := 2) (by decide) ?_
  refine z_sld (j := 2) (x := x2) B hX hbl hbA (by decide) (show ¬ ((2 : Int32) < 0 ∨ 6 ≤ (2 : Int32).toNatClampNeg) by decide) h_x2 dL_law_264 ?_
  refine z_aload_n B dL_law_265 rfl 4 rfl ?_
  refine z_iload B dL_law_266 0 rfl ?_
  refine z_iconst (v := 3) B dL_law_268 (by decide) ?_
  refine z_iadd B dL_law_269 ?_
  refine z_seti (y := 3) (by decide) ?_
  refine z_sld (j := 3) (x := x3) B hX hbl hbA (by decide) (show ¬ ((3 : Int32) < 0 ∨ 6 ≤ (3 : Int32).toNatClampNeg) by decide) h_x3 dL_law_270 ?_
  refine z_aload_n B dL_law_271 rfl 4 rfl ?_
  refine z_iload B dL_law_272 0 rfl ?_
  refine z_iconst (v := 4) B dL_law_274 (by decide) ?_
  refine z_iadd B dL_law_275 ?_
  refine z_seti (y := 4) (by decide) ?_
  refine z_sld (j := 4) (x := x4) B hX hbl hbA (by decide) (show ¬ ((4 : Int32) < 0 ∨ 6 ≤ (4 : Int32).toNatClampNeg) by decide) h_x4 dL_law_276 ?_
  refine z_aload_n B dL_law_277 rfl 4 rfl ?_
  refine z_iload B dL_law_278 0 rfl ?_
  refine z_iconst (v := 5) B dL_law_280 (by decide) ?_
  refine z_iadd B dL_law_281 ?_
  refine z_seti (y := 5) (by decide) ?_
  refine z_sld (j := 5) (x := x5) B hX hbl hbA (by decide) (show ¬ ((5 : Int32) < 0 ∨ 6 ≤ (5 : Int32).toNatClampNeg) by decide) h_x5 dL_law_282 ?_
  refine z_aload_n B dL_law_283 rfl 1 rfl ?_
  refine z_cSWi (As := [.ref (b + 0), .int 3, .int x2, .int x3, .int x4, .int x5, .ref (b + 431)]) (rest := []) B cw_L_84 dL_law_284 (ci_L_check_515 l hlt (σ := (ap b σ [] [] [])) (b := b) (lyA hK) x2 x3 x4 x5 q1_x2 q2_x2 (rR_at 0 0 (fz_R hF 0 0 rfl rfl)) (rR_at 1 3 (fz_R hF 1 3 rfl rfl))) rfl (by decide) rfl (Nat.le_of_ble_eq_true rfl) (by decide) (fun r u hu => ?_)
  obtain ⟨hu1, z, hu⟩ := hu
  refine z_eqs (σ' := (ap b (wx_Z σ z) [] [] [])) (hu.trans az_ap) ?_
  show zx p l e _ s m _ below meth c g 8 _ _ _ _ 287 [(4, .int 0), (3, .ref (b + 431)), (2, .ref (b + 405)), (1, .ref (b + 0)), (0, .ref bS)] _
  refine z_seti (y := 1) hu1 ?_
  refine z_istore (lv' := [(5, .int 1), (4, .int 0), (3, .ref (b + 431)), (2, .ref (b + 405)), (1, .ref (b + 0)), (0, .ref bS)]) B dL_law_287 (by decide) rfl ?_
  refine z_aload_n B dL_law_289 rfl 3 rfl ?_
  refine z_aload_n B dL_law_290 rfl 5 rfl ?_
  refine z_iload B dL_law_291 1 rfl ?_
  refine z_iconst (v := 1) B dL_law_293 (by decide) ?_
  refine z_iadd B dL_law_294 ?_
  refine z_seti (y := 1) (by decide) ?_
  refine z_sld (j := 1) (x := 3) B hX hbl hbA (by decide) (show ¬ ((1 : Int32) < 0 ∨ 6 ≤ (1 : Int32).toNatClampNeg) by decide) h_x1 dL_law_295 ?_
  refine z_aload_n B dL_law_296 rfl 5 rfl ?_
  refine z_iload B dL_law_297 1 rfl ?_
  refine z_iconst (v := 2) B dL_law_299 (by decide) ?_
  refine z_iadd B dL_law_300 ?_
  refine z_seti (y := 2) (by decide) ?_
  refine z_sld (j := 2) (x := x2) B hX hbl hbA (by decide) (show ¬ ((2 : Int32) < 0 ∨ 6 ≤ (2 : Int32).toNatClampNeg) by decide) h_x2 dL_law_301 ?_
  refine z_aload_n B dL_law_302 rfl 5 rfl ?_
  refine z_iload B dL_law_303 1 rfl ?_
  refine z_iconst (v := 3) B dL_law_305 (by decide) ?_
  refine z_iadd B dL_law_306 ?_
  refine z_seti (y := 3) (by decide) ?_
  refine z_sld (j := 3) (x := x3) B hX hbl hbA (by decide) (show ¬ ((3 : Int32) < 0 ∨ 6 ≤ (3 : Int32).toNatClampNeg) by decide) h_x3 dL_law_307 ?_
  refine z_aload_n B dL_law_308 rfl 5 rfl ?_
  refine z_iload B dL_law_309 1 rfl ?_
  refine z_iconst (v := 4) B dL_law_311 (by decide) ?_
  refine z_iadd B dL_law_312 ?_
  refine z_seti (y := 4) (by decide) ?_
  refine z_sld (j := 4) (x := x4) B hX hbl hbA (by decide) (show ¬ ((4 : Int32) < 0 ∨ 6 ≤ (4 : Int32).toNatClampNeg) by decide) h_x4 dL_law_313 ?_
  refine z_aload_n B dL_law_314 rfl 5 rfl ?_
  refine z_iload B dL_law_315 1 rfl ?_
  refine z_iconst (v := 5) B dL_law_317 (by decide) ?_
  refine z_iadd B dL_law_318 ?_
  refine z_seti (y := 5) (by decide) ?_
  refine z_sld (j := 5) (x := x5) B hX hbl hbA (by decide) (show ¬ ((5 : Int32) < 0 ∨ 6 ≤ (5 : Int32).toNatClampNeg) by decide) h_x5 dL_law_319 ?_
  refine z_cVi (As := [.int 3, .int x2, .int x3, .int x4, .int x5]) (rest := []) B cw_L_86 cx_10 dL_law_320 (ci_X9_check_519 l (σ := (ap b (wx_Z σ z) [] [] [])) (b := b) (lyA (lyZ hK)) x2 x3 x4 x5 q1_x2 q2_x2 q1_x3 q2_x3 q1_x4 q2_x4 q1_x5 q2_x5) (lKA (lKZ (hk_K hK 405 rfl rfl))) rfl (by decide) rfl (Nat.le_of_ble_eq_true rfl) (by decide) (fun r u hu => ?_)
  refine z_eqs (σ' := (ap b (wx_Z σ z) [(405, 0, 1)] [] [])) (hu.2.trans ap_ap) ?_
  show zx p l e _ s m _ below meth c g 8 _ _ _ _ 323 [(5, .int 1), (4, .int 0), (3, .ref (b + 431)), (2, .ref (b + 405)), (1, .ref (b + 0)), (0, .ref bS)] _
  refine z_seti (y := 0) hu.1 ?_
  refine z_istore (lv' := [(6, .int 0), (5, .int 1), (4, .int 0), (3, .ref (b + 431)), (2, .ref (b + 405)), (1, .ref (b + 0)), (0, .ref bS)]) B dL_law_323 (by decide) rfl ?_
  refine z_aload_n B dL_law_325 rfl 4 rfl ?_
  refine z_cVi (As := []) (rest := []) B cw_L_80 cx_10 dL_law_326 (ci_X9_thrown_31 l (σ := (ap b (wx_Z σ z) [(405, 0, 1)] [] [])) (b := b) (lyA (lyZ hK)) (rI_at 405 0 rfl)) (lKA (lKZ (hk_K hK 405 rfl rfl))) rfl (by decide) rfl (Nat.le_of_ble_eq_true rfl) (by decide) (fun r u hu => ?_)
  refine z_eqs (σ' := (ap b (wx_Z σ z) [(405, 0, 1)] [] [])) hu.2 ?_
  show zx p l e _ s m _ below meth c g 8 _ _ _ _ 329 [(6, .int 0), (5, .int 1), (4, .int 0), (3, .ref (b + 431)), (2, .ref (b + 405)), (1, .ref (b + 0)), (0, .ref bS)] _
  refine z_seti (y := 1) hu.1 ?_
  refine z_iload B dL_law_329 1 rfl ?_
  refine z_icmp_eq (tgt := 336) B dL_law_331 (by decide) (fun _ => ?_) (fun h => absurd (by decide) h)
  refine z_iload B dL_law_336 1 rfl ?_
  refine z_if_ne (tgt := 353) B dL_law_338 (by decide) (fun _ => ?_) (fun h => absurd h (by decide))
  refine z_goto (tgt := 1395) B dL_law_353 (by decide) ?_
  exact z_widen (Nat.le_of_ble_eq_true rfl) (Nat.le_of_ble_eq_true rfl) (z_sub _ [2, 6] rfl (kk _))
set_option maxRecDepth 100000 in
set_option maxHeartbeats 4000000 in
theorem lf_1_214 {p : Program} {l : Launch} {e : Env} {s : State} {m : MethodId} {args : Array Value} {below : List Frame} {meth : Method} {c : Code} {g : gx_T} {Q : State → Prop} {σ : sx_T} {b t bS : Nat} {xs : Nat → Int32} (hlt : l.stackTraces = false) (B : zx_B p s m args meth c code RL 8 g) (hX : va_X bS 6 xs s s.heap) (hbl : bS < s.heap.size) (hbA : ¬ gx_b g ≤ bS) (hF : fz_P b t σ) (h_x1 : xs 1 = 3) {x2 : Int32} (h_x2 : xs 2 = x2) (q1_x2 : (-2147483648 : Int) ≤ x2.toInt) (q2_x2 : x2.toInt ≤ (-1 : Int)) {x3 : Int32} (h_x3 : xs 3 = x3) (q1_x3 : (0 : Int) ≤ x3.toInt) (q2_x3 : x3.toInt ≤ (17 : Int)) {x4 : Int32} (h_x4 : xs 4 = x4) (q1_x4 : (0 : Int) ≤ x4.toInt) (q2_x4 : x4.toInt ≤ (99 : Int)) {x5 : Int32} (h_x5 : xs 5 = x5) (q1_x5 : (100 : Int) ≤ x5.toInt) (q2_x5 : x5.toInt ≤ (2147483647 : Int)) (kk : ∀ σ', zx p l e room_1 s m args below meth c g 8 600002 7302232 Q σ' 1395 [(4, .int 0), (0, .ref bS)] []) : zx p l e room_1 s m args below meth c g 8 500 100000 Q σ 252 [(4, .int 0), (3, .ref (b + 431)), (2, .ref (b + 405)), (1, .ref (b + 0)), (0, .ref bS)] [] := by
  have hK := fz_lay hF
  refine z_eqs (σ' := (ap b σ [] [] [])) rfl ?_
  refine z_aload_n B dL_law_252 rfl 3 rfl ?_
  refine z_aload_n B dL_law_253 rfl 4 rfl ?_
  refine z_iload B dL_law_254 0 rfl ?_
  refine z_iconst (v := 1) B dL_law_256 (by decide) ?_
  refine z_iadd B dL_law_257 ?_
  refine z_seti (y := 1) (by decide) ?_
  refine z_sld (j := 1) (x := 3) B hX hbl hbA (by decide) (show ¬ ((1 : Int32) < 0 ∨ 6 ≤ (1 : Int32).toNatClampNeg) by decide) h_x1 dL_law_258 ?_
  refine z_aload_n B dL_law_259 rfl 4 rfl ?_
  refine z_iload B dL_law_260 0 rfl ?_
  refine z_iconst (v := 2) B dL_law_262 (by decide) ?_
  refine z_iadd B dL_law_263 ?_
  refine z_seti (y := 2) (by decide) ?_
  refine z_sld (j := 2) (x := x2) B hX hbl hbA (by decide) (show ¬ ((2 : Int32) < 0 ∨ 6 ≤ (2 : Int32).toNatClampNeg) by decide) h_x2 dL_law_264 ?_
  refine z_aload_n B dL_law_265 rfl 4 rfl ?_
  refine z_iload B dL_law_266 0 rfl ?_
  refine z_iconst (v := 3) B dL_law_268 (by decide) ?_
  refine z_iadd B dL_law_269 ?_
  refine z_seti (y := 3) (by decide) ?_
  refine z_sld (j := 3) (x := x3) B hX hbl hbA (by decide) (show ¬ ((3 : Int32) < 0 ∨ 6 ≤ (3 : Int32).toNatClampNeg) by decide) h_x3 dL_law_270 ?_
  refine z_aload_n B dL_law_271 rfl 4 rfl ?_
  refine z_iload B dL_law_272 0 rfl ?_
  refine z_iconst (v := 4) B dL_law_274 (by decide) ?_
  refine z_iadd B dL_law_275 ?_
  refine z_seti (y := 4) (by decide) ?_
  refine z_sld (j := 4) (x := x4) B hX hbl hbA (by decide) (show ¬ ((4 : Int32) < 0 ∨ 6 ≤ (4 : Int32).toNatClampNeg) by decide) h_x4 dL_law_276 ?_
  refine z_aload_n B dL_law_277 rfl 4 rfl ?_
  refine z_iload B dL_law_278 0 rfl ?_
  refine z_iconst (v := 5) B dL_law_280 (by decide) ?_
  refine z_iadd B dL_law_281 ?_
  refine z_seti (y := 5) (by decide) ?_
  refine z_sld (j := 5) (x := x5) B hX hbl hbA (by decide) (show ¬ ((5 : Int32) < 0 ∨ 6 ≤ (5 : Int32).toNatClampNeg) by decide) h_x5 dL_law_282 ?_
  refine z_aload_n B dL_law_283 rfl 1 rfl ?_
  refine z_cSWi (As := [.ref (b + 0), .int 3, .int x2, .int x3, .int x4, .int x5, .ref (b + 431)]) (rest := []) B cw_L_84 dL_law_284 (ci_L_check_515 l hlt (σ := (ap b σ [] [] [])) (b := b) (lyA hK) x2 x3 x4 x5 q1_x2 q2_x2 (rR_at 0 0 (fz_R hF 0 0 rfl rfl)) (rR_at 1 3 (fz_R hF 1 3 rfl rfl))) rfl (by decide) rfl (Nat.le_of_ble_eq_true rfl) (by decide) (fun r u hu => ?_)
  obtain ⟨hu1, z, hu⟩ := hu
  refine z_eqs (σ' := (ap b (wx_Z σ z) [] [] [])) (hu.trans az_ap) ?_
  show zx p l e _ s m _ below meth c g 8 _ _ _ _ 287 [(4, .int 0), (3, .ref (b + 431)), (2, .ref (b + 405)), (1, .ref (b + 0)), (0, .ref bS)] _
  refine z_seti (y := 1) hu1 ?_
  refine z_istore (lv' := [(5, .int 1), (4, .int 0), (3, .ref (b + 431)), (2, .ref (b + 405)), (1, .ref (b + 0)), (0, .ref bS)]) B dL_law_287 (by decide) rfl ?_
  refine z_aload_n B dL_law_289 rfl 3 rfl ?_
  refine z_aload_n B dL_law_290 rfl 5 rfl ?_
  refine z_iload B dL_law_291 1 rfl ?_
  refine z_iconst (v := 1) B dL_law_293 (by decide) ?_
  refine z_iadd B dL_law_294 ?_
  refine z_seti (y := 1) (by decide) ?_
  refine z_sld (j := 1) (x := 3) B hX hbl hbA (by decide) (show ¬ ((1 : Int32) < 0 ∨ 6 ≤ (1 : Int32).toNatClampNeg) by decide) h_x1 dL_law_295 ?_
  refine z_aload_n B dL_law_296 rfl 5 rfl ?_
  refine z_iload B dL_law_297 1 rfl ?_
  refine z_iconst (v := 2) B dL_law_299 (by decide) ?_
  refine z_iadd B dL_law_300 ?_
  refine z_seti (y := 2) (by decide) ?_
  refine z_sld (j := 2) (x := x2) B hX hbl hbA (by decide) (show ¬ ((2 : Int32) < 0 ∨ 6 ≤ (2 : Int32).toNatClampNeg) by decide) h_x2 dL_law_301 ?_
  refine z_aload_n B dL_law_302 rfl 5 rfl ?_
  refine z_iload B dL_law_303 1 rfl ?_
  refine z_iconst (v := 3) B dL_law_305 (by decide) ?_
  refine z_iadd B dL_law_306 ?_
  refine z_seti (y := 3) (by decide) ?_
  refine z_sld (j := 3) (x := x3) B hX hbl hbA (by decide) (show ¬ ((3 : Int32) < 0 ∨ 6 ≤ (3 : Int32).toNatClampNeg) by decide) h_x3 dL_law_307 ?_
  refine z_aload_n B dL_law_308 rfl 5 rfl ?_
  refine z_iload B dL_law_309 1 rfl ?_
  refine z_iconst (v := 4) B dL_law_311 (by decide) ?_
  refine z_iadd B dL_law_312 ?_
  refine z_seti (y := 4) (by decide) ?_
  refine z_sld (j := 4) (x := x4) B hX hbl hbA (by decide) (show ¬ ((4 : Int32) < 0 ∨ 6 ≤ (4 : Int32).toNatClampNeg) by decide) h_x4 dL_law_313 ?_
  refine z_aload_n B dL_law_314 rfl 5 rfl ?_
  refine z_iload B dL_law_315 1 rfl ?_
  refine z_iconst (v := 5) B dL_law_317 (by decide) ?_
  refine z_iadd B dL_law_318 ?_
  refine z_seti (y := 5) (by decide) ?_
  refine z_sld (j := 5) (x := x5) B hX hbl hbA (by decide) (show ¬ ((5 : Int32) < 0 ∨ 6 ≤ (5 : Int32).toNatClampNeg) by decide) h_x5 dL_law_319 ?_
  refine z_cVi (As := [.int 3, .int x2, .int x3, .int x4, .int x5]) (rest := []) B cw_L_86 cx_10 dL_law_320 (ci_X9_check_520 l (σ := (ap b (wx_Z σ z) [] [] [])) (b := b) (lyA (lyZ hK)) x2 x3 x4 x5 q1_x2 q2_x2 q1_x3 q2_x3 q1_x4 q2_x4 q1_x5 q2_x5) (lKA (lKZ (hk_K hK 405 rfl rfl))) rfl (by decide) rfl (Nat.le_of_ble_eq_true rfl) (by decide) (fun r u hu => ?_)
  refine z_eqs (σ' := (ap b (wx_Z σ z) [(405, 0, 1)] [] [])) (hu.2.trans ap_ap) ?_
  show zx p l e _ s m _ below meth c g 8 _ _ _ _ 323 [(5, .int 1), (4, .int 0), (3, .ref (b + 431)), (2, .ref (b + 405)), (1, .ref (b + 0)), (0, .ref bS)] _
  refine z_seti (y := 0) hu.1 ?_
  refine z_istore (lv' := [(6, .int 0), (5, .int 1), (4, .int 0), (3, .ref (b + 431)), (2, .ref (b + 405)), (1, .ref (b + 0)), (0, .ref bS)]) B dL_law_323 (by decide) rfl ?_
  refine z_aload_n B dL_law_325 rfl 4 rfl ?_
  refine z_cVi (As := []) (rest := []) B cw_L_80 cx_10 dL_law_326 (ci_X9_thrown_31 l (σ := (ap b (wx_Z σ z) [(405, 0, 1)] [] [])) (b := b) (lyA (lyZ hK)) (rI_at 405 0 rfl)) (lKA (lKZ (hk_K hK 405 rfl rfl))) rfl (by decide) rfl (Nat.le_of_ble_eq_true rfl) (by decide) (fun r u hu => ?_)
  refine z_eqs (σ' := (ap b (wx_Z σ z) [(405, 0, 1)] [] [])) hu.2 ?_
  show zx p l e _ s m _ below meth c g 8 _ _ _ _ 329 [(6, .int 0), (5, .int 1), (4, .int 0), (3, .ref (b + 431)), (2, .ref (b + 405)), (1, .ref (b + 0)), (0, .ref bS)] _
  refine z_seti (y := 1) hu.1 ?_
  refine z_iload B dL_law_329 1 rfl ?_
  refine z_icmp_eq (tgt := 336) B dL_law_331 (by decide) (fun _ => ?_) (fun h => absurd (by decide) h)
  refine z_iload B dL_law_336 1 rfl ?_
  refine z_if_ne (tgt := 353) B dL_law_338 (by decide) (fun _ => ?_) (fun h => absurd h (by decide))
  refine z_goto (tgt := 1395) B dL_law_353 (by decide) ?_
  exact z_widen (Nat.le_of_ble_eq_true rfl) (Nat.le_of_ble_eq_true rfl) (z_sub _ [2, 6] rfl (kk _))
set_option maxRecDepth 100000 in
set_option maxHeartbeats 4000000 in
theorem lf_1_215 {p : Program} {l : Launch} {e : Env} {s : State} {m : MethodId} {args : Array Value} {below : List Frame} {meth : Method} {c : Code} {g : gx_T} {Q : State → Prop} {σ : sx_T} {b t bS : Nat} {xs : Nat → Int32} (hlt : l.stackTraces = false) (B : zx_B p s m args meth c code RL 8 g) (hX : va_X bS 6 xs s s.heap) (hbl : bS < s.heap.size) (hbA : ¬ gx_b g ≤ bS) (hF : fz_P b t σ) (h_x1 : xs 1 = 3) {x2 : Int32} (h_x2 : xs 2 = x2) (q1_x2 : (-2147483648 : Int) ≤ x2.toInt) (q2_x2 : x2.toInt ≤ (-1 : Int)) {x3 : Int32} (h_x3 : xs 3 = x3) (q1_x3 : (0 : Int) ≤ x3.toInt) (q2_x3 : x3.toInt ≤ (17 : Int)) {x4 : Int32} (h_x4 : xs 4 = x4) (q1_x4 : (100 : Int) ≤ x4.toInt) (q2_x4 : x4.toInt ≤ (2147483647 : Int)) {x5 : Int32} (h_x5 : xs 5 = x5) (q1_x5 : (-2147483648 : Int) ≤ x5.toInt) (q2_x5 : x5.toInt ≤ (2147483647 : Int)) (kk : ∀ σ', zx p l e room_1 s m args below meth c g 8 600002 7302232 Q σ' 1395 [(4, .int 0), (0, .ref bS)] []) : zx p l e room_1 s m args below meth c g 8 500 100000 Q σ 252 [(4, .int 0), (3, .ref (b + 431)), (2, .ref (b + 405)), (1, .ref (b + 0)), (0, .ref bS)] [] := by
  have hK := fz_lay hF
  refine z_eqs (σ' := (ap b σ [] [] [])) rfl ?_
  refine z_aload_n B dL_law_252 rfl 3 rfl ?_
  refine z_aload_n B dL_law_253 rfl 4 rfl ?_
  refine z_iload B dL_law_254 0 rfl ?_
  refine z_iconst (v := 1) B dL_law_256 (by decide) ?_
  refine z_iadd B dL_law_257 ?_
  refine z_seti (y := 1) (by decide) ?_
  refine z_sld (j := 1) (x := 3) B hX hbl hbA (by decide) (show ¬ ((1 : Int32) < 0 ∨ 6 ≤ (1 : Int32).toNatClampNeg) by decide) h_x1 dL_law_258 ?_
  refine z_aload_n B dL_law_259 rfl 4 rfl ?_
  refine z_iload B dL_law_260 0 rfl ?_
  refine z_iconst (v := 2) B dL_law_262 (by decide) ?_
  refine z_iadd B dL_law_263 ?_
  refine z_seti (y := 2) (by decide) ?_
  refine z_sld (j := 2) (x := x2) B hX hbl hbA (by decide) (show ¬ ((2 : Int32) < 0 ∨ 6 ≤ (2 : Int32).toNatClampNeg) by decide) h_x2 dL_law_264 ?_
  refine z_aload_n B dL_law_265 rfl 4 rfl ?_
  refine z_iload B dL_law_266 0 rfl ?_
  refine z_iconst (v := 3) B dL_law_268 (by decide) ?_
  refine z_iadd B dL_law_269 ?_
  refine z_seti (y := 3) (by decide) ?_
  refine z_sld (j := 3) (x := x3) B hX hbl hbA (by decide) (show ¬ ((3 : Int32) < 0 ∨ 6 ≤ (3 : Int32).toNatClampNeg) by decide) h_x3 dL_law_270 ?_
  refine z_aload_n B dL_law_271 rfl 4 rfl ?_
  refine z_iload B dL_law_272 0 rfl ?_
  refine z_iconst (v := 4) B dL_law_274 (by decide) ?_
  refine z_iadd B dL_law_275 ?_
  refine z_seti (y := 4) (by decide) ?_
  refine z_sld (j := 4) (x := x4) B hX hbl hbA (by decide) (show ¬ ((4 : Int32) < 0 ∨ 6 ≤ (4 : Int32).toNatClampNeg) by decide) h_x4 dL_law_276 ?_
  refine z_aload_n B dL_law_277 rfl 4 rfl ?_
  refine z_iload B dL_law_278 0 rfl ?_
  refine z_iconst (v := 5) B dL_law_280 (by decide) ?_
  refine z_iadd B dL_law_281 ?_
  refine z_seti (y := 5) (by decide) ?_
  refine z_sld (j := 5) (x := x5) B hX hbl hbA (by decide) (show ¬ ((5 : Int32) < 0 ∨ 6 ≤ (5 : Int32).toNatClampNeg) by decide) h_x5 dL_law_282 ?_
  refine z_aload_n B dL_law_283 rfl 1 rfl ?_
  refine z_cSWi (As := [.ref (b + 0), .int 3, .int x2, .int x3, .int x4, .int x5, .ref (b + 431)]) (rest := []) B cw_L_84 dL_law_284 (ci_L_check_515 l hlt (σ := (ap b σ [] [] [])) (b := b) (lyA hK) x2 x3 x4 x5 q1_x2 q2_x2 (rR_at 0 0 (fz_R hF 0 0 rfl rfl)) (rR_at 1 3 (fz_R hF 1 3 rfl rfl))) rfl (by decide) rfl (Nat.le_of_ble_eq_true rfl) (by decide) (fun r u hu => ?_)
  obtain ⟨hu1, z, hu⟩ := hu
  refine z_eqs (σ' := (ap b (wx_Z σ z) [] [] [])) (hu.trans az_ap) ?_
  show zx p l e _ s m _ below meth c g 8 _ _ _ _ 287 [(4, .int 0), (3, .ref (b + 431)), (2, .ref (b + 405)), (1, .ref (b + 0)), (0, .ref bS)] _
  refine z_seti (y := 1) hu1 ?_
  refine z_istore (lv' := [(5, .int 1), (4, .int 0), (3, .ref (b + 431)), (2, .ref (b + 405)), (1, .ref (b + 0)), (0, .ref bS)]) B dL_law_287 (by decide) rfl ?_
  refine z_aload_n B dL_law_289 rfl 3 rfl ?_
  refine z_aload_n B dL_law_290 rfl 5 rfl ?_
  refine z_iload B dL_law_291 1 rfl ?_
  refine z_iconst (v := 1) B dL_law_293 (by decide) ?_
  refine z_iadd B dL_law_294 ?_
  refine z_seti (y := 1) (by decide) ?_
  refine z_sld (j := 1) (x := 3) B hX hbl hbA (by decide) (show ¬ ((1 : Int32) < 0 ∨ 6 ≤ (1 : Int32).toNatClampNeg) by decide) h_x1 dL_law_295 ?_
  refine z_aload_n B dL_law_296 rfl 5 rfl ?_
  refine z_iload B dL_law_297 1 rfl ?_
  refine z_iconst (v := 2) B dL_law_299 (by decide) ?_
  refine z_iadd B dL_law_300 ?_
  refine z_seti (y := 2) (by decide) ?_
  refine z_sld (j := 2) (x := x2) B hX hbl hbA (by decide) (show ¬ ((2 : Int32) < 0 ∨ 6 ≤ (2 : Int32).toNatClampNeg) by decide) h_x2 dL_law_301 ?_
  refine z_aload_n B dL_law_302 rfl 5 rfl ?_
  refine z_iload B dL_law_303 1 rfl ?_
  refine z_iconst (v := 3) B dL_law_305 (by decide) ?_
  refine z_iadd B dL_law_306 ?_
  refine z_seti (y := 3) (by decide) ?_
  refine z_sld (j := 3) (x := x3) B hX hbl hbA (by decide) (show ¬ ((3 : Int32) < 0 ∨ 6 ≤ (3 : Int32).toNatClampNeg) by decide) h_x3 dL_law_307 ?_
  refine z_aload_n B dL_law_308 rfl 5 rfl ?_
  refine z_iload B dL_law_309 1 rfl ?_
  refine z_iconst (v := 4) B dL_law_311 (by decide) ?_
  refine z_iadd B dL_law_312 ?_
  refine z_seti (y := 4) (by decide) ?_
  refine z_sld (j := 4) (x := x4) B hX hbl hbA (by decide) (show ¬ ((4 : Int32) < 0 ∨ 6 ≤ (4 : Int32).toNatClampNeg) by decide) h_x4 dL_law_313 ?_
  refine z_aload_n B dL_law_314 rfl 5 rfl ?_
  refine z_iload B dL_law_315 1 rfl ?_
  refine z_iconst (v := 5) B dL_law_317 (by decide) ?_
  refine z_iadd B dL_law_318 ?_
  refine z_seti (y := 5) (by decide) ?_
  refine z_sld (j := 5) (x := x5) B hX hbl hbA (by decide) (show ¬ ((5 : Int32) < 0 ∨ 6 ≤ (5 : Int32).toNatClampNeg) by decide) h_x5 dL_law_319 ?_
  refine z_cVi (As := [.int 3, .int x2, .int x3, .int x4, .int x5]) (rest := []) B cw_L_86 cx_10 dL_law_320 (ci_X9_check_521 l (σ := (ap b (wx_Z σ z) [] [] [])) (b := b) (lyA (lyZ hK)) x2 x3 x4 x5 q1_x2 q2_x2 q1_x3 q2_x3 q1_x4 q2_x4) (lKA (lKZ (hk_K hK 405 rfl rfl))) rfl (by decide) rfl (Nat.le_of_ble_eq_true rfl) (by decide) (fun r u hu => ?_)
  refine z_eqs (σ' := (ap b (wx_Z σ z) [(405, 0, 1)] [] [])) (hu.2.trans ap_ap) ?_
  show zx p l e _ s m _ below meth c g 8 _ _ _ _ 323 [(5, .int 1), (4, .int 0), (3, .ref (b + 431)), (2, .ref (b + 405)), (1, .ref (b + 0)), (0, .ref bS)] _
  refine z_seti (y := 0) hu.1 ?_
  refine z_istore (lv' := [(6, .int 0), (5, .int 1), (4, .int 0), (3, .ref (b + 431)), (2, .ref (b + 405)), (1, .ref (b + 0)), (0, .ref bS)]) B dL_law_323 (by decide) rfl ?_
  refine z_aload_n B dL_law_325 rfl 4 rfl ?_
  refine z_cVi (As := []) (rest := []) B cw_L_80 cx_10 dL_law_326 (ci_X9_thrown_31 l (σ := (ap b (wx_Z σ z) [(405, 0, 1)] [] [])) (b := b) (lyA (lyZ hK)) (rI_at 405 0 rfl)) (lKA (lKZ (hk_K hK 405 rfl rfl))) rfl (by decide) rfl (Nat.le_of_ble_eq_true rfl) (by decide) (fun r u hu => ?_)
  refine z_eqs (σ' := (ap b (wx_Z σ z) [(405, 0, 1)] [] [])) hu.2 ?_
  show zx p l e _ s m _ below meth c g 8 _ _ _ _ 329 [(6, .int 0), (5, .int 1), (4, .int 0), (3, .ref (b + 431)), (2, .ref (b + 405)), (1, .ref (b + 0)), (0, .ref bS)] _
  refine z_seti (y := 1) hu.1 ?_
  refine z_iload B dL_law_329 1 rfl ?_
  refine z_icmp_eq (tgt := 336) B dL_law_331 (by decide) (fun _ => ?_) (fun h => absurd (by decide) h)
  refine z_iload B dL_law_336 1 rfl ?_
  refine z_if_ne (tgt := 353) B dL_law_338 (by decide) (fun _ => ?_) (fun h => absurd h (by decide))
  refine z_goto (tgt := 1395) B dL_law_353 (by decide) ?_
  exact z_widen (Nat.le_of_ble_eq_true rfl) (Nat.le_of_ble_eq_true rfl) (z_sub _ [2, 6] rfl (kk _))
set_option maxRecDepth 100000 in
set_option maxHeartbeats 4000000 in
theorem lf_1_216 {p : Program} {l : Launch} {e : Env} {s : State} {m : MethodId} {args : Array Value} {below : List Frame} {meth : Method} {c : Code} {g : gx_T} {Q : State → Prop} {σ : sx_T} {b t bS : Nat} {xs : Nat → Int32} (hlt : l.stackTraces = false) (B : zx_B p s m args meth c code RL 8 g) (hX : va_X bS 6 xs s s.heap) (hbl : bS < s.heap.size) (hbA : ¬ gx_b g ≤ bS) (hF : fz_P b t σ) (h_x1 : xs 1 = 3) {x2 : Int32} (h_x2 : xs 2 = x2) (q1_x2 : (-2147483648 : Int) ≤ x2.toInt) (q2_x2 : x2.toInt ≤ (-1 : Int)) {x3 : Int32} (h_x3 : xs 3 = x3) (q1_x3 : (18 : Int) ≤ x3.toInt) (q2_x3 : x3.toInt ≤ (2147483647 : Int)) {x4 : Int32} (h_x4 : xs 4 = x4) (q1_x4 : (-2147483648 : Int) ≤ x4.toInt) (q2_x4 : x4.toInt ≤ (2147483647 : Int)) {x5 : Int32} (h_x5 : xs 5 = x5) (q1_x5 : (-2147483648 : Int) ≤ x5.toInt) (q2_x5 : x5.toInt ≤ (2147483647 : Int)) (kk : ∀ σ', zx p l e room_1 s m args below meth c g 8 600002 7302232 Q σ' 1395 [(4, .int 0), (0, .ref bS)] []) : zx p l e room_1 s m args below meth c g 8 500 100000 Q σ 252 [(4, .int 0), (3, .ref (b + 431)), (2, .ref (b + 405)), (1, .ref (b + 0)), (0, .ref bS)] [] := by
  have hK := fz_lay hF
  refine z_eqs (σ' := (ap b σ [] [] [])) rfl ?_
  refine z_aload_n B dL_law_252 rfl 3 rfl ?_
  refine z_aload_n B dL_law_253 rfl 4 rfl ?_
  refine z_iload B dL_law_254 0 rfl ?_
  refine z_iconst (v := 1) B dL_law_256 (by decide) ?_
  refine z_iadd B dL_law_257 ?_
  refine z_seti (y := 1) (by decide) ?_
  refine z_sld (j := 1) (x := 3) B hX hbl hbA (by decide) (show ¬ ((1 : Int32) < 0 ∨ 6 ≤ (1 : Int32).toNatClampNeg) by decide) h_x1 dL_law_258 ?_
  refine z_aload_n B dL_law_259 rfl 4 rfl ?_
  refine z_iload B dL_law_260 0 rfl ?_
  refine z_iconst (v := 2) B dL_law_262 (by decide) ?_
  refine z_iadd B dL_law_263 ?_
  refine z_seti (y := 2) (by decide) ?_
  refine z_sld (j := 2) (x := x2) B hX hbl hbA (by decide) (show ¬ ((2 : Int32) < 0 ∨ 6 ≤ (2 : Int32).toNatClampNeg) by decide) h_x2 dL_law_264 ?_
  refine z_aload_n B dL_law_265 rfl 4 rfl ?_
  refine z_iload B dL_law_266 0 rfl ?_
  refine z_iconst (v := 3) B dL_law_268 (by decide) ?_
  refine z_iadd B dL_law_269 ?_
  refine z_seti (y := 3) (by decide) ?_
  refine z_sld (j := 3) (x := x3) B hX hbl hbA (by decide) (show ¬ ((3 : Int32) < 0 ∨ 6 ≤ (3 : Int32).toNatClampNeg) by decide) h_x3 dL_law_270 ?_
  refine z_aload_n B dL_law_271 rfl 4 rfl ?_
  refine z_iload B dL_law_272 0 rfl ?_
  refine z_iconst (v := 4) B dL_law_274 (by decide) ?_
  refine z_iadd B dL_law_275 ?_
  refine z_seti (y := 4) (by decide) ?_
  refine z_sld (j := 4) (x := x4) B hX hbl hbA (by decide) (show ¬ ((4 : Int32) < 0 ∨ 6 ≤ (4 : Int32).toNatClampNeg) by decide) h_x4 dL_law_276 ?_
  refine z_aload_n B dL_law_277 rfl 4 rfl ?_
  refine z_iload B dL_law_278 0 rfl ?_
  refine z_iconst (v := 5) B dL_law_280 (by decide) ?_
  refine z_iadd B dL_law_281 ?_
  refine z_seti (y := 5) (by decide) ?_
  refine z_sld (j := 5) (x := x5) B hX hbl hbA (by decide) (show ¬ ((5 : Int32) < 0 ∨ 6 ≤ (5 : Int32).toNatClampNeg) by decide) h_x5 dL_law_282 ?_
  refine z_aload_n B dL_law_283 rfl 1 rfl ?_
  refine z_cSWi (As := [.ref (b + 0), .int 3, .int x2, .int x3, .int x4, .int x5, .ref (b + 431)]) (rest := []) B cw_L_84 dL_law_284 (ci_L_check_515 l hlt (σ := (ap b σ [] [] [])) (b := b) (lyA hK) x2 x3 x4 x5 q1_x2 q2_x2 (rR_at 0 0 (fz_R hF 0 0 rfl rfl)) (rR_at 1 3 (fz_R hF 1 3 rfl rfl))) rfl (by decide) rfl (Nat.le_of_ble_eq_true rfl) (by decide) (fun r u hu => ?_)
  obtain ⟨hu1, z, hu⟩ := hu
  refine z_eqs (σ' := (ap b (wx_Z σ z) [] [] [])) (hu.trans az_ap) ?_
  show zx p l e _ s m _ below meth c g 8 _ _ _ _ 287 [(4, .int 0), (3, .ref (b + 431)), (2, .ref (b + 405)), (1, .ref (b + 0)), (0, .ref bS)] _
  refine z_seti (y := 1) hu1 ?_
  refine z_istore (lv' := [(5, .int 1), (4, .int 0), (3, .ref (b + 431)), (2, .ref (b + 405)), (1, .ref (b + 0)), (0, .ref bS)]) B dL_law_287 (by decide) rfl ?_
  refine z_aload_n B dL_law_289 rfl 3 rfl ?_
  refine z_aload_n B dL_law_290 rfl 5 rfl ?_
  refine z_iload B dL_law_291 1 rfl ?_
  refine z_iconst (v := 1) B dL_law_293 (by decide) ?_
  refine z_iadd B dL_law_294 ?_
  refine z_seti (y := 1) (by decide) ?_
  refine z_sld (j := 1) (x := 3) B hX hbl hbA (by decide) (show ¬ ((1 : Int32) < 0 ∨ 6 ≤ (1 : Int32).toNatClampNeg) by decide) h_x1 dL_law_295 ?_
  refine z_aload_n B dL_law_296 rfl 5 rfl ?_
  refine z_iload B dL_law_297 1 rfl ?_
  refine z_iconst (v := 2) B dL_law_299 (by decide) ?_
  refine z_iadd B dL_law_300 ?_
  refine z_seti (y := 2) (by decide) ?_
  refine z_sld (j := 2) (x := x2) B hX hbl hbA (by decide) (show ¬ ((2 : Int32) < 0 ∨ 6 ≤ (2 : Int32).toNatClampNeg) by decide) h_x2 dL_law_301 ?_
  refine z_aload_n B dL_law_302 rfl 5 rfl ?_
  refine z_iload B dL_law_303 1 rfl ?_
  refine z_iconst (v := 3) B dL_law_305 (by decide) ?_
  refine z_iadd B dL_law_306 ?_
  refine z_seti (y := 3) (by decide) ?_
  refine z_sld (j := 3) (x := x3) B hX hbl hbA (by decide) (show ¬ ((3 : Int32) < 0 ∨ 6 ≤ (3 : Int32).toNatClampNeg) by decide) h_x3 dL_law_307 ?_
  refine z_aload_n B dL_law_308 rfl 5 rfl ?_
  refine z_iload B dL_law_309 1 rfl ?_
  refine z_iconst (v := 4) B dL_law_311 (by decide) ?_
  refine z_iadd B dL_law_312 ?_
  refine z_seti (y := 4) (by decide) ?_
  refine z_sld (j := 4) (x := x4) B hX hbl hbA (by decide) (show ¬ ((4 : Int32) < 0 ∨ 6 ≤ (4 : Int32).toNatClampNeg) by decide) h_x4 dL_law_313 ?_
  refine z_aload_n B dL_law_314 rfl 5 rfl ?_
  refine z_iload B dL_law_315 1 rfl ?_
  refine z_iconst (v := 5) B dL_law_317 (by decide) ?_
  refine z_iadd B dL_law_318 ?_
  refine z_seti (y := 5) (by decide) ?_
  refine z_sld (j := 5) (x := x5) B hX hbl hbA (by decide) (show ¬ ((5 : Int32) < 0 ∨ 6 ≤ (5 : Int32).toNatClampNeg) by decide) h_x5 dL_law_319 ?_
  refine z_cVi (As := [.int 3, .int x2, .int x3, .int x4, .int x5]) (rest := []) B cw_L_86 cx_10 dL_law_320 (ci_X9_check_522 l (σ := (ap b (wx_Z σ z) [] [] [])) (b := b) (lyA (lyZ hK)) x2 x3 x4 x5 q1_x2 q2_x2 q1_x3 q2_x3) (lKA (lKZ (hk_K hK 405 rfl rfl))) rfl (by decide) rfl (Nat.le_of_ble_eq_true rfl) (by decide) (fun r u hu => ?_)
  refine z_eqs (σ' := (ap b (wx_Z σ z) [(405, 0, 1)] [] [])) (hu.2.trans ap_ap) ?_
  show zx p l e _ s m _ below meth c g 8 _ _ _ _ 323 [(5, .int 1), (4, .int 0), (3, .ref (b + 431)), (2, .ref (b + 405)), (1, .ref (b + 0)), (0, .ref bS)] _
  refine z_seti (y := 0) hu.1 ?_
  refine z_istore (lv' := [(6, .int 0), (5, .int 1), (4, .int 0), (3, .ref (b + 431)), (2, .ref (b + 405)), (1, .ref (b + 0)), (0, .ref bS)]) B dL_law_323 (by decide) rfl ?_
  refine z_aload_n B dL_law_325 rfl 4 rfl ?_
  refine z_cVi (As := []) (rest := []) B cw_L_80 cx_10 dL_law_326 (ci_X9_thrown_31 l (σ := (ap b (wx_Z σ z) [(405, 0, 1)] [] [])) (b := b) (lyA (lyZ hK)) (rI_at 405 0 rfl)) (lKA (lKZ (hk_K hK 405 rfl rfl))) rfl (by decide) rfl (Nat.le_of_ble_eq_true rfl) (by decide) (fun r u hu => ?_)
  refine z_eqs (σ' := (ap b (wx_Z σ z) [(405, 0, 1)] [] [])) hu.2 ?_
  show zx p l e _ s m _ below meth c g 8 _ _ _ _ 329 [(6, .int 0), (5, .int 1), (4, .int 0), (3, .ref (b + 431)), (2, .ref (b + 405)), (1, .ref (b + 0)), (0, .ref bS)] _
  refine z_seti (y := 1) hu.1 ?_
  refine z_iload B dL_law_329 1 rfl ?_
  refine z_icmp_eq (tgt := 336) B dL_law_331 (by decide) (fun _ => ?_) (fun h => absurd (by decide) h)
  refine z_iload B dL_law_336 1 rfl ?_
  refine z_if_ne (tgt := 353) B dL_law_338 (by decide) (fun _ => ?_) (fun h => absurd h (by decide))
  refine z_goto (tgt := 1395) B dL_law_353 (by decide) ?_
  exact z_widen (Nat.le_of_ble_eq_true rfl) (Nat.le_of_ble_eq_true rfl) (z_sub _ [2, 6] rfl (kk _))
set_option maxRecDepth 100000 in
set_option maxHeartbeats 4000000 in
theorem lf_1_217 {p : Program} {l : Launch} {e : Env} {s : State} {m : MethodId} {args : Array Value} {below : List Frame} {meth : Method} {c : Code} {g : gx_T} {Q : State → Prop} {σ : sx_T} {b t bS : Nat} {xs : Nat → Int32} (hlt : l.stackTraces = false) (B : zx_B p s m args meth c code RL 8 g) (hX : va_X bS 6 xs s s.heap) (hbl : bS < s.heap.size) (hbA : ¬ gx_b g ≤ bS) (hF : fz_P b t σ) (h_x1 : xs 1 = 3) {x2 : Int32} (h_x2 : xs 2 = x2) (q1_x2 : (0 : Int) ≤ x2.toInt) (q2_x2 : x2.toInt ≤ (19 : Int)) {x3 : Int32} (h_x3 : xs 3 = x3) (q1_x3 : (-2147483648 : Int) ≤ x3.toInt) (q2_x3 : x3.toInt ≤ (-1 : Int)) {x4 : Int32} (h_x4 : xs 4 = x4) (q1_x4 : (-2147483648 : Int) ≤ x4.toInt) (q2_x4 : x4.toInt ≤ (2147483647 : Int)) {x5 : Int32} (h_x5 : xs 5 = x5) (q1_x5 : (-2147483648 : Int) ≤ x5.toInt) (q2_x5 : x5.toInt ≤ (2147483647 : Int)) (kk : ∀ σ', zx p l e room_1 s m args below meth c g 8 600002 7302232 Q σ' 1395 [(4, .int 0), (0, .ref bS)] []) : zx p l e room_1 s m args below meth c g 8 500 100000 Q σ 252 [(4, .int 0), (3, .ref (b + 431)), (2, .ref (b + 405)), (1, .ref (b + 0)), (0, .ref bS)] [] := by
  have hK := fz_lay hF
  refine z_eqs (σ' := (ap b σ [] [] [])) rfl ?_
  refine z_aload_n B dL_law_252 rfl 3 rfl ?_
  refine z_aload_n B dL_law_253 rfl 4 rfl ?_
  refine z_iload B dL_law_254 0 rfl ?_
  refine z_iconst (v := 1) B dL_law_256 (by decide) ?_
  refine z_iadd B dL_law_257 ?_
  refine z_seti (y := 1) (by decide) ?_
  refine z_sld (j := 1) (x := 3) B hX hbl hbA (by decide) (show ¬ ((1 : Int32) < 0 ∨ 6 ≤ (1 : Int32).toNatClampNeg) by decide) h_x1 dL_law_258 ?_
  refine z_aload_n B dL_law_259 rfl 4 rfl ?_
  refine z_iload B dL_law_260 0 rfl ?_
  refine z_iconst (v := 2) B dL_law_262 (by decide) ?_
  refine z_iadd B dL_law_263 ?_
  refine z_seti (y := 2) (by decide) ?_
  refine z_sld (j := 2) (x := x2) B hX hbl hbA (by decide) (show ¬ ((2 : Int32) < 0 ∨ 6 ≤ (2 : Int32).toNatClampNeg) by decide) h_x2 dL_law_264 ?_
  refine z_aload_n B dL_law_265 rfl 4 rfl ?_
  refine z_iload B dL_law_266 0 rfl ?_
  refine z_iconst (v := 3) B dL_law_268 (by decide) ?_
  refine z_iadd B dL_law_269 ?_
  refine z_seti (y := 3) (by decide) ?_
  refine z_sld (j := 3) (x := x3) B hX hbl hbA (by decide) (show ¬ ((3 : Int32) < 0 ∨ 6 ≤ (3 : Int32).toNatClampNeg) by decide) h_x3 dL_law_270 ?_
  refine z_aload_n B dL_law_271 rfl 4 rfl ?_
  refine z_iload B dL_law_272 0 rfl ?_
  refine z_iconst (v := 4) B dL_law_274 (by decide) ?_
  refine z_iadd B dL_law_275 ?_
  refine z_seti (y := 4) (by decide) ?_
  refine z_sld (j := 4) (x := x4) B hX hbl hbA (by decide) (show ¬ ((4 : Int32) < 0 ∨ 6 ≤ (4 : Int32).toNatClampNeg) by decide) h_x4 dL_law_276 ?_
  refine z_aload_n B dL_law_277 rfl 4 rfl ?_
  refine z_iload B dL_law_278 0 rfl ?_
  refine z_iconst (v := 5) B dL_law_280 (by decide) ?_
  refine z_iadd B dL_law_281 ?_
  refine z_seti (y := 5) (by decide) ?_
  refine z_sld (j := 5) (x := x5) B hX hbl hbA (by decide) (show ¬ ((5 : Int32) < 0 ∨ 6 ≤ (5 : Int32).toNatClampNeg) by decide) h_x5 dL_law_282 ?_
  refine z_aload_n B dL_law_283 rfl 1 rfl ?_
  refine z_cSWi (As := [.ref (b + 0), .int 3, .int x2, .int x3, .int x4, .int x5, .ref (b + 431)]) (rest := []) B cw_L_84 dL_law_284 (ci_L_check_524 l hlt (σ := (ap b σ [] [] [])) (b := b) (lyA hK) x2 x3 x4 x5 q1_x2 q2_x2 q1_x3 q2_x3 (rR_at 0 0 (fz_R hF 0 0 rfl rfl)) (rR_at 1 3 (fz_R hF 1 3 rfl rfl))) rfl (by decide) rfl (Nat.le_of_ble_eq_true rfl) (by decide) (fun r u hu => ?_)
  obtain ⟨hu1, z, hu⟩ := hu
  refine z_eqs (σ' := (ap b (wx_Z σ z) [] [] [])) (hu.trans az_ap) ?_
  show zx p l e _ s m _ below meth c g 8 _ _ _ _ 287 [(4, .int 0), (3, .ref (b + 431)), (2, .ref (b + 405)), (1, .ref (b + 0)), (0, .ref bS)] _
  refine z_seti (y := 2) hu1 ?_
  refine z_istore (lv' := [(5, .int 2), (4, .int 0), (3, .ref (b + 431)), (2, .ref (b + 405)), (1, .ref (b + 0)), (0, .ref bS)]) B dL_law_287 (by decide) rfl ?_
  refine z_aload_n B dL_law_289 rfl 3 rfl ?_
  refine z_aload_n B dL_law_290 rfl 5 rfl ?_
  refine z_iload B dL_law_291 1 rfl ?_
  refine z_iconst (v := 1) B dL_law_293 (by decide) ?_
  refine z_iadd B dL_law_294 ?_
  refine z_seti (y := 1) (by decide) ?_
  refine z_sld (j := 1) (x := 3) B hX hbl hbA (by decide) (show ¬ ((1 : Int32) < 0 ∨ 6 ≤ (1 : Int32).toNatClampNeg) by decide) h_x1 dL_law_295 ?_
  refine z_aload_n B dL_law_296 rfl 5 rfl ?_
  refine z_iload B dL_law_297 1 rfl ?_
  refine z_iconst (v := 2) B dL_law_299 (by decide) ?_
  refine z_iadd B dL_law_300 ?_
  refine z_seti (y := 2) (by decide) ?_
  refine z_sld (j := 2) (x := x2) B hX hbl hbA (by decide) (show ¬ ((2 : Int32) < 0 ∨ 6 ≤ (2 : Int32).toNatClampNeg) by decide) h_x2 dL_law_301 ?_
  refine z_aload_n B dL_law_302 rfl 5 rfl ?_
  refine z_iload B dL_law_303 1 rfl ?_
  refine z_iconst (v := 3) B dL_law_305 (by decide) ?_
  refine z_iadd B dL_law_306 ?_
  refine z_seti (y := 3) (by decide) ?_
  refine z_sld (j := 3) (x := x3) B hX hbl hbA (by decide) (show ¬ ((3 : Int32) < 0 ∨ 6 ≤ (3 : Int32).toNatClampNeg) by decide) h_x3 dL_law_307 ?_
  refine z_aload_n B dL_law_308 rfl 5 rfl ?_
  refine z_iload B dL_law_309 1 rfl ?_
  refine z_iconst (v := 4) B dL_law_311 (by decide) ?_
  refine z_iadd B dL_law_312 ?_
  refine z_seti (y := 4) (by decide) ?_
  refine z_sld (j := 4) (x := x4) B hX hbl hbA (by decide) (show ¬ ((4 : Int32) < 0 ∨ 6 ≤ (4 : Int32).toNatClampNeg) by decide) h_x4 dL_law_313 ?_
  refine z_aload_n B dL_law_314 rfl 5 rfl ?_
  refine z_iload B dL_law_315 1 rfl ?_
  refine z_iconst (v := 5) B dL_law_317 (by decide) ?_
  refine z_iadd B dL_law_318 ?_
  refine z_seti (y := 5) (by decide) ?_
  refine z_sld (j := 5) (x := x5) B hX hbl hbA (by decide) (show ¬ ((5 : Int32) < 0 ∨ 6 ≤ (5 : Int32).toNatClampNeg) by decide) h_x5 dL_law_319 ?_
  refine z_cVi (As := [.int 3, .int x2, .int x3, .int x4, .int x5]) (rest := []) B cw_L_86 cx_10 dL_law_320 (ci_X9_check_525 l (σ := (ap b (wx_Z σ z) [] [] [])) (b := b) (lyA (lyZ hK)) x2 x3 x4 x5 q1_x2 q2_x2 q1_x3 q2_x3) (lKA (lKZ (hk_K hK 405 rfl rfl))) rfl (by decide) rfl (Nat.le_of_ble_eq_true rfl) (by decide) (fun r u hu => ?_)
  refine z_eqs (σ' := (ap b (wx_Z σ z) [(405, 0, 2)] [] [])) (hu.2.trans ap_ap) ?_
  show zx p l e _ s m _ below meth c g 8 _ _ _ _ 323 [(5, .int 2), (4, .int 0), (3, .ref (b + 431)), (2, .ref (b + 405)), (1, .ref (b + 0)), (0, .ref bS)] _
  refine z_seti (y := 0) hu.1 ?_
  refine z_istore (lv' := [(6, .int 0), (5, .int 2), (4, .int 0), (3, .ref (b + 431)), (2, .ref (b + 405)), (1, .ref (b + 0)), (0, .ref bS)]) B dL_law_323 (by decide) rfl ?_
  refine z_aload_n B dL_law_325 rfl 4 rfl ?_
  refine z_cVi (As := []) (rest := []) B cw_L_80 cx_10 dL_law_326 (ci_X9_thrown_73 l (σ := (ap b (wx_Z σ z) [(405, 0, 2)] [] [])) (b := b) (lyA (lyZ hK)) (rI_at 405 0 rfl)) (lKA (lKZ (hk_K hK 405 rfl rfl))) rfl (by decide) rfl (Nat.le_of_ble_eq_true rfl) (by decide) (fun r u hu => ?_)
  refine z_eqs (σ' := (ap b (wx_Z σ z) [(405, 0, 2)] [] [])) hu.2 ?_
  show zx p l e _ s m _ below meth c g 8 _ _ _ _ 329 [(6, .int 0), (5, .int 2), (4, .int 0), (3, .ref (b + 431)), (2, .ref (b + 405)), (1, .ref (b + 0)), (0, .ref bS)] _
  refine z_seti (y := 2) hu.1 ?_
  refine z_iload B dL_law_329 1 rfl ?_
  refine z_icmp_eq (tgt := 336) B dL_law_331 (by decide) (fun _ => ?_) (fun h => absurd (by decide) h)
  refine z_iload B dL_law_336 1 rfl ?_
  refine z_if_ne (tgt := 353) B dL_law_338 (by decide) (fun _ => ?_) (fun h => absurd h (by decide))
  refine z_goto (tgt := 1395) B dL_law_353 (by decide) ?_
  exact z_widen (Nat.le_of_ble_eq_true rfl) (Nat.le_of_ble_eq_true rfl) (z_sub _ [2, 6] rfl (kk _))
set_option maxRecDepth 100000 in
set_option maxHeartbeats 4000000 in
theorem lf_1_218 {p : Program} {l : Launch} {e : Env} {s : State} {m : MethodId} {args : Array Value} {below : List Frame} {meth : Method} {c : Code} {g : gx_T} {Q : State → Prop} {σ : sx_T} {b t bS : Nat} {xs : Nat → Int32} (hlt : l.stackTraces = false) (B : zx_B p s m args meth c code RL 8 g) (hX : va_X bS 6 xs s s.heap) (hbl : bS < s.heap.size) (hbA : ¬ gx_b g ≤ bS) (hF : fz_P b t σ) (h_x1 : xs 1 = 3) {x2 : Int32} (h_x2 : xs 2 = x2) (q1_x2 : (0 : Int) ≤ x2.toInt) (q2_x2 : x2.toInt ≤ (19 : Int)) {x3 : Int32} (h_x3 : xs 3 = x3) (q1_x3 : (0 : Int) ≤ x3.toInt) (q2_x3 : x3.toInt ≤ (17 : Int)) {x4 : Int32} (h_x4 : xs 4 = x4) (q1_x4 : (-2147483648 : Int) ≤ x4.toInt) (q2_x4 : x4.toInt ≤ (-1 : Int)) {x5 : Int32} (h_x5 : xs 5 = x5) (q1_x5 : (-2147483648 : Int) ≤ x5.toInt) (q2_x5 : x5.toInt ≤ (2147483647 : Int)) (kk : ∀ σ', zx p l e room_1 s m args below meth c g 8 600002 7302232 Q σ' 1395 [(4, .int 0), (0, .ref bS)] []) : zx p l e room_1 s m args below meth c g 8 500 100000 Q σ 252 [(4, .int 0), (3, .ref (b + 431)), (2, .ref (b + 405)), (1, .ref (b + 0)), (0, .ref bS)] [] := by
  have hK := fz_lay hF
  refine z_eqs (σ' := (ap b σ [] [] [])) rfl ?_
  refine z_aload_n B dL_law_252 rfl 3 rfl ?_
  refine z_aload_n B dL_law_253 rfl 4 rfl ?_
  refine z_iload B dL_law_254 0 rfl ?_
  refine z_iconst (v := 1) B dL_law_256 (by decide) ?_
  refine z_iadd B dL_law_257 ?_
  refine z_seti (y := 1) (by decide) ?_
  refine z_sld (j := 1) (x := 3) B hX hbl hbA (by decide) (show ¬ ((1 : Int32) < 0 ∨ 6 ≤ (1 : Int32).toNatClampNeg) by decide) h_x1 dL_law_258 ?_
  refine z_aload_n B dL_law_259 rfl 4 rfl ?_
  refine z_iload B dL_law_260 0 rfl ?_
  refine z_iconst (v := 2) B dL_law_262 (by decide) ?_
  refine z_iadd B dL_law_263 ?_
  refine z_seti (y := 2) (by decide) ?_
  refine z_sld (j := 2) (x := x2) B hX hbl hbA (by decide) (show ¬ ((2 : Int32) < 0 ∨ 6 ≤ (2 : Int32).toNatClampNeg) by decide) h_x2 dL_law_264 ?_
  refine z_aload_n B dL_law_265 rfl 4 rfl ?_
  refine z_iload B dL_law_266 0 rfl ?_
  refine z_iconst (v := 3) B dL_law_268 (by decide) ?_
  refine z_iadd B dL_law_269 ?_
  refine z_seti (y := 3) (by decide) ?_
  refine z_sld (j := 3) (x := x3) B hX hbl hbA (by decide) (show ¬ ((3 : Int32) < 0 ∨ 6 ≤ (3 : Int32).toNatClampNeg) by decide) h_x3 dL_law_270 ?_
  refine z_aload_n B dL_law_271 rfl 4 rfl ?_
  refine z_iload B dL_law_272 0 rfl ?_
  refine z_iconst (v := 4) B dL_law_274 (by decide) ?_
  refine z_iadd B dL_law_275 ?_
  refine z_seti (y := 4) (by decide) ?_
  refine z_sld (j := 4) (x := x4) B hX hbl hbA (by decide) (show ¬ ((4 : Int32) < 0 ∨ 6 ≤ (4 : Int32).toNatClampNeg) by decide) h_x4 dL_law_276 ?_
  refine z_aload_n B dL_law_277 rfl 4 rfl ?_
  refine z_iload B dL_law_278 0 rfl ?_
  refine z_iconst (v := 5) B dL_law_280 (by decide) ?_
  refine z_iadd B dL_law_281 ?_
  refine z_seti (y := 5) (by decide) ?_
  refine z_sld (j := 5) (x := x5) B hX hbl hbA (by decide) (show ¬ ((5 : Int32) < 0 ∨ 6 ≤ (5 : Int32).toNatClampNeg) by decide) h_x5 dL_law_282 ?_
  refine z_aload_n B dL_law_283 rfl 1 rfl ?_
  refine z_cSWi (As := [.ref (b + 0), .int 3, .int x2, .int x3, .int x4, .int x5, .ref (b + 431)]) (rest := []) B cw_L_84 dL_law_284 (ci_L_check_527 l hlt (σ := (ap b σ [] [] [])) (b := b) (lyA hK) x2 x3 x4 x5 q1_x2 q2_x2 q1_x3 q2_x3 q1_x4 q2_x4 (rR_at 0 0 (fz_R hF 0 0 rfl rfl)) (rR_at 1 3 (fz_R hF 1 3 rfl rfl))) rfl (by decide) rfl (Nat.le_of_ble_eq_true rfl) (by decide) (fun r u hu => ?_)
  obtain ⟨hu1, z, hu⟩ := hu
  refine z_eqs (σ' := (ap b (wx_Z σ z) [] [] [])) (hu.trans az_ap) ?_
  show zx p l e _ s m _ below meth c g 8 _ _ _ _ 287 [(4, .int 0), (3, .ref (b + 431)), (2, .ref (b + 405)), (1, .ref (b + 0)), (0, .ref bS)] _
  refine z_seti (y := 2) hu1 ?_
  refine z_istore (lv' := [(5, .int 2), (4, .int 0), (3, .ref (b + 431)), (2, .ref (b + 405)), (1, .ref (b + 0)), (0, .ref bS)]) B dL_law_287 (by decide) rfl ?_
  refine z_aload_n B dL_law_289 rfl 3 rfl ?_
  refine z_aload_n B dL_law_290 rfl 5 rfl ?_
  refine z_iload B dL_law_291 1 rfl ?_
  refine z_iconst (v := 1) B dL_law_293 (by decide) ?_
  refine z_iadd B dL_law_294 ?_
  refine z_seti (y := 1) (by decide) ?_
  refine z_sld (j := 1) (x := 3) B hX hbl hbA (by decide) (show ¬ ((1 : Int32) < 0 ∨ 6 ≤ (1 : Int32).toNatClampNeg) by decide) h_x1 dL_law_295 ?_
  refine z_aload_n B dL_law_296 rfl 5 rfl ?_
  refine z_iload B dL_law_297 1 rfl ?_
  refine z_iconst (v := 2) B dL_law_299 (by decide) ?_
  refine z_iadd B dL_law_300 ?_
  refine z_seti (y := 2) (by decide) ?_
  refine z_sld (j := 2) (x := x2) B hX hbl hbA (by decide) (show ¬ ((2 : Int32) < 0 ∨ 6 ≤ (2 : Int32).toNatClampNeg) by decide) h_x2 dL_law_301 ?_
  refine z_aload_n B dL_law_302 rfl 5 rfl ?_
  refine z_iload B dL_law_303 1 rfl ?_
  refine z_iconst (v := 3) B dL_law_305 (by decide) ?_
  refine z_iadd B dL_law_306 ?_
  refine z_seti (y := 3) (by decide) ?_
  refine z_sld (j := 3) (x := x3) B hX hbl hbA (by decide) (show ¬ ((3 : Int32) < 0 ∨ 6 ≤ (3 : Int32).toNatClampNeg) by decide) h_x3 dL_law_307 ?_
  refine z_aload_n B dL_law_308 rfl 5 rfl ?_
  refine z_iload B dL_law_309 1 rfl ?_
  refine z_iconst (v := 4) B dL_law_311 (by decide) ?_
  refine z_iadd B dL_law_312 ?_
  refine z_seti (y := 4) (by decide) ?_
  refine z_sld (j := 4) (x := x4) B hX hbl hbA (by decide) (show ¬ ((4 : Int32) < 0 ∨ 6 ≤ (4 : Int32).toNatClampNeg) by decide) h_x4 dL_law_313 ?_
  refine z_aload_n B dL_law_314 rfl 5 rfl ?_
  refine z_iload B dL_law_315 1 rfl ?_
  refine z_iconst (v := 5) B dL_law_317 (by decide) ?_
  refine z_iadd B dL_law_318 ?_
  refine z_seti (y := 5) (by decide) ?_
  refine z_sld (j := 5) (x := x5) B hX hbl hbA (by decide) (show ¬ ((5 : Int32) < 0 ∨ 6 ≤ (5 : Int32).toNatClampNeg) by decide) h_x5 dL_law_319 ?_
  refine z_cVi (As := [.int 3, .int x2, .int x3, .int x4, .int x5]) (rest := []) B cw_L_86 cx_10 dL_law_320 (ci_X9_check_528 l (σ := (ap b (wx_Z σ z) [] [] [])) (b := b) (lyA (lyZ hK)) x2 x3 x4 x5 q1_x2 q2_x2 q1_x3 q2_x3 q1_x4 q2_x4) (lKA (lKZ (hk_K hK 405 rfl rfl))) rfl (by decide) rfl (Nat.le_of_ble_eq_true rfl) (by decide) (fun r u hu => ?_)
  refine z_eqs (σ' := (ap b (wx_Z σ z) [(405, 0, 2)] [] [])) (hu.2.trans ap_ap) ?_
  show zx p l e _ s m _ below meth c g 8 _ _ _ _ 323 [(5, .int 2), (4, .int 0), (3, .ref (b + 431)), (2, .ref (b + 405)), (1, .ref (b + 0)), (0, .ref bS)] _
  refine z_seti (y := 0) hu.1 ?_
  refine z_istore (lv' := [(6, .int 0), (5, .int 2), (4, .int 0), (3, .ref (b + 431)), (2, .ref (b + 405)), (1, .ref (b + 0)), (0, .ref bS)]) B dL_law_323 (by decide) rfl ?_
  refine z_aload_n B dL_law_325 rfl 4 rfl ?_
  refine z_cVi (As := []) (rest := []) B cw_L_80 cx_10 dL_law_326 (ci_X9_thrown_73 l (σ := (ap b (wx_Z σ z) [(405, 0, 2)] [] [])) (b := b) (lyA (lyZ hK)) (rI_at 405 0 rfl)) (lKA (lKZ (hk_K hK 405 rfl rfl))) rfl (by decide) rfl (Nat.le_of_ble_eq_true rfl) (by decide) (fun r u hu => ?_)
  refine z_eqs (σ' := (ap b (wx_Z σ z) [(405, 0, 2)] [] [])) hu.2 ?_
  show zx p l e _ s m _ below meth c g 8 _ _ _ _ 329 [(6, .int 0), (5, .int 2), (4, .int 0), (3, .ref (b + 431)), (2, .ref (b + 405)), (1, .ref (b + 0)), (0, .ref bS)] _
  refine z_seti (y := 2) hu.1 ?_
  refine z_iload B dL_law_329 1 rfl ?_
  refine z_icmp_eq (tgt := 336) B dL_law_331 (by decide) (fun _ => ?_) (fun h => absurd (by decide) h)
  refine z_iload B dL_law_336 1 rfl ?_
  refine z_if_ne (tgt := 353) B dL_law_338 (by decide) (fun _ => ?_) (fun h => absurd h (by decide))
  refine z_goto (tgt := 1395) B dL_law_353 (by decide) ?_
  exact z_widen (Nat.le_of_ble_eq_true rfl) (Nat.le_of_ble_eq_true rfl) (z_sub _ [2, 6] rfl (kk _))
set_option maxRecDepth 100000 in
set_option maxHeartbeats 4000000 in
theorem lf_1_219 {p : Program} {l : Launch} {e : Env} {s : State} {m : MethodId} {args : Array Value} {below : List Frame} {meth : Method} {c : Code} {g : gx_T} {Q : State → Prop} {σ : sx_T} {b t bS : Nat} {xs : Nat → Int32} (hlt : l.stackTraces = false) (B : zx_B p s m args meth c code RL 8 g) (hX : va_X bS 6 xs s s.heap) (hbl : bS < s.heap.size) (hbA : ¬ gx_b g ≤ bS) (hF : fz_P b t σ) (h_x1 : xs 1 = 3) {x2 : Int32} (h_x2 : xs 2 = x2) (q1_x2 : (0 : Int) ≤ x2.toInt) (q2_x2 : x2.toInt ≤ (19 : Int)) {x3 : Int32} (h_x3 : xs 3 = x3) (q1_x3 : (0 : Int) ≤ x3.toInt) (q2_x3 : x3.toInt ≤ (17 : Int)) {x4 : Int32} (h_x4 : xs 4 = x4) (q1_x4 : (0 : Int) ≤ x4.toInt) (q2_x4 : x4.toInt ≤ (99 : Int)) {x5 : Int32} (h_x5 : xs 5 = x5) (q1_x5 : (-2147483648 : Int) ≤ x5.toInt) (q2_x5 : x5.toInt ≤ (-1 : Int)) (kk : ∀ σ', zx p l e room_1 s m args below meth c g 8 600002 7302232 Q σ' 1395 [(4, .int 0), (0, .ref bS)] []) : zx p l e room_1 s m args below meth c g 8 500 100000 Q σ 252 [(4, .int 0), (3, .ref (b + 431)), (2, .ref (b + 405)), (1, .ref (b + 0)), (0, .ref bS)] [] := by
  have hK := fz_lay hF
  refine z_eqs (σ' := (ap b σ [] [] [])) rfl ?_
  refine z_aload_n B dL_law_252 rfl 3 rfl ?_
  refine z_aload_n B dL_law_253 rfl 4 rfl ?_
  refine z_iload B dL_law_254 0 rfl ?_
  refine z_iconst (v := 1) B dL_law_256 (by decide) ?_
  refine z_iadd B dL_law_257 ?_
  refine z_seti (y := 1) (by decide) ?_
  refine z_sld (j := 1) (x := 3) B hX hbl hbA (by decide) (show ¬ ((1 : Int32) < 0 ∨ 6 ≤ (1 : Int32).toNatClampNeg) by decide) h_x1 dL_law_258 ?_
  refine z_aload_n B dL_law_259 rfl 4 rfl ?_
  refine z_iload B dL_law_260 0 rfl ?_
  refine z_iconst (v := 2) B dL_law_262 (by decide) ?_
  refine z_iadd B dL_law_263 ?_
  refine z_seti (y := 2) (by decide) ?_
  refine z_sld (j := 2) (x := x2) B hX hbl hbA (by decide) (show ¬ ((2 : Int32) < 0 ∨ 6 ≤ (2 : Int32).toNatClampNeg) by decide) h_x2 dL_law_264 ?_
  refine z_aload_n B dL_law_265 rfl 4 rfl ?_
  refine z_iload B dL_law_266 0 rfl ?_
  refine z_iconst (v := 3) B dL_law_268 (by decide) ?_
  refine z_iadd B dL_law_269 ?_
  refine z_seti (y := 3) (by decide) ?_
  refine z_sld (j := 3) (x := x3) B hX hbl hbA (by decide) (show ¬ ((3 : Int32) < 0 ∨ 6 ≤ (3 : Int32).toNatClampNeg) by decide) h_x3 dL_law_270 ?_
  refine z_aload_n B dL_law_271 rfl 4 rfl ?_
  refine z_iload B dL_law_272 0 rfl ?_
  refine z_iconst (v := 4) B dL_law_274 (by decide) ?_
  refine z_iadd B dL_law_275 ?_
  refine z_seti (y := 4) (by decide) ?_
  refine z_sld (j := 4) (x := x4) B hX hbl hbA (by decide) (show ¬ ((4 : Int32) < 0 ∨ 6 ≤ (4 : Int32).toNatClampNeg) by decide) h_x4 dL_law_276 ?_
  refine z_aload_n B dL_law_277 rfl 4 rfl ?_
  refine z_iload B dL_law_278 0 rfl ?_
  refine z_iconst (v := 5) B dL_law_280 (by decide) ?_
  refine z_iadd B dL_law_281 ?_
  refine z_seti (y := 5) (by decide) ?_
  refine z_sld (j := 5) (x := x5) B hX hbl hbA (by decide) (show ¬ ((5 : Int32) < 0 ∨ 6 ≤ (5 : Int32).toNatClampNeg) by decide) h_x5 dL_law_282 ?_
  refine z_aload_n B dL_law_283 rfl 1 rfl ?_
  refine z_cSWi (As := [.ref (b + 0), .int 3, .int x2, .int x3, .int x4, .int x5, .ref (b + 431)]) (rest := []) B cw_L_84 dL_law_284 (ci_L_check_530 l hlt (σ := (ap b σ [] [] [])) (b := b) (lyA hK) x2 x3 x4 x5 q1_x2 q2_x2 q1_x3 q2_x3 q1_x4 q2_x4 q1_x5 q2_x5 (rR_at 0 0 (fz_R hF 0 0 rfl rfl)) (rR_at 1 3 (fz_R hF 1 3 rfl rfl))) rfl (by decide) rfl (Nat.le_of_ble_eq_true rfl) (by decide) (fun r u hu => ?_)
  obtain ⟨hu1, z, hu⟩ := hu
  refine z_eqs (σ' := (ap b (wx_Z σ z) [] [] [])) (hu.trans az_ap) ?_
  show zx p l e _ s m _ below meth c g 8 _ _ _ _ 287 [(4, .int 0), (3, .ref (b + 431)), (2, .ref (b + 405)), (1, .ref (b + 0)), (0, .ref bS)] _
  refine z_seti (y := 2) hu1 ?_
  refine z_istore (lv' := [(5, .int 2), (4, .int 0), (3, .ref (b + 431)), (2, .ref (b + 405)), (1, .ref (b + 0)), (0, .ref bS)]) B dL_law_287 (by decide) rfl ?_
  refine z_aload_n B dL_law_289 rfl 3 rfl ?_
  refine z_aload_n B dL_law_290 rfl 5 rfl ?_
  refine z_iload B dL_law_291 1 rfl ?_
  refine z_iconst (v := 1) B dL_law_293 (by decide) ?_
  refine z_iadd B dL_law_294 ?_
  refine z_seti (y := 1) (by decide) ?_
  refine z_sld (j := 1) (x := 3) B hX hbl hbA (by decide) (show ¬ ((1 : Int32) < 0 ∨ 6 ≤ (1 : Int32).toNatClampNeg) by decide) h_x1 dL_law_295 ?_
  refine z_aload_n B dL_law_296 rfl 5 rfl ?_
  refine z_iload B dL_law_297 1 rfl ?_
  refine z_iconst (v := 2) B dL_law_299 (by decide) ?_
  refine z_iadd B dL_law_300 ?_
  refine z_seti (y := 2) (by decide) ?_
  refine z_sld (j := 2) (x := x2) B hX hbl hbA (by decide) (show ¬ ((2 : Int32) < 0 ∨ 6 ≤ (2 : Int32).toNatClampNeg) by decide) h_x2 dL_law_301 ?_
  refine z_aload_n B dL_law_302 rfl 5 rfl ?_
  refine z_iload B dL_law_303 1 rfl ?_
  refine z_iconst (v := 3) B dL_law_305 (by decide) ?_
  refine z_iadd B dL_law_306 ?_
  refine z_seti (y := 3) (by decide) ?_
  refine z_sld (j := 3) (x := x3) B hX hbl hbA (by decide) (show ¬ ((3 : Int32) < 0 ∨ 6 ≤ (3 : Int32).toNatClampNeg) by decide) h_x3 dL_law_307 ?_
  refine z_aload_n B dL_law_308 rfl 5 rfl ?_
  refine z_iload B dL_law_309 1 rfl ?_
  refine z_iconst (v := 4) B dL_law_311 (by decide) ?_
  refine z_iadd B dL_law_312 ?_
  refine z_seti (y := 4) (by decide) ?_
  refine z_sld (j := 4) (x := x4) B hX hbl hbA (by decide) (show ¬ ((4 : Int32) < 0 ∨ 6 ≤ (4 : Int32).toNatClampNeg) by decide) h_x4 dL_law_313 ?_
  refine z_aload_n B dL_law_314 rfl 5 rfl ?_
  refine z_iload B dL_law_315 1 rfl ?_
  refine z_iconst (v := 5) B dL_law_317 (by decide) ?_
  refine z_iadd B dL_law_318 ?_
  refine z_seti (y := 5) (by decide) ?_
  refine z_sld (j := 5) (x := x5) B hX hbl hbA (by decide) (show ¬ ((5 : Int32) < 0 ∨ 6 ≤ (5 : Int32).toNatClampNeg) by decide) h_x5 dL_law_319 ?_
  refine z_cVi (As := [.int 3, .int x2, .int x3, .int x4, .int x5]) (rest := []) B cw_L_86 cx_10 dL_law_320 (ci_X9_check_531 l (σ := (ap b (wx_Z σ z) [] [] [])) (b := b) (lyA (lyZ hK)) x2 x3 x4 x5 q1_x2 q2_x2 q1_x3 q2_x3 q1_x4 q2_x4 q1_x5 q2_x5) (lKA (lKZ (hk_K hK 405 rfl rfl))) rfl (by decide) rfl (Nat.le_of_ble_eq_true rfl) (by decide) (fun r u hu => ?_)
  refine z_eqs (σ' := (ap b (wx_Z σ z) [(405, 0, 2)] [] [])) (hu.2.trans ap_ap) ?_
  show zx p l e _ s m _ below meth c g 8 _ _ _ _ 323 [(5, .int 2), (4, .int 0), (3, .ref (b + 431)), (2, .ref (b + 405)), (1, .ref (b + 0)), (0, .ref bS)] _
  refine z_seti (y := 0) hu.1 ?_
  refine z_istore (lv' := [(6, .int 0), (5, .int 2), (4, .int 0), (3, .ref (b + 431)), (2, .ref (b + 405)), (1, .ref (b + 0)), (0, .ref bS)]) B dL_law_323 (by decide) rfl ?_
  refine z_aload_n B dL_law_325 rfl 4 rfl ?_
  refine z_cVi (As := []) (rest := []) B cw_L_80 cx_10 dL_law_326 (ci_X9_thrown_73 l (σ := (ap b (wx_Z σ z) [(405, 0, 2)] [] [])) (b := b) (lyA (lyZ hK)) (rI_at 405 0 rfl)) (lKA (lKZ (hk_K hK 405 rfl rfl))) rfl (by decide) rfl (Nat.le_of_ble_eq_true rfl) (by decide) (fun r u hu => ?_)
  refine z_eqs (σ' := (ap b (wx_Z σ z) [(405, 0, 2)] [] [])) hu.2 ?_
  show zx p l e _ s m _ below meth c g 8 _ _ _ _ 329 [(6, .int 0), (5, .int 2), (4, .int 0), (3, .ref (b + 431)), (2, .ref (b + 405)), (1, .ref (b + 0)), (0, .ref bS)] _
  refine z_seti (y := 2) hu.1 ?_
  refine z_iload B dL_law_329 1 rfl ?_
  refine z_icmp_eq (tgt := 336) B dL_law_331 (by decide) (fun _ => ?_) (fun h => absurd (by decide) h)
  refine z_iload B dL_law_336 1 rfl ?_
  refine z_if_ne (tgt := 353) B dL_law_338 (by decide) (fun _ => ?_) (fun h => absurd h (by decide))
  refine z_goto (tgt := 1395) B dL_law_353 (by decide) ?_
  exact z_widen (Nat.le_of_ble_eq_true rfl) (Nat.le_of_ble_eq_true rfl) (z_sub _ [2, 6] rfl (kk _))
set_option maxRecDepth 100000 in
set_option maxHeartbeats 4000000 in
theorem lf_1_220 {p : Program} {l : Launch} {e : Env} {s : State} {m : MethodId} {args : Array Value} {below : List Frame} {meth : Method} {c : Code} {g : gx_T} {Q : State → Prop} {σ : sx_T} {b t bS : Nat} {xs : Nat → Int32} (hlt : l.stackTraces = false) (B : zx_B p s m args meth c code RL 8 g) (hX : va_X bS 6 xs s s.heap) (hbl : bS < s.heap.size) (hbA : ¬ gx_b g ≤ bS) (hF : fz_P b t σ) (h_x1 : xs 1 = 3) {x2 : Int32} (h_x2 : xs 2 = x2) (q1_x2 : (0 : Int) ≤ x2.toInt) (q2_x2 : x2.toInt ≤ (19 : Int)) {x3 : Int32} (h_x3 : xs 3 = x3) (q1_x3 : (0 : Int) ≤ x3.toInt) (q2_x3 : x3.toInt ≤ (17 : Int)) {x4 : Int32} (h_x4 : xs 4 = x4) (q1_x4 : (0 : Int) ≤ x4.toInt) (q2_x4 : x4.toInt ≤ (99 : Int)) {x5 : Int32} (h_x5 : xs 5 = x5) (q1_x5 : (0 : Int) ≤ x5.toInt) (q2_x5 : x5.toInt ≤ (99 : Int)) (kk : ∀ σ', zx p l e room_1 s m args below meth c g 8 600002 7302232 Q σ' 1395 [(4, .int 0), (0, .ref bS)] []) : zx p l e room_1 s m args below meth c g 8 500 100000 Q σ 252 [(4, .int 0), (3, .ref (b + 431)), (2, .ref (b + 405)), (1, .ref (b + 0)), (0, .ref bS)] [] := by
  have hK := fz_lay hF
  refine z_eqs (σ' := (ap b σ [] [] [])) rfl ?_
  refine z_aload_n B dL_law_252 rfl 3 rfl ?_
  refine z_aload_n B dL_law_253 rfl 4 rfl ?_
  refine z_iload B dL_law_254 0 rfl ?_
  refine z_iconst (v := 1) B dL_law_256 (by decide) ?_
  refine z_iadd B dL_law_257 ?_
  refine z_seti (y := 1) (by decide) ?_
  refine z_sld (j := 1) (x := 3) B hX hbl hbA (by decide) (show ¬ ((1 : Int32) < 0 ∨ 6 ≤ (1 : Int32).toNatClampNeg) by decide) h_x1 dL_law_258 ?_
  refine z_aload_n B dL_law_259 rfl 4 rfl ?_
  refine z_iload B dL_law_260 0 rfl ?_
  refine z_iconst (v := 2) B dL_law_262 (by decide) ?_
  refine z_iadd B dL_law_263 ?_
  refine z_seti (y := 2) (by decide) ?_
  refine z_sld (j := 2) (x := x2) B hX hbl hbA (by decide) (show ¬ ((2 : Int32) < 0 ∨ 6 ≤ (2 : Int32).toNatClampNeg) by decide) h_x2 dL_law_264 ?_
  refine z_aload_n B dL_law_265 rfl 4 rfl ?_
  refine z_iload B dL_law_266 0 rfl ?_
  refine z_iconst (v := 3) B dL_law_268 (by decide) ?_
  refine z_iadd B dL_law_269 ?_
  refine z_seti (y := 3) (by decide) ?_
  refine z_sld (j := 3) (x := x3) B hX hbl hbA (by decide) (show ¬ ((3 : Int32) < 0 ∨ 6 ≤ (3 : Int32).toNatClampNeg) by decide) h_x3 dL_law_270 ?_
  refine z_aload_n B dL_law_271 rfl 4 rfl ?_
  refine z_iload B dL_law_272 0 rfl ?_
  refine z_iconst (v := 4) B dL_law_274 (by decide) ?_
  refine z_iadd B dL_law_275 ?_
  refine z_seti (y := 4) (by decide) ?_
  refine z_sld (j := 4) (x := x4) B hX hbl hbA (by decide) (show ¬ ((4 : Int32) < 0 ∨ 6 ≤ (4 : Int32).toNatClampNeg) by decide) h_x4 dL_law_276 ?_
  refine z_aload_n B dL_law_277 rfl 4 rfl ?_
  refine z_iload B dL_law_278 0 rfl ?_
  refine z_iconst (v := 5) B dL_law_280 (by decide) ?_
  refine z_iadd B dL_law_281 ?_
  refine z_seti (y := 5) (by decide) ?_
  refine z_sld (j := 5) (x := x5) B hX hbl hbA (by decide) (show ¬ ((5 : Int32) < 0 ∨ 6 ≤ (5 : Int32).toNatClampNeg) by decide) h_x5 dL_law_282 ?_
  refine z_aload_n B dL_law_283 rfl 1 rfl ?_
  refine z_cSWi (As := [.ref (b + 0), .int 3, .int x2, .int x3, .int x4, .int x5, .ref (b + 431)]) (rest := []) B cw_L_84 dL_law_284 (ci_L_check_536 l (σ := (ap b σ [] [] [])) (b := b) (lyA hK) x2 x3 x4 x5 q1_x2 q2_x2 q1_x3 q2_x3 q1_x4 q2_x4 q1_x5 q2_x5 (rI_at 0 7 (fz_I hF 0 7 rfl rfl)) (rR_at 0 0 (fz_R hF 0 0 rfl rfl)) (rR_at 1 3 (fz_R hF 1 3 rfl rfl)) (rR_at 21 1 (fz_R hF 21 1 rfl rfl)) (rR_at 21 2 (fz_R hF 21 2 rfl rfl)) (rR_at 21 3 (fz_R hF 21 3 rfl rfl))) rfl (by decide) rfl (Nat.le_of_ble_eq_true rfl) (by decide) (fun r u hu => ?_)
  obtain ⟨y1, y2, y3, hu⟩ := hu
  refine z_eqs (σ' := (ap b (wx_I (ap b (wx_I (ap b (wx_I (ap b (ap b (wx_I (ap b (wx_I (ap b (wx_I (ap b (ap b (ap b (ap b σ [] [] []) [] [] []) [] [] []) [] [] []) (b + 22) x2.toNatClampNeg x3) [] [] []) (b + 23) x2.toNatClampNeg x4) [] [] []) (b + 24) x2.toNatClampNeg x5) [] [] []) [] [] []) (b + 22) x2.toNatClampNeg y1) [] [] []) (b + 23) x2.toNatClampNeg y2) [] [] []) (b + 24) x2.toNatClampNeg y3) [] [(431, 0, 0)] [])) hu.2 ?_
  show zx p l e _ s m _ below meth c g 8 _ _ _ _ 287 [(4, .int 0), (3, .ref (b + 431)), (2, .ref (b + 405)), (1, .ref (b + 0)), (0, .ref bS)] _
  refine z_seti (y := 0) hu.1 ?_
  refine z_istore (lv' := [(5, .int 0), (4, .int 0), (3, .ref (b + 431)), (2, .ref (b + 405)), (1, .ref (b + 0)), (0, .ref bS)]) B dL_law_287 (by decide) rfl ?_
  refine z_aload_n B dL_law_289 rfl 3 rfl ?_
  refine z_aload_n B dL_law_290 rfl 5 rfl ?_
  refine z_iload B dL_law_291 1 rfl ?_
  refine z_iconst (v := 1) B dL_law_293 (by decide) ?_
  refine z_iadd B dL_law_294 ?_
  refine z_seti (y := 1) (by decide) ?_
  refine z_sld (j := 1) (x := 3) B hX hbl hbA (by decide) (show ¬ ((1 : Int32) < 0 ∨ 6 ≤ (1 : Int32).toNatClampNeg) by decide) h_x1 dL_law_295 ?_
  refine z_aload_n B dL_law_296 rfl 5 rfl ?_
  refine z_iload B dL_law_297 1 rfl ?_
  refine z_iconst (v := 2) B dL_law_299 (by decide) ?_
  refine z_iadd B dL_law_300 ?_
  refine z_seti (y := 2) (by decide) ?_
  refine z_sld (j := 2) (x := x2) B hX hbl hbA (by decide) (show ¬ ((2 : Int32) < 0 ∨ 6 ≤ (2 : Int32).toNatClampNeg) by decide) h_x2 dL_law_301 ?_
  refine z_aload_n B dL_law_302 rfl 5 rfl ?_
  refine z_iload B dL_law_303 1 rfl ?_
  refine z_iconst (v := 3) B dL_law_305 (by decide) ?_
  refine z_iadd B dL_law_306 ?_
  refine z_seti (y := 3) (by decide) ?_
  refine z_sld (j := 3) (x := x3) B hX hbl hbA (by decide) (show ¬ ((3 : Int32) < 0 ∨ 6 ≤ (3 : Int32).toNatClampNeg) by decide) h_x3 dL_law_307 ?_
  refine z_aload_n B dL_law_308 rfl 5 rfl ?_
  refine z_iload B dL_law_309 1 rfl ?_
  refine z_iconst (v := 4) B dL_law_311 (by decide) ?_
  refine z_iadd B dL_law_312 ?_
  refine z_seti (y := 4) (by decide) ?_
  refine z_sld (j := 4) (x := x4) B hX hbl hbA (by decide) (show ¬ ((4 : Int32) < 0 ∨ 6 ≤ (4 : Int32).toNatClampNeg) by decide) h_x4 dL_law_313 ?_
  refine z_aload_n B dL_law_314 rfl 5 rfl ?_
  refine z_iload B dL_law_315 1 rfl ?_
  refine z_iconst (v := 5) B dL_law_317 (by decide) ?_
  refine z_iadd B dL_law_318 ?_
  refine z_seti (y := 5) (by decide) ?_
  refine z_sld (j := 5) (x := x5) B hX hbl hbA (by decide) (show ¬ ((5 : Int32) < 0 ∨ 6 ≤ (5 : Int32).toNatClampNeg) by decide) h_x5 dL_law_319 ?_
  refine z_cVi (As := [.int 3, .int x2, .int x3, .int x4, .int x5]) (rest := []) B cw_L_86 cx_10 dL_law_320 (ci_X9_check_537 l (σ := (ap b (wx_I (ap b (wx_I (ap b (wx_I (ap b (ap b (wx_I (ap b (wx_I (ap b (wx_I (ap b (ap b (ap b (ap b σ [] [] []) [] [] []) [] [] []) [] [] []) (b + 22) x2.toNatClampNeg x3) [] [] []) (b + 23) x2.toNatClampNeg x4) [] [] []) (b + 24) x2.toNatClampNeg x5) [] [] []) [] [] []) (b + 22) x2.toNatClampNeg y1) [] [] []) (b + 23) x2.toNatClampNeg y2) [] [] []) (b + 24) x2.toNatClampNeg y3) [] [(431, 0, 0)] [])) (b := b) (lyA (lyW (lyA (lyW (lyA (lyW (lyA (lyA (lyW (lyA (lyW (lyA (lyW (lyA (lyA (lyA (lyA hK))))))))))))))))) x2 x3 x4 x5 q1_x2 q2_x2 q1_x3 q2_x3 q1_x4 q2_x4 q1_x5 q2_x5 (rI_at 405 6 ((ux_a (by omega)).trans (rI_at 405 6 ((ux_a (by omega)).trans (rI_at 405 6 ((ux_a (by omega)).trans (rI_at 405 6 (rI_at 405 6 ((ux_a (by omega)).trans (rI_at 405 6 ((ux_a (by omega)).trans (rI_at 405 6 ((ux_a (by omega)).trans (rI_at 405 6 (rI_at 405 6 (rI_at 405 6 (rI_at 405 6 (fz_I hF 405 6 rfl rfl)))))))))))))))))) (rR_at 405 3 (rR_w (rR_at 405 3 (rR_w (rR_at 405 3 (rR_w (rR_at 405 3 (rR_at 405 3 (rR_w (rR_at 405 3 (rR_w (rR_at 405 3 (rR_w (rR_at 405 3 (rR_at 405 3 (rR_at 405 3 (rR_at 405 3 (fz_R hF 405 3 rfl rfl)))))))))))))))))) (rR_at 405 4 (rR_w (rR_at 405 4 (rR_w (rR_at 405 4 (rR_w (rR_at 405 4 (rR_at 405 4 (rR_w (rR_at 405 4 (rR_w (rR_at 405 4 (rR_w (rR_at 405 4 (rR_at 405 4 (rR_at 405 4 (rR_at 405 4 (fz_R hF 405 4 rfl rfl)))))))))))))))))) (rR_at 405 5 (rR_w (rR_at 405 5 (rR_w (rR_at 405 5 (rR_w (rR_at 405 5 (rR_at 405 5 (rR_w (rR_at 405 5 (rR_w (rR_at 405 5 (rR_w (rR_at 405 5 (rR_at 405 5 (rR_at 405 5 (rR_at 405 5 (fz_R hF 405 5 rfl rfl))))))))))))))))))) (lKA (lKW (lKA (lKW (lKA (lKW (lKA (lKA (lKW (lKA (lKW (lKA (lKW (lKA (lKA (lKA (lKA (hk_K hK 405 rfl rfl)))))))))))))))))) rfl (by decide) rfl (Nat.le_of_ble_eq_true rfl) (by decide) (fun r u hu => ?_)
  obtain ⟨y4, y5, y6, hu⟩ := hu
  refine z_eqs (σ' := (ap b (wx_I (ap b (wx_I (ap b (wx_I (ap b (ap b (wx_I (ap b (wx_I (ap b (wx_I (ap b (ap b (ap b (wx_I (ap b (wx_I (ap b (wx_I (ap b (ap b (wx_I (ap b (wx_I (ap b (wx_I (ap b (ap b (ap b (ap b σ [] [] []) [] [] []) [] [] []) [] [] []) (b + 22) x2.toNatClampNeg x3) [] [] []) (b + 23) x2.toNatClampNeg x4) [] [] []) (b + 24) x2.toNatClampNeg x5) [] [] []) [] [] []) (b + 22) x2.toNatClampNeg y1) [] [] []) (b + 23) x2.toNatClampNeg y2) [] [] []) (b + 24) x2.toNatClampNeg y3) [] [(431, 0, 0)] []) [(405, 0, 0)] [] []) [] [] []) (b + 406) (60 + x2).toNatClampNeg x3) [] [] []) (b + 407) (60 + x2).toNatClampNeg x4) [] [] []) (b + 408) (60 + x2).toNatClampNeg x5) [] [] []) [] [] []) (b + 406) (60 + x2).toNatClampNeg y4) [] [] []) (b + 407) (60 + x2).toNatClampNeg y5) [] [] []) (b + 408) (60 + x2).toNatClampNeg y6) [] [] [])) hu.2 ?_
  show zx p l e _ s m _ below meth c g 8 _ _ _ _ 323 [(5, .int 0), (4, .int 0), (3, .ref (b + 431)), (2, .ref (b + 405)), (1, .ref (b + 0)), (0, .ref bS)] _
  refine z_seti (y := 0) hu.1 ?_
  refine z_istore (lv' := [(6, .int 0), (5, .int 0), (4, .int 0), (3, .ref (b + 431)), (2, .ref (b + 405)), (1, .ref (b + 0)), (0, .ref bS)]) B dL_law_323 (by decide) rfl ?_
  refine z_aload_n B dL_law_325 rfl 4 rfl ?_
  refine z_cVi (As := []) (rest := []) B cw_L_80 cx_10 dL_law_326 (ci_X9_thrown_95 l (σ := (ap b (wx_I (ap b (wx_I (ap b (wx_I (ap b (ap b (wx_I (ap b (wx_I (ap b (wx_I (ap b (ap b (ap b (wx_I (ap b (wx_I (ap b (wx_I (ap b (ap b (wx_I (ap b (wx_I (ap b (wx_I (ap b (ap b (ap b (ap b σ [] [] []) [] [] []) [] [] []) [] [] []) (b + 22) x2.toNatClampNeg x3) [] [] []) (b + 23) x2.toNatClampNeg x4) [] [] []) (b + 24) x2.toNatClampNeg x5) [] [] []) [] [] []) (b + 22) x2.toNatClampNeg y1) [] [] []) (b + 23) x2.toNatClampNeg y2) [] [] []) (b + 24) x2.toNatClampNeg y3) [] [(431, 0, 0)] []) [(405, 0, 0)] [] []) [] [] []) (b + 406) (60 + x2).toNatClampNeg x3) [] [] []) (b + 407) (60 + x2).toNatClampNeg x4) [] [] []) (b + 408) (60 + x2).toNatClampNeg x5) [] [] []) [] [] []) (b + 406) (60 + x2).toNatClampNeg y4) [] [] []) (b + 407) (60 + x2).toNatClampNeg y5) [] [] []) (b + 408) (60 + x2).toNatClampNeg y6) [] [] [])) (b := b) (lyA (lyW (lyA (lyW (lyA (lyW (lyA (lyA (lyW (lyA (lyW (lyA (lyW (lyA (lyA (lyA (lyW (lyA (lyW (lyA (lyW (lyA (lyA (lyW (lyA (lyW (lyA (lyW (lyA (lyA (lyA (lyA hK)))))))))))))))))))))))))))))))) (rI_at 405 0 ((ux_a (by omega)).trans (rI_at 405 0 ((ux_a (by omega)).trans (rI_at 405 0 ((ux_a (by omega)).trans (rI_at 405 0 (rI_at 405 0 ((ux_a (by omega)).trans (rI_at 405 0 ((ux_a (by omega)).trans (rI_at 405 0 ((ux_a (by omega)).trans (rI_at 405 0 (rI_at 405 0 rfl)))))))))))))))) (lKA (lKW (lKA (lKW (lKA (lKW (lKA (lKA (lKW (lKA (lKW (lKA (lKW (lKA (lKA (lKA (lKW (lKA (lKW (lKA (lKW (lKA (lKA (lKW (lKA (lKW (lKA (lKW (lKA (lKA (lKA (lKA (hk_K hK 405 rfl rfl))))))))))))))))))))))))))))))))) rfl (by decide) rfl (Nat.le_of_ble_eq_true rfl) (by decide) (fun r u hu => ?_)
  refine z_eqs (σ' := (ap b (wx_I (ap b (wx_I (ap b (wx_I (ap b (ap b (wx_I (ap b (wx_I (ap b (wx_I (ap b (ap b (ap b (wx_I (ap b (wx_I (ap b (wx_I (ap b (ap b (wx_I (ap b (wx_I (ap b (wx_I (ap b (ap b (ap b (ap b σ [] [] []) [] [] []) [] [] []) [] [] []) (b + 22) x2.toNatClampNeg x3) [] [] []) (b + 23) x2.toNatClampNeg x4) [] [] []) (b + 24) x2.toNatClampNeg x5) [] [] []) [] [] []) (b + 22) x2.toNatClampNeg y1) [] [] []) (b + 23) x2.toNatClampNeg y2) [] [] []) (b + 24) x2.toNatClampNeg y3) [] [(431, 0, 0)] []) [(405, 0, 0)] [] []) [] [] []) (b + 406) (60 + x2).toNatClampNeg x3) [] [] []) (b + 407) (60 + x2).toNatClampNeg x4) [] [] []) (b + 408) (60 + x2).toNatClampNeg x5) [] [] []) [] [] []) (b + 406) (60 + x2).toNatClampNeg y4) [] [] []) (b + 407) (60 + x2).toNatClampNeg y5) [] [] []) (b + 408) (60 + x2).toNatClampNeg y6) [] [] [])) hu.2 ?_
  show zx p l e _ s m _ below meth c g 8 _ _ _ _ 329 [(6, .int 0), (5, .int 0), (4, .int 0), (3, .ref (b + 431)), (2, .ref (b + 405)), (1, .ref (b + 0)), (0, .ref bS)] _
  refine z_seti (y := 0) hu.1 ?_
  refine z_iload B dL_law_329 1 rfl ?_
  refine z_icmp_eq (tgt := 336) B dL_law_331 (by decide) (fun _ => ?_) (fun h => absurd (by decide) h)
  refine z_iload B dL_law_336 1 rfl ?_
  refine z_if_ne (tgt := 353) B dL_law_338 (by decide) (fun h => absurd (by decide) h) (fun _ => ?_)
  refine z_aload_n B dL_law_341 rfl 3 rfl ?_
  refine z_iconst (v := 0) B dL_law_342 (by decide) ?_
  refine z_lald (j := 0) (x := 0) B (lKA (lKW (lKA (lKW (lKA (lKW (lKA (lKA (lKW (lKA (lKW (lKA (lKW (lKA (lKA (lKA (lKW (lKA (lKW (lKA (lKW (lKA (lKA (lKW (lKA (lKW (lKA (lKW (lKA (lKA (lKA (lKA (hk_K hK 431 rfl rfl))))))))))))))))))))))))))))))))) (by decide) (in_of (lNA (lNW (lNA (lNW (lNA (lNW (lNA (lNA (lNW (lNA (lNW (lNA (lNW (lNA (lNA (lNA (lNW (lNA (lNW (lNA (lNW (lNA (lNA (lNW (lNA (lNW (lNA (lNW (lNA (lNA (lNA (lNA (hk_N hK 431 rfl rfl))))))))))))))))))))))))))))))))) (show ¬ ((0 : Int32) < 0 ∨ 1 ≤ (0 : Int32).toNatClampNeg) by decide)) (rJ_at 431 0 (rJ_w (rJ_at 431 0 (rJ_w (rJ_at 431 0 (rJ_w (rJ_at 431 0 (rJ_at 431 0 (rJ_w (rJ_at 431 0 (rJ_w (rJ_at 431 0 (rJ_w (rJ_at 431 0 (rJ_at 431 0 (rJ_at 431 0 rfl)))))))))))))))) dL_law_343 ?_
  refine z_iload B dL_law_344 0 rfl ?_
  refine z_i2l (v := 0) B dL_law_346 (by decide) ?_
  refine z_lcmp (v := 0) B dL_law_347 (by decide) ?_
  refine z_if_eq (tgt := 353) B dL_law_348 (by decide) (fun _ => ?_) (fun h => absurd (by decide) h)
  refine z_goto (tgt := 1395) B dL_law_353 (by decide) ?_
  exact z_widen (Nat.le_of_ble_eq_true rfl) (Nat.le_of_ble_eq_true rfl) (z_sub _ [2, 6] rfl (kk _))
set_option maxRecDepth 100000 in
set_option maxHeartbeats 4000000 in
theorem lf_1_221 {p : Program} {l : Launch} {e : Env} {s : State} {m : MethodId} {args : Array Value} {below : List Frame} {meth : Method} {c : Code} {g : gx_T} {Q : State → Prop} {σ : sx_T} {b t bS : Nat} {xs : Nat → Int32} (hlt : l.stackTraces = false) (B : zx_B p s m args meth c code RL 8 g) (hX : va_X bS 6 xs s s.heap) (hbl : bS < s.heap.size) (hbA : ¬ gx_b g ≤ bS) (hF : fz_P b t σ) (h_x1 : xs 1 = 3) {x2 : Int32} (h_x2 : xs 2 = x2) (q1_x2 : (0 : Int) ≤ x2.toInt) (q2_x2 : x2.toInt ≤ (19 : Int)) {x3 : Int32} (h_x3 : xs 3 = x3) (q1_x3 : (0 : Int) ≤ x3.toInt) (q2_x3 : x3.toInt ≤ (17 : Int)) {x4 : Int32} (h_x4 : xs 4 = x4) (q1_x4 : (0 : Int) ≤ x4.toInt) (q2_x4 : x4.toInt ≤ (99 : Int)) {x5 : Int32} (h_x5 : xs 5 = x5) (q1_x5 : (100 : Int) ≤ x5.toInt) (q2_x5 : x5.toInt ≤ (2147483647 : Int)) (kk : ∀ σ', zx p l e room_1 s m args below meth c g 8 600002 7302232 Q σ' 1395 [(4, .int 0), (0, .ref bS)] []) : zx p l e room_1 s m args below meth c g 8 500 100000 Q σ 252 [(4, .int 0), (3, .ref (b + 431)), (2, .ref (b + 405)), (1, .ref (b + 0)), (0, .ref bS)] [] := by
  have hK := fz_lay hF
  refine z_eqs (σ' := (ap b σ [] [] [])) rfl ?_
  refine z_aload_n B dL_law_252 rfl 3 rfl ?_
  refine z_aload_n B dL_law_253 rfl 4 rfl ?_
  refine z_iload B dL_law_254 0 rfl ?_
  refine z_iconst (v := 1) B dL_law_256 (by decide) ?_
  refine z_iadd B dL_law_257 ?_
  refine z_seti (y := 1) (by decide) ?_
  refine z_sld (j := 1) (x := 3) B hX hbl hbA (by decide) (show ¬ ((1 : Int32) < 0 ∨ 6 ≤ (1 : Int32).toNatClampNeg) by decide) h_x1 dL_law_258 ?_
  refine z_aload_n B dL_law_259 rfl 4 rfl ?_
  refine z_iload B dL_law_260 0 rfl ?_
  refine z_iconst (v := 2) B dL_law_262 (by decide) ?_
  refine z_iadd B dL_law_263 ?_
  refine z_seti (y := 2) (by decide) ?_
  refine z_sld (j := 2) (x := x2) B hX hbl hbA (by decide) (show ¬ ((2 : Int32) < 0 ∨ 6 ≤ (2 : Int32).toNatClampNeg) by decide) h_x2 dL_law_264 ?_
  refine z_aload_n B dL_law_265 rfl 4 rfl ?_
  refine z_iload B dL_law_266 0 rfl ?_
  refine z_iconst (v := 3) B dL_law_268 (by decide) ?_
  refine z_iadd B dL_law_269 ?_
  refine z_seti (y := 3) (by decide) ?_
  refine z_sld (j := 3) (x := x3) B hX hbl hbA (by decide) (show ¬ ((3 : Int32) < 0 ∨ 6 ≤ (3 : Int32).toNatClampNeg) by decide) h_x3 dL_law_270 ?_
  refine z_aload_n B dL_law_271 rfl 4 rfl ?_
  refine z_iload B dL_law_272 0 rfl ?_
  refine z_iconst (v := 4) B dL_law_274 (by decide) ?_
  refine z_iadd B dL_law_275 ?_
  refine z_seti (y := 4) (by decide) ?_
  refine z_sld (j := 4) (x := x4) B hX hbl hbA (by decide) (show ¬ ((4 : Int32) < 0 ∨ 6 ≤ (4 : Int32).toNatClampNeg) by decide) h_x4 dL_law_276 ?_
  refine z_aload_n B dL_law_277 rfl 4 rfl ?_
  refine z_iload B dL_law_278 0 rfl ?_
  refine z_iconst (v := 5) B dL_law_280 (by decide) ?_
  refine z_iadd B dL_law_281 ?_
  refine z_seti (y := 5) (by decide) ?_
  refine z_sld (j := 5) (x := x5) B hX hbl hbA (by decide) (show ¬ ((5 : Int32) < 0 ∨ 6 ≤ (5 : Int32).toNatClampNeg) by decide) h_x5 dL_law_282 ?_
  refine z_aload_n B dL_law_283 rfl 1 rfl ?_
  refine z_cSWi (As := [.ref (b + 0), .int 3, .int x2, .int x3, .int x4, .int x5, .ref (b + 431)]) (rest := []) B cw_L_84 dL_law_284 (ci_L_check_539 l hlt (σ := (ap b σ [] [] [])) (b := b) (lyA hK) x2 x3 x4 x5 q1_x2 q2_x2 q1_x3 q2_x3 q1_x4 q2_x4 q1_x5 q2_x5 (rR_at 0 0 (fz_R hF 0 0 rfl rfl)) (rR_at 1 3 (fz_R hF 1 3 rfl rfl))) rfl (by decide) rfl (Nat.le_of_ble_eq_true rfl) (by decide) (fun r u hu => ?_)
  obtain ⟨hu1, z, hu⟩ := hu
  refine z_eqs (σ' := (ap b (wx_Z σ z) [] [] [])) (hu.trans az_ap) ?_
  show zx p l e _ s m _ below meth c g 8 _ _ _ _ 287 [(4, .int 0), (3, .ref (b + 431)), (2, .ref (b + 405)), (1, .ref (b + 0)), (0, .ref bS)] _
  refine z_seti (y := 2) hu1 ?_
  refine z_istore (lv' := [(5, .int 2), (4, .int 0), (3, .ref (b + 431)), (2, .ref (b + 405)), (1, .ref (b + 0)), (0, .ref bS)]) B dL_law_287 (by decide) rfl ?_
  refine z_aload_n B dL_law_289 rfl 3 rfl ?_
  refine z_aload_n B dL_law_290 rfl 5 rfl ?_
  refine z_iload B dL_law_291 1 rfl ?_
  refine z_iconst (v := 1) B dL_law_293 (by decide) ?_
  refine z_iadd B dL_law_294 ?_
  refine z_seti (y := 1) (by decide) ?_
  refine z_sld (j := 1) (x := 3) B hX hbl hbA (by decide) (show ¬ ((1 : Int32) < 0 ∨ 6 ≤ (1 : Int32).toNatClampNeg) by decide) h_x1 dL_law_295 ?_
  refine z_aload_n B dL_law_296 rfl 5 rfl ?_
  refine z_iload B dL_law_297 1 rfl ?_
  refine z_iconst (v := 2) B dL_law_299 (by decide) ?_
  refine z_iadd B dL_law_300 ?_
  refine z_seti (y := 2) (by decide) ?_
  refine z_sld (j := 2) (x := x2) B hX hbl hbA (by decide) (show ¬ ((2 : Int32) < 0 ∨ 6 ≤ (2 : Int32).toNatClampNeg) by decide) h_x2 dL_law_301 ?_
  refine z_aload_n B dL_law_302 rfl 5 rfl ?_
  refine z_iload B dL_law_303 1 rfl ?_
  refine z_iconst (v := 3) B dL_law_305 (by decide) ?_
  refine z_iadd B dL_law_306 ?_
  refine z_seti (y := 3) (by decide) ?_
  refine z_sld (j := 3) (x := x3) B hX hbl hbA (by decide) (show ¬ ((3 : Int32) < 0 ∨ 6 ≤ (3 : Int32).toNatClampNeg) by decide) h_x3 dL_law_307 ?_
  refine z_aload_n B dL_law_308 rfl 5 rfl ?_
  refine z_iload B dL_law_309 1 rfl ?_
  refine z_iconst (v := 4) B dL_law_311 (by decide) ?_
  refine z_iadd B dL_law_312 ?_
  refine z_seti (y := 4) (by decide) ?_
  refine z_sld (j := 4) (x := x4) B hX hbl hbA (by decide) (show ¬ ((4 : Int32) < 0 ∨ 6 ≤ (4 : Int32).toNatClampNeg) by decide) h_x4 dL_law_313 ?_
  refine z_aload_n B dL_law_314 rfl 5 rfl ?_
  refine z_iload B dL_law_315 1 rfl ?_
  refine z_iconst (v := 5) B dL_law_317 (by decide) ?_
  refine z_iadd B dL_law_318 ?_
  refine z_seti (y := 5) (by decide) ?_
  refine z_sld (j := 5) (x := x5) B hX hbl hbA (by decide) (show ¬ ((5 : Int32) < 0 ∨ 6 ≤ (5 : Int32).toNatClampNeg) by decide) h_x5 dL_law_319 ?_
  refine z_cVi (As := [.int 3, .int x2, .int x3, .int x4, .int x5]) (rest := []) B cw_L_86 cx_10 dL_law_320 (ci_X9_check_540 l (σ := (ap b (wx_Z σ z) [] [] [])) (b := b) (lyA (lyZ hK)) x2 x3 x4 x5 q1_x2 q2_x2 q1_x3 q2_x3 q1_x4 q2_x4 q1_x5 q2_x5) (lKA (lKZ (hk_K hK 405 rfl rfl))) rfl (by decide) rfl (Nat.le_of_ble_eq_true rfl) (by decide) (fun r u hu => ?_)
  refine z_eqs (σ' := (ap b (wx_Z σ z) [(405, 0, 2)] [] [])) (hu.2.trans ap_ap) ?_
  show zx p l e _ s m _ below meth c g 8 _ _ _ _ 323 [(5, .int 2), (4, .int 0), (3, .ref (b + 431)), (2, .ref (b + 405)), (1, .ref (b + 0)), (0, .ref bS)] _
  refine z_seti (y := 0) hu.1 ?_
  refine z_istore (lv' := [(6, .int 0), (5, .int 2), (4, .int 0), (3, .ref (b + 431)), (2, .ref (b + 405)), (1, .ref (b + 0)), (0, .ref bS)]) B dL_law_323 (by decide) rfl ?_
  refine z_aload_n B dL_law_325 rfl 4 rfl ?_
  refine z_cVi (As := []) (rest := []) B cw_L_80 cx_10 dL_law_326 (ci_X9_thrown_73 l (σ := (ap b (wx_Z σ z) [(405, 0, 2)] [] [])) (b := b) (lyA (lyZ hK)) (rI_at 405 0 rfl)) (lKA (lKZ (hk_K hK 405 rfl rfl))) rfl (by decide) rfl (Nat.le_of_ble_eq_true rfl) (by decide) (fun r u hu => ?_)
  refine z_eqs (σ' := (ap b (wx_Z σ z) [(405, 0, 2)] [] [])) hu.2 ?_
  show zx p l e _ s m _ below meth c g 8 _ _ _ _ 329 [(6, .int 0), (5, .int 2), (4, .int 0), (3, .ref (b + 431)), (2, .ref (b + 405)), (1, .ref (b + 0)), (0, .ref bS)] _
  refine z_seti (y := 2) hu.1 ?_
  refine z_iload B dL_law_329 1 rfl ?_
  refine z_icmp_eq (tgt := 336) B dL_law_331 (by decide) (fun _ => ?_) (fun h => absurd (by decide) h)
  refine z_iload B dL_law_336 1 rfl ?_
  refine z_if_ne (tgt := 353) B dL_law_338 (by decide) (fun _ => ?_) (fun h => absurd h (by decide))
  refine z_goto (tgt := 1395) B dL_law_353 (by decide) ?_
  exact z_widen (Nat.le_of_ble_eq_true rfl) (Nat.le_of_ble_eq_true rfl) (z_sub _ [2, 6] rfl (kk _))
set_option maxRecDepth 100000 in
set_option maxHeartbeats 4000000 in
theorem lf_1_222 {p : Program} {l : Launch} {e : Env} {s : State} {m : MethodId} {args : Array Value} {below : List Frame} {meth : Method} {c : Code} {g : gx_T} {Q : State → Prop} {σ : sx_T} {b t bS : Nat} {xs : Nat → Int32} (hlt : l.stackTraces = false) (B : zx_B p s m args meth c code RL 8 g) (hX : va_X bS 6 xs s s.heap) (hbl : bS < s.heap.size) (hbA : ¬ gx_b g ≤ bS) (hF : fz_P b t σ) (h_x1 : xs 1 = 3) {x2 : Int32} (h_x2 : xs 2 = x2) (q1_x2 : (0 : Int) ≤ x2.toInt) (q2_x2 : x2.toInt ≤ (19 : Int)) {x3 : Int32} (h_x3 : xs 3 = x3) (q1_x3 : (0 : Int) ≤ x3.toInt) (q2_x3 : x3.toInt ≤ (17 : Int)) {x4 : Int32} (h_x4 : xs 4 = x4) (q1_x4 : (100 : Int) ≤ x4.toInt) (q2_x4 : x4.toInt ≤ (2147483647 : Int)) {x5 : Int32} (h_x5 : xs 5 = x5) (q1_x5 : (-2147483648 : Int) ≤ x5.toInt) (q2_x5 : x5.toInt ≤ (2147483647 : Int)) (kk : ∀ σ', zx p l e room_1 s m args below meth c g 8 600002 7302232 Q σ' 1395 [(4, .int 0), (0, .ref bS)] []) : zx p l e room_1 s m args below meth c g 8 500 100000 Q σ 252 [(4, .int 0), (3, .ref (b + 431)), (2, .ref (b + 405)), (1, .ref (b + 0)), (0, .ref bS)] [] := by
  have hK := fz_lay hF
  refine z_eqs (σ' := (ap b σ [] [] [])) rfl ?_
  refine z_aload_n B dL_law_252 rfl 3 rfl ?_
  refine z_aload_n B dL_law_253 rfl 4 rfl ?_
  refine z_iload B dL_law_254 0 rfl ?_
  refine z_iconst (v := 1) B dL_law_256 (by decide) ?_
  refine z_iadd B dL_law_257 ?_
  refine z_seti (y := 1) (by decide) ?_
  refine z_sld (j := 1) (x := 3) B hX hbl hbA (by decide) (show ¬ ((1 : Int32) < 0 ∨ 6 ≤ (1 : Int32).toNatClampNeg) by decide) h_x1 dL_law_258 ?_
  refine z_aload_n B dL_law_259 rfl 4 rfl ?_
  refine z_iload B dL_law_260 0 rfl ?_
  refine z_iconst (v := 2) B dL_law_262 (by decide) ?_
  refine z_iadd B dL_law_263 ?_
  refine z_seti (y := 2) (by decide) ?_
  refine z_sld (j := 2) (x := x2) B hX hbl hbA (by decide) (show ¬ ((2 : Int32) < 0 ∨ 6 ≤ (2 : Int32).toNatClampNeg) by decide) h_x2 dL_law_264 ?_
  refine z_aload_n B dL_law_265 rfl 4 rfl ?_
  refine z_iload B dL_law_266 0 rfl ?_
  refine z_iconst (v := 3) B dL_law_268 (by decide) ?_
  refine z_iadd B dL_law_269 ?_
  refine z_seti (y := 3) (by decide) ?_
  refine z_sld (j := 3) (x := x3) B hX hbl hbA (by decide) (show ¬ ((3 : Int32) < 0 ∨ 6 ≤ (3 : Int32).toNatClampNeg) by decide) h_x3 dL_law_270 ?_
  refine z_aload_n B dL_law_271 rfl 4 rfl ?_
  refine z_iload B dL_law_272 0 rfl ?_
  refine z_iconst (v := 4) B dL_law_274 (by decide) ?_
  refine z_iadd B dL_law_275 ?_
  refine z_seti (y := 4) (by decide) ?_
  refine z_sld (j := 4) (x := x4) B hX hbl hbA (by decide) (show ¬ ((4 : Int32) < 0 ∨ 6 ≤ (4 : Int32).toNatClampNeg) by decide) h_x4 dL_law_276 ?_
  refine z_aload_n B dL_law_277 rfl 4 rfl ?_
  refine z_iload B dL_law_278 0 rfl ?_
  refine z_iconst (v := 5) B dL_law_280 (by decide) ?_
  refine z_iadd B dL_law_281 ?_
  refine z_seti (y := 5) (by decide) ?_
  refine z_sld (j := 5) (x := x5) B hX hbl hbA (by decide) (show ¬ ((5 : Int32) < 0 ∨ 6 ≤ (5 : Int32).toNatClampNeg) by decide) h_x5 dL_law_282 ?_
  refine z_aload_n B dL_law_283 rfl 1 rfl ?_
  refine z_cSWi (As := [.ref (b + 0), .int 3, .int x2, .int x3, .int x4, .int x5, .ref (b + 431)]) (rest := []) B cw_L_84 dL_law_284 (ci_L_check_542 l hlt (σ := (ap b σ [] [] [])) (b := b) (lyA hK) x2 x3 x4 x5 q1_x2 q2_x2 q1_x3 q2_x3 q1_x4 q2_x4 (rR_at 0 0 (fz_R hF 0 0 rfl rfl)) (rR_at 1 3 (fz_R hF 1 3 rfl rfl))) rfl (by decide) rfl (Nat.le_of_ble_eq_true rfl) (by decide) (fun r u hu => ?_)
  obtain ⟨hu1, z, hu⟩ := hu
  refine z_eqs (σ' := (ap b (wx_Z σ z) [] [] [])) (hu.trans az_ap) ?_
  show zx p l e _ s m _ below meth c g 8 _ _ _ _ 287 [(4, .int 0), (3, .ref (b + 431)), (2, .ref (b + 405)), (1, .ref (b + 0)), (0, .ref bS)] _
  refine z_seti (y := 2) hu1 ?_
  refine z_istore (lv' := [(5, .int 2), (4, .int 0), (3, .ref (b + 431)), (2, .ref (b + 405)), (1, .ref (b + 0)), (0, .ref bS)]) B dL_law_287 (by decide) rfl ?_
  refine z_aload_n B dL_law_289 rfl 3 rfl ?_
  refine z_aload_n B dL_law_290 rfl 5 rfl ?_
  refine z_iload B dL_law_291 1 rfl ?_
  refine z_iconst (v := 1) B dL_law_293 (by decide) ?_
  refine z_iadd B dL_law_294 ?_
  refine z_seti (y := 1) (by decide) ?_
  refine z_sld (j := 1) (x := 3) B hX hbl hbA (by decide) (show ¬ ((1 : Int32) < 0 ∨ 6 ≤ (1 : Int32).toNatClampNeg) by decide) h_x1 dL_law_295 ?_
  refine z_aload_n B dL_law_296 rfl 5 rfl ?_
  refine z_iload B dL_law_297 1 rfl ?_
  refine z_iconst (v := 2) B dL_law_299 (by decide) ?_
  refine z_iadd B dL_law_300 ?_
  refine z_seti (y := 2) (by decide) ?_
  refine z_sld (j := 2) (x := x2) B hX hbl hbA (by decide) (show ¬ ((2 : Int32) < 0 ∨ 6 ≤ (2 : Int32).toNatClampNeg) by decide) h_x2 dL_law_301 ?_
  refine z_aload_n B dL_law_302 rfl 5 rfl ?_
  refine z_iload B dL_law_303 1 rfl ?_
  refine z_iconst (v := 3) B dL_law_305 (by decide) ?_
  refine z_iadd B dL_law_306 ?_
  refine z_seti (y := 3) (by decide) ?_
  refine z_sld (j := 3) (x := x3) B hX hbl hbA (by decide) (show ¬ ((3 : Int32) < 0 ∨ 6 ≤ (3 : Int32).toNatClampNeg) by decide) h_x3 dL_law_307 ?_
  refine z_aload_n B dL_law_308 rfl 5 rfl ?_
  refine z_iload B dL_law_309 1 rfl ?_
  refine z_iconst (v := 4) B dL_law_311 (by decide) ?_
  refine z_iadd B dL_law_312 ?_
  refine z_seti (y := 4) (by decide) ?_
  refine z_sld (j := 4) (x := x4) B hX hbl hbA (by decide) (show ¬ ((4 : Int32) < 0 ∨ 6 ≤ (4 : Int32).toNatClampNeg) by decide) h_x4 dL_law_313 ?_
  refine z_aload_n B dL_law_314 rfl 5 rfl ?_
  refine z_iload B dL_law_315 1 rfl ?_
  refine z_iconst (v := 5) B dL_law_317 (by decide) ?_
  refine z_iadd B dL_law_318 ?_
  refine z_seti (y := 5) (by decide) ?_
  refine z_sld (j := 5) (x := x5) B hX hbl hbA (by decide) (show ¬ ((5 : Int32) < 0 ∨ 6 ≤ (5 : Int32).toNatClampNeg) by decide) h_x5 dL_law_319 ?_
  refine z_cVi (As := [.int 3, .int x2, .int x3, .int x4, .int x5]) (rest := []) B cw_L_86 cx_10 dL_law_320 (ci_X9_check_543 l (σ := (ap b (wx_Z σ z) [] [] [])) (b := b) (lyA (lyZ hK)) x2 x3 x4 x5 q1_x2 q2_x2 q1_x3 q2_x3 q1_x4 q2_x4) (lKA (lKZ (hk_K hK 405 rfl rfl))) rfl (by decide) rfl (Nat.le_of_ble_eq_true rfl) (by decide) (fun r u hu => ?_)
  refine z_eqs (σ' := (ap b (wx_Z σ z) [(405, 0, 2)] [] [])) (hu.2.trans ap_ap) ?_
  show zx p l e _ s m _ below meth c g 8 _ _ _ _ 323 [(5, .int 2), (4, .int 0), (3, .ref (b + 431)), (2, .ref (b + 405)), (1, .ref (b + 0)), (0, .ref bS)] _
  refine z_seti (y := 0) hu.1 ?_
  refine z_istore (lv' := [(6, .int 0), (5, .int 2), (4, .int 0), (3, .ref (b + 431)), (2, .ref (b + 405)), (1, .ref (b + 0)), (0, .ref bS)]) B dL_law_323 (by decide) rfl ?_
  refine z_aload_n B dL_law_325 rfl 4 rfl ?_
  refine z_cVi (As := []) (rest := []) B cw_L_80 cx_10 dL_law_326 (ci_X9_thrown_73 l (σ := (ap b (wx_Z σ z) [(405, 0, 2)] [] [])) (b := b) (lyA (lyZ hK)) (rI_at 405 0 rfl)) (lKA (lKZ (hk_K hK 405 rfl rfl))) rfl (by decide) rfl (Nat.le_of_ble_eq_true rfl) (by decide) (fun r u hu => ?_)
  refine z_eqs (σ' := (ap b (wx_Z σ z) [(405, 0, 2)] [] [])) hu.2 ?_
  show zx p l e _ s m _ below meth c g 8 _ _ _ _ 329 [(6, .int 0), (5, .int 2), (4, .int 0), (3, .ref (b + 431)), (2, .ref (b + 405)), (1, .ref (b + 0)), (0, .ref bS)] _
  refine z_seti (y := 2) hu.1 ?_
  refine z_iload B dL_law_329 1 rfl ?_
  refine z_icmp_eq (tgt := 336) B dL_law_331 (by decide) (fun _ => ?_) (fun h => absurd (by decide) h)
  refine z_iload B dL_law_336 1 rfl ?_
  refine z_if_ne (tgt := 353) B dL_law_338 (by decide) (fun _ => ?_) (fun h => absurd h (by decide))
  refine z_goto (tgt := 1395) B dL_law_353 (by decide) ?_
  exact z_widen (Nat.le_of_ble_eq_true rfl) (Nat.le_of_ble_eq_true rfl) (z_sub _ [2, 6] rfl (kk _))
set_option maxRecDepth 100000 in
set_option maxHeartbeats 4000000 in
theorem lf_1_223 {p : Program} {l : Launch} {e : Env} {s : State} {m : MethodId} {args : Array Value} {below : List Frame} {meth : Method} {c : Code} {g : gx_T} {Q : State → Prop} {σ : sx_T} {b t bS : Nat} {xs : Nat → Int32} (hlt : l.stackTraces = false) (B : zx_B p s m args meth c code RL 8 g) (hX : va_X bS 6 xs s s.heap) (hbl : bS < s.heap.size) (hbA : ¬ gx_b g ≤ bS) (hF : fz_P b t σ) (h_x1 : xs 1 = 3) {x2 : Int32} (h_x2 : xs 2 = x2) (q1_x2 : (0 : Int) ≤ x2.toInt) (q2_x2 : x2.toInt ≤ (19 : Int)) {x3 : Int32} (h_x3 : xs 3 = x3) (q1_x3 : (18 : Int) ≤ x3.toInt) (q2_x3 : x3.toInt ≤ (2147483647 : Int)) {x4 : Int32} (h_x4 : xs 4 = x4) (q1_x4 : (-2147483648 : Int) ≤ x4.toInt) (q2_x4 : x4.toInt ≤ (2147483647 : Int)) {x5 : Int32} (h_x5 : xs 5 = x5) (q1_x5 : (-2147483648 : Int) ≤ x5.toInt) (q2_x5 : x5.toInt ≤ (2147483647 : Int)) (kk : ∀ σ', zx p l e room_1 s m args below meth c g 8 600002 7302232 Q σ' 1395 [(4, .int 0), (0, .ref bS)] []) : zx p l e room_1 s m args below meth c g 8 500 100000 Q σ 252 [(4, .int 0), (3, .ref (b + 431)), (2, .ref (b + 405)), (1, .ref (b + 0)), (0, .ref bS)] [] := by
  have hK := fz_lay hF
  refine z_eqs (σ' := (ap b σ [] [] [])) rfl ?_
  refine z_aload_n B dL_law_252 rfl 3 rfl ?_
  refine z_aload_n B dL_law_253 rfl 4 rfl ?_
  refine z_iload B dL_law_254 0 rfl ?_
  refine z_iconst (v := 1) B dL_law_256 (by decide) ?_
  refine z_iadd B dL_law_257 ?_
  refine z_seti (y := 1) (by decide) ?_
  refine z_sld (j := 1) (x := 3) B hX hbl hbA (by decide) (show ¬ ((1 : Int32) < 0 ∨ 6 ≤ (1 : Int32).toNatClampNeg) by decide) h_x1 dL_law_258 ?_
  refine z_aload_n B dL_law_259 rfl 4 rfl ?_
  refine z_iload B dL_law_260 0 rfl ?_
  refine z_iconst (v := 2) B dL_law_262 (by decide) ?_
  refine z_iadd B dL_law_263 ?_
  refine z_seti (y := 2) (by decide) ?_
  refine z_sld (j := 2) (x := x2) B hX hbl hbA (by decide) (show ¬ ((2 : Int32) < 0 ∨ 6 ≤ (2 : Int32).toNatClampNeg) by decide) h_x2 dL_law_264 ?_
  refine z_aload_n B dL_law_265 rfl 4 rfl ?_
  refine z_iload B dL_law_266 0 rfl ?_
  refine z_iconst (v := 3) B dL_law_268 (by decide) ?_
  refine z_iadd B dL_law_269 ?_
  refine z_seti (y := 3) (by decide) ?_
  refine z_sld (j := 3) (x := x3) B hX hbl hbA (by decide) (show ¬ ((3 : Int32) < 0 ∨ 6 ≤ (3 : Int32).toNatClampNeg) by decide) h_x3 dL_law_270 ?_
  refine z_aload_n B dL_law_271 rfl 4 rfl ?_
  refine z_iload B dL_law_272 0 rfl ?_
  refine z_iconst (v := 4) B dL_law_274 (by decide) ?_
  refine z_iadd B dL_law_275 ?_
  refine z_seti (y := 4) (by decide) ?_
  refine z_sld (j := 4) (x := x4) B hX hbl hbA (by decide) (show ¬ ((4 : Int32) < 0 ∨ 6 ≤ (4 : Int32).toNatClampNeg) by decide) h_x4 dL_law_276 ?_
  refine z_aload_n B dL_law_277 rfl 4 rfl ?_
  refine z_iload B dL_law_278 0 rfl ?_
  refine z_iconst (v := 5) B dL_law_280 (by decide) ?_
  refine z_iadd B dL_law_281 ?_
  refine z_seti (y := 5) (by decide) ?_
  refine z_sld (j := 5) (x := x5) B hX hbl hbA (by decide) (show ¬ ((5 : Int32) < 0 ∨ 6 ≤ (5 : Int32).toNatClampNeg) by decide) h_x5 dL_law_282 ?_
  refine z_aload_n B dL_law_283 rfl 1 rfl ?_
  refine z_cSWi (As := [.ref (b + 0), .int 3, .int x2, .int x3, .int x4, .int x5, .ref (b + 431)]) (rest := []) B cw_L_84 dL_law_284 (ci_L_check_545 l hlt (σ := (ap b σ [] [] [])) (b := b) (lyA hK) x2 x3 x4 x5 q1_x2 q2_x2 q1_x3 q2_x3 (rR_at 0 0 (fz_R hF 0 0 rfl rfl)) (rR_at 1 3 (fz_R hF 1 3 rfl rfl))) rfl (by decide) rfl (Nat.le_of_ble_eq_true rfl) (by decide) (fun r u hu => ?_)
  obtain ⟨hu1, z, hu⟩ := hu
  refine z_eqs (σ' := (ap b (wx_Z σ z) [] [] [])) (hu.trans az_ap) ?_
  show zx p l e _ s m _ below meth c g 8 _ _ _ _ 287 [(4, .int 0), (3, .ref (b + 431)), (2, .ref (b + 405)), (1, .ref (b + 0)), (0, .ref bS)] _
  refine z_seti (y := 2) hu1 ?_
  refine z_istore (lv' := [(5, .int 2), (4, .int 0), (3, .ref (b + 431)), (2, .ref (b + 405)), (1, .ref (b + 0)), (0, .ref bS)]) B dL_law_287 (by decide) rfl ?_
  refine z_aload_n B dL_law_289 rfl 3 rfl ?_
  refine z_aload_n B dL_law_290 rfl 5 rfl ?_
  refine z_iload B dL_law_291 1 rfl ?_
  refine z_iconst (v := 1) B dL_law_293 (by decide) ?_
  refine z_iadd B dL_law_294 ?_
  refine z_seti (y := 1) (by decide) ?_
  refine z_sld (j := 1) (x := 3) B hX hbl hbA (by decide) (show ¬ ((1 : Int32) < 0 ∨ 6 ≤ (1 : Int32).toNatClampNeg) by decide) h_x1 dL_law_295 ?_
  refine z_aload_n B dL_law_296 rfl 5 rfl ?_
  refine z_iload B dL_law_297 1 rfl ?_
  refine z_iconst (v := 2) B dL_law_299 (by decide) ?_
  refine z_iadd B dL_law_300 ?_
  refine z_seti (y := 2) (by decide) ?_
  refine z_sld (j := 2) (x := x2) B hX hbl hbA (by decide) (show ¬ ((2 : Int32) < 0 ∨ 6 ≤ (2 : Int32).toNatClampNeg) by decide) h_x2 dL_law_301 ?_
  refine z_aload_n B dL_law_302 rfl 5 rfl ?_
  refine z_iload B dL_law_303 1 rfl ?_
  refine z_iconst (v := 3) B dL_law_305 (by decide) ?_
  refine z_iadd B dL_law_306 ?_
  refine z_seti (y := 3) (by decide) ?_
  refine z_sld (j := 3) (x := x3) B hX hbl hbA (by decide) (show ¬ ((3 : Int32) < 0 ∨ 6 ≤ (3 : Int32).toNatClampNeg) by decide) h_x3 dL_law_307 ?_
  refine z_aload_n B dL_law_308 rfl 5 rfl ?_
  refine z_iload B dL_law_309 1 rfl ?_
  refine z_iconst (v := 4) B dL_law_311 (by decide) ?_
  refine z_iadd B dL_law_312 ?_
  refine z_seti (y := 4) (by decide) ?_
  refine z_sld (j := 4) (x := x4) B hX hbl hbA (by decide) (show ¬ ((4 : Int32) < 0 ∨ 6 ≤ (4 : Int32).toNatClampNeg) by decide) h_x4 dL_law_313 ?_
  refine z_aload_n B dL_law_314 rfl 5 rfl ?_
  refine z_iload B dL_law_315 1 rfl ?_
  refine z_iconst (v := 5) B dL_law_317 (by decide) ?_
  refine z_iadd B dL_law_318 ?_
  refine z_seti (y := 5) (by decide) ?_
  refine z_sld (j := 5) (x := x5) B hX hbl hbA (by decide) (show ¬ ((5 : Int32) < 0 ∨ 6 ≤ (5 : Int32).toNatClampNeg) by decide) h_x5 dL_law_319 ?_
  refine z_cVi (As := [.int 3, .int x2, .int x3, .int x4, .int x5]) (rest := []) B cw_L_86 cx_10 dL_law_320 (ci_X9_check_546 l (σ := (ap b (wx_Z σ z) [] [] [])) (b := b) (lyA (lyZ hK)) x2 x3 x4 x5 q1_x2 q2_x2 q1_x3 q2_x3) (lKA (lKZ (hk_K hK 405 rfl rfl))) rfl (by decide) rfl (Nat.le_of_ble_eq_true rfl) (by decide) (fun r u hu => ?_)
  refine z_eqs (σ' := (ap b (wx_Z σ z) [(405, 0, 2)] [] [])) (hu.2.trans ap_ap) ?_
  show zx p l e _ s m _ below meth c g 8 _ _ _ _ 323 [(5, .int 2), (4, .int 0), (3, .ref (b + 431)), (2, .ref (b + 405)), (1, .ref (b + 0)), (0, .ref bS)] _
  refine z_seti (y := 0) hu.1 ?_
  refine z_istore (lv' := [(6, .int 0), (5, .int 2), (4, .int 0), (3, .ref (b + 431)), (2, .ref (b + 405)), (1, .ref (b + 0)), (0, .ref bS)]) B dL_law_323 (by decide) rfl ?_
  refine z_aload_n B dL_law_325 rfl 4 rfl ?_
  refine z_cVi (As := []) (rest := []) B cw_L_80 cx_10 dL_law_326 (ci_X9_thrown_73 l (σ := (ap b (wx_Z σ z) [(405, 0, 2)] [] [])) (b := b) (lyA (lyZ hK)) (rI_at 405 0 rfl)) (lKA (lKZ (hk_K hK 405 rfl rfl))) rfl (by decide) rfl (Nat.le_of_ble_eq_true rfl) (by decide) (fun r u hu => ?_)
  refine z_eqs (σ' := (ap b (wx_Z σ z) [(405, 0, 2)] [] [])) hu.2 ?_
  show zx p l e _ s m _ below meth c g 8 _ _ _ _ 329 [(6, .int 0), (5, .int 2), (4, .int 0), (3, .ref (b + 431)), (2, .ref (b + 405)), (1, .ref (b + 0)), (0, .ref bS)] _
  refine z_seti (y := 2) hu.1 ?_
  refine z_iload B dL_law_329 1 rfl ?_
  refine z_icmp_eq (tgt := 336) B dL_law_331 (by decide) (fun _ => ?_) (fun h => absurd (by decide) h)
  refine z_iload B dL_law_336 1 rfl ?_
  refine z_if_ne (tgt := 353) B dL_law_338 (by decide) (fun _ => ?_) (fun h => absurd h (by decide))
  refine z_goto (tgt := 1395) B dL_law_353 (by decide) ?_
  exact z_widen (Nat.le_of_ble_eq_true rfl) (Nat.le_of_ble_eq_true rfl) (z_sub _ [2, 6] rfl (kk _))
set_option maxRecDepth 100000 in
set_option maxHeartbeats 4000000 in
theorem lf_1_224 {p : Program} {l : Launch} {e : Env} {s : State} {m : MethodId} {args : Array Value} {below : List Frame} {meth : Method} {c : Code} {g : gx_T} {Q : State → Prop} {σ : sx_T} {b t bS : Nat} {xs : Nat → Int32} (hlt : l.stackTraces = false) (B : zx_B p s m args meth c code RL 8 g) (hX : va_X bS 6 xs s s.heap) (hbl : bS < s.heap.size) (hbA : ¬ gx_b g ≤ bS) (hF : fz_P b t σ) (h_x1 : xs 1 = 3) {x2 : Int32} (h_x2 : xs 2 = x2) (q1_x2 : (20 : Int) ≤ x2.toInt) (q2_x2 : x2.toInt ≤ (2147483647 : Int)) {x3 : Int32} (h_x3 : xs 3 = x3) (q1_x3 : (-2147483648 : Int) ≤ x3.toInt) (q2_x3 : x3.toInt ≤ (-1 : Int)) {x4 : Int32} (h_x4 : xs 4 = x4) (q1_x4 : (-2147483648 : Int) ≤ x4.toInt) (q2_x4 : x4.toInt ≤ (2147483647 : Int)) {x5 : Int32} (h_x5 : xs 5 = x5) (q1_x5 : (-2147483648 : Int) ≤ x5.toInt) (q2_x5 : x5.toInt ≤ (2147483647 : Int)) (kk : ∀ σ', zx p l e room_1 s m args below meth c g 8 600002 7302232 Q σ' 1395 [(4, .int 0), (0, .ref bS)] []) : zx p l e room_1 s m args below meth c g 8 500 100000 Q σ 252 [(4, .int 0), (3, .ref (b + 431)), (2, .ref (b + 405)), (1, .ref (b + 0)), (0, .ref bS)] [] := by
  have hK := fz_lay hF
  refine z_eqs (σ' := (ap b σ [] [] [])) rfl ?_
  refine z_aload_n B dL_law_252 rfl 3 rfl ?_
  refine z_aload_n B dL_law_253 rfl 4 rfl ?_
  refine z_iload B dL_law_254 0 rfl ?_
  refine z_iconst (v := 1) B dL_law_256 (by decide) ?_
  refine z_iadd B dL_law_257 ?_
  refine z_seti (y := 1) (by decide) ?_
  refine z_sld (j := 1) (x := 3) B hX hbl hbA (by decide) (show ¬ ((1 : Int32) < 0 ∨ 6 ≤ (1 : Int32).toNatClampNeg) by decide) h_x1 dL_law_258 ?_
  refine z_aload_n B dL_law_259 rfl 4 rfl ?_
  refine z_iload B dL_law_260 0 rfl ?_
  refine z_iconst (v := 2) B dL_law_262 (by decide) ?_
  refine z_iadd B dL_law_263 ?_
  refine z_seti (y := 2) (by decide) ?_
  refine z_sld (j := 2) (x := x2) B hX hbl hbA (by decide) (show ¬ ((2 : Int32) < 0 ∨ 6 ≤ (2 : Int32).toNatClampNeg) by decide) h_x2 dL_law_264 ?_
  refine z_aload_n B dL_law_265 rfl 4 rfl ?_
  refine z_iload B dL_law_266 0 rfl ?_
  refine z_iconst (v := 3) B dL_law_268 (by decide) ?_
  refine z_iadd B dL_law_269 ?_
  refine z_seti (y := 3) (by decide) ?_
  refine z_sld (j := 3) (x := x3) B hX hbl hbA (by decide) (show ¬ ((3 : Int32) < 0 ∨ 6 ≤ (3 : Int32).toNatClampNeg) by decide) h_x3 dL_law_270 ?_
  refine z_aload_n B dL_law_271 rfl 4 rfl ?_
  refine z_iload B dL_law_272 0 rfl ?_
  refine z_iconst (v := 4) B dL_law_274 (by decide) ?_
  refine z_iadd B dL_law_275 ?_
  refine z_seti (y := 4) (by decide) ?_
  refine z_sld (j := 4) (x := x4) B hX hbl hbA (by decide) (show ¬ ((4 : Int32) < 0 ∨ 6 ≤ (4 : Int32).toNatClampNeg) by decide) h_x4 dL_law_276 ?_
  refine z_aload_n B dL_law_277 rfl 4 rfl ?_
  refine z_iload B dL_law_278 0 rfl ?_
  refine z_iconst (v := 5) B dL_law_280 (by decide) ?_
  refine z_iadd B dL_law_281 ?_
  refine z_seti (y := 5) (by decide) ?_
  refine z_sld (j := 5) (x := x5) B hX hbl hbA (by decide) (show ¬ ((5 : Int32) < 0 ∨ 6 ≤ (5 : Int32).toNatClampNeg) by decide) h_x5 dL_law_282 ?_
  refine z_aload_n B dL_law_283 rfl 1 rfl ?_
  refine z_cSWi (As := [.ref (b + 0), .int 3, .int x2, .int x3, .int x4, .int x5, .ref (b + 431)]) (rest := []) B cw_L_84 dL_law_284 (ci_L_check_548 l hlt (σ := (ap b σ [] [] [])) (b := b) (lyA hK) x2 x3 x4 x5 q1_x2 q2_x2 (rR_at 0 0 (fz_R hF 0 0 rfl rfl)) (rR_at 1 3 (fz_R hF 1 3 rfl rfl))) rfl (by decide) rfl (Nat.le_of_ble_eq_true rfl) (by decide) (fun r u hu => ?_)
  obtain ⟨hu1, z, hu⟩ := hu
  refine z_eqs (σ' := (ap b (wx_Z σ z) [] [] [])) (hu.trans az_ap) ?_
  show zx p l e _ s m _ below meth c g 8 _ _ _ _ 287 [(4, .int 0), (3, .ref (b + 431)), (2, .ref (b + 405)), (1, .ref (b + 0)), (0, .ref bS)] _
  refine z_seti (y := 1) hu1 ?_
  refine z_istore (lv' := [(5, .int 1), (4, .int 0), (3, .ref (b + 431)), (2, .ref (b + 405)), (1, .ref (b + 0)), (0, .ref bS)]) B dL_law_287 (by decide) rfl ?_
  refine z_aload_n B dL_law_289 rfl 3 rfl ?_
  refine z_aload_n B dL_law_290 rfl 5 rfl ?_
  refine z_iload B dL_law_291 1 rfl ?_
  refine z_iconst (v := 1) B dL_law_293 (by decide) ?_
  refine z_iadd B dL_law_294 ?_
  refine z_seti (y := 1) (by decide) ?_
  refine z_sld (j := 1) (x := 3) B hX hbl hbA (by decide) (show ¬ ((1 : Int32) < 0 ∨ 6 ≤ (1 : Int32).toNatClampNeg) by decide) h_x1 dL_law_295 ?_
  refine z_aload_n B dL_law_296 rfl 5 rfl ?_
  refine z_iload B dL_law_297 1 rfl ?_
  refine z_iconst (v := 2) B dL_law_299 (by decide) ?_
  refine z_iadd B dL_law_300 ?_
  refine z_seti (y := 2) (by decide) ?_
  refine z_sld (j := 2) (x := x2) B hX hbl hbA (by decide) (show ¬ ((2 : Int32) < 0 ∨ 6 ≤ (2 : Int32).toNatClampNeg) by decide) h_x2 dL_law_301 ?_
  refine z_aload_n B dL_law_302 rfl 5 rfl ?_
  refine z_iload B dL_law_303 1 rfl ?_
  refine z_iconst (v := 3) B dL_law_305 (by decide) ?_
  refine z_iadd B dL_law_306 ?_
  refine z_seti (y := 3) (by decide) ?_
  refine z_sld (j := 3) (x := x3) B hX hbl hbA (by decide) (show ¬ ((3 : Int32) < 0 ∨ 6 ≤ (3 : Int32).toNatClampNeg) by decide) h_x3 dL_law_307 ?_
  refine z_aload_n B dL_law_308 rfl 5 rfl ?_
  refine z_iload B dL_law_309 1 rfl ?_
  refine z_iconst (v := 4) B dL_law_311 (by decide) ?_
  refine z_iadd B dL_law_312 ?_
  refine z_seti (y := 4) (by decide) ?_
  refine z_sld (j := 4) (x := x4) B hX hbl hbA (by decide) (show ¬ ((4 : Int32) < 0 ∨ 6 ≤ (4 : Int32).toNatClampNeg) by decide) h_x4 dL_law_313 ?_
  refine z_aload_n B dL_law_314 rfl 5 rfl ?_
  refine z_iload B dL_law_315 1 rfl ?_
  refine z_iconst (v := 5) B dL_law_317 (by decide) ?_
  refine z_iadd B dL_law_318 ?_
  refine z_seti (y := 5) (by decide) ?_
  refine z_sld (j := 5) (x := x5) B hX hbl hbA (by decide) (show ¬ ((5 : Int32) < 0 ∨ 6 ≤ (5 : Int32).toNatClampNeg) by decide) h_x5 dL_law_319 ?_
  refine z_cVi (As := [.int 3, .int x2, .int x3, .int x4, .int x5]) (rest := []) B cw_L_86 cx_10 dL_law_320 (ci_X9_check_549 l (σ := (ap b (wx_Z σ z) [] [] [])) (b := b) (lyA (lyZ hK)) x2 x3 x4 x5 q1_x2 q2_x2 q1_x3 q2_x3) (lKA (lKZ (hk_K hK 405 rfl rfl))) rfl (by decide) rfl (Nat.le_of_ble_eq_true rfl) (by decide) (fun r u hu => ?_)
  refine z_eqs (σ' := (ap b (wx_Z σ z) [(405, 0, 1)] [] [])) (hu.2.trans ap_ap) ?_
  show zx p l e _ s m _ below meth c g 8 _ _ _ _ 323 [(5, .int 1), (4, .int 0), (3, .ref (b + 431)), (2, .ref (b + 405)), (1, .ref (b + 0)), (0, .ref bS)] _
  refine z_seti (y := 0) hu.1 ?_
  refine z_istore (lv' := [(6, .int 0), (5, .int 1), (4, .int 0), (3, .ref (b + 431)), (2, .ref (b + 405)), (1, .ref (b + 0)), (0, .ref bS)]) B dL_law_323 (by decide) rfl ?_
  refine z_aload_n B dL_law_325 rfl 4 rfl ?_
  refine z_cVi (As := []) (rest := []) B cw_L_80 cx_10 dL_law_326 (ci_X9_thrown_31 l (σ := (ap b (wx_Z σ z) [(405, 0, 1)] [] [])) (b := b) (lyA (lyZ hK)) (rI_at 405 0 rfl)) (lKA (lKZ (hk_K hK 405 rfl rfl))) rfl (by decide) rfl (Nat.le_of_ble_eq_true rfl) (by decide) (fun r u hu => ?_)
  refine z_eqs (σ' := (ap b (wx_Z σ z) [(405, 0, 1)] [] [])) hu.2 ?_
  show zx p l e _ s m _ below meth c g 8 _ _ _ _ 329 [(6, .int 0), (5, .int 1), (4, .int 0), (3, .ref (b + 431)), (2, .ref (b + 405)), (1, .ref (b + 0)), (0, .ref bS)] _
  refine z_seti (y := 1) hu.1 ?_
  refine z_iload B dL_law_329 1 rfl ?_
  refine z_icmp_eq (tgt := 336) B dL_law_331 (by decide) (fun _ => ?_) (fun h => absurd (by decide) h)
  refine z_iload B dL_law_336 1 rfl ?_
  refine z_if_ne (tgt := 353) B dL_law_338 (by decide) (fun _ => ?_) (fun h => absurd h (by decide))
  refine z_goto (tgt := 1395) B dL_law_353 (by decide) ?_
  exact z_widen (Nat.le_of_ble_eq_true rfl) (Nat.le_of_ble_eq_true rfl) (z_sub _ [2, 6] rfl (kk _))
set_option maxRecDepth 100000 in
set_option maxHeartbeats 4000000 in
theorem lf_1_225 {p : Program} {l : Launch} {e : Env} {s : State} {m : MethodId} {args : Array Value} {below : List Frame} {meth : Method} {c : Code} {g : gx_T} {Q : State → Prop} {σ : sx_T} {b t bS : Nat} {xs : Nat → Int32} (hlt : l.stackTraces = false) (B : zx_B p s m args meth c code RL 8 g) (hX : va_X bS 6 xs s s.heap) (hbl : bS < s.heap.size) (hbA : ¬ gx_b g ≤ bS) (hF : fz_P b t σ) (h_x1 : xs 1 = 3) {x2 : Int32} (h_x2 : xs 2 = x2) (q1_x2 : (20 : Int) ≤ x2.toInt) (q2_x2 : x2.toInt ≤ (2147483647 : Int)) {x3 : Int32} (h_x3 : xs 3 = x3) (q1_x3 : (0 : Int) ≤ x3.toInt) (q2_x3 : x3.toInt ≤ (17 : Int)) {x4 : Int32} (h_x4 : xs 4 = x4) (q1_x4 : (-2147483648 : Int) ≤ x4.toInt) (q2_x4 : x4.toInt ≤ (-1 : Int)) {x5 : Int32} (h_x5 : xs 5 = x5) (q1_x5 : (-2147483648 : Int) ≤ x5.toInt) (q2_x5 : x5.toInt ≤ (2147483647 : Int)) (kk : ∀ σ', zx p l e room_1 s m args below meth c g 8 600002 7302232 Q σ' 1395 [(4, .int 0), (0, .ref bS)] []) : zx p l e room_1 s m args below meth c g 8 500 100000 Q σ 252 [(4, .int 0), (3, .ref (b + 431)), (2, .ref (b + 405)), (1, .ref (b + 0)), (0, .ref bS)] [] := by
  have hK := fz_lay hF
  refine z_eqs (σ' := (ap b σ [] [] [])) rfl ?_
  refine z_aload_n B dL_law_252 rfl 3 rfl ?_
  refine z_aload_n B dL_law_253 rfl 4 rfl ?_
  refine z_iload B dL_law_254 0 rfl ?_
  refine z_iconst (v := 1) B dL_law_256 (by decide) ?_
  refine z_iadd B dL_law_257 ?_
  refine z_seti (y := 1) (by decide) ?_
  refine z_sld (j := 1) (x := 3) B hX hbl hbA (by decide) (show ¬ ((1 : Int32) < 0 ∨ 6 ≤ (1 : Int32).toNatClampNeg) by decide) h_x1 dL_law_258 ?_
  refine z_aload_n B dL_law_259 rfl 4 rfl ?_
  refine z_iload B dL_law_260 0 rfl ?_
  refine z_iconst (v := 2) B dL_law_262 (by decide) ?_
  refine z_iadd B dL_law_263 ?_
  refine z_seti (y := 2) (by decide) ?_
  refine z_sld (j := 2) (x := x2) B hX hbl hbA (by decide) (show ¬ ((2 : Int32) < 0 ∨ 6 ≤ (2 : Int32).toNatClampNeg) by decide) h_x2 dL_law_264 ?_
  refine z_aload_n B dL_law_265 rfl 4 rfl ?_
  refine z_iload B dL_law_266 0 rfl ?_
  refine z_iconst (v := 3) B dL_law_268 (by decide) ?_
  refine z_iadd B dL_law_269 ?_
  refine z_seti (y := 3) (by decide) ?_
  refine z_sld (j := 3) (x := x3) B hX hbl hbA (by decide) (show ¬ ((3 : Int32) < 0 ∨ 6 ≤ (3 : Int32).toNatClampNeg) by decide) h_x3 dL_law_270 ?_
  refine z_aload_n B dL_law_271 rfl 4 rfl ?_
  refine z_iload B dL_law_272 0 rfl ?_
  refine z_iconst (v := 4) B dL_law_274 (by decide) ?_
  refine z_iadd B dL_law_275 ?_
  refine z_seti (y := 4) (by decide) ?_
  refine z_sld (j := 4) (x := x4) B hX hbl hbA (by decide) (show ¬ ((4 : Int32) < 0 ∨ 6 ≤ (4 : Int32).toNatClampNeg) by decide) h_x4 dL_law_276 ?_
  refine z_aload_n B dL_law_277 rfl 4 rfl ?_
  refine z_iload B dL_law_278 0 rfl ?_
  refine z_iconst (v := 5) B dL_law_280 (by decide) ?_
  refine z_iadd B dL_law_281 ?_
  refine z_seti (y := 5) (by decide) ?_
  refine z_sld (j := 5) (x := x5) B hX hbl hbA (by decide) (show ¬ ((5 : Int32) < 0 ∨ 6 ≤ (5 : Int32).toNatClampNeg) by decide) h_x5 dL_law_282 ?_
  refine z_aload_n B dL_law_283 rfl 1 rfl ?_
  refine z_cSWi (As := [.ref (b + 0), .int 3, .int x2, .int x3, .int x4, .int x5, .ref (b + 431)]) (rest := []) B cw_L_84 dL_law_284 (ci_L_check_548 l hlt (σ := (ap b σ [] [] [])) (b := b) (lyA hK) x2 x3 x4 x5 q1_x2 q2_x2 (rR_at 0 0 (fz_R hF 0 0 rfl rfl)) (rR_at 1 3 (fz_R hF 1 3 rfl rfl))) rfl (by decide) rfl (Nat.le_of_ble_eq_true rfl) (by decide) (fun r u hu => ?_)
  obtain ⟨hu1, z, hu⟩ := hu
  refine z_eqs (σ' := (ap b (wx_Z σ z) [] [] [])) (hu.trans az_ap) ?_
  show zx p l e _ s m _ below meth c g 8 _ _ _ _ 287 [(4, .int 0), (3, .ref (b + 431)), (2, .ref (b + 405)), (1, .ref (b + 0)), (0, .ref bS)] _
  refine z_seti (y := 1) hu1 ?_
  refine z_istore (lv' := [(5, .int 1), (4, .int 0), (3, .ref (b + 431)), (2, .ref (b + 405)), (1, .ref (b + 0)), (0, .ref bS)]) B dL_law_287 (by decide) rfl ?_
  refine z_aload_n B dL_law_289 rfl 3 rfl ?_
  refine z_aload_n B dL_law_290 rfl 5 rfl ?_
  refine z_iload B dL_law_291 1 rfl ?_
  refine z_iconst (v := 1) B dL_law_293 (by decide) ?_
  refine z_iadd B dL_law_294 ?_
  refine z_seti (y := 1) (by decide) ?_
  refine z_sld (j := 1) (x := 3) B hX hbl hbA (by decide) (show ¬ ((1 : Int32) < 0 ∨ 6 ≤ (1 : Int32).toNatClampNeg) by decide) h_x1 dL_law_295 ?_
  refine z_aload_n B dL_law_296 rfl 5 rfl ?_
  refine z_iload B dL_law_297 1 rfl ?_
  refine z_iconst (v := 2) B dL_law_299 (by decide) ?_
  refine z_iadd B dL_law_300 ?_
  refine z_seti (y := 2) (by decide) ?_
  refine z_sld (j := 2) (x := x2) B hX hbl hbA (by decide) (show ¬ ((2 : Int32) < 0 ∨ 6 ≤ (2 : Int32).toNatClampNeg) by decide) h_x2 dL_law_301 ?_
  refine z_aload_n B dL_law_302 rfl 5 rfl ?_
  refine z_iload B dL_law_303 1 rfl ?_
  refine z_iconst (v := 3) B dL_law_305 (by decide) ?_
  refine z_iadd B dL_law_306 ?_
  refine z_seti (y := 3) (by decide) ?_
  refine z_sld (j := 3) (x := x3) B hX hbl hbA (by decide) (show ¬ ((3 : Int32) < 0 ∨ 6 ≤ (3 : Int32).toNatClampNeg) by decide) h_x3 dL_law_307 ?_
  refine z_aload_n B dL_law_308 rfl 5 rfl ?_
  refine z_iload B dL_law_309 1 rfl ?_
  refine z_iconst (v := 4) B dL_law_311 (by decide) ?_
  refine z_iadd B dL_law_312 ?_
  refine z_seti (y := 4) (by decide) ?_
  refine z_sld (j := 4) (x := x4) B hX hbl hbA (by decide) (show ¬ ((4 : Int32) < 0 ∨ 6 ≤ (4 : Int32).toNatClampNeg) by decide) h_x4 dL_law_313 ?_
  refine z_aload_n B dL_law_314 rfl 5 rfl ?_
  refine z_iload B dL_law_315 1 rfl ?_
  refine z_iconst (v := 5) B dL_law_317 (by decide) ?_
  refine z_iadd B dL_law_318 ?_
  refine z_seti (y := 5) (by decide) ?_
  refine z_sld (j := 5) (x := x5) B hX hbl hbA (by decide) (show ¬ ((5 : Int32) < 0 ∨ 6 ≤ (5 : Int32).toNatClampNeg) by decide) h_x5 dL_law_319 ?_
  refine z_cVi (As := [.int 3, .int x2, .int x3, .int x4, .int x5]) (rest := []) B cw_L_86 cx_10 dL_law_320 (ci_X9_check_550 l (σ := (ap b (wx_Z σ z) [] [] [])) (b := b) (lyA (lyZ hK)) x2 x3 x4 x5 q1_x2 q2_x2 q1_x3 q2_x3 q1_x4 q2_x4) (lKA (lKZ (hk_K hK 405 rfl rfl))) rfl (by decide) rfl (Nat.le_of_ble_eq_true rfl) (by decide) (fun r u hu => ?_)
  refine z_eqs (σ' := (ap b (wx_Z σ z) [(405, 0, 1)] [] [])) (hu.2.trans ap_ap) ?_
  show zx p l e _ s m _ below meth c g 8 _ _ _ _ 323 [(5, .int 1), (4, .int 0), (3, .ref (b + 431)), (2, .ref (b + 405)), (1, .ref (b + 0)), (0, .ref bS)] _
  refine z_seti (y := 0) hu.1 ?_
  refine z_istore (lv' := [(6, .int 0), (5, .int 1), (4, .int 0), (3, .ref (b + 431)), (2, .ref (b + 405)), (1, .ref (b + 0)), (0, .ref bS)]) B dL_law_323 (by decide) rfl ?_
  refine z_aload_n B dL_law_325 rfl 4 rfl ?_
  refine z_cVi (As := []) (rest := []) B cw_L_80 cx_10 dL_law_326 (ci_X9_thrown_31 l (σ := (ap b (wx_Z σ z) [(405, 0, 1)] [] [])) (b := b) (lyA (lyZ hK)) (rI_at 405 0 rfl)) (lKA (lKZ (hk_K hK 405 rfl rfl))) rfl (by decide) rfl (Nat.le_of_ble_eq_true rfl) (by decide) (fun r u hu => ?_)
  refine z_eqs (σ' := (ap b (wx_Z σ z) [(405, 0, 1)] [] [])) hu.2 ?_
  show zx p l e _ s m _ below meth c g 8 _ _ _ _ 329 [(6, .int 0), (5, .int 1), (4, .int 0), (3, .ref (b + 431)), (2, .ref (b + 405)), (1, .ref (b + 0)), (0, .ref bS)] _
  refine z_seti (y := 1) hu.1 ?_
  refine z_iload B dL_law_329 1 rfl ?_
  refine z_icmp_eq (tgt := 336) B dL_law_331 (by decide) (fun _ => ?_) (fun h => absurd (by decide) h)
  refine z_iload B dL_law_336 1 rfl ?_
  refine z_if_ne (tgt := 353) B dL_law_338 (by decide) (fun _ => ?_) (fun h => absurd h (by decide))
  refine z_goto (tgt := 1395) B dL_law_353 (by decide) ?_
  exact z_widen (Nat.le_of_ble_eq_true rfl) (Nat.le_of_ble_eq_true rfl) (z_sub _ [2, 6] rfl (kk _))
set_option maxRecDepth 100000 in
set_option maxHeartbeats 4000000 in
theorem lf_1_226 {p : Program} {l : Launch} {e : Env} {s : State} {m : MethodId} {args : Array Value} {below : List Frame} {meth : Method} {c : Code} {g : gx_T} {Q : State → Prop} {σ : sx_T} {b t bS : Nat} {xs : Nat → Int32} (hlt : l.stackTraces = false) (B : zx_B p s m args meth c code RL 8 g) (hX : va_X bS 6 xs s s.heap) (hbl : bS < s.heap.size) (hbA : ¬ gx_b g ≤ bS) (hF : fz_P b t σ) (h_x1 : xs 1 = 3) {x2 : Int32} (h_x2 : xs 2 = x2) (q1_x2 : (20 : Int) ≤ x2.toInt) (q2_x2 : x2.toInt ≤ (2147483647 : Int)) {x3 : Int32} (h_x3 : xs 3 = x3) (q1_x3 : (0 : Int) ≤ x3.toInt) (q2_x3 : x3.toInt ≤ (17 : Int)) {x4 : Int32} (h_x4 : xs 4 = x4) (q1_x4 : (0 : Int) ≤ x4.toInt) (q2_x4 : x4.toInt ≤ (99 : Int)) {x5 : Int32} (h_x5 : xs 5 = x5) (q1_x5 : (-2147483648 : Int) ≤ x5.toInt) (q2_x5 : x5.toInt ≤ (-1 : Int)) (kk : ∀ σ', zx p l e room_1 s m args below meth c g 8 600002 7302232 Q σ' 1395 [(4, .int 0), (0, .ref bS)] []) : zx p l e room_1 s m args below meth c g 8 500 100000 Q σ 252 [(4, .int 0), (3, .ref (b + 431)), (2, .ref (b + 405)), (1, .ref (b + 0)), (0, .ref bS)] [] := by
  have hK := fz_lay hF
  refine z_eqs (σ' := (ap b σ [] [] [])) rfl ?_
  refine z_aload_n B dL_law_252 rfl 3 rfl ?_
  refine z_aload_n B dL_law_253 rfl 4 rfl ?_
  refine z_iload B dL_law_254 0 rfl ?_
  refine z_iconst (v := 1) B dL_law_256 (by decide) ?_
  refine z_iadd B dL_law_257 ?_
  refine z_seti (y := 1) (by decide) ?_
  refine z_sld (j := 1) (x := 3) B hX hbl hbA (by decide) (show ¬ ((1 : Int32) < 0 ∨ 6 ≤ (1 : Int32).toNatClampNeg) by decide) h_x1 dL_law_258 ?_
  refine z_aload_n B dL_law_259 rfl 4 rfl ?_
  refine z_iload B dL_law_260 0 rfl ?_
  refine z_iconst (v := 2) B dL_law_262 (by decide) ?_
  refine z_iadd B dL_law_263 ?_
  refine z_seti (y := 2) (by decide) ?_
  refine z_sld (j := 2) (x := x2) B hX hbl hbA (by decide) (show ¬ ((2 : Int32) < 0 ∨ 6 ≤ (2 : Int32).toNatClampNeg) by decide) h_x2 dL_law_264 ?_
  refine z_aload_n B dL_law_265 rfl 4 rfl ?_
  refine z_iload B dL_law_266 0 rfl ?_
  refine z_iconst (v := 3) B dL_law_268 (by decide) ?_
  refine z_iadd B dL_law_269 ?_
  refine z_seti (y := 3) (by decide) ?_
  refine z_sld (j := 3) (x := x3) B hX hbl hbA (by decide) (show ¬ ((3 : Int32) < 0 ∨ 6 ≤ (3 : Int32).toNatClampNeg) by decide) h_x3 dL_law_270 ?_
  refine z_aload_n B dL_law_271 rfl 4 rfl ?_
  refine z_iload B dL_law_272 0 rfl ?_
  refine z_iconst (v := 4) B dL_law_274 (by decide) ?_
  refine z_iadd B dL_law_275 ?_
  refine z_seti (y := 4) (by decide) ?_
  refine z_sld (j := 4) (x := x4) B hX hbl hbA (by decide) (show ¬ ((4 : Int32) < 0 ∨ 6 ≤ (4 : Int32).toNatClampNeg) by decide) h_x4 dL_law_276 ?_
  refine z_aload_n B dL_law_277 rfl 4 rfl ?_
  refine z_iload B dL_law_278 0 rfl ?_
  refine z_iconst (v := 5) B dL_law_280 (by decide) ?_
  refine z_iadd B dL_law_281 ?_
  refine z_seti (y := 5) (by decide) ?_
  refine z_sld (j := 5) (x := x5) B hX hbl hbA (by decide) (show ¬ ((5 : Int32) < 0 ∨ 6 ≤ (5 : Int32).toNatClampNeg) by decide) h_x5 dL_law_282 ?_
  refine z_aload_n B dL_law_283 rfl 1 rfl ?_
  refine z_cSWi (As := [.ref (b + 0), .int 3, .int x2, .int x3, .int x4, .int x5, .ref (b + 431)]) (rest := []) B cw_L_84 dL_law_284 (ci_L_check_548 l hlt (σ := (ap b σ [] [] [])) (b := b) (lyA hK) x2 x3 x4 x5 q1_x2 q2_x2 (rR_at 0 0 (fz_R hF 0 0 rfl rfl)) (rR_at 1 3 (fz_R hF 1 3 rfl rfl))) rfl (by decide) rfl (Nat.le_of_ble_eq_true rfl) (by decide) (fun r u hu => ?_)
  obtain ⟨hu1, z, hu⟩ := hu
  refine z_eqs (σ' := (ap b (wx_Z σ z) [] [] [])) (hu.trans az_ap) ?_
  show zx p l e _ s m _ below meth c g 8 _ _ _ _ 287 [(4, .int 0), (3, .ref (b + 431)), (2, .ref (b + 405)), (1, .ref (b + 0)), (0, .ref bS)] _
  refine z_seti (y := 1) hu1 ?_
  refine z_istore (lv' := [(5, .int 1), (4, .int 0), (3, .ref (b + 431)), (2, .ref (b + 405)), (1, .ref (b + 0)), (0, .ref bS)]) B dL_law_287 (by decide) rfl ?_
  refine z_aload_n B dL_law_289 rfl 3 rfl ?_
  refine z_aload_n B dL_law_290 rfl 5 rfl ?_
  refine z_iload B dL_law_291 1 rfl ?_
  refine z_iconst (v := 1) B dL_law_293 (by decide) ?_
  refine z_iadd B dL_law_294 ?_
  refine z_seti (y := 1) (by decide) ?_
  refine z_sld (j := 1) (x := 3) B hX hbl hbA (by decide) (show ¬ ((1 : Int32) < 0 ∨ 6 ≤ (1 : Int32).toNatClampNeg) by decide) h_x1 dL_law_295 ?_
  refine z_aload_n B dL_law_296 rfl 5 rfl ?_
  refine z_iload B dL_law_297 1 rfl ?_
  refine z_iconst (v := 2) B dL_law_299 (by decide) ?_
  refine z_iadd B dL_law_300 ?_
  refine z_seti (y := 2) (by decide) ?_
  refine z_sld (j := 2) (x := x2) B hX hbl hbA (by decide) (show ¬ ((2 : Int32) < 0 ∨ 6 ≤ (2 : Int32).toNatClampNeg) by decide) h_x2 dL_law_301 ?_
  refine z_aload_n B dL_law_302 rfl 5 rfl ?_
  refine z_iload B dL_law_303 1 rfl ?_
  refine z_iconst (v := 3) B dL_law_305 (by decide) ?_
  refine z_iadd B dL_law_306 ?_
  refine z_seti (y := 3) (by decide) ?_
  refine z_sld (j := 3) (x := x3) B hX hbl hbA (by decide) (show ¬ ((3 : Int32) < 0 ∨ 6 ≤ (3 : Int32).toNatClampNeg) by decide) h_x3 dL_law_307 ?_
  refine z_aload_n B dL_law_308 rfl 5 rfl ?_
  refine z_iload B dL_law_309 1 rfl ?_
  refine z_iconst (v := 4) B dL_law_311 (by decide) ?_
  refine z_iadd B dL_law_312 ?_
  refine z_seti (y := 4) (by decide) ?_
  refine z_sld (j := 4) (x := x4) B hX hbl hbA (by decide) (show ¬ ((4 : Int32) < 0 ∨ 6 ≤ (4 : Int32).toNatClampNeg) by decide) h_x4 dL_law_313 ?_
  refine z_aload_n B dL_law_314 rfl 5 rfl ?_
  refine z_iload B dL_law_315 1 rfl ?_
  refine z_iconst (v := 5) B dL_law_317 (by decide) ?_
  refine z_iadd B dL_law_318 ?_
  refine z_seti (y := 5) (by decide) ?_
  refine z_sld (j := 5) (x := x5) B hX hbl hbA (by decide) (show ¬ ((5 : Int32) < 0 ∨ 6 ≤ (5 : Int32).toNatClampNeg) by decide) h_x5 dL_law_319 ?_
  refine z_cVi (As := [.int 3, .int x2, .int x3, .int x4, .int x5]) (rest := []) B cw_L_86 cx_10 dL_law_320 (ci_X9_check_551 l (σ := (ap b (wx_Z σ z) [] [] [])) (b := b) (lyA (lyZ hK)) x2 x3 x4 x5 q1_x2 q2_x2 q1_x3 q2_x3 q1_x4 q2_x4 q1_x5 q2_x5) (lKA (lKZ (hk_K hK 405 rfl rfl))) rfl (by decide) rfl (Nat.le_of_ble_eq_true rfl) (by decide) (fun r u hu => ?_)
  refine z_eqs (σ' := (ap b (wx_Z σ z) [(405, 0, 1)] [] [])) (hu.2.trans ap_ap) ?_
  show zx p l e _ s m _ below meth c g 8 _ _ _ _ 323 [(5, .int 1), (4, .int 0), (3, .ref (b + 431)), (2, .ref (b + 405)), (1, .ref (b + 0)), (0, .ref bS)] _
  refine z_seti (y := 0) hu.1 ?_
  refine z_istore (lv' := [(6, .int 0), (5, .int 1), (4, .int 0), (3, .ref (b + 431)), (2, .ref (b + 405)), (1, .ref (b + 0)), (0, .ref bS)]) B dL_law_323 (by decide) rfl ?_
  refine z_aload_n B dL_law_325 rfl 4 rfl ?_
  refine z_cVi (As := []) (rest := []) B cw_L_80 cx_10 dL_law_326 (ci_X9_thrown_31 l (σ := (ap b (wx_Z σ z) [(405, 0, 1)] [] [])) (b := b) (lyA (lyZ hK)) (rI_at 405 0 rfl)) (lKA (lKZ (hk_K hK 405 rfl rfl))) rfl (by decide) rfl (Nat.le_of_ble_eq_true rfl) (by decide) (fun r u hu => ?_)
  refine z_eqs (σ' := (ap b (wx_Z σ z) [(405, 0, 1)] [] [])) hu.2 ?_
  show zx p l e _ s m _ below meth c g 8 _ _ _ _ 329 [(6, .int 0), (5, .int 1), (4, .int 0), (3, .ref (b + 431)), (2, .ref (b + 405)), (1, .ref (b + 0)), (0, .ref bS)] _
  refine z_seti (y := 1) hu.1 ?_
  refine z_iload B dL_law_329 1 rfl ?_
  refine z_icmp_eq (tgt := 336) B dL_law_331 (by decide) (fun _ => ?_) (fun h => absurd (by decide) h)
  refine z_iload B dL_law_336 1 rfl ?_
  refine z_if_ne (tgt := 353) B dL_law_338 (by decide) (fun _ => ?_) (fun h => absurd h (by decide))
  refine z_goto (tgt := 1395) B dL_law_353 (by decide) ?_
  exact z_widen (Nat.le_of_ble_eq_true rfl) (Nat.le_of_ble_eq_true rfl) (z_sub _ [2, 6] rfl (kk _))
set_option maxRecDepth 100000 in
set_option maxHeartbeats 4000000 in
theorem lf_1_227 {p : Program} {l : Launch} {e : Env} {s : State} {m : MethodId} {args : Array Value} {below : List Frame} {meth : Method} {c : Code} {g : gx_T} {Q : State → Prop} {σ : sx_T} {b t bS : Nat} {xs : Nat → Int32} (hlt : l.stackTraces = false) (B : zx_B p s m args meth c code RL 8 g) (hX : va_X bS 6 xs s s.heap) (hbl : bS < s.heap.size) (hbA : ¬ gx_b g ≤ bS) (hF : fz_P b t σ) (h_x1 : xs 1 = 3) {x2 : Int32} (h_x2 : xs 2 = x2) (q1_x2 : (20 : Int) ≤ x2.toInt) (q2_x2 : x2.toInt ≤ (2147483647 : Int)) {x3 : Int32} (h_x3 : xs 3 = x3) (q1_x3 : (0 : Int) ≤ x3.toInt) (q2_x3 : x3.toInt ≤ (17 : Int)) {x4 : Int32} (h_x4 : xs 4 = x4) (q1_x4 : (0 : Int) ≤ x4.toInt) (q2_x4 : x4.toInt ≤ (99 : Int)) {x5 : Int32} (h_x5 : xs 5 = x5) (q1_x5 : (0 : Int) ≤ x5.toInt) (q2_x5 : x5.toInt ≤ (99 : Int)) (kk : ∀ σ', zx p l e room_1 s m args below meth c g 8 600002 7302232 Q σ' 1395 [(4, .int 0), (0, .ref bS)] []) : zx p l e room_1 s m args below meth c g 8 500 100000 Q σ 252 [(4, .int 0), (3, .ref (b + 431)), (2, .ref (b + 405)), (1, .ref (b + 0)), (0, .ref bS)] [] := by
  have hK := fz_lay hF
  refine z_eqs (σ' := (ap b σ [] [] [])) rfl ?_
  refine z_aload_n B dL_law_252 rfl 3 rfl ?_
  refine z_aload_n B dL_law_253 rfl 4 rfl ?_
  refine z_iload B dL_law_254 0 rfl ?_
  refine z_iconst (v := 1) B dL_law_256 (by decide) ?_
  refine z_iadd B dL_law_257 ?_
  refine z_seti (y := 1) (by decide) ?_
  refine z_sld (j := 1) (x := 3) B hX hbl hbA (by decide) (show ¬ ((1 : Int32) < 0 ∨ 6 ≤ (1 : Int32).toNatClampNeg) by decide) h_x1 dL_law_258 ?_
  refine z_aload_n B dL_law_259 rfl 4 rfl ?_
  refine z_iload B dL_law_260 0 rfl ?_
  refine z_iconst (v := 2) B dL_law_262 (by decide) ?_
  refine z_iadd B dL_law_263 ?_
  refine z_seti (y := 2) (by decide) ?_
  refine z_sld (j := 2) (x := x2) B hX hbl hbA (by decide) (show ¬ ((2 : Int32) < 0 ∨ 6 ≤ (2 : Int32).toNatClampNeg) by decide) h_x2 dL_law_264 ?_
  refine z_aload_n B dL_law_265 rfl 4 rfl ?_
  refine z_iload B dL_law_266 0 rfl ?_
  refine z_iconst (v := 3) B dL_law_268 (by decide) ?_
  refine z_iadd B dL_law_269 ?_
  refine z_seti (y := 3) (by decide) ?_
  refine z_sld (j := 3) (x := x3) B hX hbl hbA (by decide) (show ¬ ((3 : Int32) < 0 ∨ 6 ≤ (3 : Int32).toNatClampNeg) by decide) h_x3 dL_law_270 ?_
  refine z_aload_n B dL_law_271 rfl 4 rfl ?_
  refine z_iload B dL_law_272 0 rfl ?_
  refine z_iconst (v := 4) B dL_law_274 (by decide) ?_
  refine z_iadd B dL_law_275 ?_
  refine z_seti (y := 4) (by decide) ?_
  refine z_sld (j := 4) (x := x4) B hX hbl hbA (by decide) (show ¬ ((4 : Int32) < 0 ∨ 6 ≤ (4 : Int32).toNatClampNeg) by decide) h_x4 dL_law_276 ?_
  refine z_aload_n B dL_law_277 rfl 4 rfl ?_
  refine z_iload B dL_law_278 0 rfl ?_
  refine z_iconst (v := 5) B dL_law_280 (by decide) ?_
  refine z_iadd B dL_law_281 ?_
  refine z_seti (y := 5) (by decide) ?_
  refine z_sld (j := 5) (x := x5) B hX hbl hbA (by decide) (show ¬ ((5 : Int32) < 0 ∨ 6 ≤ (5 : Int32).toNatClampNeg) by decide) h_x5 dL_law_282 ?_
  refine z_aload_n B dL_law_283 rfl 1 rfl ?_
  refine z_cSWi (As := [.ref (b + 0), .int 3, .int x2, .int x3, .int x4, .int x5, .ref (b + 431)]) (rest := []) B cw_L_84 dL_law_284 (ci_L_check_548 l hlt (σ := (ap b σ [] [] [])) (b := b) (lyA hK) x2 x3 x4 x5 q1_x2 q2_x2 (rR_at 0 0 (fz_R hF 0 0 rfl rfl)) (rR_at 1 3 (fz_R hF 1 3 rfl rfl))) rfl (by decide) rfl (Nat.le_of_ble_eq_true rfl) (by decide) (fun r u hu => ?_)
  obtain ⟨hu1, z, hu⟩ := hu
  refine z_eqs (σ' := (ap b (wx_Z σ z) [] [] [])) (hu.trans az_ap) ?_
  show zx p l e _ s m _ below meth c g 8 _ _ _ _ 287 [(4, .int 0), (3, .ref (b + 431)), (2, .ref (b + 405)), (1, .ref (b + 0)), (0, .ref bS)] _
  refine z_seti (y := 1) hu1 ?_
  refine z_istore (lv' := [(5, .int 1), (4, .int 0), (3, .ref (b + 431)), (2, .ref (b + 405)), (1, .ref (b + 0)), (0, .ref bS)]) B dL_law_287 (by decide) rfl ?_
  refine z_aload_n B dL_law_289 rfl 3 rfl ?_
  refine z_aload_n B dL_law_290 rfl 5 rfl ?_
  refine z_iload B dL_law_291 1 rfl ?_
  refine z_iconst (v := 1) B dL_law_293 (by decide) ?_
  refine z_iadd B dL_law_294 ?_
  refine z_seti (y := 1) (by decide) ?_
  refine z_sld (j := 1) (x := 3) B hX hbl hbA (by decide) (show ¬ ((1 : Int32) < 0 ∨ 6 ≤ (1 : Int32).toNatClampNeg) by decide) h_x1 dL_law_295 ?_
  refine z_aload_n B dL_law_296 rfl 5 rfl ?_
  refine z_iload B dL_law_297 1 rfl ?_
  refine z_iconst (v := 2) B dL_law_299 (by decide) ?_
  refine z_iadd B dL_law_300 ?_
  refine z_seti (y := 2) (by decide) ?_
  refine z_sld (j := 2) (x := x2) B hX hbl hbA (by decide) (show ¬ ((2 : Int32) < 0 ∨ 6 ≤ (2 : Int32).toNatClampNeg) by decide) h_x2 dL_law_301 ?_
  refine z_aload_n B dL_law_302 rfl 5 rfl ?_
  refine z_iload B dL_law_303 1 rfl ?_
  refine z_iconst (v := 3) B dL_law_305 (by decide) ?_
  refine z_iadd B dL_law_306 ?_
  refine z_seti (y := 3) (by decide) ?_
  refine z_sld (j := 3) (x := x3) B hX hbl hbA (by decide) (show ¬ ((3 : Int32) < 0 ∨ 6 ≤ (3 : Int32).toNatClampNeg) by decide) h_x3 dL_law_307 ?_
  refine z_aload_n B dL_law_308 rfl 5 rfl ?_
  refine z_iload B dL_law_309 1 rfl ?_
  refine z_iconst (v := 4) B dL_law_311 (by decide) ?_
  refine z_iadd B dL_law_312 ?_
  refine z_seti (y := 4) (by decide) ?_
  refine z_sld (j := 4) (x := x4) B hX hbl hbA (by decide) (show ¬ ((4 : Int32) < 0 ∨ 6 ≤ (4 : Int32).toNatClampNeg) by decide) h_x4 dL_law_313 ?_
  refine z_aload_n B dL_law_314 rfl 5 rfl ?_
  refine z_iload B dL_law_315 1 rfl ?_
  refine z_iconst (v := 5) B dL_law_317 (by decide) ?_
  refine z_iadd B dL_law_318 ?_
  refine z_seti (y := 5) (by decide) ?_
  refine z_sld (j := 5) (x := x5) B hX hbl hbA (by decide) (show ¬ ((5 : Int32) < 0 ∨ 6 ≤ (5 : Int32).toNatClampNeg) by decide) h_x5 dL_law_319 ?_
  refine z_cVi (As := [.int 3, .int x2, .int x3, .int x4, .int x5]) (rest := []) B cw_L_86 cx_10 dL_law_320 (ci_X9_check_552 l (σ := (ap b (wx_Z σ z) [] [] [])) (b := b) (lyA (lyZ hK)) x2 x3 x4 x5 q1_x2 q2_x2 q1_x3 q2_x3 q1_x4 q2_x4 q1_x5 q2_x5) (lKA (lKZ (hk_K hK 405 rfl rfl))) rfl (by decide) rfl (Nat.le_of_ble_eq_true rfl) (by decide) (fun r u hu => ?_)
  refine z_eqs (σ' := (ap b (wx_Z σ z) [(405, 0, 1)] [] [])) (hu.2.trans ap_ap) ?_
  show zx p l e _ s m _ below meth c g 8 _ _ _ _ 323 [(5, .int 1), (4, .int 0), (3, .ref (b + 431)), (2, .ref (b + 405)), (1, .ref (b + 0)), (0, .ref bS)] _
  refine z_seti (y := 0) hu.1 ?_
  refine z_istore (lv' := [(6, .int 0), (5, .int 1), (4, .int 0), (3, .ref (b + 431)), (2, .ref (b + 405)), (1, .ref (b + 0)), (0, .ref bS)]) B dL_law_323 (by decide) rfl ?_
  refine z_aload_n B dL_law_325 rfl 4 rfl ?_
  refine z_cVi (As := []) (rest := []) B cw_L_80 cx_10 dL_law_326 (ci_X9_thrown_31 l (σ := (ap b (wx_Z σ z) [(405, 0, 1)] [] [])) (b := b) (lyA (lyZ hK)) (rI_at 405 0 rfl)) (lKA (lKZ (hk_K hK 405 rfl rfl))) rfl (by decide) rfl (Nat.le_of_ble_eq_true rfl) (by decide) (fun r u hu => ?_)
  refine z_eqs (σ' := (ap b (wx_Z σ z) [(405, 0, 1)] [] [])) hu.2 ?_
  show zx p l e _ s m _ below meth c g 8 _ _ _ _ 329 [(6, .int 0), (5, .int 1), (4, .int 0), (3, .ref (b + 431)), (2, .ref (b + 405)), (1, .ref (b + 0)), (0, .ref bS)] _
  refine z_seti (y := 1) hu.1 ?_
  refine z_iload B dL_law_329 1 rfl ?_
  refine z_icmp_eq (tgt := 336) B dL_law_331 (by decide) (fun _ => ?_) (fun h => absurd (by decide) h)
  refine z_iload B dL_law_336 1 rfl ?_
  refine z_if_ne (tgt := 353) B dL_law_338 (by decide) (fun _ => ?_) (fun h => absurd h (by decide))
  refine z_goto (tgt := 1395) B dL_law_353 (by decide) ?_
  exact z_widen (Nat.le_of_ble_eq_true rfl) (Nat.le_of_ble_eq_true rfl) (z_sub _ [2, 6] rfl (kk _))
set_option maxRecDepth 100000 in
set_option maxHeartbeats 4000000 in
theorem lf_1_228 {p : Program} {l : Launch} {e : Env} {s : State} {m : MethodId} {args : Array Value} {below : List Frame} {meth : Method} {c : Code} {g : gx_T} {Q : State → Prop} {σ : sx_T} {b t bS : Nat} {xs : Nat → Int32} (hlt : l.stackTraces = false) (B : zx_B p s m args meth c code RL 8 g) (hX : va_X bS 6 xs s s.heap) (hbl : bS < s.heap.size) (hbA : ¬ gx_b g ≤ bS) (hF : fz_P b t σ) (h_x1 : xs 1 = 3) {x2 : Int32} (h_x2 : xs 2 = x2) (q1_x2 : (20 : Int) ≤ x2.toInt) (q2_x2 : x2.toInt ≤ (2147483647 : Int)) {x3 : Int32} (h_x3 : xs 3 = x3) (q1_x3 : (0 : Int) ≤ x3.toInt) (q2_x3 : x3.toInt ≤ (17 : Int)) {x4 : Int32} (h_x4 : xs 4 = x4) (q1_x4 : (0 : Int) ≤ x4.toInt) (q2_x4 : x4.toInt ≤ (99 : Int)) {x5 : Int32} (h_x5 : xs 5 = x5) (q1_x5 : (100 : Int) ≤ x5.toInt) (q2_x5 : x5.toInt ≤ (2147483647 : Int)) (kk : ∀ σ', zx p l e room_1 s m args below meth c g 8 600002 7302232 Q σ' 1395 [(4, .int 0), (0, .ref bS)] []) : zx p l e room_1 s m args below meth c g 8 500 100000 Q σ 252 [(4, .int 0), (3, .ref (b + 431)), (2, .ref (b + 405)), (1, .ref (b + 0)), (0, .ref bS)] [] := by
  have hK := fz_lay hF
  refine z_eqs (σ' := (ap b σ [] [] [])) rfl ?_
  refine z_aload_n B dL_law_252 rfl 3 rfl ?_
  refine z_aload_n B dL_law_253 rfl 4 rfl ?_
  refine z_iload B dL_law_254 0 rfl ?_
  refine z_iconst (v := 1) B dL_law_256 (by decide) ?_
  refine z_iadd B dL_law_257 ?_
  refine z_seti (y := 1) (by decide) ?_
  refine z_sld (j := 1) (x := 3) B hX hbl hbA (by decide) (show ¬ ((1 : Int32) < 0 ∨ 6 ≤ (1 : Int32).toNatClampNeg) by decide) h_x1 dL_law_258 ?_
  refine z_aload_n B dL_law_259 rfl 4 rfl ?_
  refine z_iload B dL_law_260 0 rfl ?_
  refine z_iconst (v := 2) B dL_law_262 (by decide) ?_
  refine z_iadd B dL_law_263 ?_
  refine z_seti (y := 2) (by decide) ?_
  refine z_sld (j := 2) (x := x2) B hX hbl hbA (by decide) (show ¬ ((2 : Int32) < 0 ∨ 6 ≤ (2 : Int32).toNatClampNeg) by decide) h_x2 dL_law_264 ?_
  refine z_aload_n B dL_law_265 rfl 4 rfl ?_
  refine z_iload B dL_law_266 0 rfl ?_
  refine z_iconst (v := 3) B dL_law_268 (by decide) ?_
  refine z_iadd B dL_law_269 ?_
  refine z_seti (y := 3) (by decide) ?_
  refine z_sld (j := 3) (x := x3) B hX hbl hbA (by decide) (show ¬ ((3 : Int32) < 0 ∨ 6 ≤ (3 : Int32).toNatClampNeg) by decide) h_x3 dL_law_270 ?_
  refine z_aload_n B dL_law_271 rfl 4 rfl ?_
  refine z_iload B dL_law_272 0 rfl ?_
  refine z_iconst (v := 4) B dL_law_274 (by decide) ?_
  refine z_iadd B dL_law_275 ?_
  refine z_seti (y := 4) (by decide) ?_
  refine z_sld (j := 4) (x := x4) B hX hbl hbA (by decide) (show ¬ ((4 : Int32) < 0 ∨ 6 ≤ (4 : Int32).toNatClampNeg) by decide) h_x4 dL_law_276 ?_
  refine z_aload_n B dL_law_277 rfl 4 rfl ?_
  refine z_iload B dL_law_278 0 rfl ?_
  refine z_iconst (v := 5) B dL_law_280 (by decide) ?_
  refine z_iadd B dL_law_281 ?_
  refine z_seti (y := 5) (by decide) ?_
  refine z_sld (j := 5) (x := x5) B hX hbl hbA (by decide) (show ¬ ((5 : Int32) < 0 ∨ 6 ≤ (5 : Int32).toNatClampNeg) by decide) h_x5 dL_law_282 ?_
  refine z_aload_n B dL_law_283 rfl 1 rfl ?_
  refine z_cSWi (As := [.ref (b + 0), .int 3, .int x2, .int x3, .int x4, .int x5, .ref (b + 431)]) (rest := []) B cw_L_84 dL_law_284 (ci_L_check_548 l hlt (σ := (ap b σ [] [] [])) (b := b) (lyA hK) x2 x3 x4 x5 q1_x2 q2_x2 (rR_at 0 0 (fz_R hF 0 0 rfl rfl)) (rR_at 1 3 (fz_R hF 1 3 rfl rfl))) rfl (by decide) rfl (Nat.le_of_ble_eq_true rfl) (by decide) (fun r u hu => ?_)
  obtain ⟨hu1, z, hu⟩ := hu
  refine z_eqs (σ' := (ap b (wx_Z σ z) [] [] [])) (hu.trans az_ap) ?_
  show zx p l e _ s m _ below meth c g 8 _ _ _ _ 287 [(4, .int 0), (3, .ref (b + 431)), (2, .ref (b + 405)), (1, .ref (b + 0)), (0, .ref bS)] _
  refine z_seti (y := 1) hu1 ?_
  refine z_istore (lv' := [(5, .int 1), (4, .int 0), (3, .ref (b + 431)), (2, .ref (b + 405)), (1, .ref (b + 0)), (0, .ref bS)]) B dL_law_287 (by decide) rfl ?_
  refine z_aload_n B dL_law_289 rfl 3 rfl ?_
  refine z_aload_n B dL_law_290 rfl 5 rfl ?_
  refine z_iload B dL_law_291 1 rfl ?_
  refine z_iconst (v := 1) B dL_law_293 (by decide) ?_
  refine z_iadd B dL_law_294 ?_
  refine z_seti (y := 1) (by decide) ?_
  refine z_sld (j := 1) (x := 3) B hX hbl hbA (by decide) (show ¬ ((1 : Int32) < 0 ∨ 6 ≤ (1 : Int32).toNatClampNeg) by decide) h_x1 dL_law_295 ?_
  refine z_aload_n B dL_law_296 rfl 5 rfl ?_
  refine z_iload B dL_law_297 1 rfl ?_
  refine z_iconst (v := 2) B dL_law_299 (by decide) ?_
  refine z_iadd B dL_law_300 ?_
  refine z_seti (y := 2) (by decide) ?_
  refine z_sld (j := 2) (x := x2) B hX hbl hbA (by decide) (show ¬ ((2 : Int32) < 0 ∨ 6 ≤ (2 : Int32).toNatClampNeg) by decide) h_x2 dL_law_301 ?_
  refine z_aload_n B dL_law_302 rfl 5 rfl ?_
  refine z_iload B dL_law_303 1 rfl ?_
  refine z_iconst (v := 3) B dL_law_305 (by decide) ?_
  refine z_iadd B dL_law_306 ?_
  refine z_seti (y := 3) (by decide) ?_
  refine z_sld (j := 3) (x := x3) B hX hbl hbA (by decide) (show ¬ ((3 : Int32) < 0 ∨ 6 ≤ (3 : Int32).toNatClampNeg) by decide) h_x3 dL_law_307 ?_
  refine z_aload_n B dL_law_308 rfl 5 rfl ?_
  refine z_iload B dL_law_309 1 rfl ?_
  refine z_iconst (v := 4) B dL_law_311 (by decide) ?_
  refine z_iadd B dL_law_312 ?_
  refine z_seti (y := 4) (by decide) ?_
  refine z_sld (j := 4) (x := x4) B hX hbl hbA (by decide) (show ¬ ((4 : Int32) < 0 ∨ 6 ≤ (4 : Int32).toNatClampNeg) by decide) h_x4 dL_law_313 ?_
  refine z_aload_n B dL_law_314 rfl 5 rfl ?_
  refine z_iload B dL_law_315 1 rfl ?_
  refine z_iconst (v := 5) B dL_law_317 (by decide) ?_
  refine z_iadd B dL_law_318 ?_
  refine z_seti (y := 5) (by decide) ?_
  refine z_sld (j := 5) (x := x5) B hX hbl hbA (by decide) (show ¬ ((5 : Int32) < 0 ∨ 6 ≤ (5 : Int32).toNatClampNeg) by decide) h_x5 dL_law_319 ?_
  refine z_cVi (As := [.int 3, .int x2, .int x3, .int x4, .int x5]) (rest := []) B cw_L_86 cx_10 dL_law_320 (ci_X9_check_553 l (σ := (ap b (wx_Z σ z) [] [] [])) (b := b) (lyA (lyZ hK)) x2 x3 x4 x5 q1_x2 q2_x2 q1_x3 q2_x3 q1_x4 q2_x4 q1_x5 q2_x5) (lKA (lKZ (hk_K hK 405 rfl rfl))) rfl (by decide) rfl (Nat.le_of_ble_eq_true rfl) (by decide) (fun r u hu => ?_)
  refine z_eqs (σ' := (ap b (wx_Z σ z) [(405, 0, 1)] [] [])) (hu.2.trans ap_ap) ?_
  show zx p l e _ s m _ below meth c g 8 _ _ _ _ 323 [(5, .int 1), (4, .int 0), (3, .ref (b + 431)), (2, .ref (b + 405)), (1, .ref (b + 0)), (0, .ref bS)] _
  refine z_seti (y := 0) hu.1 ?_
  refine z_istore (lv' := [(6, .int 0), (5, .int 1), (4, .int 0), (3, .ref (b + 431)), (2, .ref (b + 405)), (1, .ref (b + 0)), (0, .ref bS)]) B dL_law_323 (by decide) rfl ?_
  refine z_aload_n B dL_law_325 rfl 4 rfl ?_
  refine z_cVi (As := []) (rest := []) B cw_L_80 cx_10 dL_law_326 (ci_X9_thrown_31 l (σ := (ap b (wx_Z σ z) [(405, 0, 1)] [] [])) (b := b) (lyA (lyZ hK)) (rI_at 405 0 rfl)) (lKA (lKZ (hk_K hK 405 rfl rfl))) rfl (by decide) rfl (Nat.le_of_ble_eq_true rfl) (by decide) (fun r u hu => ?_)
  refine z_eqs (σ' := (ap b (wx_Z σ z) [(405, 0, 1)] [] [])) hu.2 ?_
  show zx p l e _ s m _ below meth c g 8 _ _ _ _ 329 [(6, .int 0), (5, .int 1), (4, .int 0), (3, .ref (b + 431)), (2, .ref (b + 405)), (1, .ref (b + 0)), (0, .ref bS)] _
  refine z_seti (y := 1) hu.1 ?_
  refine z_iload B dL_law_329 1 rfl ?_
  refine z_icmp_eq (tgt := 336) B dL_law_331 (by decide) (fun _ => ?_) (fun h => absurd (by decide) h)
  refine z_iload B dL_law_336 1 rfl ?_
  refine z_if_ne (tgt := 353) B dL_law_338 (by decide) (fun _ => ?_) (fun h => absurd h (by decide))
  refine z_goto (tgt := 1395) B dL_law_353 (by decide) ?_
  exact z_widen (Nat.le_of_ble_eq_true rfl) (Nat.le_of_ble_eq_true rfl) (z_sub _ [2, 6] rfl (kk _))
set_option maxRecDepth 100000 in
set_option maxHeartbeats 4000000 in
theorem lf_1_229 {p : Program} {l : Launch} {e : Env} {s : State} {m : MethodId} {args : Array Value} {below : List Frame} {meth : Method} {c : Code} {g : gx_T} {Q : State → Prop} {σ : sx_T} {b t bS : Nat} {xs : Nat → Int32} (hlt : l.stackTraces = false) (B : zx_B p s m args meth c code RL 8 g) (hX : va_X bS 6 xs s s.heap) (hbl : bS < s.heap.size) (hbA : ¬ gx_b g ≤ bS) (hF : fz_P b t σ) (h_x1 : xs 1 = 3) {x2 : Int32} (h_x2 : xs 2 = x2) (q1_x2 : (20 : Int) ≤ x2.toInt) (q2_x2 : x2.toInt ≤ (2147483647 : Int)) {x3 : Int32} (h_x3 : xs 3 = x3) (q1_x3 : (0 : Int) ≤ x3.toInt) (q2_x3 : x3.toInt ≤ (17 : Int)) {x4 : Int32} (h_x4 : xs 4 = x4) (q1_x4 : (100 : Int) ≤ x4.toInt) (q2_x4 : x4.toInt ≤ (2147483647 : Int)) {x5 : Int32} (h_x5 : xs 5 = x5) (q1_x5 : (-2147483648 : Int) ≤ x5.toInt) (q2_x5 : x5.toInt ≤ (2147483647 : Int)) (kk : ∀ σ', zx p l e room_1 s m args below meth c g 8 600002 7302232 Q σ' 1395 [(4, .int 0), (0, .ref bS)] []) : zx p l e room_1 s m args below meth c g 8 500 100000 Q σ 252 [(4, .int 0), (3, .ref (b + 431)), (2, .ref (b + 405)), (1, .ref (b + 0)), (0, .ref bS)] [] := by
  have hK := fz_lay hF
  refine z_eqs (σ' := (ap b σ [] [] [])) rfl ?_
  refine z_aload_n B dL_law_252 rfl 3 rfl ?_
  refine z_aload_n B dL_law_253 rfl 4 rfl ?_
  refine z_iload B dL_law_254 0 rfl ?_
  refine z_iconst (v := 1) B dL_law_256 (by decide) ?_
  refine z_iadd B dL_law_257 ?_
  refine z_seti (y := 1) (by decide) ?_
  refine z_sld (j := 1) (x := 3) B hX hbl hbA (by decide) (show ¬ ((1 : Int32) < 0 ∨ 6 ≤ (1 : Int32).toNatClampNeg) by decide) h_x1 dL_law_258 ?_
  refine z_aload_n B dL_law_259 rfl 4 rfl ?_
  refine z_iload B dL_law_260 0 rfl ?_
  refine z_iconst (v := 2) B dL_law_262 (by decide) ?_
  refine z_iadd B dL_law_263 ?_
  refine z_seti (y := 2) (by decide) ?_
  refine z_sld (j := 2) (x := x2) B hX hbl hbA (by decide) (show ¬ ((2 : Int32) < 0 ∨ 6 ≤ (2 : Int32).toNatClampNeg) by decide) h_x2 dL_law_264 ?_
  refine z_aload_n B dL_law_265 rfl 4 rfl ?_
  refine z_iload B dL_law_266 0 rfl ?_
  refine z_iconst (v := 3) B dL_law_268 (by decide) ?_
  refine z_iadd B dL_law_269 ?_
  refine z_seti (y := 3) (by decide) ?_
  refine z_sld (j := 3) (x := x3) B hX hbl hbA (by decide) (show ¬ ((3 : Int32) < 0 ∨ 6 ≤ (3 : Int32).toNatClampNeg) by decide) h_x3 dL_law_270 ?_
  refine z_aload_n B dL_law_271 rfl 4 rfl ?_
  refine z_iload B dL_law_272 0 rfl ?_
  refine z_iconst (v := 4) B dL_law_274 (by decide) ?_
  refine z_iadd B dL_law_275 ?_
  refine z_seti (y := 4) (by decide) ?_
  refine z_sld (j := 4) (x := x4) B hX hbl hbA (by decide) (show ¬ ((4 : Int32) < 0 ∨ 6 ≤ (4 : Int32).toNatClampNeg) by decide) h_x4 dL_law_276 ?_
  refine z_aload_n B dL_law_277 rfl 4 rfl ?_
  refine z_iload B dL_law_278 0 rfl ?_
  refine z_iconst (v := 5) B dL_law_280 (by decide) ?_
  refine z_iadd B dL_law_281 ?_
  refine z_seti (y := 5) (by decide) ?_
  refine z_sld (j := 5) (x := x5) B hX hbl hbA (by decide) (show ¬ ((5 : Int32) < 0 ∨ 6 ≤ (5 : Int32).toNatClampNeg) by decide) h_x5 dL_law_282 ?_
  refine z_aload_n B dL_law_283 rfl 1 rfl ?_
  refine z_cSWi (As := [.ref (b + 0), .int 3, .int x2, .int x3, .int x4, .int x5, .ref (b + 431)]) (rest := []) B cw_L_84 dL_law_284 (ci_L_check_548 l hlt (σ := (ap b σ [] [] [])) (b := b) (lyA hK) x2 x3 x4 x5 q1_x2 q2_x2 (rR_at 0 0 (fz_R hF 0 0 rfl rfl)) (rR_at 1 3 (fz_R hF 1 3 rfl rfl))) rfl (by decide) rfl (Nat.le_of_ble_eq_true rfl) (by decide) (fun r u hu => ?_)
  obtain ⟨hu1, z, hu⟩ := hu
  refine z_eqs (σ' := (ap b (wx_Z σ z) [] [] [])) (hu.trans az_ap) ?_
  show zx p l e _ s m _ below meth c g 8 _ _ _ _ 287 [(4, .int 0), (3, .ref (b + 431)), (2, .ref (b + 405)), (1, .ref (b + 0)), (0, .ref bS)] _
  refine z_seti (y := 1) hu1 ?_
  refine z_istore (lv' := [(5, .int 1), (4, .int 0), (3, .ref (b + 431)), (2, .ref (b + 405)), (1, .ref (b + 0)), (0, .ref bS)]) B dL_law_287 (by decide) rfl ?_
  refine z_aload_n B dL_law_289 rfl 3 rfl ?_
  refine z_aload_n B dL_law_290 rfl 5 rfl ?_
  refine z_iload B dL_law_291 1 rfl ?_
  refine z_iconst (v := 1) B dL_law_293 (by decide) ?_
  refine z_iadd B dL_law_294 ?_
  refine z_seti (y := 1) (by decide) ?_
  refine z_sld (j := 1) (x := 3) B hX hbl hbA (by decide) (show ¬ ((1 : Int32) < 0 ∨ 6 ≤ (1 : Int32).toNatClampNeg) by decide) h_x1 dL_law_295 ?_
  refine z_aload_n B dL_law_296 rfl 5 rfl ?_
  refine z_iload B dL_law_297 1 rfl ?_
  refine z_iconst (v := 2) B dL_law_299 (by decide) ?_
  refine z_iadd B dL_law_300 ?_
  refine z_seti (y := 2) (by decide) ?_
  refine z_sld (j := 2) (x := x2) B hX hbl hbA (by decide) (show ¬ ((2 : Int32) < 0 ∨ 6 ≤ (2 : Int32).toNatClampNeg) by decide) h_x2 dL_law_301 ?_
  refine z_aload_n B dL_law_302 rfl 5 rfl ?_
  refine z_iload B dL_law_303 1 rfl ?_
  refine z_iconst (v := 3) B dL_law_305 (by decide) ?_
  refine z_iadd B dL_law_306 ?_
  refine z_seti (y := 3) (by decide) ?_
  refine z_sld (j := 3) (x := x3) B hX hbl hbA (by decide) (show ¬ ((3 : Int32) < 0 ∨ 6 ≤ (3 : Int32).toNatClampNeg) by decide) h_x3 dL_law_307 ?_
  refine z_aload_n B dL_law_308 rfl 5 rfl ?_
  refine z_iload B dL_law_309 1 rfl ?_
  refine z_iconst (v := 4) B dL_law_311 (by decide) ?_
  refine z_iadd B dL_law_312 ?_
  refine z_seti (y := 4) (by decide) ?_
  refine z_sld (j := 4) (x := x4) B hX hbl hbA (by decide) (show ¬ ((4 : Int32) < 0 ∨ 6 ≤ (4 : Int32).toNatClampNeg) by decide) h_x4 dL_law_313 ?_
  refine z_aload_n B dL_law_314 rfl 5 rfl ?_
  refine z_iload B dL_law_315 1 rfl ?_
  refine z_iconst (v := 5) B dL_law_317 (by decide) ?_
  refine z_iadd B dL_law_318 ?_
  refine z_seti (y := 5) (by decide) ?_
  refine z_sld (j := 5) (x := x5) B hX hbl hbA (by decide) (show ¬ ((5 : Int32) < 0 ∨ 6 ≤ (5 : Int32).toNatClampNeg) by decide) h_x5 dL_law_319 ?_
  refine z_cVi (As := [.int 3, .int x2, .int x3, .int x4, .int x5]) (rest := []) B cw_L_86 cx_10 dL_law_320 (ci_X9_check_554 l (σ := (ap b (wx_Z σ z) [] [] [])) (b := b) (lyA (lyZ hK)) x2 x3 x4 x5 q1_x2 q2_x2 q1_x3 q2_x3 q1_x4 q2_x4) (lKA (lKZ (hk_K hK 405 rfl rfl))) rfl (by decide) rfl (Nat.le_of_ble_eq_true rfl) (by decide) (fun r u hu => ?_)
  refine z_eqs (σ' := (ap b (wx_Z σ z) [(405, 0, 1)] [] [])) (hu.2.trans ap_ap) ?_
  show zx p l e _ s m _ below meth c g 8 _ _ _ _ 323 [(5, .int 1), (4, .int 0), (3, .ref (b + 431)), (2, .ref (b + 405)), (1, .ref (b + 0)), (0, .ref bS)] _
  refine z_seti (y := 0) hu.1 ?_
  refine z_istore (lv' := [(6, .int 0), (5, .int 1), (4, .int 0), (3, .ref (b + 431)), (2, .ref (b + 405)), (1, .ref (b + 0)), (0, .ref bS)]) B dL_law_323 (by decide) rfl ?_
  refine z_aload_n B dL_law_325 rfl 4 rfl ?_
  refine z_cVi (As := []) (rest := []) B cw_L_80 cx_10 dL_law_326 (ci_X9_thrown_31 l (σ := (ap b (wx_Z σ z) [(405, 0, 1)] [] [])) (b := b) (lyA (lyZ hK)) (rI_at 405 0 rfl)) (lKA (lKZ (hk_K hK 405 rfl rfl))) rfl (by decide) rfl (Nat.le_of_ble_eq_true rfl) (by decide) (fun r u hu => ?_)
  refine z_eqs (σ' := (ap b (wx_Z σ z) [(405, 0, 1)] [] [])) hu.2 ?_
  show zx p l e _ s m _ below meth c g 8 _ _ _ _ 329 [(6, .int 0), (5, .int 1), (4, .int 0), (3, .ref (b + 431)), (2, .ref (b + 405)), (1, .ref (b + 0)), (0, .ref bS)] _
  refine z_seti (y := 1) hu.1 ?_
  refine z_iload B dL_law_329 1 rfl ?_
  refine z_icmp_eq (tgt := 336) B dL_law_331 (by decide) (fun _ => ?_) (fun h => absurd (by decide) h)
  refine z_iload B dL_law_336 1 rfl ?_
  refine z_if_ne (tgt := 353) B dL_law_338 (by decide) (fun _ => ?_) (fun h => absurd h (by decide))
  refine z_goto (tgt := 1395) B dL_law_353 (by decide) ?_
  exact z_widen (Nat.le_of_ble_eq_true rfl) (Nat.le_of_ble_eq_true rfl) (z_sub _ [2, 6] rfl (kk _))
set_option maxRecDepth 100000 in
set_option maxHeartbeats 4000000 in
theorem lf_1_230 {p : Program} {l : Launch} {e : Env} {s : State} {m : MethodId} {args : Array Value} {below : List Frame} {meth : Method} {c : Code} {g : gx_T} {Q : State → Prop} {σ : sx_T} {b t bS : Nat} {xs : Nat → Int32} (hlt : l.stackTraces = false) (B : zx_B p s m args meth c code RL 8 g) (hX : va_X bS 6 xs s s.heap) (hbl : bS < s.heap.size) (hbA : ¬ gx_b g ≤ bS) (hF : fz_P b t σ) (h_x1 : xs 1 = 3) {x2 : Int32} (h_x2 : xs 2 = x2) (q1_x2 : (20 : Int) ≤ x2.toInt) (q2_x2 : x2.toInt ≤ (2147483647 : Int)) {x3 : Int32} (h_x3 : xs 3 = x3) (q1_x3 : (18 : Int) ≤ x3.toInt) (q2_x3 : x3.toInt ≤ (2147483647 : Int)) {x4 : Int32} (h_x4 : xs 4 = x4) (q1_x4 : (-2147483648 : Int) ≤ x4.toInt) (q2_x4 : x4.toInt ≤ (2147483647 : Int)) {x5 : Int32} (h_x5 : xs 5 = x5) (q1_x5 : (-2147483648 : Int) ≤ x5.toInt) (q2_x5 : x5.toInt ≤ (2147483647 : Int)) (kk : ∀ σ', zx p l e room_1 s m args below meth c g 8 600002 7302232 Q σ' 1395 [(4, .int 0), (0, .ref bS)] []) : zx p l e room_1 s m args below meth c g 8 500 100000 Q σ 252 [(4, .int 0), (3, .ref (b + 431)), (2, .ref (b + 405)), (1, .ref (b + 0)), (0, .ref bS)] [] := by
  have hK := fz_lay hF
  refine z_eqs (σ' := (ap b σ [] [] [])) rfl ?_
  refine z_aload_n B dL_law_252 rfl 3 rfl ?_
  refine z_aload_n B dL_law_253 rfl 4 rfl ?_
  refine z_iload B dL_law_254 0 rfl ?_
  refine z_iconst (v := 1) B dL_law_256 (by decide) ?_
  refine z_iadd B dL_law_257 ?_
  refine z_seti (y := 1) (by decide) ?_
  refine z_sld (j := 1) (x := 3) B hX hbl hbA (by decide) (show ¬ ((1 : Int32) < 0 ∨ 6 ≤ (1 : Int32).toNatClampNeg) by decide) h_x1 dL_law_258 ?_
  refine z_aload_n B dL_law_259 rfl 4 rfl ?_
  refine z_iload B dL_law_260 0 rfl ?_
  refine z_iconst (v := 2) B dL_law_262 (by decide) ?_
  refine z_iadd B dL_law_263 ?_
  refine z_seti (y := 2) (by decide) ?_
  refine z_sld (j := 2) (x := x2) B hX hbl hbA (by decide) (show ¬ ((2 : Int32) < 0 ∨ 6 ≤ (2 : Int32).toNatClampNeg) by decide) h_x2 dL_law_264 ?_
  refine z_aload_n B dL_law_265 rfl 4 rfl ?_
  refine z_iload B dL_law_266 0 rfl ?_
  refine z_iconst (v := 3) B dL_law_268 (by decide) ?_
  refine z_iadd B dL_law_269 ?_
  refine z_seti (y := 3) (by decide) ?_
  refine z_sld (j := 3) (x := x3) B hX hbl hbA (by decide) (show ¬ ((3 : Int32) < 0 ∨ 6 ≤ (3 : Int32).toNatClampNeg) by decide) h_x3 dL_law_270 ?_
  refine z_aload_n B dL_law_271 rfl 4 rfl ?_
  refine z_iload B dL_law_272 0 rfl ?_
  refine z_iconst (v := 4) B dL_law_274 (by decide) ?_
  refine z_iadd B dL_law_275 ?_
  refine z_seti (y := 4) (by decide) ?_
  refine z_sld (j := 4) (x := x4) B hX hbl hbA (by decide) (show ¬ ((4 : Int32) < 0 ∨ 6 ≤ (4 : Int32).toNatClampNeg) by decide) h_x4 dL_law_276 ?_
  refine z_aload_n B dL_law_277 rfl 4 rfl ?_
  refine z_iload B dL_law_278 0 rfl ?_
  refine z_iconst (v := 5) B dL_law_280 (by decide) ?_
  refine z_iadd B dL_law_281 ?_
  refine z_seti (y := 5) (by decide) ?_
  refine z_sld (j := 5) (x := x5) B hX hbl hbA (by decide) (show ¬ ((5 : Int32) < 0 ∨ 6 ≤ (5 : Int32).toNatClampNeg) by decide) h_x5 dL_law_282 ?_
  refine z_aload_n B dL_law_283 rfl 1 rfl ?_
  refine z_cSWi (As := [.ref (b + 0), .int 3, .int x2, .int x3, .int x4, .int x5, .ref (b + 431)]) (rest := []) B cw_L_84 dL_law_284 (ci_L_check_548 l hlt (σ := (ap b σ [] [] [])) (b := b) (lyA hK) x2 x3 x4 x5 q1_x2 q2_x2 (rR_at 0 0 (fz_R hF 0 0 rfl rfl)) (rR_at 1 3 (fz_R hF 1 3 rfl rfl))) rfl (by decide) rfl (Nat.le_of_ble_eq_true rfl) (by decide) (fun r u hu => ?_)
  obtain ⟨hu1, z, hu⟩ := hu
  refine z_eqs (σ' := (ap b (wx_Z σ z) [] [] [])) (hu.trans az_ap) ?_
  show zx p l e _ s m _ below meth c g 8 _ _ _ _ 287 [(4, .int 0), (3, .ref (b + 431)), (2, .ref (b + 405)), (1, .ref (b + 0)), (0, .ref bS)] _
  refine z_seti (y := 1) hu1 ?_
  refine z_istore (lv' := [(5, .int 1), (4, .int 0), (3, .ref (b + 431)), (2, .ref (b + 405)), (1, .ref (b + 0)), (0, .ref bS)]) B dL_law_287 (by decide) rfl ?_
  refine z_aload_n B dL_law_289 rfl 3 rfl ?_
  refine z_aload_n B dL_law_290 rfl 5 rfl ?_
  refine z_iload B dL_law_291 1 rfl ?_
  refine z_iconst (v := 1) B dL_law_293 (by decide) ?_
  refine z_iadd B dL_law_294 ?_
  refine z_seti (y := 1) (by decide) ?_
  refine z_sld (j := 1) (x := 3) B hX hbl hbA (by decide) (show ¬ ((1 : Int32) < 0 ∨ 6 ≤ (1 : Int32).toNatClampNeg) by decide) h_x1 dL_law_295 ?_
  refine z_aload_n B dL_law_296 rfl 5 rfl ?_
  refine z_iload B dL_law_297 1 rfl ?_
  refine z_iconst (v := 2) B dL_law_299 (by decide) ?_
  refine z_iadd B dL_law_300 ?_
  refine z_seti (y := 2) (by decide) ?_
  refine z_sld (j := 2) (x := x2) B hX hbl hbA (by decide) (show ¬ ((2 : Int32) < 0 ∨ 6 ≤ (2 : Int32).toNatClampNeg) by decide) h_x2 dL_law_301 ?_
  refine z_aload_n B dL_law_302 rfl 5 rfl ?_
  refine z_iload B dL_law_303 1 rfl ?_
  refine z_iconst (v := 3) B dL_law_305 (by decide) ?_
  refine z_iadd B dL_law_306 ?_
  refine z_seti (y := 3) (by decide) ?_
  refine z_sld (j := 3) (x := x3) B hX hbl hbA (by decide) (show ¬ ((3 : Int32) < 0 ∨ 6 ≤ (3 : Int32).toNatClampNeg) by decide) h_x3 dL_law_307 ?_
  refine z_aload_n B dL_law_308 rfl 5 rfl ?_
  refine z_iload B dL_law_309 1 rfl ?_
  refine z_iconst (v := 4) B dL_law_311 (by decide) ?_
  refine z_iadd B dL_law_312 ?_
  refine z_seti (y := 4) (by decide) ?_
  refine z_sld (j := 4) (x := x4) B hX hbl hbA (by decide) (show ¬ ((4 : Int32) < 0 ∨ 6 ≤ (4 : Int32).toNatClampNeg) by decide) h_x4 dL_law_313 ?_
  refine z_aload_n B dL_law_314 rfl 5 rfl ?_
  refine z_iload B dL_law_315 1 rfl ?_
  refine z_iconst (v := 5) B dL_law_317 (by decide) ?_
  refine z_iadd B dL_law_318 ?_
  refine z_seti (y := 5) (by decide) ?_
  refine z_sld (j := 5) (x := x5) B hX hbl hbA (by decide) (show ¬ ((5 : Int32) < 0 ∨ 6 ≤ (5 : Int32).toNatClampNeg) by decide) h_x5 dL_law_319 ?_
  refine z_cVi (As := [.int 3, .int x2, .int x3, .int x4, .int x5]) (rest := []) B cw_L_86 cx_10 dL_law_320 (ci_X9_check_555 l (σ := (ap b (wx_Z σ z) [] [] [])) (b := b) (lyA (lyZ hK)) x2 x3 x4 x5 q1_x2 q2_x2 q1_x3 q2_x3) (lKA (lKZ (hk_K hK 405 rfl rfl))) rfl (by decide) rfl (Nat.le_of_ble_eq_true rfl) (by decide) (fun r u hu => ?_)
  refine z_eqs (σ' := (ap b (wx_Z σ z) [(405, 0, 1)] [] [])) (hu.2.trans ap_ap) ?_
  show zx p l e _ s m _ below meth c g 8 _ _ _ _ 323 [(5, .int 1), (4, .int 0), (3, .ref (b + 431)), (2, .ref (b + 405)), (1, .ref (b + 0)), (0, .ref bS)] _
  refine z_seti (y := 0) hu.1 ?_
  refine z_istore (lv' := [(6, .int 0), (5, .int 1), (4, .int 0), (3, .ref (b + 431)), (2, .ref (b + 405)), (1, .ref (b + 0)), (0, .ref bS)]) B dL_law_323 (by decide) rfl ?_
  refine z_aload_n B dL_law_325 rfl 4 rfl ?_
  refine z_cVi (As := []) (rest := []) B cw_L_80 cx_10 dL_law_326 (ci_X9_thrown_31 l (σ := (ap b (wx_Z σ z) [(405, 0, 1)] [] [])) (b := b) (lyA (lyZ hK)) (rI_at 405 0 rfl)) (lKA (lKZ (hk_K hK 405 rfl rfl))) rfl (by decide) rfl (Nat.le_of_ble_eq_true rfl) (by decide) (fun r u hu => ?_)
  refine z_eqs (σ' := (ap b (wx_Z σ z) [(405, 0, 1)] [] [])) hu.2 ?_
  show zx p l e _ s m _ below meth c g 8 _ _ _ _ 329 [(6, .int 0), (5, .int 1), (4, .int 0), (3, .ref (b + 431)), (2, .ref (b + 405)), (1, .ref (b + 0)), (0, .ref bS)] _
  refine z_seti (y := 1) hu.1 ?_
  refine z_iload B dL_law_329 1 rfl ?_
  refine z_icmp_eq (tgt := 336) B dL_law_331 (by decide) (fun _ => ?_) (fun h => absurd (by decide) h)
  refine z_iload B dL_law_336 1 rfl ?_
  refine z_if_ne (tgt := 353) B dL_law_338 (by decide) (fun _ => ?_) (fun h => absurd h (by decide))
  refine z_goto (tgt := 1395) B dL_law_353 (by decide) ?_
  exact z_widen (Nat.le_of_ble_eq_true rfl) (Nat.le_of_ble_eq_true rfl) (z_sub _ [2, 6] rfl (kk _))
set_option maxRecDepth 100000 in
set_option maxHeartbeats 4000000 in
theorem lf_1_231 {p : Program} {l : Launch} {e : Env} {s : State} {m : MethodId} {args : Array Value} {below : List Frame} {meth : Method} {c : Code} {g : gx_T} {Q : State → Prop} {σ : sx_T} {b t bS : Nat} {xs : Nat → Int32} (hlt : l.stackTraces = false) (B : zx_B p s m args meth c code RL 8 g) (hX : va_X bS 6 xs s s.heap) (hbl : bS < s.heap.size) (hbA : ¬ gx_b g ≤ bS) (hF : fz_P b t σ) (h_x1 : xs 1 = 4) {x2 : Int32} (h_x2 : xs 2 = x2) (q1_x2 : (-2147483648 : Int) ≤ x2.toInt) (q2_x2 : x2.toInt ≤ (-1 : Int)) {x3 : Int32} (h_x3 : xs 3 = x3) (q1_x3 : (-2147483648 : Int) ≤ x3.toInt) (q2_x3 : x3.toInt ≤ (-1 : Int)) {x4 : Int32} (h_x4 : xs 4 = x4) (q1_x4 : (-2147483648 : Int) ≤ x4.toInt) (q2_x4 : x4.toInt ≤ (2147483647 : Int)) {x5 : Int32} (h_x5 : xs 5 = x5) (q1_x5 : (-2147483648 : Int) ≤ x5.toInt) (q2_x5 : x5.toInt ≤ (2147483647 : Int)) (kk : ∀ σ', zx p l e room_1 s m args below meth c g 8 600002 7302232 Q σ' 1395 [(4, .int 0), (0, .ref bS)] []) : zx p l e room_1 s m args below meth c g 8 500 100000 Q σ 252 [(4, .int 0), (3, .ref (b + 431)), (2, .ref (b + 405)), (1, .ref (b + 0)), (0, .ref bS)] [] := by
  have hK := fz_lay hF
  refine z_eqs (σ' := (ap b σ [] [] [])) rfl ?_
  refine z_aload_n B dL_law_252 rfl 3 rfl ?_
  refine z_aload_n B dL_law_253 rfl 4 rfl ?_
  refine z_iload B dL_law_254 0 rfl ?_
  refine z_iconst (v := 1) B dL_law_256 (by decide) ?_
  refine z_iadd B dL_law_257 ?_
  refine z_seti (y := 1) (by decide) ?_
  refine z_sld (j := 1) (x := 4) B hX hbl hbA (by decide) (show ¬ ((1 : Int32) < 0 ∨ 6 ≤ (1 : Int32).toNatClampNeg) by decide) h_x1 dL_law_258 ?_
  refine z_aload_n B dL_law_259 rfl 4 rfl ?_
  refine z_iload B dL_law_260 0 rfl ?_
  refine z_iconst (v := 2) B dL_law_262 (by decide) ?_
  refine z_iadd B dL_law_263 ?_
  refine z_seti (y := 2) (by decide) ?_
  refine z_sld (j := 2) (x := x2) B hX hbl hbA (by decide) (show ¬ ((2 : Int32) < 0 ∨ 6 ≤ (2 : Int32).toNatClampNeg) by decide) h_x2 dL_law_264 ?_
  refine z_aload_n B dL_law_265 rfl 4 rfl ?_
  refine z_iload B dL_law_266 0 rfl ?_
  refine z_iconst (v := 3) B dL_law_268 (by decide) ?_
  refine z_iadd B dL_law_269 ?_
  refine z_seti (y := 3) (by decide) ?_
  refine z_sld (j := 3) (x := x3) B hX hbl hbA (by decide) (show ¬ ((3 : Int32) < 0 ∨ 6 ≤ (3 : Int32).toNatClampNeg) by decide) h_x3 dL_law_270 ?_
  refine z_aload_n B dL_law_271 rfl 4 rfl ?_
  refine z_iload B dL_law_272 0 rfl ?_
  refine z_iconst (v := 4) B dL_law_274 (by decide) ?_
  refine z_iadd B dL_law_275 ?_
  refine z_seti (y := 4) (by decide) ?_
  refine z_sld (j := 4) (x := x4) B hX hbl hbA (by decide) (show ¬ ((4 : Int32) < 0 ∨ 6 ≤ (4 : Int32).toNatClampNeg) by decide) h_x4 dL_law_276 ?_
  refine z_aload_n B dL_law_277 rfl 4 rfl ?_
  refine z_iload B dL_law_278 0 rfl ?_
  refine z_iconst (v := 5) B dL_law_280 (by decide) ?_
  refine z_iadd B dL_law_281 ?_
  refine z_seti (y := 5) (by decide) ?_
  refine z_sld (j := 5) (x := x5) B hX hbl hbA (by decide) (show ¬ ((5 : Int32) < 0 ∨ 6 ≤ (5 : Int32).toNatClampNeg) by decide) h_x5 dL_law_282 ?_
  refine z_aload_n B dL_law_283 rfl 1 rfl ?_
  refine z_cSWi (As := [.ref (b + 0), .int 4, .int x2, .int x3, .int x4, .int x5, .ref (b + 431)]) (rest := []) B cw_L_84 dL_law_284 (ci_L_check_557 l hlt (σ := (ap b σ [] [] [])) (b := b) (lyA hK) x2 x3 x4 x5 q1_x2 q2_x2 (rR_at 0 0 (fz_R hF 0 0 rfl rfl)) (rR_at 1 4 (fz_R hF 1 4 rfl rfl))) rfl (by decide) rfl (Nat.le_of_ble_eq_true rfl) (by decide) (fun r u hu => ?_)
  obtain ⟨hu1, z, hu⟩ := hu
  refine z_eqs (σ' := (ap b (wx_Z σ z) [] [] [])) (hu.trans az_ap) ?_
  show zx p l e _ s m _ below meth c g 8 _ _ _ _ 287 [(4, .int 0), (3, .ref (b + 431)), (2, .ref (b + 405)), (1, .ref (b + 0)), (0, .ref bS)] _
  refine z_seti (y := 1) hu1 ?_
  refine z_istore (lv' := [(5, .int 1), (4, .int 0), (3, .ref (b + 431)), (2, .ref (b + 405)), (1, .ref (b + 0)), (0, .ref bS)]) B dL_law_287 (by decide) rfl ?_
  refine z_aload_n B dL_law_289 rfl 3 rfl ?_
  refine z_aload_n B dL_law_290 rfl 5 rfl ?_
  refine z_iload B dL_law_291 1 rfl ?_
  refine z_iconst (v := 1) B dL_law_293 (by decide) ?_
  refine z_iadd B dL_law_294 ?_
  refine z_seti (y := 1) (by decide) ?_
  refine z_sld (j := 1) (x := 4) B hX hbl hbA (by decide) (show ¬ ((1 : Int32) < 0 ∨ 6 ≤ (1 : Int32).toNatClampNeg) by decide) h_x1 dL_law_295 ?_
  refine z_aload_n B dL_law_296 rfl 5 rfl ?_
  refine z_iload B dL_law_297 1 rfl ?_
  refine z_iconst (v := 2) B dL_law_299 (by decide) ?_
  refine z_iadd B dL_law_300 ?_
  refine z_seti (y := 2) (by decide) ?_
  refine z_sld (j := 2) (x := x2) B hX hbl hbA (by decide) (show ¬ ((2 : Int32) < 0 ∨ 6 ≤ (2 : Int32).toNatClampNeg) by decide) h_x2 dL_law_301 ?_
  refine z_aload_n B dL_law_302 rfl 5 rfl ?_
  refine z_iload B dL_law_303 1 rfl ?_
  refine z_iconst (v := 3) B dL_law_305 (by decide) ?_
  refine z_iadd B dL_law_306 ?_
  refine z_seti (y := 3) (by decide) ?_
  refine z_sld (j := 3) (x := x3) B hX hbl hbA (by decide) (show ¬ ((3 : Int32) < 0 ∨ 6 ≤ (3 : Int32).toNatClampNeg) by decide) h_x3 dL_law_307 ?_
  refine z_aload_n B dL_law_308 rfl 5 rfl ?_
  refine z_iload B dL_law_309 1 rfl ?_
  refine z_iconst (v := 4) B dL_law_311 (by decide) ?_
  refine z_iadd B dL_law_312 ?_
  refine z_seti (y := 4) (by decide) ?_
  refine z_sld (j := 4) (x := x4) B hX hbl hbA (by decide) (show ¬ ((4 : Int32) < 0 ∨ 6 ≤ (4 : Int32).toNatClampNeg) by decide) h_x4 dL_law_313 ?_
  refine z_aload_n B dL_law_314 rfl 5 rfl ?_
  refine z_iload B dL_law_315 1 rfl ?_
  refine z_iconst (v := 5) B dL_law_317 (by decide) ?_
  refine z_iadd B dL_law_318 ?_
  refine z_seti (y := 5) (by decide) ?_
  refine z_sld (j := 5) (x := x5) B hX hbl hbA (by decide) (show ¬ ((5 : Int32) < 0 ∨ 6 ≤ (5 : Int32).toNatClampNeg) by decide) h_x5 dL_law_319 ?_
  refine z_cVi (As := [.int 4, .int x2, .int x3, .int x4, .int x5]) (rest := []) B cw_L_86 cx_10 dL_law_320 (ci_X9_check_558 l (σ := (ap b (wx_Z σ z) [] [] [])) (b := b) (lyA (lyZ hK)) x2 x3 x4 x5 q1_x2 q2_x2 q1_x3 q2_x3) (lKA (lKZ (hk_K hK 405 rfl rfl))) rfl (by decide) rfl (Nat.le_of_ble_eq_true rfl) (by decide) (fun r u hu => ?_)
  refine z_eqs (σ' := (ap b (wx_Z σ z) [(405, 0, 1)] [] [])) (hu.2.trans ap_ap) ?_
  show zx p l e _ s m _ below meth c g 8 _ _ _ _ 323 [(5, .int 1), (4, .int 0), (3, .ref (b + 431)), (2, .ref (b + 405)), (1, .ref (b + 0)), (0, .ref bS)] _
  refine z_seti (y := 0) hu.1 ?_
  refine z_istore (lv' := [(6, .int 0), (5, .int 1), (4, .int 0), (3, .ref (b + 431)), (2, .ref (b + 405)), (1, .ref (b + 0)), (0, .ref bS)]) B dL_law_323 (by decide) rfl ?_
  refine z_aload_n B dL_law_325 rfl 4 rfl ?_
  refine z_cVi (As := []) (rest := []) B cw_L_80 cx_10 dL_law_326 (ci_X9_thrown_31 l (σ := (ap b (wx_Z σ z) [(405, 0, 1)] [] [])) (b := b) (lyA (lyZ hK)) (rI_at 405 0 rfl)) (lKA (lKZ (hk_K hK 405 rfl rfl))) rfl (by decide) rfl (Nat.le_of_ble_eq_true rfl) (by decide) (fun r u hu => ?_)
  refine z_eqs (σ' := (ap b (wx_Z σ z) [(405, 0, 1)] [] [])) hu.2 ?_
  show zx p l e _ s m _ below meth c g 8 _ _ _ _ 329 [(6, .int 0), (5, .int 1), (4, .int 0), (3, .ref (b + 431)), (2, .ref (b + 405)), (1, .ref (b + 0)), (0, .ref bS)] _
  refine z_seti (y := 1) hu.1 ?_
  refine z_iload B dL_law_329 1 rfl ?_
  refine z_icmp_eq (tgt := 336) B dL_law_331 (by decide) (fun _ => ?_) (fun h => absurd (by decide) h)
  refine z_iload B dL_law_336 1 rfl ?_
  refine z_if_ne (tgt := 353) B dL_law_338 (by decide) (fun _ => ?_) (fun h => absurd h (by decide))
  refine z_goto (tgt := 1395) B dL_law_353 (by decide) ?_
  exact z_widen (Nat.le_of_ble_eq_true rfl) (Nat.le_of_ble_eq_true rfl) (z_sub _ [2, 6] rfl (kk _))
set_option maxRecDepth 100000 in
set_option maxHeartbeats 4000000 in
theorem lf_1_232 {p : Program} {l : Launch} {e : Env} {s : State} {m : MethodId} {args : Array Value} {below : List Frame} {meth : Method} {c : Code} {g : gx_T} {Q : State → Prop} {σ : sx_T} {b t bS : Nat} {xs : Nat → Int32} (hlt : l.stackTraces = false) (B : zx_B p s m args meth c code RL 8 g) (hX : va_X bS 6 xs s s.heap) (hbl : bS < s.heap.size) (hbA : ¬ gx_b g ≤ bS) (hF : fz_P b t σ) (h_x1 : xs 1 = 4) {x2 : Int32} (h_x2 : xs 2 = x2) (q1_x2 : (-2147483648 : Int) ≤ x2.toInt) (q2_x2 : x2.toInt ≤ (-1 : Int)) {x3 : Int32} (h_x3 : xs 3 = x3) (q1_x3 : (0 : Int) ≤ x3.toInt) (q2_x3 : x3.toInt ≤ (17 : Int)) {x4 : Int32} (h_x4 : xs 4 = x4) (q1_x4 : (-2147483648 : Int) ≤ x4.toInt) (q2_x4 : x4.toInt ≤ (-1 : Int)) {x5 : Int32} (h_x5 : xs 5 = x5) (q1_x5 : (-2147483648 : Int) ≤ x5.toInt) (q2_x5 : x5.toInt ≤ (2147483647 : Int)) (kk : ∀ σ', zx p l e room_1 s m args below meth c g 8 600002 7302232 Q σ' 1395 [(4, .int 0), (0, .ref bS)] []) : zx p l e room_1 s m args below meth c g 8 500 100000 Q σ 252 [(4, .int 0), (3, .ref (b + 431)), (2, .ref (b + 405)), (1, .ref (b + 0)), (0, .ref bS)] [] := by
  have hK := fz_lay hF
  refine z_eqs (σ' := (ap b σ [] [] [])) rfl ?_
  refine z_aload_n B dL_law_252 rfl 3 rfl ?_
  refine z_aload_n B dL_law_253 rfl 4 rfl ?_
  refine z_iload B dL_law_254 0 rfl ?_
  refine z_iconst (v := 1) B dL_law_256 (by decide) ?_
  refine z_iadd B dL_law_257 ?_
  refine z_seti (y := 1) (by decide) ?_
  refine z_sld (j := 1) (x := 4) B hX hbl hbA (by decide) (show ¬ ((1 : Int32) < 0 ∨ 6 ≤ (1 : Int32).toNatClampNeg) by decide) h_x1 dL_law_258 ?_
  refine z_aload_n B dL_law_259 rfl 4 rfl ?_
  refine z_iload B dL_law_260 0 rfl ?_
  refine z_iconst (v := 2) B dL_law_262 (by decide) ?_
  refine z_iadd B dL_law_263 ?_
  refine z_seti (y := 2) (by decide) ?_
  refine z_sld (j := 2) (x := x2) B hX hbl hbA (by decide) (show ¬ ((2 : Int32) < 0 ∨ 6 ≤ (2 : Int32).toNatClampNeg) by decide) h_x2 dL_law_264 ?_
  refine z_aload_n B dL_law_265 rfl 4 rfl ?_
  refine z_iload B dL_law_266 0 rfl ?_
  refine z_iconst (v := 3) B dL_law_268 (by decide) ?_
  refine z_iadd B dL_law_269 ?_
  refine z_seti (y := 3) (by decide) ?_
  refine z_sld (j := 3) (x := x3) B hX hbl hbA (by decide) (show ¬ ((3 : Int32) < 0 ∨ 6 ≤ (3 : Int32).toNatClampNeg) by decide) h_x3 dL_law_270 ?_
  refine z_aload_n B dL_law_271 rfl 4 rfl ?_
  refine z_iload B dL_law_272 0 rfl ?_
  refine z_iconst (v := 4) B dL_law_274 (by decide) ?_
  refine z_iadd B dL_law_275 ?_
  refine z_seti (y := 4) (by decide) ?_
  refine z_sld (j := 4) (x := x4) B hX hbl hbA (by decide) (show ¬ ((4 : Int32) < 0 ∨ 6 ≤ (4 : Int32).toNatClampNeg) by decide) h_x4 dL_law_276 ?_
  refine z_aload_n B dL_law_277 rfl 4 rfl ?_
  refine z_iload B dL_law_278 0 rfl ?_
  refine z_iconst (v := 5) B dL_law_280 (by decide) ?_
  refine z_iadd B dL_law_281 ?_
  refine z_seti (y := 5) (by decide) ?_
  refine z_sld (j := 5) (x := x5) B hX hbl hbA (by decide) (show ¬ ((5 : Int32) < 0 ∨ 6 ≤ (5 : Int32).toNatClampNeg) by decide) h_x5 dL_law_282 ?_
  refine z_aload_n B dL_law_283 rfl 1 rfl ?_
  refine z_cSWi (As := [.ref (b + 0), .int 4, .int x2, .int x3, .int x4, .int x5, .ref (b + 431)]) (rest := []) B cw_L_84 dL_law_284 (ci_L_check_557 l hlt (σ := (ap b σ [] [] [])) (b := b) (lyA hK) x2 x3 x4 x5 q1_x2 q2_x2 (rR_at 0 0 (fz_R hF 0 0 rfl rfl)) (rR_at 1 4 (fz_R hF 1 4 rfl rfl))) rfl (by decide) rfl (Nat.le_of_ble_eq_true rfl) (by decide) (fun r u hu => ?_)
  obtain ⟨hu1, z, hu⟩ := hu
  refine z_eqs (σ' := (ap b (wx_Z σ z) [] [] [])) (hu.trans az_ap) ?_
  show zx p l e _ s m _ below meth c g 8 _ _ _ _ 287 [(4, .int 0), (3, .ref (b + 431)), (2, .ref (b + 405)), (1, .ref (b + 0)), (0, .ref bS)] _
  refine z_seti (y := 1) hu1 ?_
  refine z_istore (lv' := [(5, .int 1), (4, .int 0), (3, .ref (b + 431)), (2, .ref (b + 405)), (1, .ref (b + 0)), (0, .ref bS)]) B dL_law_287 (by decide) rfl ?_
  refine z_aload_n B dL_law_289 rfl 3 rfl ?_
  refine z_aload_n B dL_law_290 rfl 5 rfl ?_
  refine z_iload B dL_law_291 1 rfl ?_
  refine z_iconst (v := 1) B dL_law_293 (by decide) ?_
  refine z_iadd B dL_law_294 ?_
  refine z_seti (y := 1) (by decide) ?_
  refine z_sld (j := 1) (x := 4) B hX hbl hbA (by decide) (show ¬ ((1 : Int32) < 0 ∨ 6 ≤ (1 : Int32).toNatClampNeg) by decide) h_x1 dL_law_295 ?_
  refine z_aload_n B dL_law_296 rfl 5 rfl ?_
  refine z_iload B dL_law_297 1 rfl ?_
  refine z_iconst (v := 2) B dL_law_299 (by decide) ?_
  refine z_iadd B dL_law_300 ?_
  refine z_seti (y := 2) (by decide) ?_
  refine z_sld (j := 2) (x := x2) B hX hbl hbA (by decide) (show ¬ ((2 : Int32) < 0 ∨ 6 ≤ (2 : Int32).toNatClampNeg) by decide) h_x2 dL_law_301 ?_
  refine z_aload_n B dL_law_302 rfl 5 rfl ?_
  refine z_iload B dL_law_303 1 rfl ?_
  refine z_iconst (v := 3) B dL_law_305 (by decide) ?_
  refine z_iadd B dL_law_306 ?_
  refine z_seti (y := 3) (by decide) ?_
  refine z_sld (j := 3) (x := x3) B hX hbl hbA (by decide) (show ¬ ((3 : Int32) < 0 ∨ 6 ≤ (3 : Int32).toNatClampNeg) by decide) h_x3 dL_law_307 ?_
  refine z_aload_n B dL_law_308 rfl 5 rfl ?_
  refine z_iload B dL_law_309 1 rfl ?_
  refine z_iconst (v := 4) B dL_law_311 (by decide) ?_
  refine z_iadd B dL_law_312 ?_
  refine z_seti (y := 4) (by decide) ?_
  refine z_sld (j := 4) (x := x4) B hX hbl hbA (by decide) (show ¬ ((4 : Int32) < 0 ∨ 6 ≤ (4 : Int32).toNatClampNeg) by decide) h_x4 dL_law_313 ?_
  refine z_aload_n B dL_law_314 rfl 5 rfl ?_
  refine z_iload B dL_law_315 1 rfl ?_
  refine z_iconst (v := 5) B dL_law_317 (by decide) ?_
  refine z_iadd B dL_law_318 ?_
  refine z_seti (y := 5) (by decide) ?_
  refine z_sld (j := 5) (x := x5) B hX hbl hbA (by decide) (show ¬ ((5 : Int32) < 0 ∨ 6 ≤ (5 : Int32).toNatClampNeg) by decide) h_x5 dL_law_319 ?_
  refine z_cVi (As := [.int 4, .int x2, .int x3, .int x4, .int x5]) (rest := []) B cw_L_86 cx_10 dL_law_320 (ci_X9_check_559 l (σ := (ap b (wx_Z σ z) [] [] [])) (b := b) (lyA (lyZ hK)) x2 x3 x4 x5 q1_x2 q2_x2 q1_x3 q2_x3 q1_x4 q2_x4) (lKA (lKZ (hk_K hK 405 rfl rfl))) rfl (by decide) rfl (Nat.le_of_ble_eq_true rfl) (by decide) (fun r u hu => ?_)
  refine z_eqs (σ' := (ap b (wx_Z σ z) [(405, 0, 1)] [] [])) (hu.2.trans ap_ap) ?_
  show zx p l e _ s m _ below meth c g 8 _ _ _ _ 323 [(5, .int 1), (4, .int 0), (3, .ref (b + 431)), (2, .ref (b + 405)), (1, .ref (b + 0)), (0, .ref bS)] _
  refine z_seti (y := 0) hu.1 ?_
  refine z_istore (lv' := [(6, .int 0), (5, .int 1), (4, .int 0), (3, .ref (b + 431)), (2, .ref (b + 405)), (1, .ref (b + 0)), (0, .ref bS)]) B dL_law_323 (by decide) rfl ?_
  refine z_aload_n B dL_law_325 rfl 4 rfl ?_
  refine z_cVi (As := []) (rest := []) B cw_L_80 cx_10 dL_law_326 (ci_X9_thrown_31 l (σ := (ap b (wx_Z σ z) [(405, 0, 1)] [] [])) (b := b) (lyA (lyZ hK)) (rI_at 405 0 rfl)) (lKA (lKZ (hk_K hK 405 rfl rfl))) rfl (by decide) rfl (Nat.le_of_ble_eq_true rfl) (by decide) (fun r u hu => ?_)
  refine z_eqs (σ' := (ap b (wx_Z σ z) [(405, 0, 1)] [] [])) hu.2 ?_
  show zx p l e _ s m _ below meth c g 8 _ _ _ _ 329 [(6, .int 0), (5, .int 1), (4, .int 0), (3, .ref (b + 431)), (2, .ref (b + 405)), (1, .ref (b + 0)), (0, .ref bS)] _
  refine z_seti (y := 1) hu.1 ?_
  refine z_iload B dL_law_329 1 rfl ?_
  refine z_icmp_eq (tgt := 336) B dL_law_331 (by decide) (fun _ => ?_) (fun h => absurd (by decide) h)
  refine z_iload B dL_law_336 1 rfl ?_
  refine z_if_ne (tgt := 353) B dL_law_338 (by decide) (fun _ => ?_) (fun h => absurd h (by decide))
  refine z_goto (tgt := 1395) B dL_law_353 (by decide) ?_
  exact z_widen (Nat.le_of_ble_eq_true rfl) (Nat.le_of_ble_eq_true rfl) (z_sub _ [2, 6] rfl (kk _))
set_option maxRecDepth 100000 in
set_option maxHeartbeats 4000000 in
theorem lf_1_233 {p : Program} {l : Launch} {e : Env} {s : State} {m : MethodId} {args : Array Value} {below : List Frame} {meth : Method} {c : Code} {g : gx_T} {Q : State → Prop} {σ : sx_T} {b t bS : Nat} {xs : Nat → Int32} (hlt : l.stackTraces = false) (B : zx_B p s m args meth c code RL 8 g) (hX : va_X bS 6 xs s s.heap) (hbl : bS < s.heap.size) (hbA : ¬ gx_b g ≤ bS) (hF : fz_P b t σ) (h_x1 : xs 1 = 4) {x2 : Int32} (h_x2 : xs 2 = x2) (q1_x2 : (-2147483648 : Int) ≤ x2.toInt) (q2_x2 : x2.toInt ≤ (-1 : Int)) {x3 : Int32} (h_x3 : xs 3 = x3) (q1_x3 : (0 : Int) ≤ x3.toInt) (q2_x3 : x3.toInt ≤ (17 : Int)) {x4 : Int32} (h_x4 : xs 4 = x4) (q1_x4 : (0 : Int) ≤ x4.toInt) (q2_x4 : x4.toInt ≤ (99 : Int)) {x5 : Int32} (h_x5 : xs 5 = x5) (q1_x5 : (-2147483648 : Int) ≤ x5.toInt) (q2_x5 : x5.toInt ≤ (-1 : Int)) (kk : ∀ σ', zx p l e room_1 s m args below meth c g 8 600002 7302232 Q σ' 1395 [(4, .int 0), (0, .ref bS)] []) : zx p l e room_1 s m args below meth c g 8 500 100000 Q σ 252 [(4, .int 0), (3, .ref (b + 431)), (2, .ref (b + 405)), (1, .ref (b + 0)), (0, .ref bS)] [] := by
  have hK := fz_lay hF
  refine z_eqs (σ' := (ap b σ [] [] [])) rfl ?_
  refine z_aload_n B dL_law_252 rfl 3 rfl ?_
  refine z_aload_n B dL_law_253 rfl 4 rfl ?_
  refine z_iload B dL_law_254 0 rfl ?_
  refine z_iconst (v := 1) B dL_law_256 (by decide) ?_
  refine z_iadd B dL_law_257 ?_
  refine z_seti (y := 1) (by decide) ?_
  refine z_sld (j := 1) (x := 4) B hX hbl hbA (by decide) (show ¬ ((1 : Int32) < 0 ∨ 6 ≤ (1 : Int32).toNatClampNeg) by decide) h_x1 dL_law_258 ?_
  refine z_aload_n B dL_law_259 rfl 4 rfl ?_
  refine z_iload B dL_law_260 0 rfl ?_
  refine z_iconst (v := 2) B dL_law_262 (by decide) ?_
  refine z_iadd B dL_law_263 ?_
  refine z_seti (y := 2) (by decide) ?_
  refine z_sld (j := 2) (x := x2) B hX hbl hbA (by decide) (show ¬ ((2 : Int32) < 0 ∨ 6 ≤ (2 : Int32).toNatClampNeg) by decide) h_x2 dL_law_264 ?_
  refine z_aload_n B dL_law_265 rfl 4 rfl ?_
  refine z_iload B dL_law_266 0 rfl ?_
  refine z_iconst (v := 3) B dL_law_268 (by decide) ?_
  refine z_iadd B dL_law_269 ?_
  refine z_seti (y := 3) (by decide) ?_
  refine z_sld (j := 3) (x := x3) B hX hbl hbA (by decide) (show ¬ ((3 : Int32) < 0 ∨ 6 ≤ (3 : Int32).toNatClampNeg) by decide) h_x3 dL_law_270 ?_
  refine z_aload_n B dL_law_271 rfl 4 rfl ?_
  refine z_iload B dL_law_272 0 rfl ?_
  refine z_iconst (v := 4) B dL_law_274 (by decide) ?_
  refine z_iadd B dL_law_275 ?_
  refine z_seti (y := 4) (by decide) ?_
  refine z_sld (j := 4) (x := x4) B hX hbl hbA (by decide) (show ¬ ((4 : Int32) < 0 ∨ 6 ≤ (4 : Int32).toNatClampNeg) by decide) h_x4 dL_law_276 ?_
  refine z_aload_n B dL_law_277 rfl 4 rfl ?_
  refine z_iload B dL_law_278 0 rfl ?_
  refine z_iconst (v := 5) B dL_law_280 (by decide) ?_
  refine z_iadd B dL_law_281 ?_
  refine z_seti (y := 5) (by decide) ?_
  refine z_sld (j := 5) (x := x5) B hX hbl hbA (by decide) (show ¬ ((5 : Int32) < 0 ∨ 6 ≤ (5 : Int32).toNatClampNeg) by decide) h_x5 dL_law_282 ?_
  refine z_aload_n B dL_law_283 rfl 1 rfl ?_
  refine z_cSWi (As := [.ref (b + 0), .int 4, .int x2, .int x3, .int x4, .int x5, .ref (b + 431)]) (rest := []) B cw_L_84 dL_law_284 (ci_L_check_557 l hlt (σ := (ap b σ [] [] [])) (b := b) (lyA hK) x2 x3 x4 x5 q1_x2 q2_x2 (rR_at 0 0 (fz_R hF 0 0 rfl rfl)) (rR_at 1 4 (fz_R hF 1 4 rfl rfl))) rfl (by decide) rfl (Nat.le_of_ble_eq_true rfl) (by decide) (fun r u hu => ?_)
  obtain ⟨hu1, z, hu⟩ := hu
  refine z_eqs (σ' := (ap b (wx_Z σ z) [] [] [])) (hu.trans az_ap) ?_
  show zx p l e _ s m _ below meth c g 8 _ _ _ _ 287 [(4, .int 0), (3, .ref (b + 431)), (2, .ref (b + 405)), (1, .ref (b + 0)), (0, .ref bS)] _
  refine z_seti (y := 1) hu1 ?_
  refine z_istore (lv' := [(5, .int 1), (4, .int 0), (3, .ref (b + 431)), (2, .ref (b + 405)), (1, .ref (b + 0)), (0, .ref bS)]) B dL_law_287 (by decide) rfl ?_
  refine z_aload_n B dL_law_289 rfl 3 rfl ?_
  refine z_aload_n B dL_law_290 rfl 5 rfl ?_
  refine z_iload B dL_law_291 1 rfl ?_
  refine z_iconst (v := 1) B dL_law_293 (by decide) ?_
  refine z_iadd B dL_law_294 ?_
  refine z_seti (y := 1) (by decide) ?_
  refine z_sld (j := 1) (x := 4) B hX hbl hbA (by decide) (show ¬ ((1 : Int32) < 0 ∨ 6 ≤ (1 : Int32).toNatClampNeg) by decide) h_x1 dL_law_295 ?_
  refine z_aload_n B dL_law_296 rfl 5 rfl ?_
  refine z_iload B dL_law_297 1 rfl ?_
  refine z_iconst (v := 2) B dL_law_299 (by decide) ?_
  refine z_iadd B dL_law_300 ?_
  refine z_seti (y := 2) (by decide) ?_
  refine z_sld (j := 2) (x := x2) B hX hbl hbA (by decide) (show ¬ ((2 : Int32) < 0 ∨ 6 ≤ (2 : Int32).toNatClampNeg) by decide) h_x2 dL_law_301 ?_
  refine z_aload_n B dL_law_302 rfl 5 rfl ?_
  refine z_iload B dL_law_303 1 rfl ?_
  refine z_iconst (v := 3) B dL_law_305 (by decide) ?_
  refine z_iadd B dL_law_306 ?_
  refine z_seti (y := 3) (by decide) ?_
  refine z_sld (j := 3) (x := x3) B hX hbl hbA (by decide) (show ¬ ((3 : Int32) < 0 ∨ 6 ≤ (3 : Int32).toNatClampNeg) by decide) h_x3 dL_law_307 ?_
  refine z_aload_n B dL_law_308 rfl 5 rfl ?_
  refine z_iload B dL_law_309 1 rfl ?_
  refine z_iconst (v := 4) B dL_law_311 (by decide) ?_
  refine z_iadd B dL_law_312 ?_
  refine z_seti (y := 4) (by decide) ?_
  refine z_sld (j := 4) (x := x4) B hX hbl hbA (by decide) (show ¬ ((4 : Int32) < 0 ∨ 6 ≤ (4 : Int32).toNatClampNeg) by decide) h_x4 dL_law_313 ?_
  refine z_aload_n B dL_law_314 rfl 5 rfl ?_
  refine z_iload B dL_law_315 1 rfl ?_
  refine z_iconst (v := 5) B dL_law_317 (by decide) ?_
  refine z_iadd B dL_law_318 ?_
  refine z_seti (y := 5) (by decide) ?_
  refine z_sld (j := 5) (x := x5) B hX hbl hbA (by decide) (show ¬ ((5 : Int32) < 0 ∨ 6 ≤ (5 : Int32).toNatClampNeg) by decide) h_x5 dL_law_319 ?_
  refine z_cVi (As := [.int 4, .int x2, .int x3, .int x4, .int x5]) (rest := []) B cw_L_86 cx_10 dL_law_320 (ci_X9_check_560 l (σ := (ap b (wx_Z σ z) [] [] [])) (b := b) (lyA (lyZ hK)) x2 x3 x4 x5 q1_x2 q2_x2 q1_x3 q2_x3 q1_x4 q2_x4 q1_x5 q2_x5) (lKA (lKZ (hk_K hK 405 rfl rfl))) rfl (by decide) rfl (Nat.le_of_ble_eq_true rfl) (by decide) (fun r u hu => ?_)
  refine z_eqs (σ' := (ap b (wx_Z σ z) [(405, 0, 1)] [] [])) (hu.2.trans ap_ap) ?_
  show zx p l e _ s m _ below meth c g 8 _ _ _ _ 323 [(5, .int 1), (4, .int 0), (3, .ref (b + 431)), (2, .ref (b + 405)), (1, .ref (b + 0)), (0, .ref bS)] _
  refine z_seti (y := 0) hu.1 ?_
  refine z_istore (lv' := [(6, .int 0), (5, .int 1), (4, .int 0), (3, .ref (b + 431)), (2, .ref (b + 405)), (1, .ref (b + 0)), (0, .ref bS)]) B dL_law_323 (by decide) rfl ?_
  refine z_aload_n B dL_law_325 rfl 4 rfl ?_
  refine z_cVi (As := []) (rest := []) B cw_L_80 cx_10 dL_law_326 (ci_X9_thrown_31 l (σ := (ap b (wx_Z σ z) [(405, 0, 1)] [] [])) (b := b) (lyA (lyZ hK)) (rI_at 405 0 rfl)) (lKA (lKZ (hk_K hK 405 rfl rfl))) rfl (by decide) rfl (Nat.le_of_ble_eq_true rfl) (by decide) (fun r u hu => ?_)
  refine z_eqs (σ' := (ap b (wx_Z σ z) [(405, 0, 1)] [] [])) hu.2 ?_
  show zx p l e _ s m _ below meth c g 8 _ _ _ _ 329 [(6, .int 0), (5, .int 1), (4, .int 0), (3, .ref (b + 431)), (2, .ref (b + 405)), (1, .ref (b + 0)), (0, .ref bS)] _
  refine z_seti (y := 1) hu.1 ?_
  refine z_iload B dL_law_329 1 rfl ?_
  refine z_icmp_eq (tgt := 336) B dL_law_331 (by decide) (fun _ => ?_) (fun h => absurd (by decide) h)
  refine z_iload B dL_law_336 1 rfl ?_
  refine z_if_ne (tgt := 353) B dL_law_338 (by decide) (fun _ => ?_) (fun h => absurd h (by decide))
  refine z_goto (tgt := 1395) B dL_law_353 (by decide) ?_
  exact z_widen (Nat.le_of_ble_eq_true rfl) (Nat.le_of_ble_eq_true rfl) (z_sub _ [2, 6] rfl (kk _))
set_option maxRecDepth 100000 in
set_option maxHeartbeats 4000000 in
theorem lf_1_234 {p : Program} {l : Launch} {e : Env} {s : State} {m : MethodId} {args : Array Value} {below : List Frame} {meth : Method} {c : Code} {g : gx_T} {Q : State → Prop} {σ : sx_T} {b t bS : Nat} {xs : Nat → Int32} (hlt : l.stackTraces = false) (B : zx_B p s m args meth c code RL 8 g) (hX : va_X bS 6 xs s s.heap) (hbl : bS < s.heap.size) (hbA : ¬ gx_b g ≤ bS) (hF : fz_P b t σ) (h_x1 : xs 1 = 4) {x2 : Int32} (h_x2 : xs 2 = x2) (q1_x2 : (-2147483648 : Int) ≤ x2.toInt) (q2_x2 : x2.toInt ≤ (-1 : Int)) {x3 : Int32} (h_x3 : xs 3 = x3) (q1_x3 : (0 : Int) ≤ x3.toInt) (q2_x3 : x3.toInt ≤ (17 : Int)) {x4 : Int32} (h_x4 : xs 4 = x4) (q1_x4 : (0 : Int) ≤ x4.toInt) (q2_x4 : x4.toInt ≤ (99 : Int)) {x5 : Int32} (h_x5 : xs 5 = x5) (q1_x5 : (0 : Int) ≤ x5.toInt) (q2_x5 : x5.toInt ≤ (99 : Int)) (kk : ∀ σ', zx p l e room_1 s m args below meth c g 8 600002 7302232 Q σ' 1395 [(4, .int 0), (0, .ref bS)] []) : zx p l e room_1 s m args below meth c g 8 500 100000 Q σ 252 [(4, .int 0), (3, .ref (b + 431)), (2, .ref (b + 405)), (1, .ref (b + 0)), (0, .ref bS)] [] := by
  have hK := fz_lay hF
  refine z_eqs (σ' := (ap b σ [] [] [])) rfl ?_
  refine z_aload_n B dL_law_252 rfl 3 rfl ?_
  refine z_aload_n B dL_law_253 rfl 4 rfl ?_
  refine z_iload B dL_law_254 0 rfl ?_
  refine z_iconst (v := 1) B dL_law_256 (by decide) ?_
  refine z_iadd B dL_law_257 ?_
  refine z_seti (y := 1) (by decide) ?_
  refine z_sld (j := 1) (x := 4) B hX hbl hbA (by decide) (show ¬ ((1 : Int32) < 0 ∨ 6 ≤ (1 : Int32).toNatClampNeg) by decide) h_x1 dL_law_258 ?_
  refine z_aload_n B dL_law_259 rfl 4 rfl ?_
  refine z_iload B dL_law_260 0 rfl ?_
  refine z_iconst (v := 2) B dL_law_262 (by decide) ?_
  refine z_iadd B dL_law_263 ?_
  refine z_seti (y := 2) (by decide) ?_
  refine z_sld (j := 2) (x := x2) B hX hbl hbA (by decide) (show ¬ ((2 : Int32) < 0 ∨ 6 ≤ (2 : Int32).toNatClampNeg) by decide) h_x2 dL_law_264 ?_
  refine z_aload_n B dL_law_265 rfl 4 rfl ?_
  refine z_iload B dL_law_266 0 rfl ?_
  refine z_iconst (v := 3) B dL_law_268 (by decide) ?_
  refine z_iadd B dL_law_269 ?_
  refine z_seti (y := 3) (by decide) ?_
  refine z_sld (j := 3) (x := x3) B hX hbl hbA (by decide) (show ¬ ((3 : Int32) < 0 ∨ 6 ≤ (3 : Int32).toNatClampNeg) by decide) h_x3 dL_law_270 ?_
  refine z_aload_n B dL_law_271 rfl 4 rfl ?_
  refine z_iload B dL_law_272 0 rfl ?_
  refine z_iconst (v := 4) B dL_law_274 (by decide) ?_
  refine z_iadd B dL_law_275 ?_
  refine z_seti (y := 4) (by decide) ?_
  refine z_sld (j := 4) (x := x4) B hX hbl hbA (by decide) (show ¬ ((4 : Int32) < 0 ∨ 6 ≤ (4 : Int32).toNatClampNeg) by decide) h_x4 dL_law_276 ?_
  refine z_aload_n B dL_law_277 rfl 4 rfl ?_
  refine z_iload B dL_law_278 0 rfl ?_
  refine z_iconst (v := 5) B dL_law_280 (by decide) ?_
  refine z_iadd B dL_law_281 ?_
  refine z_seti (y := 5) (by decide) ?_
  refine z_sld (j := 5) (x := x5) B hX hbl hbA (by decide) (show ¬ ((5 : Int32) < 0 ∨ 6 ≤ (5 : Int32).toNatClampNeg) by decide) h_x5 dL_law_282 ?_
  refine z_aload_n B dL_law_283 rfl 1 rfl ?_
  refine z_cSWi (As := [.ref (b + 0), .int 4, .int x2, .int x3, .int x4, .int x5, .ref (b + 431)]) (rest := []) B cw_L_84 dL_law_284 (ci_L_check_557 l hlt (σ := (ap b σ [] [] [])) (b := b) (lyA hK) x2 x3 x4 x5 q1_x2 q2_x2 (rR_at 0 0 (fz_R hF 0 0 rfl rfl)) (rR_at 1 4 (fz_R hF 1 4 rfl rfl))) rfl (by decide) rfl (Nat.le_of_ble_eq_true rfl) (by decide) (fun r u hu => ?_)
  obtain ⟨hu1, z, hu⟩ := hu
  refine z_eqs (σ' := (ap b (wx_Z σ z) [] [] [])) (hu.trans az_ap) ?_
  show zx p l e _ s m _ below meth c g 8 _ _ _ _ 287 [(4, .int 0), (3, .ref (b + 431)), (2, .ref (b + 405)), (1, .ref (b + 0)), (0, .ref bS)] _
  refine z_seti (y := 1) hu1 ?_
  refine z_istore (lv' := [(5, .int 1), (4, .int 0), (3, .ref (b + 431)), (2, .ref (b + 405)), (1, .ref (b + 0)), (0, .ref bS)]) B dL_law_287 (by decide) rfl ?_
  refine z_aload_n B dL_law_289 rfl 3 rfl ?_
  refine z_aload_n B dL_law_290 rfl 5 rfl ?_
  refine z_iload B dL_law_291 1 rfl ?_
  refine z_iconst (v := 1) B dL_law_293 (by decide) ?_
  refine z_iadd B dL_law_294 ?_
  refine z_seti (y := 1) (by decide) ?_
  refine z_sld (j := 1) (x := 4) B hX hbl hbA (by decide) (show ¬ ((1 : Int32) < 0 ∨ 6 ≤ (1 : Int32).toNatClampNeg) by decide) h_x1 dL_law_295 ?_
  refine z_aload_n B dL_law_296 rfl 5 rfl ?_
  refine z_iload B dL_law_297 1 rfl ?_
  refine z_iconst (v := 2) B dL_law_299 (by decide) ?_
  refine z_iadd B dL_law_300 ?_
  refine z_seti (y := 2) (by decide) ?_
  refine z_sld (j := 2) (x := x2) B hX hbl hbA (by decide) (show ¬ ((2 : Int32) < 0 ∨ 6 ≤ (2 : Int32).toNatClampNeg) by decide) h_x2 dL_law_301 ?_
  refine z_aload_n B dL_law_302 rfl 5 rfl ?_
  refine z_iload B dL_law_303 1 rfl ?_
  refine z_iconst (v := 3) B dL_law_305 (by decide) ?_
  refine z_iadd B dL_law_306 ?_
  refine z_seti (y := 3) (by decide) ?_
  refine z_sld (j := 3) (x := x3) B hX hbl hbA (by decide) (show ¬ ((3 : Int32) < 0 ∨ 6 ≤ (3 : Int32).toNatClampNeg) by decide) h_x3 dL_law_307 ?_
  refine z_aload_n B dL_law_308 rfl 5 rfl ?_
  refine z_iload B dL_law_309 1 rfl ?_
  refine z_iconst (v := 4) B dL_law_311 (by decide) ?_
  refine z_iadd B dL_law_312 ?_
  refine z_seti (y := 4) (by decide) ?_
  refine z_sld (j := 4) (x := x4) B hX hbl hbA (by decide) (show ¬ ((4 : Int32) < 0 ∨ 6 ≤ (4 : Int32).toNatClampNeg) by decide) h_x4 dL_law_313 ?_
  refine z_aload_n B dL_law_314 rfl 5 rfl ?_
  refine z_iload B dL_law_315 1 rfl ?_
  refine z_iconst (v := 5) B dL_law_317 (by decide) ?_
  refine z_iadd B dL_law_318 ?_
  refine z_seti (y := 5) (by decide) ?_
  refine z_sld (j := 5) (x := x5) B hX hbl hbA (by decide) (show ¬ ((5 : Int32) < 0 ∨ 6 ≤ (5 : Int32).toNatClampNeg) by decide) h_x5 dL_law_319 ?_
  refine z_cVi (As := [.int 4, .int x2, .int x3, .int x4, .int x5]) (rest := []) B cw_L_86 cx_10 dL_law_320 (ci_X9_check_561 l (σ := (ap b (wx_Z σ z) [] [] [])) (b := b) (lyA (lyZ hK)) x2 x3 x4 x5 q1_x2 q2_x2 q1_x3 q2_x3 q1_x4 q2_x4 q1_x5 q2_x5) (lKA (lKZ (hk_K hK 405 rfl rfl))) rfl (by decide) rfl (Nat.le_of_ble_eq_true rfl) (by decide) (fun r u hu => ?_)
  refine z_eqs (σ' := (ap b (wx_Z σ z) [(405, 0, 1)] [] [])) (hu.2.trans ap_ap) ?_
  show zx p l e _ s m _ below meth c g 8 _ _ _ _ 323 [(5, .int 1), (4, .int 0), (3, .ref (b + 431)), (2, .ref (b + 405)), (1, .ref (b + 0)), (0, .ref bS)] _
  refine z_seti (y := 0) hu.1 ?_
  refine z_istore (lv' := [(6, .int 0), (5, .int 1), (4, .int 0), (3, .ref (b + 431)), (2, .ref (b + 405)), (1, .ref (b + 0)), (0, .ref bS)]) B dL_law_323 (by decide) rfl ?_
  refine z_aload_n B dL_law_325 rfl 4 rfl ?_
  refine z_cVi (As := []) (rest := []) B cw_L_80 cx_10 dL_law_326 (ci_X9_thrown_31 l (σ := (ap b (wx_Z σ z) [(405, 0, 1)] [] [])) (b := b) (lyA (lyZ hK)) (rI_at 405 0 rfl)) (lKA (lKZ (hk_K hK 405 rfl rfl))) rfl (by decide) rfl (Nat.le_of_ble_eq_true rfl) (by decide) (fun r u hu => ?_)
  refine z_eqs (σ' := (ap b (wx_Z σ z) [(405, 0, 1)] [] [])) hu.2 ?_
  show zx p l e _ s m _ below meth c g 8 _ _ _ _ 329 [(6, .int 0), (5, .int 1), (4, .int 0), (3, .ref (b + 431)), (2, .ref (b + 405)), (1, .ref (b + 0)), (0, .ref bS)] _
  refine z_seti (y := 1) hu.1 ?_
  refine z_iload B dL_law_329 1 rfl ?_
  refine z_icmp_eq (tgt := 336) B dL_law_331 (by decide) (fun _ => ?_) (fun h => absurd (by decide) h)
  refine z_iload B dL_law_336 1 rfl ?_
  refine z_if_ne (tgt := 353) B dL_law_338 (by decide) (fun _ => ?_) (fun h => absurd h (by decide))
  refine z_goto (tgt := 1395) B dL_law_353 (by decide) ?_
  exact z_widen (Nat.le_of_ble_eq_true rfl) (Nat.le_of_ble_eq_true rfl) (z_sub _ [2, 6] rfl (kk _))
set_option maxRecDepth 100000 in
set_option maxHeartbeats 4000000 in
theorem lf_1_235 {p : Program} {l : Launch} {e : Env} {s : State} {m : MethodId} {args : Array Value} {below : List Frame} {meth : Method} {c : Code} {g : gx_T} {Q : State → Prop} {σ : sx_T} {b t bS : Nat} {xs : Nat → Int32} (hlt : l.stackTraces = false) (B : zx_B p s m args meth c code RL 8 g) (hX : va_X bS 6 xs s s.heap) (hbl : bS < s.heap.size) (hbA : ¬ gx_b g ≤ bS) (hF : fz_P b t σ) (h_x1 : xs 1 = 4) {x2 : Int32} (h_x2 : xs 2 = x2) (q1_x2 : (-2147483648 : Int) ≤ x2.toInt) (q2_x2 : x2.toInt ≤ (-1 : Int)) {x3 : Int32} (h_x3 : xs 3 = x3) (q1_x3 : (0 : Int) ≤ x3.toInt) (q2_x3 : x3.toInt ≤ (17 : Int)) {x4 : Int32} (h_x4 : xs 4 = x4) (q1_x4 : (0 : Int) ≤ x4.toInt) (q2_x4 : x4.toInt ≤ (99 : Int)) {x5 : Int32} (h_x5 : xs 5 = x5) (q1_x5 : (100 : Int) ≤ x5.toInt) (q2_x5 : x5.toInt ≤ (2147483647 : Int)) (kk : ∀ σ', zx p l e room_1 s m args below meth c g 8 600002 7302232 Q σ' 1395 [(4, .int 0), (0, .ref bS)] []) : zx p l e room_1 s m args below meth c g 8 500 100000 Q σ 252 [(4, .int 0), (3, .ref (b + 431)), (2, .ref (b + 405)), (1, .ref (b + 0)), (0, .ref bS)] [] := by
  have hK := fz_lay hF
  refine z_eqs (σ' := (ap b σ [] [] [])) rfl ?_
  refine z_aload_n B dL_law_252 rfl 3 rfl ?_
  refine z_aload_n B dL_law_253 rfl 4 rfl ?_
  refine z_iload B dL_law_254 0 rfl ?_
  refine z_iconst (v := 1) B dL_law_256 (by decide) ?_
  refine z_iadd B dL_law_257 ?_
  refine z_seti (y := 1) (by decide) ?_
  refine z_sld (j := 1) (x := 4) B hX hbl hbA (by decide) (show ¬ ((1 : Int32) < 0 ∨ 6 ≤ (1 : Int32).toNatClampNeg) by decide) h_x1 dL_law_258 ?_
  refine z_aload_n B dL_law_259 rfl 4 rfl ?_
  refine z_iload B dL_law_260 0 rfl ?_
  refine z_iconst (v := 2) B dL_law_262 (by decide) ?_
  refine z_iadd B dL_law_263 ?_
  refine z_seti (y := 2) (by decide) ?_
  refine z_sld (j := 2) (x := x2) B hX hbl hbA (by decide) (show ¬ ((2 : Int32) < 0 ∨ 6 ≤ (2 : Int32).toNatClampNeg) by decide) h_x2 dL_law_264 ?_
  refine z_aload_n B dL_law_265 rfl 4 rfl ?_
  refine z_iload B dL_law_266 0 rfl ?_
  refine z_iconst (v := 3) B dL_law_268 (by decide) ?_
  refine z_iadd B dL_law_269 ?_
  refine z_seti (y := 3) (by decide) ?_
  refine z_sld (j := 3) (x := x3) B hX hbl hbA (by decide) (show ¬ ((3 : Int32) < 0 ∨ 6 ≤ (3 : Int32).toNatClampNeg) by decide) h_x3 dL_law_270 ?_
  refine z_aload_n B dL_law_271 rfl 4 rfl ?_
  refine z_iload B dL_law_272 0 rfl ?_
  refine z_iconst (v := 4) B dL_law_274 (by decide) ?_
  refine z_iadd B dL_law_275 ?_
  refine z_seti (y := 4) (by decide) ?_
  refine z_sld (j := 4) (x := x4) B hX hbl hbA (by decide) (show ¬ ((4 : Int32) < 0 ∨ 6 ≤ (4 : Int32).toNatClampNeg) by decide) h_x4 dL_law_276 ?_
  refine z_aload_n B dL_law_277 rfl 4 rfl ?_
  refine z_iload B dL_law_278 0 rfl ?_
  refine z_iconst (v := 5) B dL_law_280 (by decide) ?_
  refine z_iadd B dL_law_281 ?_
  refine z_seti (y := 5) (by decide) ?_
  refine z_sld (j := 5) (x := x5) B hX hbl hbA (by decide) (show ¬ ((5 : Int32) < 0 ∨ 6 ≤ (5 : Int32).toNatClampNeg) by decide) h_x5 dL_law_282 ?_
  refine z_aload_n B dL_law_283 rfl 1 rfl ?_
  refine z_cSWi (As := [.ref (b + 0), .int 4, .int x2, .int x3, .int x4, .int x5, .ref (b + 431)]) (rest := []) B cw_L_84 dL_law_284 (ci_L_check_557 l hlt (σ := (ap b σ [] [] [])) (b := b) (lyA hK) x2 x3 x4 x5 q1_x2 q2_x2 (rR_at 0 0 (fz_R hF 0 0 rfl rfl)) (rR_at 1 4 (fz_R hF 1 4 rfl rfl))) rfl (by decide) rfl (Nat.le_of_ble_eq_true rfl) (by decide) (fun r u hu => ?_)
  obtain ⟨hu1, z, hu⟩ := hu
  refine z_eqs (σ' := (ap b (wx_Z σ z) [] [] [])) (hu.trans az_ap) ?_
  show zx p l e _ s m _ below meth c g 8 _ _ _ _ 287 [(4, .int 0), (3, .ref (b + 431)), (2, .ref (b + 405)), (1, .ref (b + 0)), (0, .ref bS)] _
  refine z_seti (y := 1) hu1 ?_
  refine z_istore (lv' := [(5, .int 1), (4, .int 0), (3, .ref (b + 431)), (2, .ref (b + 405)), (1, .ref (b + 0)), (0, .ref bS)]) B dL_law_287 (by decide) rfl ?_
  refine z_aload_n B dL_law_289 rfl 3 rfl ?_
  refine z_aload_n B dL_law_290 rfl 5 rfl ?_
  refine z_iload B dL_law_291 1 rfl ?_
  refine z_iconst (v := 1) B dL_law_293 (by decide) ?_
  refine z_iadd B dL_law_294 ?_
  refine z_seti (y := 1) (by decide) ?_
  refine z_sld (j := 1) (x := 4) B hX hbl hbA (by decide) (show ¬ ((1 : Int32) < 0 ∨ 6 ≤ (1 : Int32).toNatClampNeg) by decide) h_x1 dL_law_295 ?_
  refine z_aload_n B dL_law_296 rfl 5 rfl ?_
  refine z_iload B dL_law_297 1 rfl ?_
  refine z_iconst (v := 2) B dL_law_299 (by decide) ?_
  refine z_iadd B dL_law_300 ?_
  refine z_seti (y := 2) (by decide) ?_
  refine z_sld (j := 2) (x := x2) B hX hbl hbA (by decide) (show ¬ ((2 : Int32) < 0 ∨ 6 ≤ (2 : Int32).toNatClampNeg) by decide) h_x2 dL_law_301 ?_
  refine z_aload_n B dL_law_302 rfl 5 rfl ?_
  refine z_iload B dL_law_303 1 rfl ?_
  refine z_iconst (v := 3) B dL_law_305 (by decide) ?_
  refine z_iadd B dL_law_306 ?_
  refine z_seti (y := 3) (by decide) ?_
  refine z_sld (j := 3) (x := x3) B hX hbl hbA (by decide) (show ¬ ((3 : Int32) < 0 ∨ 6 ≤ (3 : Int32).toNatClampNeg) by decide) h_x3 dL_law_307 ?_
  refine z_aload_n B dL_law_308 rfl 5 rfl ?_
  refine z_iload B dL_law_309 1 rfl ?_
  refine z_iconst (v := 4) B dL_law_311 (by decide) ?_
  refine z_iadd B dL_law_312 ?_
  refine z_seti (y := 4) (by decide) ?_
  refine z_sld (j := 4) (x := x4) B hX hbl hbA (by decide) (show ¬ ((4 : Int32) < 0 ∨ 6 ≤ (4 : Int32).toNatClampNeg) by decide) h_x4 dL_law_313 ?_
  refine z_aload_n B dL_law_314 rfl 5 rfl ?_
  refine z_iload B dL_law_315 1 rfl ?_
  refine z_iconst (v := 5) B dL_law_317 (by decide) ?_
  refine z_iadd B dL_law_318 ?_
  refine z_seti (y := 5) (by decide) ?_
  refine z_sld (j := 5) (x := x5) B hX hbl hbA (by decide) (show ¬ ((5 : Int32) < 0 ∨ 6 ≤ (5 : Int32).toNatClampNeg) by decide) h_x5 dL_law_319 ?_
  refine z_cVi (As := [.int 4, .int x2, .int x3, .int x4, .int x5]) (rest := []) B cw_L_86 cx_10 dL_law_320 (ci_X9_check_562 l (σ := (ap b (wx_Z σ z) [] [] [])) (b := b) (lyA (lyZ hK)) x2 x3 x4 x5 q1_x2 q2_x2 q1_x3 q2_x3 q1_x4 q2_x4 q1_x5 q2_x5) (lKA (lKZ (hk_K hK 405 rfl rfl))) rfl (by decide) rfl (Nat.le_of_ble_eq_true rfl) (by decide) (fun r u hu => ?_)
  refine z_eqs (σ' := (ap b (wx_Z σ z) [(405, 0, 1)] [] [])) (hu.2.trans ap_ap) ?_
  show zx p l e _ s m _ below meth c g 8 _ _ _ _ 323 [(5, .int 1), (4, .int 0), (3, .ref (b + 431)), (2, .ref (b + 405)), (1, .ref (b + 0)), (0, .ref bS)] _
  refine z_seti (y := 0) hu.1 ?_
  refine z_istore (lv' := [(6, .int 0), (5, .int 1), (4, .int 0), (3, .ref (b + 431)), (2, .ref (b + 405)), (1, .ref (b + 0)), (0, .ref bS)]) B dL_law_323 (by decide) rfl ?_
  refine z_aload_n B dL_law_325 rfl 4 rfl ?_
  refine z_cVi (As := []) (rest := []) B cw_L_80 cx_10 dL_law_326 (ci_X9_thrown_31 l (σ := (ap b (wx_Z σ z) [(405, 0, 1)] [] [])) (b := b) (lyA (lyZ hK)) (rI_at 405 0 rfl)) (lKA (lKZ (hk_K hK 405 rfl rfl))) rfl (by decide) rfl (Nat.le_of_ble_eq_true rfl) (by decide) (fun r u hu => ?_)
  refine z_eqs (σ' := (ap b (wx_Z σ z) [(405, 0, 1)] [] [])) hu.2 ?_
  show zx p l e _ s m _ below meth c g 8 _ _ _ _ 329 [(6, .int 0), (5, .int 1), (4, .int 0), (3, .ref (b + 431)), (2, .ref (b + 405)), (1, .ref (b + 0)), (0, .ref bS)] _
  refine z_seti (y := 1) hu.1 ?_
  refine z_iload B dL_law_329 1 rfl ?_
  refine z_icmp_eq (tgt := 336) B dL_law_331 (by decide) (fun _ => ?_) (fun h => absurd (by decide) h)
  refine z_iload B dL_law_336 1 rfl ?_
  refine z_if_ne (tgt := 353) B dL_law_338 (by decide) (fun _ => ?_) (fun h => absurd h (by decide))
  refine z_goto (tgt := 1395) B dL_law_353 (by decide) ?_
  exact z_widen (Nat.le_of_ble_eq_true rfl) (Nat.le_of_ble_eq_true rfl) (z_sub _ [2, 6] rfl (kk _))
set_option maxRecDepth 100000 in
set_option maxHeartbeats 4000000 in
theorem lf_1_236 {p : Program} {l : Launch} {e : Env} {s : State} {m : MethodId} {args : Array Value} {below : List Frame} {meth : Method} {c : Code} {g : gx_T} {Q : State → Prop} {σ : sx_T} {b t bS : Nat} {xs : Nat → Int32} (hlt : l.stackTraces = false) (B : zx_B p s m args meth c code RL 8 g) (hX : va_X bS 6 xs s s.heap) (hbl : bS < s.heap.size) (hbA : ¬ gx_b g ≤ bS) (hF : fz_P b t σ) (h_x1 : xs 1 = 4) {x2 : Int32} (h_x2 : xs 2 = x2) (q1_x2 : (-2147483648 : Int) ≤ x2.toInt) (q2_x2 : x2.toInt ≤ (-1 : Int)) {x3 : Int32} (h_x3 : xs 3 = x3) (q1_x3 : (0 : Int) ≤ x3.toInt) (q2_x3 : x3.toInt ≤ (17 : Int)) {x4 : Int32} (h_x4 : xs 4 = x4) (q1_x4 : (100 : Int) ≤ x4.toInt) (q2_x4 : x4.toInt ≤ (2147483647 : Int)) {x5 : Int32} (h_x5 : xs 5 = x5) (q1_x5 : (-2147483648 : Int) ≤ x5.toInt) (q2_x5 : x5.toInt ≤ (2147483647 : Int)) (kk : ∀ σ', zx p l e room_1 s m args below meth c g 8 600002 7302232 Q σ' 1395 [(4, .int 0), (0, .ref bS)] []) : zx p l e room_1 s m args below meth c g 8 500 100000 Q σ 252 [(4, .int 0), (3, .ref (b + 431)), (2, .ref (b + 405)), (1, .ref (b + 0)), (0, .ref bS)] [] := by
  have hK := fz_lay hF
  refine z_eqs (σ' := (ap b σ [] [] [])) rfl ?_
  refine z_aload_n B dL_law_252 rfl 3 rfl ?_
  refine z_aload_n B dL_law_253 rfl 4 rfl ?_
  refine z_iload B dL_law_254 0 rfl ?_
  refine z_iconst (v := 1) B dL_law_256 (by decide) ?_
  refine z_iadd B dL_law_257 ?_
  refine z_seti (y := 1) (by decide) ?_
  refine z_sld (j := 1) (x := 4) B hX hbl hbA (by decide) (show ¬ ((1 : Int32) < 0 ∨ 6 ≤ (1 : Int32).toNatClampNeg) by decide) h_x1 dL_law_258 ?_
  refine z_aload_n B dL_law_259 rfl 4 rfl ?_
  refine z_iload B dL_law_260 0 rfl ?_
  refine z_iconst (v := 2) B dL_law_262 (by decide) ?_
  refine z_iadd B dL_law_263 ?_
  refine z_seti (y := 2) (by decide) ?_
  refine z_sld (j := 2) (x := x2) B hX hbl hbA (by decide) (show ¬ ((2 : Int32) < 0 ∨ 6 ≤ (2 : Int32).toNatClampNeg) by decide) h_x2 dL_law_264 ?_
  refine z_aload_n B dL_law_265 rfl 4 rfl ?_
  refine z_iload B dL_law_266 0 rfl ?_
  refine z_iconst (v := 3) B dL_law_268 (by decide) ?_
  refine z_iadd B dL_law_269 ?_
  refine z_seti (y := 3) (by decide) ?_
  refine z_sld (j := 3) (x := x3) B hX hbl hbA (by decide) (show ¬ ((3 : Int32) < 0 ∨ 6 ≤ (3 : Int32).toNatClampNeg) by decide) h_x3 dL_law_270 ?_
  refine z_aload_n B dL_law_271 rfl 4 rfl ?_
  refine z_iload B dL_law_272 0 rfl ?_
  refine z_iconst (v := 4) B dL_law_274 (by decide) ?_
  refine z_iadd B dL_law_275 ?_
  refine z_seti (y := 4) (by decide) ?_
  refine z_sld (j := 4) (x := x4) B hX hbl hbA (by decide) (show ¬ ((4 : Int32) < 0 ∨ 6 ≤ (4 : Int32).toNatClampNeg) by decide) h_x4 dL_law_276 ?_
  refine z_aload_n B dL_law_277 rfl 4 rfl ?_
  refine z_iload B dL_law_278 0 rfl ?_
  refine z_iconst (v := 5) B dL_law_280 (by decide) ?_
  refine z_iadd B dL_law_281 ?_
  refine z_seti (y := 5) (by decide) ?_
  refine z_sld (j := 5) (x := x5) B hX hbl hbA (by decide) (show ¬ ((5 : Int32) < 0 ∨ 6 ≤ (5 : Int32).toNatClampNeg) by decide) h_x5 dL_law_282 ?_
  refine z_aload_n B dL_law_283 rfl 1 rfl ?_
  refine z_cSWi (As := [.ref (b + 0), .int 4, .int x2, .int x3, .int x4, .int x5, .ref (b + 431)]) (rest := []) B cw_L_84 dL_law_284 (ci_L_check_557 l hlt (σ := (ap b σ [] [] [])) (b := b) (lyA hK) x2 x3 x4 x5 q1_x2 q2_x2 (rR_at 0 0 (fz_R hF 0 0 rfl rfl)) (rR_at 1 4 (fz_R hF 1 4 rfl rfl))) rfl (by decide) rfl (Nat.le_of_ble_eq_true rfl) (by decide) (fun r u hu => ?_)
  obtain ⟨hu1, z, hu⟩ := hu
  refine z_eqs (σ' := (ap b (wx_Z σ z) [] [] [])) (hu.trans az_ap) ?_
  show zx p l e _ s m _ below meth c g 8 _ _ _ _ 287 [(4, .int 0), (3, .ref (b + 431)), (2, .ref (b + 405)), (1, .ref (b + 0)), (0, .ref bS)] _
  refine z_seti (y := 1) hu1 ?_
  refine z_istore (lv' := [(5, .int 1), (4, .int 0), (3, .ref (b + 431)), (2, .ref (b + 405)), (1, .ref (b + 0)), (0, .ref bS)]) B dL_law_287 (by decide) rfl ?_
  refine z_aload_n B dL_law_289 rfl 3 rfl ?_
  refine z_aload_n B dL_law_290 rfl 5 rfl ?_
  refine z_iload B dL_law_291 1 rfl ?_
  refine z_iconst (v := 1) B dL_law_293 (by decide) ?_
  refine z_iadd B dL_law_294 ?_
  refine z_seti (y := 1) (by decide) ?_
  refine z_sld (j := 1) (x := 4) B hX hbl hbA (by decide) (show ¬ ((1 : Int32) < 0 ∨ 6 ≤ (1 : Int32).toNatClampNeg) by decide) h_x1 dL_law_295 ?_
  refine z_aload_n B dL_law_296 rfl 5 rfl ?_
  refine z_iload B dL_law_297 1 rfl ?_
  refine z_iconst (v := 2) B dL_law_299 (by decide) ?_
  refine z_iadd B dL_law_300 ?_
  refine z_seti (y := 2) (by decide) ?_
  refine z_sld (j := 2) (x := x2) B hX hbl hbA (by decide) (show ¬ ((2 : Int32) < 0 ∨ 6 ≤ (2 : Int32).toNatClampNeg) by decide) h_x2 dL_law_301 ?_
  refine z_aload_n B dL_law_302 rfl 5 rfl ?_
  refine z_iload B dL_law_303 1 rfl ?_
  refine z_iconst (v := 3) B dL_law_305 (by decide) ?_
  refine z_iadd B dL_law_306 ?_
  refine z_seti (y := 3) (by decide) ?_
  refine z_sld (j := 3) (x := x3) B hX hbl hbA (by decide) (show ¬ ((3 : Int32) < 0 ∨ 6 ≤ (3 : Int32).toNatClampNeg) by decide) h_x3 dL_law_307 ?_
  refine z_aload_n B dL_law_308 rfl 5 rfl ?_
  refine z_iload B dL_law_309 1 rfl ?_
  refine z_iconst (v := 4) B dL_law_311 (by decide) ?_
  refine z_iadd B dL_law_312 ?_
  refine z_seti (y := 4) (by decide) ?_
  refine z_sld (j := 4) (x := x4) B hX hbl hbA (by decide) (show ¬ ((4 : Int32) < 0 ∨ 6 ≤ (4 : Int32).toNatClampNeg) by decide) h_x4 dL_law_313 ?_
  refine z_aload_n B dL_law_314 rfl 5 rfl ?_
  refine z_iload B dL_law_315 1 rfl ?_
  refine z_iconst (v := 5) B dL_law_317 (by decide) ?_
  refine z_iadd B dL_law_318 ?_
  refine z_seti (y := 5) (by decide) ?_
  refine z_sld (j := 5) (x := x5) B hX hbl hbA (by decide) (show ¬ ((5 : Int32) < 0 ∨ 6 ≤ (5 : Int32).toNatClampNeg) by decide) h_x5 dL_law_319 ?_
  refine z_cVi (As := [.int 4, .int x2, .int x3, .int x4, .int x5]) (rest := []) B cw_L_86 cx_10 dL_law_320 (ci_X9_check_563 l (σ := (ap b (wx_Z σ z) [] [] [])) (b := b) (lyA (lyZ hK)) x2 x3 x4 x5 q1_x2 q2_x2 q1_x3 q2_x3 q1_x4 q2_x4) (lKA (lKZ (hk_K hK 405 rfl rfl))) rfl (by decide) rfl (Nat.le_of_ble_eq_true rfl) (by decide) (fun r u hu => ?_)
  refine z_eqs (σ' := (ap b (wx_Z σ z) [(405, 0, 1)] [] [])) (hu.2.trans ap_ap) ?_
  show zx p l e _ s m _ below meth c g 8 _ _ _ _ 323 [(5, .int 1), (4, .int 0), (3, .ref (b + 431)), (2, .ref (b + 405)), (1, .ref (b + 0)), (0, .ref bS)] _
  refine z_seti (y := 0) hu.1 ?_
  refine z_istore (lv' := [(6, .int 0), (5, .int 1), (4, .int 0), (3, .ref (b + 431)), (2, .ref (b + 405)), (1, .ref (b + 0)), (0, .ref bS)]) B dL_law_323 (by decide) rfl ?_
  refine z_aload_n B dL_law_325 rfl 4 rfl ?_
  refine z_cVi (As := []) (rest := []) B cw_L_80 cx_10 dL_law_326 (ci_X9_thrown_31 l (σ := (ap b (wx_Z σ z) [(405, 0, 1)] [] [])) (b := b) (lyA (lyZ hK)) (rI_at 405 0 rfl)) (lKA (lKZ (hk_K hK 405 rfl rfl))) rfl (by decide) rfl (Nat.le_of_ble_eq_true rfl) (by decide) (fun r u hu => ?_)
  refine z_eqs (σ' := (ap b (wx_Z σ z) [(405, 0, 1)] [] [])) hu.2 ?_
  show zx p l e _ s m _ below meth c g 8 _ _ _ _ 329 [(6, .int 0), (5, .int 1), (4, .int 0), (3, .ref (b + 431)), (2, .ref (b + 405)), (1, .ref (b + 0)), (0, .ref bS)] _
  refine z_seti (y := 1) hu.1 ?_
  refine z_iload B dL_law_329 1 rfl ?_
  refine z_icmp_eq (tgt := 336) B dL_law_331 (by decide) (fun _ => ?_) (fun h => absurd (by decide) h)
  refine z_iload B dL_law_336 1 rfl ?_
  refine z_if_ne (tgt := 353) B dL_law_338 (by decide) (fun _ => ?_) (fun h => absurd h (by decide))
  refine z_goto (tgt := 1395) B dL_law_353 (by decide) ?_
  exact z_widen (Nat.le_of_ble_eq_true rfl) (Nat.le_of_ble_eq_true rfl) (z_sub _ [2, 6] rfl (kk _))
set_option maxRecDepth 100000 in
set_option maxHeartbeats 4000000 in
theorem lf_1_237 {p : Program} {l : Launch} {e : Env} {s : State} {m : MethodId} {args : Array Value} {below : List Frame} {meth : Method} {c : Code} {g : gx_T} {Q : State → Prop} {σ : sx_T} {b t bS : Nat} {xs : Nat → Int32} (hlt : l.stackTraces = false) (B : zx_B p s m args meth c code RL 8 g) (hX : va_X bS 6 xs s s.heap) (hbl : bS < s.heap.size) (hbA : ¬ gx_b g ≤ bS) (hF : fz_P b t σ) (h_x1 : xs 1 = 4) {x2 : Int32} (h_x2 : xs 2 = x2) (q1_x2 : (-2147483648 : Int) ≤ x2.toInt) (q2_x2 : x2.toInt ≤ (-1 : Int)) {x3 : Int32} (h_x3 : xs 3 = x3) (q1_x3 : (18 : Int) ≤ x3.toInt) (q2_x3 : x3.toInt ≤ (2147483647 : Int)) {x4 : Int32} (h_x4 : xs 4 = x4) (q1_x4 : (-2147483648 : Int) ≤ x4.toInt) (q2_x4 : x4.toInt ≤ (2147483647 : Int)) {x5 : Int32} (h_x5 : xs 5 = x5) (q1_x5 : (-2147483648 : Int) ≤ x5.toInt) (q2_x5 : x5.toInt ≤ (2147483647 : Int)) (kk : ∀ σ', zx p l e room_1 s m args below meth c g 8 600002 7302232 Q σ' 1395 [(4, .int 0), (0, .ref bS)] []) : zx p l e room_1 s m args below meth c g 8 500 100000 Q σ 252 [(4, .int 0), (3, .ref (b + 431)), (2, .ref (b + 405)), (1, .ref (b + 0)), (0, .ref bS)] [] := by
  have hK := fz_lay hF
  refine z_eqs (σ' := (ap b σ [] [] [])) rfl ?_
  refine z_aload_n B dL_law_252 rfl 3 rfl ?_
  refine z_aload_n B dL_law_253 rfl 4 rfl ?_
  refine z_iload B dL_law_254 0 rfl ?_
  refine z_iconst (v := 1) B dL_law_256 (by decide) ?_
  refine z_iadd B dL_law_257 ?_
  refine z_seti (y := 1) (by decide) ?_
  refine z_sld (j := 1) (x := 4) B hX hbl hbA (by decide) (show ¬ ((1 : Int32) < 0 ∨ 6 ≤ (1 : Int32).toNatClampNeg) by decide) h_x1 dL_law_258 ?_
  refine z_aload_n B dL_law_259 rfl 4 rfl ?_
  refine z_iload B dL_law_260 0 rfl ?_
  refine z_iconst (v := 2) B dL_law_262 (by decide) ?_
  refine z_iadd B dL_law_263 ?_
  refine z_seti (y := 2) (by decide) ?_
  refine z_sld (j := 2) (x := x2) B hX hbl hbA (by decide) (show ¬ ((2 : Int32) < 0 ∨ 6 ≤ (2 : Int32).toNatClampNeg) by decide) h_x2 dL_law_264 ?_
  refine z_aload_n B dL_law_265 rfl 4 rfl ?_
  refine z_iload B dL_law_266 0 rfl ?_
  refine z_iconst (v := 3) B dL_law_268 (by decide) ?_
  refine z_iadd B dL_law_269 ?_
  refine z_seti (y := 3) (by decide) ?_
  refine z_sld (j := 3) (x := x3) B hX hbl hbA (by decide) (show ¬ ((3 : Int32) < 0 ∨ 6 ≤ (3 : Int32).toNatClampNeg) by decide) h_x3 dL_law_270 ?_
  refine z_aload_n B dL_law_271 rfl 4 rfl ?_
  refine z_iload B dL_law_272 0 rfl ?_
  refine z_iconst (v := 4) B dL_law_274 (by decide) ?_
  refine z_iadd B dL_law_275 ?_
  refine z_seti (y := 4) (by decide) ?_
  refine z_sld (j := 4) (x := x4) B hX hbl hbA (by decide) (show ¬ ((4 : Int32) < 0 ∨ 6 ≤ (4 : Int32).toNatClampNeg) by decide) h_x4 dL_law_276 ?_
  refine z_aload_n B dL_law_277 rfl 4 rfl ?_
  refine z_iload B dL_law_278 0 rfl ?_
  refine z_iconst (v := 5) B dL_law_280 (by decide) ?_
  refine z_iadd B dL_law_281 ?_
  refine z_seti (y := 5) (by decide) ?_
  refine z_sld (j := 5) (x := x5) B hX hbl hbA (by decide) (show ¬ ((5 : Int32) < 0 ∨ 6 ≤ (5 : Int32).toNatClampNeg) by decide) h_x5 dL_law_282 ?_
  refine z_aload_n B dL_law_283 rfl 1 rfl ?_
  refine z_cSWi (As := [.ref (b + 0), .int 4, .int x2, .int x3, .int x4, .int x5, .ref (b + 431)]) (rest := []) B cw_L_84 dL_law_284 (ci_L_check_557 l hlt (σ := (ap b σ [] [] [])) (b := b) (lyA hK) x2 x3 x4 x5 q1_x2 q2_x2 (rR_at 0 0 (fz_R hF 0 0 rfl rfl)) (rR_at 1 4 (fz_R hF 1 4 rfl rfl))) rfl (by decide) rfl (Nat.le_of_ble_eq_true rfl) (by decide) (fun r u hu => ?_)
  obtain ⟨hu1, z, hu⟩ := hu
  refine z_eqs (σ' := (ap b (wx_Z σ z) [] [] [])) (hu.trans az_ap) ?_
  show zx p l e _ s m _ below meth c g 8 _ _ _ _ 287 [(4, .int 0), (3, .ref (b + 431)), (2, .ref (b + 405)), (1, .ref (b + 0)), (0, .ref bS)] _
  refine z_seti (y := 1) hu1 ?_
  refine z_istore (lv' := [(5, .int 1), (4, .int 0), (3, .ref (b + 431)), (2, .ref (b + 405)), (1, .ref (b + 0)), (0, .ref bS)]) B dL_law_287 (by decide) rfl ?_
  refine z_aload_n B dL_law_289 rfl 3 rfl ?_
  refine z_aload_n B dL_law_290 rfl 5 rfl ?_
  refine z_iload B dL_law_291 1 rfl ?_
  refine z_iconst (v := 1) B dL_law_293 (by decide) ?_
  refine z_iadd B dL_law_294 ?_
  refine z_seti (y := 1) (by decide) ?_
  refine z_sld (j := 1) (x := 4) B hX hbl hbA (by decide) (show ¬ ((1 : Int32) < 0 ∨ 6 ≤ (1 : Int32).toNatClampNeg) by decide) h_x1 dL_law_295 ?_
  refine z_aload_n B dL_law_296 rfl 5 rfl ?_
  refine z_iload B dL_law_297 1 rfl ?_
  refine z_iconst (v := 2) B dL_law_299 (by decide) ?_
  refine z_iadd B dL_law_300 ?_
  refine z_seti (y := 2) (by decide) ?_
  refine z_sld (j := 2) (x := x2) B hX hbl hbA (by decide) (show ¬ ((2 : Int32) < 0 ∨ 6 ≤ (2 : Int32).toNatClampNeg) by decide) h_x2 dL_law_301 ?_
  refine z_aload_n B dL_law_302 rfl 5 rfl ?_
  refine z_iload B dL_law_303 1 rfl ?_
  refine z_iconst (v := 3) B dL_law_305 (by decide) ?_
  refine z_iadd B dL_law_306 ?_
  refine z_seti (y := 3) (by decide) ?_
  refine z_sld (j := 3) (x := x3) B hX hbl hbA (by decide) (show ¬ ((3 : Int32) < 0 ∨ 6 ≤ (3 : Int32).toNatClampNeg) by decide) h_x3 dL_law_307 ?_
  refine z_aload_n B dL_law_308 rfl 5 rfl ?_
  refine z_iload B dL_law_309 1 rfl ?_
  refine z_iconst (v := 4) B dL_law_311 (by decide) ?_
  refine z_iadd B dL_law_312 ?_
  refine z_seti (y := 4) (by decide) ?_
  refine z_sld (j := 4) (x := x4) B hX hbl hbA (by decide) (show ¬ ((4 : Int32) < 0 ∨ 6 ≤ (4 : Int32).toNatClampNeg) by decide) h_x4 dL_law_313 ?_
  refine z_aload_n B dL_law_314 rfl 5 rfl ?_
  refine z_iload B dL_law_315 1 rfl ?_
  refine z_iconst (v := 5) B dL_law_317 (by decide) ?_
  refine z_iadd B dL_law_318 ?_
  refine z_seti (y := 5) (by decide) ?_
  refine z_sld (j := 5) (x := x5) B hX hbl hbA (by decide) (show ¬ ((5 : Int32) < 0 ∨ 6 ≤ (5 : Int32).toNatClampNeg) by decide) h_x5 dL_law_319 ?_
  refine z_cVi (As := [.int 4, .int x2, .int x3, .int x4, .int x5]) (rest := []) B cw_L_86 cx_10 dL_law_320 (ci_X9_check_564 l (σ := (ap b (wx_Z σ z) [] [] [])) (b := b) (lyA (lyZ hK)) x2 x3 x4 x5 q1_x2 q2_x2 q1_x3 q2_x3) (lKA (lKZ (hk_K hK 405 rfl rfl))) rfl (by decide) rfl (Nat.le_of_ble_eq_true rfl) (by decide) (fun r u hu => ?_)
  refine z_eqs (σ' := (ap b (wx_Z σ z) [(405, 0, 1)] [] [])) (hu.2.trans ap_ap) ?_
  show zx p l e _ s m _ below meth c g 8 _ _ _ _ 323 [(5, .int 1), (4, .int 0), (3, .ref (b + 431)), (2, .ref (b + 405)), (1, .ref (b + 0)), (0, .ref bS)] _
  refine z_seti (y := 0) hu.1 ?_
  refine z_istore (lv' := [(6, .int 0), (5, .int 1), (4, .int 0), (3, .ref (b + 431)), (2, .ref (b + 405)), (1, .ref (b + 0)), (0, .ref bS)]) B dL_law_323 (by decide) rfl ?_
  refine z_aload_n B dL_law_325 rfl 4 rfl ?_
  refine z_cVi (As := []) (rest := []) B cw_L_80 cx_10 dL_law_326 (ci_X9_thrown_31 l (σ := (ap b (wx_Z σ z) [(405, 0, 1)] [] [])) (b := b) (lyA (lyZ hK)) (rI_at 405 0 rfl)) (lKA (lKZ (hk_K hK 405 rfl rfl))) rfl (by decide) rfl (Nat.le_of_ble_eq_true rfl) (by decide) (fun r u hu => ?_)
  refine z_eqs (σ' := (ap b (wx_Z σ z) [(405, 0, 1)] [] [])) hu.2 ?_
  show zx p l e _ s m _ below meth c g 8 _ _ _ _ 329 [(6, .int 0), (5, .int 1), (4, .int 0), (3, .ref (b + 431)), (2, .ref (b + 405)), (1, .ref (b + 0)), (0, .ref bS)] _
  refine z_seti (y := 1) hu.1 ?_
  refine z_iload B dL_law_329 1 rfl ?_
  refine z_icmp_eq (tgt := 336) B dL_law_331 (by decide) (fun _ => ?_) (fun h => absurd (by decide) h)
  refine z_iload B dL_law_336 1 rfl ?_
  refine z_if_ne (tgt := 353) B dL_law_338 (by decide) (fun _ => ?_) (fun h => absurd h (by decide))
  refine z_goto (tgt := 1395) B dL_law_353 (by decide) ?_
  exact z_widen (Nat.le_of_ble_eq_true rfl) (Nat.le_of_ble_eq_true rfl) (z_sub _ [2, 6] rfl (kk _))
set_option maxRecDepth 100000 in
set_option maxHeartbeats 4000000 in
theorem lf_1_238 {p : Program} {l : Launch} {e : Env} {s : State} {m : MethodId} {args : Array Value} {below : List Frame} {meth : Method} {c : Code} {g : gx_T} {Q : State → Prop} {σ : sx_T} {b t bS : Nat} {xs : Nat → Int32} (hlt : l.stackTraces = false) (B : zx_B p s m args meth c code RL 8 g) (hX : va_X bS 6 xs s s.heap) (hbl : bS < s.heap.size) (hbA : ¬ gx_b g ≤ bS) (hF : fz_P b t σ) (h_x1 : xs 1 = 4) {x2 : Int32} (h_x2 : xs 2 = x2) (q1_x2 : (0 : Int) ≤ x2.toInt) (q2_x2 : x2.toInt ≤ (19 : Int)) {x3 : Int32} (h_x3 : xs 3 = x3) (q1_x3 : (-2147483648 : Int) ≤ x3.toInt) (q2_x3 : x3.toInt ≤ (-1 : Int)) {x4 : Int32} (h_x4 : xs 4 = x4) (q1_x4 : (-2147483648 : Int) ≤ x4.toInt) (q2_x4 : x4.toInt ≤ (2147483647 : Int)) {x5 : Int32} (h_x5 : xs 5 = x5) (q1_x5 : (-2147483648 : Int) ≤ x5.toInt) (q2_x5 : x5.toInt ≤ (2147483647 : Int)) (kk : ∀ σ', zx p l e room_1 s m args below meth c g 8 600002 7302232 Q σ' 1395 [(4, .int 0), (0, .ref bS)] []) : zx p l e room_1 s m args below meth c g 8 500 100000 Q σ 252 [(4, .int 0), (3, .ref (b + 431)), (2, .ref (b + 405)), (1, .ref (b + 0)), (0, .ref bS)] [] := by
  have hK := fz_lay hF
  refine z_eqs (σ' := (ap b σ [] [] [])) rfl ?_
  refine z_aload_n B dL_law_252 rfl 3 rfl ?_
  refine z_aload_n B dL_law_253 rfl 4 rfl ?_
  refine z_iload B dL_law_254 0 rfl ?_
  refine z_iconst (v := 1) B dL_law_256 (by decide) ?_
  refine z_iadd B dL_law_257 ?_
  refine z_seti (y := 1) (by decide) ?_
  refine z_sld (j := 1) (x := 4) B hX hbl hbA (by decide) (show ¬ ((1 : Int32) < 0 ∨ 6 ≤ (1 : Int32).toNatClampNeg) by decide) h_x1 dL_law_258 ?_
  refine z_aload_n B dL_law_259 rfl 4 rfl ?_
  refine z_iload B dL_law_260 0 rfl ?_
  refine z_iconst (v := 2) B dL_law_262 (by decide) ?_
  refine z_iadd B dL_law_263 ?_
  refine z_seti (y := 2) (by decide) ?_
  refine z_sld (j := 2) (x := x2) B hX hbl hbA (by decide) (show ¬ ((2 : Int32) < 0 ∨ 6 ≤ (2 : Int32).toNatClampNeg) by decide) h_x2 dL_law_264 ?_
  refine z_aload_n B dL_law_265 rfl 4 rfl ?_
  refine z_iload B dL_law_266 0 rfl ?_
  refine z_iconst (v := 3) B dL_law_268 (by decide) ?_
  refine z_iadd B dL_law_269 ?_
  refine z_seti (y := 3) (by decide) ?_
  refine z_sld (j := 3) (x := x3) B hX hbl hbA (by decide) (show ¬ ((3 : Int32) < 0 ∨ 6 ≤ (3 : Int32).toNatClampNeg) by decide) h_x3 dL_law_270 ?_
  refine z_aload_n B dL_law_271 rfl 4 rfl ?_
  refine z_iload B dL_law_272 0 rfl ?_
  refine z_iconst (v := 4) B dL_law_274 (by decide) ?_
  refine z_iadd B dL_law_275 ?_
  refine z_seti (y := 4) (by decide) ?_
  refine z_sld (j := 4) (x := x4) B hX hbl hbA (by decide) (show ¬ ((4 : Int32) < 0 ∨ 6 ≤ (4 : Int32).toNatClampNeg) by decide) h_x4 dL_law_276 ?_
  refine z_aload_n B dL_law_277 rfl 4 rfl ?_
  refine z_iload B dL_law_278 0 rfl ?_
  refine z_iconst (v := 5) B dL_law_280 (by decide) ?_
  refine z_iadd B dL_law_281 ?_
  refine z_seti (y := 5) (by decide) ?_
  refine z_sld (j := 5) (x := x5) B hX hbl hbA (by decide) (show ¬ ((5 : Int32) < 0 ∨ 6 ≤ (5 : Int32).toNatClampNeg) by decide) h_x5 dL_law_282 ?_
  refine z_aload_n B dL_law_283 rfl 1 rfl ?_
  refine z_cSWi (As := [.ref (b + 0), .int 4, .int x2, .int x3, .int x4, .int x5, .ref (b + 431)]) (rest := []) B cw_L_84 dL_law_284 (ci_L_check_566 l hlt (σ := (ap b σ [] [] [])) (b := b) (lyA hK) x2 x3 x4 x5 q1_x2 q2_x2 q1_x3 q2_x3 (rR_at 0 0 (fz_R hF 0 0 rfl rfl)) (rR_at 1 4 (fz_R hF 1 4 rfl rfl))) rfl (by decide) rfl (Nat.le_of_ble_eq_true rfl) (by decide) (fun r u hu => ?_)
  obtain ⟨hu1, z, hu⟩ := hu
  refine z_eqs (σ' := (ap b (wx_Z σ z) [] [] [])) (hu.trans az_ap) ?_
  show zx p l e _ s m _ below meth c g 8 _ _ _ _ 287 [(4, .int 0), (3, .ref (b + 431)), (2, .ref (b + 405)), (1, .ref (b + 0)), (0, .ref bS)] _
  refine z_seti (y := 2) hu1 ?_
  refine z_istore (lv' := [(5, .int 2), (4, .int 0), (3, .ref (b + 431)), (2, .ref (b + 405)), (1, .ref (b + 0)), (0, .ref bS)]) B dL_law_287 (by decide) rfl ?_
  refine z_aload_n B dL_law_289 rfl 3 rfl ?_
  refine z_aload_n B dL_law_290 rfl 5 rfl ?_
  refine z_iload B dL_law_291 1 rfl ?_
  refine z_iconst (v := 1) B dL_law_293 (by decide) ?_
  refine z_iadd B dL_law_294 ?_
  refine z_seti (y := 1) (by decide) ?_
  refine z_sld (j := 1) (x := 4) B hX hbl hbA (by decide) (show ¬ ((1 : Int32) < 0 ∨ 6 ≤ (1 : Int32).toNatClampNeg) by decide) h_x1 dL_law_295 ?_
  refine z_aload_n B dL_law_296 rfl 5 rfl ?_
  refine z_iload B dL_law_297 1 rfl ?_
  refine z_iconst (v := 2) B dL_law_299 (by decide) ?_
  refine z_iadd B dL_law_300 ?_
  refine z_seti (y := 2) (by decide) ?_
  refine z_sld (j := 2) (x := x2) B hX hbl hbA (by decide) (show ¬ ((2 : Int32) < 0 ∨ 6 ≤ (2 : Int32).toNatClampNeg) by decide) h_x2 dL_law_301 ?_
  refine z_aload_n B dL_law_302 rfl 5 rfl ?_
  refine z_iload B dL_law_303 1 rfl ?_
  refine z_iconst (v := 3) B dL_law_305 (by decide) ?_
  refine z_iadd B dL_law_306 ?_
  refine z_seti (y := 3) (by decide) ?_
  refine z_sld (j := 3) (x := x3) B hX hbl hbA (by decide) (show ¬ ((3 : Int32) < 0 ∨ 6 ≤ (3 : Int32).toNatClampNeg) by decide) h_x3 dL_law_307 ?_
  refine z_aload_n B dL_law_308 rfl 5 rfl ?_
  refine z_iload B dL_law_309 1 rfl ?_
  refine z_iconst (v := 4) B dL_law_311 (by decide) ?_
  refine z_iadd B dL_law_312 ?_
  refine z_seti (y := 4) (by decide) ?_
  refine z_sld (j := 4) (x := x4) B hX hbl hbA (by decide) (show ¬ ((4 : Int32) < 0 ∨ 6 ≤ (4 : Int32).toNatClampNeg) by decide) h_x4 dL_law_313 ?_
  refine z_aload_n B dL_law_314 rfl 5 rfl ?_
  refine z_iload B dL_law_315 1 rfl ?_
  refine z_iconst (v := 5) B dL_law_317 (by decide) ?_
  refine z_iadd B dL_law_318 ?_
  refine z_seti (y := 5) (by decide) ?_
  refine z_sld (j := 5) (x := x5) B hX hbl hbA (by decide) (show ¬ ((5 : Int32) < 0 ∨ 6 ≤ (5 : Int32).toNatClampNeg) by decide) h_x5 dL_law_319 ?_
  refine z_cVi (As := [.int 4, .int x2, .int x3, .int x4, .int x5]) (rest := []) B cw_L_86 cx_10 dL_law_320 (ci_X9_check_567 l (σ := (ap b (wx_Z σ z) [] [] [])) (b := b) (lyA (lyZ hK)) x2 x3 x4 x5 q1_x2 q2_x2 q1_x3 q2_x3) (lKA (lKZ (hk_K hK 405 rfl rfl))) rfl (by decide) rfl (Nat.le_of_ble_eq_true rfl) (by decide) (fun r u hu => ?_)
  refine z_eqs (σ' := (ap b (wx_Z σ z) [(405, 0, 2)] [] [])) (hu.2.trans ap_ap) ?_
  show zx p l e _ s m _ below meth c g 8 _ _ _ _ 323 [(5, .int 2), (4, .int 0), (3, .ref (b + 431)), (2, .ref (b + 405)), (1, .ref (b + 0)), (0, .ref bS)] _
  refine z_seti (y := 0) hu.1 ?_
  refine z_istore (lv' := [(6, .int 0), (5, .int 2), (4, .int 0), (3, .ref (b + 431)), (2, .ref (b + 405)), (1, .ref (b + 0)), (0, .ref bS)]) B dL_law_323 (by decide) rfl ?_
  refine z_aload_n B dL_law_325 rfl 4 rfl ?_
  refine z_cVi (As := []) (rest := []) B cw_L_80 cx_10 dL_law_326 (ci_X9_thrown_73 l (σ := (ap b (wx_Z σ z) [(405, 0, 2)] [] [])) (b := b) (lyA (lyZ hK)) (rI_at 405 0 rfl)) (lKA (lKZ (hk_K hK 405 rfl rfl))) rfl (by decide) rfl (Nat.le_of_ble_eq_true rfl) (by decide) (fun r u hu => ?_)
  refine z_eqs (σ' := (ap b (wx_Z σ z) [(405, 0, 2)] [] [])) hu.2 ?_
  show zx p l e _ s m _ below meth c g 8 _ _ _ _ 329 [(6, .int 0), (5, .int 2), (4, .int 0), (3, .ref (b + 431)), (2, .ref (b + 405)), (1, .ref (b + 0)), (0, .ref bS)] _
  refine z_seti (y := 2) hu.1 ?_
  refine z_iload B dL_law_329 1 rfl ?_
  refine z_icmp_eq (tgt := 336) B dL_law_331 (by decide) (fun _ => ?_) (fun h => absurd (by decide) h)
  refine z_iload B dL_law_336 1 rfl ?_
  refine z_if_ne (tgt := 353) B dL_law_338 (by decide) (fun _ => ?_) (fun h => absurd h (by decide))
  refine z_goto (tgt := 1395) B dL_law_353 (by decide) ?_
  exact z_widen (Nat.le_of_ble_eq_true rfl) (Nat.le_of_ble_eq_true rfl) (z_sub _ [2, 6] rfl (kk _))
set_option maxRecDepth 100000 in
set_option maxHeartbeats 4000000 in
theorem lf_1_239 {p : Program} {l : Launch} {e : Env} {s : State} {m : MethodId} {args : Array Value} {below : List Frame} {meth : Method} {c : Code} {g : gx_T} {Q : State → Prop} {σ : sx_T} {b t bS : Nat} {xs : Nat → Int32} (hlt : l.stackTraces = false) (B : zx_B p s m args meth c code RL 8 g) (hX : va_X bS 6 xs s s.heap) (hbl : bS < s.heap.size) (hbA : ¬ gx_b g ≤ bS) (hF : fz_P b t σ) (h_x1 : xs 1 = 4) {x2 : Int32} (h_x2 : xs 2 = x2) (q1_x2 : (0 : Int) ≤ x2.toInt) (q2_x2 : x2.toInt ≤ (19 : Int)) {x3 : Int32} (h_x3 : xs 3 = x3) (q1_x3 : (0 : Int) ≤ x3.toInt) (q2_x3 : x3.toInt ≤ (17 : Int)) {x4 : Int32} (h_x4 : xs 4 = x4) (q1_x4 : (-2147483648 : Int) ≤ x4.toInt) (q2_x4 : x4.toInt ≤ (-1 : Int)) {x5 : Int32} (h_x5 : xs 5 = x5) (q1_x5 : (-2147483648 : Int) ≤ x5.toInt) (q2_x5 : x5.toInt ≤ (2147483647 : Int)) (kk : ∀ σ', zx p l e room_1 s m args below meth c g 8 600002 7302232 Q σ' 1395 [(4, .int 0), (0, .ref bS)] []) : zx p l e room_1 s m args below meth c g 8 500 100000 Q σ 252 [(4, .int 0), (3, .ref (b + 431)), (2, .ref (b + 405)), (1, .ref (b + 0)), (0, .ref bS)] [] := by
  have hK := fz_lay hF
  refine z_eqs (σ' := (ap b σ [] [] [])) rfl ?_
  refine z_aload_n B dL_law_252 rfl 3 rfl ?_
  refine z_aload_n B dL_law_253 rfl 4 rfl ?_
  refine z_iload B dL_law_254 0 rfl ?_
  refine z_iconst (v := 1) B dL_law_256 (by decide) ?_
  refine z_iadd B dL_law_257 ?_
  refine z_seti (y := 1) (by decide) ?_
  refine z_sld (j := 1) (x := 4) B hX hbl hbA (by decide) (show ¬ ((1 : Int32) < 0 ∨ 6 ≤ (1 : Int32).toNatClampNeg) by decide) h_x1 dL_law_258 ?_
  refine z_aload_n B dL_law_259 rfl 4 rfl ?_
  refine z_iload B dL_law_260 0 rfl ?_
  refine z_iconst (v := 2) B dL_law_262 (by decide) ?_
  refine z_iadd B dL_law_263 ?_
  refine z_seti (y := 2) (by decide) ?_
  refine z_sld (j := 2) (x := x2) B hX hbl hbA (by decide) (show ¬ ((2 : Int32) < 0 ∨ 6 ≤ (2 : Int32).toNatClampNeg) by decide) h_x2 dL_law_264 ?_
  refine z_aload_n B dL_law_265 rfl 4 rfl ?_
  refine z_iload B dL_law_266 0 rfl ?_
  refine z_iconst (v := 3) B dL_law_268 (by decide) ?_
  refine z_iadd B dL_law_269 ?_
  refine z_seti (y := 3) (by decide) ?_
  refine z_sld (j := 3) (x := x3) B hX hbl hbA (by decide) (show ¬ ((3 : Int32) < 0 ∨ 6 ≤ (3 : Int32).toNatClampNeg) by decide) h_x3 dL_law_270 ?_
  refine z_aload_n B dL_law_271 rfl 4 rfl ?_
  refine z_iload B dL_law_272 0 rfl ?_
  refine z_iconst (v := 4) B dL_law_274 (by decide) ?_
  refine z_iadd B dL_law_275 ?_
  refine z_seti (y := 4) (by decide) ?_
  refine z_sld (j := 4) (x := x4) B hX hbl hbA (by decide) (show ¬ ((4 : Int32) < 0 ∨ 6 ≤ (4 : Int32).toNatClampNeg) by decide) h_x4 dL_law_276 ?_
  refine z_aload_n B dL_law_277 rfl 4 rfl ?_
  refine z_iload B dL_law_278 0 rfl ?_
  refine z_iconst (v := 5) B dL_law_280 (by decide) ?_
  refine z_iadd B dL_law_281 ?_
  refine z_seti (y := 5) (by decide) ?_
  refine z_sld (j := 5) (x := x5) B hX hbl hbA (by decide) (show ¬ ((5 : Int32) < 0 ∨ 6 ≤ (5 : Int32).toNatClampNeg) by decide) h_x5 dL_law_282 ?_
  refine z_aload_n B dL_law_283 rfl 1 rfl ?_
  refine z_cSWi (As := [.ref (b + 0), .int 4, .int x2, .int x3, .int x4, .int x5, .ref (b + 431)]) (rest := []) B cw_L_84 dL_law_284 (ci_L_check_569 l hlt (σ := (ap b σ [] [] [])) (b := b) (lyA hK) x2 x3 x4 x5 q1_x2 q2_x2 q1_x3 q2_x3 q1_x4 q2_x4 (rR_at 0 0 (fz_R hF 0 0 rfl rfl)) (rR_at 1 4 (fz_R hF 1 4 rfl rfl))) rfl (by decide) rfl (Nat.le_of_ble_eq_true rfl) (by decide) (fun r u hu => ?_)
  obtain ⟨hu1, z, hu⟩ := hu
  refine z_eqs (σ' := (ap b (wx_Z σ z) [] [] [])) (hu.trans az_ap) ?_
  show zx p l e _ s m _ below meth c g 8 _ _ _ _ 287 [(4, .int 0), (3, .ref (b + 431)), (2, .ref (b + 405)), (1, .ref (b + 0)), (0, .ref bS)] _
  refine z_seti (y := 2) hu1 ?_
  refine z_istore (lv' := [(5, .int 2), (4, .int 0), (3, .ref (b + 431)), (2, .ref (b + 405)), (1, .ref (b + 0)), (0, .ref bS)]) B dL_law_287 (by decide) rfl ?_
  refine z_aload_n B dL_law_289 rfl 3 rfl ?_
  refine z_aload_n B dL_law_290 rfl 5 rfl ?_
  refine z_iload B dL_law_291 1 rfl ?_
  refine z_iconst (v := 1) B dL_law_293 (by decide) ?_
  refine z_iadd B dL_law_294 ?_
  refine z_seti (y := 1) (by decide) ?_
  refine z_sld (j := 1) (x := 4) B hX hbl hbA (by decide) (show ¬ ((1 : Int32) < 0 ∨ 6 ≤ (1 : Int32).toNatClampNeg) by decide) h_x1 dL_law_295 ?_
  refine z_aload_n B dL_law_296 rfl 5 rfl ?_
  refine z_iload B dL_law_297 1 rfl ?_
  refine z_iconst (v := 2) B dL_law_299 (by decide) ?_
  refine z_iadd B dL_law_300 ?_
  refine z_seti (y := 2) (by decide) ?_
  refine z_sld (j := 2) (x := x2) B hX hbl hbA (by decide) (show ¬ ((2 : Int32) < 0 ∨ 6 ≤ (2 : Int32).toNatClampNeg) by decide) h_x2 dL_law_301 ?_
  refine z_aload_n B dL_law_302 rfl 5 rfl ?_
  refine z_iload B dL_law_303 1 rfl ?_
  refine z_iconst (v := 3) B dL_law_305 (by decide) ?_
  refine z_iadd B dL_law_306 ?_
  refine z_seti (y := 3) (by decide) ?_
  refine z_sld (j := 3) (x := x3) B hX hbl hbA (by decide) (show ¬ ((3 : Int32) < 0 ∨ 6 ≤ (3 : Int32).toNatClampNeg) by decide) h_x3 dL_law_307 ?_
  refine z_aload_n B dL_law_308 rfl 5 rfl ?_
  refine z_iload B dL_law_309 1 rfl ?_
  refine z_iconst (v := 4) B dL_law_311 (by decide) ?_
  refine z_iadd B dL_law_312 ?_
  refine z_seti (y := 4) (by decide) ?_
  refine z_sld (j := 4) (x := x4) B hX hbl hbA (by decide) (show ¬ ((4 : Int32) < 0 ∨ 6 ≤ (4 : Int32).toNatClampNeg) by decide) h_x4 dL_law_313 ?_
  refine z_aload_n B dL_law_314 rfl 5 rfl ?_
  refine z_iload B dL_law_315 1 rfl ?_
  refine z_iconst (v := 5) B dL_law_317 (by decide) ?_
  refine z_iadd B dL_law_318 ?_
  refine z_seti (y := 5) (by decide) ?_
  refine z_sld (j := 5) (x := x5) B hX hbl hbA (by decide) (show ¬ ((5 : Int32) < 0 ∨ 6 ≤ (5 : Int32).toNatClampNeg) by decide) h_x5 dL_law_319 ?_
  refine z_cVi (As := [.int 4, .int x2, .int x3, .int x4, .int x5]) (rest := []) B cw_L_86 cx_10 dL_law_320 (ci_X9_check_570 l (σ := (ap b (wx_Z σ z) [] [] [])) (b := b) (lyA (lyZ hK)) x2 x3 x4 x5 q1_x2 q2_x2 q1_x3 q2_x3 q1_x4 q2_x4) (lKA (lKZ (hk_K hK 405 rfl rfl))) rfl (by decide) rfl (Nat.le_of_ble_eq_true rfl) (by decide) (fun r u hu => ?_)
  refine z_eqs (σ' := (ap b (wx_Z σ z) [(405, 0, 2)] [] [])) (hu.2.trans ap_ap) ?_
  show zx p l e _ s m _ below meth c g 8 _ _ _ _ 323 [(5, .int 2), (4, .int 0), (3, .ref (b + 431)), (2, .ref (b + 405)), (1, .ref (b + 0)), (0, .ref bS)] _
  refine z_seti (y := 0) hu.1 ?_
  refine z_istore (lv' := [(6, .int 0), (5, .int 2), (4, .int 0), (3, .ref (b + 431)), (2, .ref (b + 405)), (1, .ref (b + 0)), (0, .ref bS)]) B dL_law_323 (by decide) rfl ?_
  refine z_aload_n B dL_law_325 rfl 4 rfl ?_
  refine z_cVi (As := []) (rest := []) B cw_L_80 cx_10 dL_law_326 (ci_X9_thrown_73 l (σ := (ap b (wx_Z σ z) [(405, 0, 2)] [] [])) (b := b) (lyA (lyZ hK)) (rI_at 405 0 rfl)) (lKA (lKZ (hk_K hK 405 rfl rfl))) rfl (by decide) rfl (Nat.le_of_ble_eq_true rfl) (by decide) (fun r u hu => ?_)
  refine z_eqs (σ' := (ap b (wx_Z σ z) [(405, 0, 2)] [] [])) hu.2 ?_
  show zx p l e _ s m _ below meth c g 8 _ _ _ _ 329 [(6, .int 0), (5, .int 2), (4, .int 0), (3, .ref (b + 431)), (2, .ref (b + 405)), (1, .ref (b + 0)), (0, .ref bS)] _
  refine z_seti (y := 2) hu.1 ?_
  refine z_iload B dL_law_329 1 rfl ?_
  refine z_icmp_eq (tgt := 336) B dL_law_331 (by decide) (fun _ => ?_) (fun h => absurd (by decide) h)
  refine z_iload B dL_law_336 1 rfl ?_
  refine z_if_ne (tgt := 353) B dL_law_338 (by decide) (fun _ => ?_) (fun h => absurd h (by decide))
  refine z_goto (tgt := 1395) B dL_law_353 (by decide) ?_
  exact z_widen (Nat.le_of_ble_eq_true rfl) (Nat.le_of_ble_eq_true rfl) (z_sub _ [2, 6] rfl (kk _))
set_option maxRecDepth 100000 in
set_option maxHeartbeats 4000000 in
theorem lf_1_240 {p : Program} {l : Launch} {e : Env} {s : State} {m : MethodId} {args : Array Value} {below : List Frame} {meth : Method} {c : Code} {g : gx_T} {Q : State → Prop} {σ : sx_T} {b t bS : Nat} {xs : Nat → Int32} (hlt : l.stackTraces = false) (B : zx_B p s m args meth c code RL 8 g) (hX : va_X bS 6 xs s s.heap) (hbl : bS < s.heap.size) (hbA : ¬ gx_b g ≤ bS) (hF : fz_P b t σ) (h_x1 : xs 1 = 4) {x2 : Int32} (h_x2 : xs 2 = x2) (q1_x2 : (0 : Int) ≤ x2.toInt) (q2_x2 : x2.toInt ≤ (19 : Int)) {x3 : Int32} (h_x3 : xs 3 = x3) (q1_x3 : (0 : Int) ≤ x3.toInt) (q2_x3 : x3.toInt ≤ (17 : Int)) {x4 : Int32} (h_x4 : xs 4 = x4) (q1_x4 : (0 : Int) ≤ x4.toInt) (q2_x4 : x4.toInt ≤ (99 : Int)) {x5 : Int32} (h_x5 : xs 5 = x5) (q1_x5 : (-2147483648 : Int) ≤ x5.toInt) (q2_x5 : x5.toInt ≤ (-1 : Int)) (kk : ∀ σ', zx p l e room_1 s m args below meth c g 8 600002 7302232 Q σ' 1395 [(4, .int 0), (0, .ref bS)] []) : zx p l e room_1 s m args below meth c g 8 500 100000 Q σ 252 [(4, .int 0), (3, .ref (b + 431)), (2, .ref (b + 405)), (1, .ref (b + 0)), (0, .ref bS)] [] := by
  have hK := fz_lay hF
  refine z_eqs (σ' := (ap b σ [] [] [])) rfl ?_
  refine z_aload_n B dL_law_252 rfl 3 rfl ?_
  refine z_aload_n B dL_law_253 rfl 4 rfl ?_
  refine z_iload B dL_law_254 0 rfl ?_
  refine z_iconst (v := 1) B dL_law_256 (by decide) ?_
  refine z_iadd B dL_law_257 ?_
  refine z_seti (y := 1) (by decide) ?_
  refine z_sld (j := 1) (x := 4) B hX hbl hbA (by decide) (show ¬ ((1 : Int32) < 0 ∨ 6 ≤ (1 : Int32).toNatClampNeg) by decide) h_x1 dL_law_258 ?_
  refine z_aload_n B dL_law_259 rfl 4 rfl ?_
  refine z_iload B dL_law_260 0 rfl ?_
  refine z_iconst (v := 2) B dL_law_262 (by decide) ?_
  refine z_iadd B dL_law_263 ?_
  refine z_seti (y := 2) (by decide) ?_
  refine z_sld (j := 2) (x := x2) B hX hbl hbA (by decide) (show ¬ ((2 : Int32) < 0 ∨ 6 ≤ (2 : Int32).toNatClampNeg) by decide) h_x2 dL_law_264 ?_
  refine z_aload_n B dL_law_265 rfl 4 rfl ?_
  refine z_iload B dL_law_266 0 rfl ?_
  refine z_iconst (v := 3) B dL_law_268 (by decide) ?_
  refine z_iadd B dL_law_269 ?_
  refine z_seti (y := 3) (by decide) ?_
  refine z_sld (j := 3) (x := x3) B hX hbl hbA (by decide) (show ¬ ((3 : Int32) < 0 ∨ 6 ≤ (3 : Int32).toNatClampNeg) by decide) h_x3 dL_law_270 ?_
  refine z_aload_n B dL_law_271 rfl 4 rfl ?_
  refine z_iload B dL_law_272 0 rfl ?_
  refine z_iconst (v := 4) B dL_law_274 (by decide) ?_
  refine z_iadd B dL_law_275 ?_
  refine z_seti (y := 4) (by decide) ?_
  refine z_sld (j := 4) (x := x4) B hX hbl hbA (by decide) (show ¬ ((4 : Int32) < 0 ∨ 6 ≤ (4 : Int32).toNatClampNeg) by decide) h_x4 dL_law_276 ?_
  refine z_aload_n B dL_law_277 rfl 4 rfl ?_
  refine z_iload B dL_law_278 0 rfl ?_
  refine z_iconst (v := 5) B dL_law_280 (by decide) ?_
  refine z_iadd B dL_law_281 ?_
  refine z_seti (y := 5) (by decide) ?_
  refine z_sld (j := 5) (x := x5) B hX hbl hbA (by decide) (show ¬ ((5 : Int32) < 0 ∨ 6 ≤ (5 : Int32).toNatClampNeg) by decide) h_x5 dL_law_282 ?_
  refine z_aload_n B dL_law_283 rfl 1 rfl ?_
  refine z_cSWi (As := [.ref (b + 0), .int 4, .int x2, .int x3, .int x4, .int x5, .ref (b + 431)]) (rest := []) B cw_L_84 dL_law_284 (ci_L_check_572 l hlt (σ := (ap b σ [] [] [])) (b := b) (lyA hK) x2 x3 x4 x5 q1_x2 q2_x2 q1_x3 q2_x3 q1_x4 q2_x4 q1_x5 q2_x5 (rR_at 0 0 (fz_R hF 0 0 rfl rfl)) (rR_at 1 4 (fz_R hF 1 4 rfl rfl))) rfl (by decide) rfl (Nat.le_of_ble_eq_true rfl) (by decide) (fun r u hu => ?_)
  obtain ⟨hu1, z, hu⟩ := hu
  refine z_eqs (σ' := (ap b (wx_Z σ z) [] [] [])) (hu.trans az_ap) ?_
  show zx p l e _ s m _ below meth c g 8 _ _ _ _ 287 [(4, .int 0), (3, .ref (b + 431)), (2, .ref (b + 405)), (1, .ref (b + 0)), (0, .ref bS)] _
  refine z_seti (y := 2) hu1 ?_
  refine z_istore (lv' := [(5, .int 2), (4, .int 0), (3, .ref (b + 431)), (2, .ref (b + 405)), (1, .ref (b + 0)), (0, .ref bS)]) B dL_law_287 (by decide) rfl ?_
  refine z_aload_n B dL_law_289 rfl 3 rfl ?_
  refine z_aload_n B dL_law_290 rfl 5 rfl ?_
  refine z_iload B dL_law_291 1 rfl ?_
  refine z_iconst (v := 1) B dL_law_293 (by decide) ?_
  refine z_iadd B dL_law_294 ?_
  refine z_seti (y := 1) (by decide) ?_
  refine z_sld (j := 1) (x := 4) B hX hbl hbA (by decide) (show ¬ ((1 : Int32) < 0 ∨ 6 ≤ (1 : Int32).toNatClampNeg) by decide) h_x1 dL_law_295 ?_
  refine z_aload_n B dL_law_296 rfl 5 rfl ?_
  refine z_iload B dL_law_297 1 rfl ?_
  refine z_iconst (v := 2) B dL_law_299 (by decide) ?_
  refine z_iadd B dL_law_300 ?_
  refine z_seti (y := 2) (by decide) ?_
  refine z_sld (j := 2) (x := x2) B hX hbl hbA (by decide) (show ¬ ((2 : Int32) < 0 ∨ 6 ≤ (2 : Int32).toNatClampNeg) by decide) h_x2 dL_law_301 ?_
  refine z_aload_n B dL_law_302 rfl 5 rfl ?_
  refine z_iload B dL_law_303 1 rfl ?_
  refine z_iconst (v := 3) B dL_law_305 (by decide) ?_
  refine z_iadd B dL_law_306 ?_
  refine z_seti (y := 3) (by decide) ?_
  refine z_sld (j := 3) (x := x3) B hX hbl hbA (by decide) (show ¬ ((3 : Int32) < 0 ∨ 6 ≤ (3 : Int32).toNatClampNeg) by decide) h_x3 dL_law_307 ?_
  refine z_aload_n B dL_law_308 rfl 5 rfl ?_
  refine z_iload B dL_law_309 1 rfl ?_
  refine z_iconst (v := 4) B dL_law_311 (by decide) ?_
  refine z_iadd B dL_law_312 ?_
  refine z_seti (y := 4) (by decide) ?_
  refine z_sld (j := 4) (x := x4) B hX hbl hbA (by decide) (show ¬ ((4 : Int32) < 0 ∨ 6 ≤ (4 : Int32).toNatClampNeg) by decide) h_x4 dL_law_313 ?_
  refine z_aload_n B dL_law_314 rfl 5 rfl ?_
  refine z_iload B dL_law_315 1 rfl ?_
  refine z_iconst (v := 5) B dL_law_317 (by decide) ?_
  refine z_iadd B dL_law_318 ?_
  refine z_seti (y := 5) (by decide) ?_
  refine z_sld (j := 5) (x := x5) B hX hbl hbA (by decide) (show ¬ ((5 : Int32) < 0 ∨ 6 ≤ (5 : Int32).toNatClampNeg) by decide) h_x5 dL_law_319 ?_
  refine z_cVi (As := [.int 4, .int x2, .int x3, .int x4, .int x5]) (rest := []) B cw_L_86 cx_10 dL_law_320 (ci_X9_check_573 l (σ := (ap b (wx_Z σ z) [] [] [])) (b := b) (lyA (lyZ hK)) x2 x3 x4 x5 q1_x2 q2_x2 q1_x3 q2_x3 q1_x4 q2_x4 q1_x5 q2_x5) (lKA (lKZ (hk_K hK 405 rfl rfl))) rfl (by decide) rfl (Nat.le_of_ble_eq_true rfl) (by decide) (fun r u hu => ?_)
  refine z_eqs (σ' := (ap b (wx_Z σ z) [(405, 0, 2)] [] [])) (hu.2.trans ap_ap) ?_
  show zx p l e _ s m _ below meth c g 8 _ _ _ _ 323 [(5, .int 2), (4, .int 0), (3, .ref (b + 431)), (2, .ref (b + 405)), (1, .ref (b + 0)), (0, .ref bS)] _
  refine z_seti (y := 0) hu.1 ?_
  refine z_istore (lv' := [(6, .int 0), (5, .int 2), (4, .int 0), (3, .ref (b + 431)), (2, .ref (b + 405)), (1, .ref (b + 0)), (0, .ref bS)]) B dL_law_323 (by decide) rfl ?_
  refine z_aload_n B dL_law_325 rfl 4 rfl ?_
  refine z_cVi (As := []) (rest := []) B cw_L_80 cx_10 dL_law_326 (ci_X9_thrown_73 l (σ := (ap b (wx_Z σ z) [(405, 0, 2)] [] [])) (b := b) (lyA (lyZ hK)) (rI_at 405 0 rfl)) (lKA (lKZ (hk_K hK 405 rfl rfl))) rfl (by decide) rfl (Nat.le_of_ble_eq_true rfl) (by decide) (fun r u hu => ?_)
  refine z_eqs (σ' := (ap b (wx_Z σ z) [(405, 0, 2)] [] [])) hu.2 ?_
  show zx p l e _ s m _ below meth c g 8 _ _ _ _ 329 [(6, .int 0), (5, .int 2), (4, .int 0), (3, .ref (b + 431)), (2, .ref (b + 405)), (1, .ref (b + 0)), (0, .ref bS)] _
  refine z_seti (y := 2) hu.1 ?_
  refine z_iload B dL_law_329 1 rfl ?_
  refine z_icmp_eq (tgt := 336) B dL_law_331 (by decide) (fun _ => ?_) (fun h => absurd (by decide) h)
  refine z_iload B dL_law_336 1 rfl ?_
  refine z_if_ne (tgt := 353) B dL_law_338 (by decide) (fun _ => ?_) (fun h => absurd h (by decide))
  refine z_goto (tgt := 1395) B dL_law_353 (by decide) ?_
  exact z_widen (Nat.le_of_ble_eq_true rfl) (Nat.le_of_ble_eq_true rfl) (z_sub _ [2, 6] rfl (kk _))
set_option maxRecDepth 100000 in
set_option maxHeartbeats 4000000 in
theorem lf_1_241 {p : Program} {l : Launch} {e : Env} {s : State} {m : MethodId} {args : Array Value} {below : List Frame} {meth : Method} {c : Code} {g : gx_T} {Q : State → Prop} {σ : sx_T} {b t bS : Nat} {xs : Nat → Int32} (hlt : l.stackTraces = false) (B : zx_B p s m args meth c code RL 8 g) (hX : va_X bS 6 xs s s.heap) (hbl : bS < s.heap.size) (hbA : ¬ gx_b g ≤ bS) (hF : fz_P b t σ) (h_x1 : xs 1 = 4) {x2 : Int32} (h_x2 : xs 2 = x2) (q1_x2 : (0 : Int) ≤ x2.toInt) (q2_x2 : x2.toInt ≤ (19 : Int)) {x3 : Int32} (h_x3 : xs 3 = x3) (q1_x3 : (0 : Int) ≤ x3.toInt) (q2_x3 : x3.toInt ≤ (17 : Int)) {x4 : Int32} (h_x4 : xs 4 = x4) (q1_x4 : (0 : Int) ≤ x4.toInt) (q2_x4 : x4.toInt ≤ (99 : Int)) {x5 : Int32} (h_x5 : xs 5 = x5) (q1_x5 : (0 : Int) ≤ x5.toInt) (q2_x5 : x5.toInt ≤ (99 : Int)) (kk : ∀ σ', zx p l e room_1 s m args below meth c g 8 600002 7302232 Q σ' 1395 [(4, .int 0), (0, .ref bS)] []) : zx p l e room_1 s m args below meth c g 8 500 100000 Q σ 252 [(4, .int 0), (3, .ref (b + 431)), (2, .ref (b + 405)), (1, .ref (b + 0)), (0, .ref bS)] [] := by
  have hK := fz_lay hF
  refine z_eqs (σ' := (ap b σ [] [] [])) rfl ?_
  refine z_aload_n B dL_law_252 rfl 3 rfl ?_
  refine z_aload_n B dL_law_253 rfl 4 rfl ?_
  refine z_iload B dL_law_254 0 rfl ?_
  refine z_iconst (v := 1) B dL_law_256 (by decide) ?_
  refine z_iadd B dL_law_257 ?_
  refine z_seti (y := 1) (by decide) ?_
  refine z_sld (j := 1) (x := 4) B hX hbl hbA (by decide) (show ¬ ((1 : Int32) < 0 ∨ 6 ≤ (1 : Int32).toNatClampNeg) by decide) h_x1 dL_law_258 ?_
  refine z_aload_n B dL_law_259 rfl 4 rfl ?_
  refine z_iload B dL_law_260 0 rfl ?_
  refine z_iconst (v := 2) B dL_law_262 (by decide) ?_
  refine z_iadd B dL_law_263 ?_
  refine z_seti (y := 2) (by decide) ?_
  refine z_sld (j := 2) (x := x2) B hX hbl hbA (by decide) (show ¬ ((2 : Int32) < 0 ∨ 6 ≤ (2 : Int32).toNatClampNeg) by decide) h_x2 dL_law_264 ?_
  refine z_aload_n B dL_law_265 rfl 4 rfl ?_
  refine z_iload B dL_law_266 0 rfl ?_
  refine z_iconst (v := 3) B dL_law_268 (by decide) ?_
  refine z_iadd B dL_law_269 ?_
  refine z_seti (y := 3) (by decide) ?_
  refine z_sld (j := 3) (x := x3) B hX hbl hbA (by decide) (show ¬ ((3 : Int32) < 0 ∨ 6 ≤ (3 : Int32).toNatClampNeg) by decide) h_x3 dL_law_270 ?_
  refine z_aload_n B dL_law_271 rfl 4 rfl ?_
  refine z_iload B dL_law_272 0 rfl ?_
  refine z_iconst (v := 4) B dL_law_274 (by decide) ?_
  refine z_iadd B dL_law_275 ?_
  refine z_seti (y := 4) (by decide) ?_
  refine z_sld (j := 4) (x := x4) B hX hbl hbA (by decide) (show ¬ ((4 : Int32) < 0 ∨ 6 ≤ (4 : Int32).toNatClampNeg) by decide) h_x4 dL_law_276 ?_
  refine z_aload_n B dL_law_277 rfl 4 rfl ?_
  refine z_iload B dL_law_278 0 rfl ?_
  refine z_iconst (v := 5) B dL_law_280 (by decide) ?_
  refine z_iadd B dL_law_281 ?_
  refine z_seti (y := 5) (by decide) ?_
  refine z_sld (j := 5) (x := x5) B hX hbl hbA (by decide) (show ¬ ((5 : Int32) < 0 ∨ 6 ≤ (5 : Int32).toNatClampNeg) by decide) h_x5 dL_law_282 ?_
  refine z_aload_n B dL_law_283 rfl 1 rfl ?_
  refine z_cSWi (As := [.ref (b + 0), .int 4, .int x2, .int x3, .int x4, .int x5, .ref (b + 431)]) (rest := []) B cw_L_84 dL_law_284 (ci_L_check_578 l (σ := (ap b σ [] [] [])) (b := b) (lyA hK) x2 x3 x4 x5 q1_x2 q2_x2 q1_x3 q2_x3 q1_x4 q2_x4 q1_x5 q2_x5 (rI_at 0 7 (fz_I hF 0 7 rfl rfl)) (rR_at 0 0 (fz_R hF 0 0 rfl rfl)) (rR_at 1 4 (fz_R hF 1 4 rfl rfl)) (rR_at 25 1 (fz_R hF 25 1 rfl rfl)) (rR_at 25 2 (fz_R hF 25 2 rfl rfl)) (rR_at 25 3 (fz_R hF 25 3 rfl rfl))) rfl (by decide) rfl (Nat.le_of_ble_eq_true rfl) (by decide) (fun r u hu => ?_)
  obtain ⟨y1, y2, y3, hu⟩ := hu
  refine z_eqs (σ' := (ap b (wx_I (ap b (wx_I (ap b (wx_I (ap b (ap b (wx_I (ap b (wx_I (ap b (wx_I (ap b (ap b (ap b (ap b σ [] [] []) [] [] []) [] [] []) [] [] []) (b + 26) x2.toNatClampNeg x3) [] [] []) (b + 27) x2.toNatClampNeg x4) [] [] []) (b + 28) x2.toNatClampNeg x5) [] [] []) [] [] []) (b + 26) x2.toNatClampNeg y1) [] [] []) (b + 27) x2.toNatClampNeg y2) [] [] []) (b + 28) x2.toNatClampNeg y3) [] [(431, 0, 0)] [])) hu.2 ?_
  show zx p l e _ s m _ below meth c g 8 _ _ _ _ 287 [(4, .int 0), (3, .ref (b + 431)), (2, .ref (b + 405)), (1, .ref (b + 0)), (0, .ref bS)] _
  refine z_seti (y := 0) hu.1 ?_
  refine z_istore (lv' := [(5, .int 0), (4, .int 0), (3, .ref (b + 431)), (2, .ref (b + 405)), (1, .ref (b + 0)), (0, .ref bS)]) B dL_law_287 (by decide) rfl ?_
  refine z_aload_n B dL_law_289 rfl 3 rfl ?_
  refine z_aload_n B dL_law_290 rfl 5 rfl ?_
  refine z_iload B dL_law_291 1 rfl ?_
  refine z_iconst (v := 1) B dL_law_293 (by decide) ?_
  refine z_iadd B dL_law_294 ?_
  refine z_seti (y := 1) (by decide) ?_
  refine z_sld (j := 1) (x := 4) B hX hbl hbA (by decide) (show ¬ ((1 : Int32) < 0 ∨ 6 ≤ (1 : Int32).toNatClampNeg) by decide) h_x1 dL_law_295 ?_
  refine z_aload_n B dL_law_296 rfl 5 rfl ?_
  refine z_iload B dL_law_297 1 rfl ?_
  refine z_iconst (v := 2) B dL_law_299 (by decide) ?_
  refine z_iadd B dL_law_300 ?_
  refine z_seti (y := 2) (by decide) ?_
  refine z_sld (j := 2) (x := x2) B hX hbl hbA (by decide) (show ¬ ((2 : Int32) < 0 ∨ 6 ≤ (2 : Int32).toNatClampNeg) by decide) h_x2 dL_law_301 ?_
  refine z_aload_n B dL_law_302 rfl 5 rfl ?_
  refine z_iload B dL_law_303 1 rfl ?_
  refine z_iconst (v := 3) B dL_law_305 (by decide) ?_
  refine z_iadd B dL_law_306 ?_
  refine z_seti (y := 3) (by decide) ?_
  refine z_sld (j := 3) (x := x3) B hX hbl hbA (by decide) (show ¬ ((3 : Int32) < 0 ∨ 6 ≤ (3 : Int32).toNatClampNeg) by decide) h_x3 dL_law_307 ?_
  refine z_aload_n B dL_law_308 rfl 5 rfl ?_
  refine z_iload B dL_law_309 1 rfl ?_
  refine z_iconst (v := 4) B dL_law_311 (by decide) ?_
  refine z_iadd B dL_law_312 ?_
  refine z_seti (y := 4) (by decide) ?_
  refine z_sld (j := 4) (x := x4) B hX hbl hbA (by decide) (show ¬ ((4 : Int32) < 0 ∨ 6 ≤ (4 : Int32).toNatClampNeg) by decide) h_x4 dL_law_313 ?_
  refine z_aload_n B dL_law_314 rfl 5 rfl ?_
  refine z_iload B dL_law_315 1 rfl ?_
  refine z_iconst (v := 5) B dL_law_317 (by decide) ?_
  refine z_iadd B dL_law_318 ?_
  refine z_seti (y := 5) (by decide) ?_
  refine z_sld (j := 5) (x := x5) B hX hbl hbA (by decide) (show ¬ ((5 : Int32) < 0 ∨ 6 ≤ (5 : Int32).toNatClampNeg) by decide) h_x5 dL_law_319 ?_
  refine z_cVi (As := [.int 4, .int x2, .int x3, .int x4, .int x5]) (rest := []) B cw_L_86 cx_10 dL_law_320 (ci_X9_check_579 l (σ := (ap b (wx_I (ap b (wx_I (ap b (wx_I (ap b (ap b (wx_I (ap b (wx_I (ap b (wx_I (ap b (ap b (ap b (ap b σ [] [] []) [] [] []) [] [] []) [] [] []) (b + 26) x2.toNatClampNeg x3) [] [] []) (b + 27) x2.toNatClampNeg x4) [] [] []) (b + 28) x2.toNatClampNeg x5) [] [] []) [] [] []) (b + 26) x2.toNatClampNeg y1) [] [] []) (b + 27) x2.toNatClampNeg y2) [] [] []) (b + 28) x2.toNatClampNeg y3) [] [(431, 0, 0)] [])) (b := b) (lyA (lyW (lyA (lyW (lyA (lyW (lyA (lyA (lyW (lyA (lyW (lyA (lyW (lyA (lyA (lyA (lyA hK))))))))))))))))) x2 x3 x4 x5 q1_x2 q2_x2 q1_x3 q2_x3 q1_x4 q2_x4 q1_x5 q2_x5 (rI_at 405 6 ((ux_a (by omega)).trans (rI_at 405 6 ((ux_a (by omega)).trans (rI_at 405 6 ((ux_a (by omega)).trans (rI_at 405 6 (rI_at 405 6 ((ux_a (by omega)).trans (rI_at 405 6 ((ux_a (by omega)).trans (rI_at 405 6 ((ux_a (by omega)).trans (rI_at 405 6 (rI_at 405 6 (rI_at 405 6 (rI_at 405 6 (fz_I hF 405 6 rfl rfl)))))))))))))))))) (rR_at 405 3 (rR_w (rR_at 405 3 (rR_w (rR_at 405 3 (rR_w (rR_at 405 3 (rR_at 405 3 (rR_w (rR_at 405 3 (rR_w (rR_at 405 3 (rR_w (rR_at 405 3 (rR_at 405 3 (rR_at 405 3 (rR_at 405 3 (fz_R hF 405 3 rfl rfl)))))))))))))))))) (rR_at 405 4 (rR_w (rR_at 405 4 (rR_w (rR_at 405 4 (rR_w (rR_at 405 4 (rR_at 405 4 (rR_w (rR_at 405 4 (rR_w (rR_at 405 4 (rR_w (rR_at 405 4 (rR_at 405 4 (rR_at 405 4 (rR_at 405 4 (fz_R hF 405 4 rfl rfl)))))))))))))))))) (rR_at 405 5 (rR_w (rR_at 405 5 (rR_w (rR_at 405 5 (rR_w (rR_at 405 5 (rR_at 405 5 (rR_w (rR_at 405 5 (rR_w (rR_at 405 5 (rR_w (rR_at 405 5 (rR_at 405 5 (rR_at 405 5 (rR_at 405 5 (fz_R hF 405 5 rfl rfl))))))))))))))))))) (lKA (lKW (lKA (lKW (lKA (lKW (lKA (lKA (lKW (lKA (lKW (lKA (lKW (lKA (lKA (lKA (lKA (hk_K hK 405 rfl rfl)))))))))))))))))) rfl (by decide) rfl (Nat.le_of_ble_eq_true rfl) (by decide) (fun r u hu => ?_)
  obtain ⟨y4, y5, y6, hu⟩ := hu
  refine z_eqs (σ' := (ap b (wx_I (ap b (wx_I (ap b (wx_I (ap b (ap b (wx_I (ap b (wx_I (ap b (wx_I (ap b (ap b (ap b (wx_I (ap b (wx_I (ap b (wx_I (ap b (ap b (wx_I (ap b (wx_I (ap b (wx_I (ap b (ap b (ap b (ap b σ [] [] []) [] [] []) [] [] []) [] [] []) (b + 26) x2.toNatClampNeg x3) [] [] []) (b + 27) x2.toNatClampNeg x4) [] [] []) (b + 28) x2.toNatClampNeg x5) [] [] []) [] [] []) (b + 26) x2.toNatClampNeg y1) [] [] []) (b + 27) x2.toNatClampNeg y2) [] [] []) (b + 28) x2.toNatClampNeg y3) [] [(431, 0, 0)] []) [(405, 0, 0)] [] []) [] [] []) (b + 406) (80 + x2).toNatClampNeg x3) [] [] []) (b + 407) (80 + x2).toNatClampNeg x4) [] [] []) (b + 408) (80 + x2).toNatClampNeg x5) [] [] []) [] [] []) (b + 406) (80 + x2).toNatClampNeg y4) [] [] []) (b + 407) (80 + x2).toNatClampNeg y5) [] [] []) (b + 408) (80 + x2).toNatClampNeg y6) [] [] [])) hu.2 ?_
  show zx p l e _ s m _ below meth c g 8 _ _ _ _ 323 [(5, .int 0), (4, .int 0), (3, .ref (b + 431)), (2, .ref (b + 405)), (1, .ref (b + 0)), (0, .ref bS)] _
  refine z_seti (y := 0) hu.1 ?_
  refine z_istore (lv' := [(6, .int 0), (5, .int 0), (4, .int 0), (3, .ref (b + 431)), (2, .ref (b + 405)), (1, .ref (b + 0)), (0, .ref bS)]) B dL_law_323 (by decide) rfl ?_
  refine z_aload_n B dL_law_325 rfl 4 rfl ?_
  refine z_cVi (As := []) (rest := []) B cw_L_80 cx_10 dL_law_326 (ci_X9_thrown_95 l (σ := (ap b (wx_I (ap b (wx_I (ap b (wx_I (ap b (ap b (wx_I (ap b (wx_I (ap b (wx_I (ap b (ap b (ap b (wx_I (ap b (wx_I (ap b (wx_I (ap b (ap b (wx_I (ap b (wx_I (ap b (wx_I (ap b (ap b (ap b (ap b σ [] [] []) [] [] []) [] [] []) [] [] []) (b + 26) x2.toNatClampNeg x3) [] [] []) (b + 27) x2.toNatClampNeg x4) [] [] []) (b + 28) x2.toNatClampNeg x5) [] [] []) [] [] []) (b + 26) x2.toNatClampNeg y1) [] [] []) (b + 27) x2.toNatClampNeg y2) [] [] []) (b + 28) x2.toNatClampNeg y3) [] [(431, 0, 0)] []) [(405, 0, 0)] [] []) [] [] []) (b + 406) (80 + x2).toNatClampNeg x3) [] [] []) (b + 407) (80 + x2).toNatClampNeg x4) [] [] []) (b + 408) (80 + x2).toNatClampNeg x5) [] [] []) [] [] []) (b + 406) (80 + x2).toNatClampNeg y4) [] [] []) (b + 407) (80 + x2).toNatClampNeg y5) [] [] []) (b + 408) (80 + x2).toNatClampNeg y6) [] [] [])) (b := b) (lyA (lyW (lyA (lyW (lyA (lyW (lyA (lyA (lyW (lyA (lyW (lyA (lyW (lyA (lyA (lyA (lyW (lyA (lyW (lyA (lyW (lyA (lyA (lyW (lyA (lyW (lyA (lyW (lyA (lyA (lyA (lyA hK)))))))))))))))))))))))))))))))) (rI_at 405 0 ((ux_a (by omega)).trans (rI_at 405 0 ((ux_a (by omega)).trans (rI_at 405 0 ((ux_a (by omega)).trans (rI_at 405 0 (rI_at 405 0 ((ux_a (by omega)).trans (rI_at 405 0 ((ux_a (by omega)).trans (rI_at 405 0 ((ux_a (by omega)).trans (rI_at 405 0 (rI_at 405 0 rfl)))))))))))))))) (lKA (lKW (lKA (lKW (lKA (lKW (lKA (lKA (lKW (lKA (lKW (lKA (lKW (lKA (lKA (lKA (lKW (lKA (lKW (lKA (lKW (lKA (lKA (lKW (lKA (lKW (lKA (lKW (lKA (lKA (lKA (lKA (hk_K hK 405 rfl rfl))))))))))))))))))))))))))))))))) rfl (by decide) rfl (Nat.le_of_ble_eq_true rfl) (by decide) (fun r u hu => ?_)
  refine z_eqs (σ' := (ap b (wx_I (ap b (wx_I (ap b (wx_I (ap b (ap b (wx_I (ap b (wx_I (ap b (wx_I (ap b (ap b (ap b (wx_I (ap b (wx_I (ap b (wx_I (ap b (ap b (wx_I (ap b (wx_I (ap b (wx_I (ap b (ap b (ap b (ap b σ [] [] []) [] [] []) [] [] []) [] [] []) (b + 26) x2.toNatClampNeg x3) [] [] []) (b + 27) x2.toNatClampNeg x4) [] [] []) (b + 28) x2.toNatClampNeg x5) [] [] []) [] [] []) (b + 26) x2.toNatClampNeg y1) [] [] []) (b + 27) x2.toNatClampNeg y2) [] [] []) (b + 28) x2.toNatClampNeg y3) [] [(431, 0, 0)] []) [(405, 0, 0)] [] []) [] [] []) (b + 406) (80 + x2).toNatClampNeg x3) [] [] []) (b + 407) (80 + x2).toNatClampNeg x4) [] [] []) (b + 408) (80 + x2).toNatClampNeg x5) [] [] []) [] [] []) (b + 406) (80 + x2).toNatClampNeg y4) [] [] []) (b + 407) (80 + x2).toNatClampNeg y5) [] [] []) (b + 408) (80 + x2).toNatClampNeg y6) [] [] [])) hu.2 ?_
  show zx p l e _ s m _ below meth c g 8 _ _ _ _ 329 [(6, .int 0), (5, .int 0), (4, .int 0), (3, .ref (b + 431)), (2, .ref (b + 405)), (1, .ref (b + 0)), (0, .ref bS)] _
  refine z_seti (y := 0) hu.1 ?_
  refine z_iload B dL_law_329 1 rfl ?_
  refine z_icmp_eq (tgt := 336) B dL_law_331 (by decide) (fun _ => ?_) (fun h => absurd (by decide) h)
  refine z_iload B dL_law_336 1 rfl ?_
  refine z_if_ne (tgt := 353) B dL_law_338 (by decide) (fun h => absurd (by decide) h) (fun _ => ?_)
  refine z_aload_n B dL_law_341 rfl 3 rfl ?_
  refine z_iconst (v := 0) B dL_law_342 (by decide) ?_
  refine z_lald (j := 0) (x := 0) B (lKA (lKW (lKA (lKW (lKA (lKW (lKA (lKA (lKW (lKA (lKW (lKA (lKW (lKA (lKA (lKA (lKW (lKA (lKW (lKA (lKW (lKA (lKA (lKW (lKA (lKW (lKA (lKW (lKA (lKA (lKA (lKA (hk_K hK 431 rfl rfl))))))))))))))))))))))))))))))))) (by decide) (in_of (lNA (lNW (lNA (lNW (lNA (lNW (lNA (lNA (lNW (lNA (lNW (lNA (lNW (lNA (lNA (lNA (lNW (lNA (lNW (lNA (lNW (lNA (lNA (lNW (lNA (lNW (lNA (lNW (lNA (lNA (lNA (lNA (hk_N hK 431 rfl rfl))))))))))))))))))))))))))))))))) (show ¬ ((0 : Int32) < 0 ∨ 1 ≤ (0 : Int32).toNatClampNeg) by decide)) (rJ_at 431 0 (rJ_w (rJ_at 431 0 (rJ_w (rJ_at 431 0 (rJ_w (rJ_at 431 0 (rJ_at 431 0 (rJ_w (rJ_at 431 0 (rJ_w (rJ_at 431 0 (rJ_w (rJ_at 431 0 (rJ_at 431 0 (rJ_at 431 0 rfl)))))))))))))))) dL_law_343 ?_
  refine z_iload B dL_law_344 0 rfl ?_
  refine z_i2l (v := 0) B dL_law_346 (by decide) ?_
  refine z_lcmp (v := 0) B dL_law_347 (by decide) ?_
  refine z_if_eq (tgt := 353) B dL_law_348 (by decide) (fun _ => ?_) (fun h => absurd (by decide) h)
  refine z_goto (tgt := 1395) B dL_law_353 (by decide) ?_
  exact z_widen (Nat.le_of_ble_eq_true rfl) (Nat.le_of_ble_eq_true rfl) (z_sub _ [2, 6] rfl (kk _))
set_option maxRecDepth 100000 in
set_option maxHeartbeats 4000000 in
theorem lf_1_242 {p : Program} {l : Launch} {e : Env} {s : State} {m : MethodId} {args : Array Value} {below : List Frame} {meth : Method} {c : Code} {g : gx_T} {Q : State → Prop} {σ : sx_T} {b t bS : Nat} {xs : Nat → Int32} (hlt : l.stackTraces = false) (B : zx_B p s m args meth c code RL 8 g) (hX : va_X bS 6 xs s s.heap) (hbl : bS < s.heap.size) (hbA : ¬ gx_b g ≤ bS) (hF : fz_P b t σ) (h_x1 : xs 1 = 4) {x2 : Int32} (h_x2 : xs 2 = x2) (q1_x2 : (0 : Int) ≤ x2.toInt) (q2_x2 : x2.toInt ≤ (19 : Int)) {x3 : Int32} (h_x3 : xs 3 = x3) (q1_x3 : (0 : Int) ≤ x3.toInt) (q2_x3 : x3.toInt ≤ (17 : Int)) {x4 : Int32} (h_x4 : xs 4 = x4) (q1_x4 : (0 : Int) ≤ x4.toInt) (q2_x4 : x4.toInt ≤ (99 : Int)) {x5 : Int32} (h_x5 : xs 5 = x5) (q1_x5 : (100 : Int) ≤ x5.toInt) (q2_x5 : x5.toInt ≤ (2147483647 : Int)) (kk : ∀ σ', zx p l e room_1 s m args below meth c g 8 600002 7302232 Q σ' 1395 [(4, .int 0), (0, .ref bS)] []) : zx p l e room_1 s m args below meth c g 8 500 100000 Q σ 252 [(4, .int 0), (3, .ref (b + 431)), (2, .ref (b + 405)), (1, .ref (b + 0)), (0, .ref bS)] [] := by
  have hK := fz_lay hF
  refine z_eqs (σ' := (ap b σ [] [] [])) rfl ?_
  refine z_aload_n B dL_law_252 rfl 3 rfl ?_
  refine z_aload_n B dL_law_253 rfl 4 rfl ?_
  refine z_iload B dL_law_254 0 rfl ?_
  refine z_iconst (v := 1) B dL_law_256 (by decide) ?_
  refine z_iadd B dL_law_257 ?_
  refine z_seti (y := 1) (by decide) ?_
  refine z_sld (j := 1) (x := 4) B hX hbl hbA (by decide) (show ¬ ((1 : Int32) < 0 ∨ 6 ≤ (1 : Int32).toNatClampNeg) by decide) h_x1 dL_law_258 ?_
  refine z_aload_n B dL_law_259 rfl 4 rfl ?_
  refine z_iload B dL_law_260 0 rfl ?_
  refine z_iconst (v := 2) B dL_law_262 (by decide) ?_
  refine z_iadd B dL_law_263 ?_
  refine z_seti (y := 2) (by decide) ?_
  refine z_sld (j := 2) (x := x2) B hX hbl hbA (by decide) (show ¬ ((2 : Int32) < 0 ∨ 6 ≤ (2 : Int32).toNatClampNeg) by decide) h_x2 dL_law_264 ?_
  refine z_aload_n B dL_law_265 rfl 4 rfl ?_
  refine z_iload B dL_law_266 0 rfl ?_
  refine z_iconst (v := 3) B dL_law_268 (by decide) ?_
  refine z_iadd B dL_law_269 ?_
  refine z_seti (y := 3) (by decide) ?_
  refine z_sld (j := 3) (x := x3) B hX hbl hbA (by decide) (show ¬ ((3 : Int32) < 0 ∨ 6 ≤ (3 : Int32).toNatClampNeg) by decide) h_x3 dL_law_270 ?_
  refine z_aload_n B dL_law_271 rfl 4 rfl ?_
  refine z_iload B dL_law_272 0 rfl ?_
  refine z_iconst (v := 4) B dL_law_274 (by decide) ?_
  refine z_iadd B dL_law_275 ?_
  refine z_seti (y := 4) (by decide) ?_
  refine z_sld (j := 4) (x := x4) B hX hbl hbA (by decide) (show ¬ ((4 : Int32) < 0 ∨ 6 ≤ (4 : Int32).toNatClampNeg) by decide) h_x4 dL_law_276 ?_
  refine z_aload_n B dL_law_277 rfl 4 rfl ?_
  refine z_iload B dL_law_278 0 rfl ?_
  refine z_iconst (v := 5) B dL_law_280 (by decide) ?_
  refine z_iadd B dL_law_281 ?_
  refine z_seti (y := 5) (by decide) ?_
  refine z_sld (j := 5) (x := x5) B hX hbl hbA (by decide) (show ¬ ((5 : Int32) < 0 ∨ 6 ≤ (5 : Int32).toNatClampNeg) by decide) h_x5 dL_law_282 ?_
  refine z_aload_n B dL_law_283 rfl 1 rfl ?_
  refine z_cSWi (As := [.ref (b + 0), .int 4, .int x2, .int x3, .int x4, .int x5, .ref (b + 431)]) (rest := []) B cw_L_84 dL_law_284 (ci_L_check_581 l hlt (σ := (ap b σ [] [] [])) (b := b) (lyA hK) x2 x3 x4 x5 q1_x2 q2_x2 q1_x3 q2_x3 q1_x4 q2_x4 q1_x5 q2_x5 (rR_at 0 0 (fz_R hF 0 0 rfl rfl)) (rR_at 1 4 (fz_R hF 1 4 rfl rfl))) rfl (by decide) rfl (Nat.le_of_ble_eq_true rfl) (by decide) (fun r u hu => ?_)
  obtain ⟨hu1, z, hu⟩ := hu
  refine z_eqs (σ' := (ap b (wx_Z σ z) [] [] [])) (hu.trans az_ap) ?_
  show zx p l e _ s m _ below meth c g 8 _ _ _ _ 287 [(4, .int 0), (3, .ref (b + 431)), (2, .ref (b + 405)), (1, .ref (b + 0)), (0, .ref bS)] _
  refine z_seti (y := 2) hu1 ?_
  refine z_istore (lv' := [(5, .int 2), (4, .int 0), (3, .ref (b + 431)), (2, .ref (b + 405)), (1, .ref (b + 0)), (0, .ref bS)]) B dL_law_287 (by decide) rfl ?_
  refine z_aload_n B dL_law_289 rfl 3 rfl ?_
  refine z_aload_n B dL_law_290 rfl 5 rfl ?_
  refine z_iload B dL_law_291 1 rfl ?_
  refine z_iconst (v := 1) B dL_law_293 (by decide) ?_
  refine z_iadd B dL_law_294 ?_
  refine z_seti (y := 1) (by decide) ?_
  refine z_sld (j := 1) (x := 4) B hX hbl hbA (by decide) (show ¬ ((1 : Int32) < 0 ∨ 6 ≤ (1 : Int32).toNatClampNeg) by decide) h_x1 dL_law_295 ?_
  refine z_aload_n B dL_law_296 rfl 5 rfl ?_
  refine z_iload B dL_law_297 1 rfl ?_
  refine z_iconst (v := 2) B dL_law_299 (by decide) ?_
  refine z_iadd B dL_law_300 ?_
  refine z_seti (y := 2) (by decide) ?_
  refine z_sld (j := 2) (x := x2) B hX hbl hbA (by decide) (show ¬ ((2 : Int32) < 0 ∨ 6 ≤ (2 : Int32).toNatClampNeg) by decide) h_x2 dL_law_301 ?_
  refine z_aload_n B dL_law_302 rfl 5 rfl ?_
  refine z_iload B dL_law_303 1 rfl ?_
  refine z_iconst (v := 3) B dL_law_305 (by decide) ?_
  refine z_iadd B dL_law_306 ?_
  refine z_seti (y := 3) (by decide) ?_
  refine z_sld (j := 3) (x := x3) B hX hbl hbA (by decide) (show ¬ ((3 : Int32) < 0 ∨ 6 ≤ (3 : Int32).toNatClampNeg) by decide) h_x3 dL_law_307 ?_
  refine z_aload_n B dL_law_308 rfl 5 rfl ?_
  refine z_iload B dL_law_309 1 rfl ?_
  refine z_iconst (v := 4) B dL_law_311 (by decide) ?_
  refine z_iadd B dL_law_312 ?_
  refine z_seti (y := 4) (by decide) ?_
  refine z_sld (j := 4) (x := x4) B hX hbl hbA (by decide) (show ¬ ((4 : Int32) < 0 ∨ 6 ≤ (4 : Int32).toNatClampNeg) by decide) h_x4 dL_law_313 ?_
  refine z_aload_n B dL_law_314 rfl 5 rfl ?_
  refine z_iload B dL_law_315 1 rfl ?_
  refine z_iconst (v := 5) B dL_law_317 (by decide) ?_
  refine z_iadd B dL_law_318 ?_
  refine z_seti (y := 5) (by decide) ?_
  refine z_sld (j := 5) (x := x5) B hX hbl hbA (by decide) (show ¬ ((5 : Int32) < 0 ∨ 6 ≤ (5 : Int32).toNatClampNeg) by decide) h_x5 dL_law_319 ?_
  refine z_cVi (As := [.int 4, .int x2, .int x3, .int x4, .int x5]) (rest := []) B cw_L_86 cx_10 dL_law_320 (ci_X9_check_582 l (σ := (ap b (wx_Z σ z) [] [] [])) (b := b) (lyA (lyZ hK)) x2 x3 x4 x5 q1_x2 q2_x2 q1_x3 q2_x3 q1_x4 q2_x4 q1_x5 q2_x5) (lKA (lKZ (hk_K hK 405 rfl rfl))) rfl (by decide) rfl (Nat.le_of_ble_eq_true rfl) (by decide) (fun r u hu => ?_)
  refine z_eqs (σ' := (ap b (wx_Z σ z) [(405, 0, 2)] [] [])) (hu.2.trans ap_ap) ?_
  show zx p l e _ s m _ below meth c g 8 _ _ _ _ 323 [(5, .int 2), (4, .int 0), (3, .ref (b + 431)), (2, .ref (b + 405)), (1, .ref (b + 0)), (0, .ref bS)] _
  refine z_seti (y := 0) hu.1 ?_
  refine z_istore (lv' := [(6, .int 0), (5, .int 2), (4, .int 0), (3, .ref (b + 431)), (2, .ref (b + 405)), (1, .ref (b + 0)), (0, .ref bS)]) B dL_law_323 (by decide) rfl ?_
  refine z_aload_n B dL_law_325 rfl 4 rfl ?_
  refine z_cVi (As := []) (rest := []) B cw_L_80 cx_10 dL_law_326 (ci_X9_thrown_73 l (σ := (ap b (wx_Z σ z) [(405, 0, 2)] [] [])) (b := b) (lyA (lyZ hK)) (rI_at 405 0 rfl)) (lKA (lKZ (hk_K hK 405 rfl rfl))) rfl (by decide) rfl (Nat.le_of_ble_eq_true rfl) (by decide) (fun r u hu => ?_)
  refine z_eqs (σ' := (ap b (wx_Z σ z) [(405, 0, 2)] [] [])) hu.2 ?_
  show zx p l e _ s m _ below meth c g 8 _ _ _ _ 329 [(6, .int 0), (5, .int 2), (4, .int 0), (3, .ref (b + 431)), (2, .ref (b + 405)), (1, .ref (b + 0)), (0, .ref bS)] _
  refine z_seti (y := 2) hu.1 ?_
  refine z_iload B dL_law_329 1 rfl ?_
  refine z_icmp_eq (tgt := 336) B dL_law_331 (by decide) (fun _ => ?_) (fun h => absurd (by decide) h)
  refine z_iload B dL_law_336 1 rfl ?_
  refine z_if_ne (tgt := 353) B dL_law_338 (by decide) (fun _ => ?_) (fun h => absurd h (by decide))
  refine z_goto (tgt := 1395) B dL_law_353 (by decide) ?_
  exact z_widen (Nat.le_of_ble_eq_true rfl) (Nat.le_of_ble_eq_true rfl) (z_sub _ [2, 6] rfl (kk _))
set_option maxRecDepth 100000 in
set_option maxHeartbeats 4000000 in
theorem lf_1_243 {p : Program} {l : Launch} {e : Env} {s : State} {m : MethodId} {args : Array Value} {below : List Frame} {meth : Method} {c : Code} {g : gx_T} {Q : State → Prop} {σ : sx_T} {b t bS : Nat} {xs : Nat → Int32} (hlt : l.stackTraces = false) (B : zx_B p s m args meth c code RL 8 g) (hX : va_X bS 6 xs s s.heap) (hbl : bS < s.heap.size) (hbA : ¬ gx_b g ≤ bS) (hF : fz_P b t σ) (h_x1 : xs 1 = 4) {x2 : Int32} (h_x2 : xs 2 = x2) (q1_x2 : (0 : Int) ≤ x2.toInt) (q2_x2 : x2.toInt ≤ (19 : Int)) {x3 : Int32} (h_x3 : xs 3 = x3) (q1_x3 : (0 : Int) ≤ x3.toInt) (q2_x3 : x3.toInt ≤ (17 : Int)) {x4 : Int32} (h_x4 : xs 4 = x4) (q1_x4 : (100 : Int) ≤ x4.toInt) (q2_x4 : x4.toInt ≤ (2147483647 : Int)) {x5 : Int32} (h_x5 : xs 5 = x5) (q1_x5 : (-2147483648 : Int) ≤ x5.toInt) (q2_x5 : x5.toInt ≤ (2147483647 : Int)) (kk : ∀ σ', zx p l e room_1 s m args below meth c g 8 600002 7302232 Q σ' 1395 [(4, .int 0), (0, .ref bS)] []) : zx p l e room_1 s m args below meth c g 8 500 100000 Q σ 252 [(4, .int 0), (3, .ref (b + 431)), (2, .ref (b + 405)), (1, .ref (b + 0)), (0, .ref bS)] [] := by
  have hK := fz_lay hF
  refine z_eqs (σ' := (ap b σ [] [] [])) rfl ?_
  refine z_aload_n B dL_law_252 rfl 3 rfl ?_
  refine z_aload_n B dL_law_253 rfl 4 rfl ?_
  refine z_iload B dL_law_254 0 rfl ?_
  refine z_iconst (v := 1) B dL_law_256 (by decide) ?_
  refine z_iadd B dL_law_257 ?_
  refine z_seti (y := 1) (by decide) ?_
  refine z_sld (j := 1) (x := 4) B hX hbl hbA (by decide) (show ¬ ((1 : Int32) < 0 ∨ 6 ≤ (1 : Int32).toNatClampNeg) by decide) h_x1 dL_law_258 ?_
  refine z_aload_n B dL_law_259 rfl 4 rfl ?_
  refine z_iload B dL_law_260 0 rfl ?_
  refine z_iconst (v := 2) B dL_law_262 (by decide) ?_
  refine z_iadd B dL_law_263 ?_
  refine z_seti (y := 2) (by decide) ?_
  refine z_sld (j := 2) (x := x2) B hX hbl hbA (by decide) (show ¬ ((2 : Int32) < 0 ∨ 6 ≤ (2 : Int32).toNatClampNeg) by decide) h_x2 dL_law_264 ?_
  refine z_aload_n B dL_law_265 rfl 4 rfl ?_
  refine z_iload B dL_law_266 0 rfl ?_
  refine z_iconst (v := 3) B dL_law_268 (by decide) ?_
  refine z_iadd B dL_law_269 ?_
  refine z_seti (y := 3) (by decide) ?_
  refine z_sld (j := 3) (x := x3) B hX hbl hbA (by decide) (show ¬ ((3 : Int32) < 0 ∨ 6 ≤ (3 : Int32).toNatClampNeg) by decide) h_x3 dL_law_270 ?_
  refine z_aload_n B dL_law_271 rfl 4 rfl ?_
  refine z_iload B dL_law_272 0 rfl ?_
  refine z_iconst (v := 4) B dL_law_274 (by decide) ?_
  refine z_iadd B dL_law_275 ?_
  refine z_seti (y := 4) (by decide) ?_
  refine z_sld (j := 4) (x := x4) B hX hbl hbA (by decide) (show ¬ ((4 : Int32) < 0 ∨ 6 ≤ (4 : Int32).toNatClampNeg) by decide) h_x4 dL_law_276 ?_
  refine z_aload_n B dL_law_277 rfl 4 rfl ?_
  refine z_iload B dL_law_278 0 rfl ?_
  refine z_iconst (v := 5) B dL_law_280 (by decide) ?_
  refine z_iadd B dL_law_281 ?_
  refine z_seti (y := 5) (by decide) ?_
  refine z_sld (j := 5) (x := x5) B hX hbl hbA (by decide) (show ¬ ((5 : Int32) < 0 ∨ 6 ≤ (5 : Int32).toNatClampNeg) by decide) h_x5 dL_law_282 ?_
  refine z_aload_n B dL_law_283 rfl 1 rfl ?_
  refine z_cSWi (As := [.ref (b + 0), .int 4, .int x2, .int x3, .int x4, .int x5, .ref (b + 431)]) (rest := []) B cw_L_84 dL_law_284 (ci_L_check_584 l hlt (σ := (ap b σ [] [] [])) (b := b) (lyA hK) x2 x3 x4 x5 q1_x2 q2_x2 q1_x3 q2_x3 q1_x4 q2_x4 (rR_at 0 0 (fz_R hF 0 0 rfl rfl)) (rR_at 1 4 (fz_R hF 1 4 rfl rfl))) rfl (by decide) rfl (Nat.le_of_ble_eq_true rfl) (by decide) (fun r u hu => ?_)
  obtain ⟨hu1, z, hu⟩ := hu
  refine z_eqs (σ' := (ap b (wx_Z σ z) [] [] [])) (hu.trans az_ap) ?_
  show zx p l e _ s m _ below meth c g 8 _ _ _ _ 287 [(4, .int 0), (3, .ref (b + 431)), (2, .ref (b + 405)), (1, .ref (b + 0)), (0, .ref bS)] _
  refine z_seti (y := 2) hu1 ?_
  refine z_istore (lv' := [(5, .int 2), (4, .int 0), (3, .ref (b + 431)), (2, .ref (b + 405)), (1, .ref (b + 0)), (0, .ref bS)]) B dL_law_287 (by decide) rfl ?_
  refine z_aload_n B dL_law_289 rfl 3 rfl ?_
  refine z_aload_n B dL_law_290 rfl 5 rfl ?_
  refine z_iload B dL_law_291 1 rfl ?_
  refine z_iconst (v := 1) B dL_law_293 (by decide) ?_
  refine z_iadd B dL_law_294 ?_
  refine z_seti (y := 1) (by decide) ?_
  refine z_sld (j := 1) (x := 4) B hX hbl hbA (by decide) (show ¬ ((1 : Int32) < 0 ∨ 6 ≤ (1 : Int32).toNatClampNeg) by decide) h_x1 dL_law_295 ?_
  refine z_aload_n B dL_law_296 rfl 5 rfl ?_
  refine z_iload B dL_law_297 1 rfl ?_
  refine z_iconst (v := 2) B dL_law_299 (by decide) ?_
  refine z_iadd B dL_law_300 ?_
  refine z_seti (y := 2) (by decide) ?_
  refine z_sld (j := 2) (x := x2) B hX hbl hbA (by decide) (show ¬ ((2 : Int32) < 0 ∨ 6 ≤ (2 : Int32).toNatClampNeg) by decide) h_x2 dL_law_301 ?_
  refine z_aload_n B dL_law_302 rfl 5 rfl ?_
  refine z_iload B dL_law_303 1 rfl ?_
  refine z_iconst (v := 3) B dL_law_305 (by decide) ?_
  refine z_iadd B dL_law_306 ?_
  refine z_seti (y := 3) (by decide) ?_
  refine z_sld (j := 3) (x := x3) B hX hbl hbA (by decide) (show ¬ ((3 : Int32) < 0 ∨ 6 ≤ (3 : Int32).toNatClampNeg) by decide) h_x3 dL_law_307 ?_
  refine z_aload_n B dL_law_308 rfl 5 rfl ?_
  refine z_iload B dL_law_309 1 rfl ?_
  refine z_iconst (v := 4) B dL_law_311 (by decide) ?_
  refine z_iadd B dL_law_312 ?_
  refine z_seti (y := 4) (by decide) ?_
  refine z_sld (j := 4) (x := x4) B hX hbl hbA (by decide) (show ¬ ((4 : Int32) < 0 ∨ 6 ≤ (4 : Int32).toNatClampNeg) by decide) h_x4 dL_law_313 ?_
  refine z_aload_n B dL_law_314 rfl 5 rfl ?_
  refine z_iload B dL_law_315 1 rfl ?_
  refine z_iconst (v := 5) B dL_law_317 (by decide) ?_
  refine z_iadd B dL_law_318 ?_
  refine z_seti (y := 5) (by decide) ?_
  refine z_sld (j := 5) (x := x5) B hX hbl hbA (by decide) (show ¬ ((5 : Int32) < 0 ∨ 6 ≤ (5 : Int32).toNatClampNeg) by decide) h_x5 dL_law_319 ?_
  refine z_cVi (As := [.int 4, .int x2, .int x3, .int x4, .int x5]) (rest := []) B cw_L_86 cx_10 dL_law_320 (ci_X9_check_585 l (σ := (ap b (wx_Z σ z) [] [] [])) (b := b) (lyA (lyZ hK)) x2 x3 x4 x5 q1_x2 q2_x2 q1_x3 q2_x3 q1_x4 q2_x4) (lKA (lKZ (hk_K hK 405 rfl rfl))) rfl (by decide) rfl (Nat.le_of_ble_eq_true rfl) (by decide) (fun r u hu => ?_)
  refine z_eqs (σ' := (ap b (wx_Z σ z) [(405, 0, 2)] [] [])) (hu.2.trans ap_ap) ?_
  show zx p l e _ s m _ below meth c g 8 _ _ _ _ 323 [(5, .int 2), (4, .int 0), (3, .ref (b + 431)), (2, .ref (b + 405)), (1, .ref (b + 0)), (0, .ref bS)] _
  refine z_seti (y := 0) hu.1 ?_
  refine z_istore (lv' := [(6, .int 0), (5, .int 2), (4, .int 0), (3, .ref (b + 431)), (2, .ref (b + 405)), (1, .ref (b + 0)), (0, .ref bS)]) B dL_law_323 (by decide) rfl ?_
  refine z_aload_n B dL_law_325 rfl 4 rfl ?_
  refine z_cVi (As := []) (rest := []) B cw_L_80 cx_10 dL_law_326 (ci_X9_thrown_73 l (σ := (ap b (wx_Z σ z) [(405, 0, 2)] [] [])) (b := b) (lyA (lyZ hK)) (rI_at 405 0 rfl)) (lKA (lKZ (hk_K hK 405 rfl rfl))) rfl (by decide) rfl (Nat.le_of_ble_eq_true rfl) (by decide) (fun r u hu => ?_)
  refine z_eqs (σ' := (ap b (wx_Z σ z) [(405, 0, 2)] [] [])) hu.2 ?_
  show zx p l e _ s m _ below meth c g 8 _ _ _ _ 329 [(6, .int 0), (5, .int 2), (4, .int 0), (3, .ref (b + 431)), (2, .ref (b + 405)), (1, .ref (b + 0)), (0, .ref bS)] _
  refine z_seti (y := 2) hu.1 ?_
  refine z_iload B dL_law_329 1 rfl ?_
  refine z_icmp_eq (tgt := 336) B dL_law_331 (by decide) (fun _ => ?_) (fun h => absurd (by decide) h)
  refine z_iload B dL_law_336 1 rfl ?_
  refine z_if_ne (tgt := 353) B dL_law_338 (by decide) (fun _ => ?_) (fun h => absurd h (by decide))
  refine z_goto (tgt := 1395) B dL_law_353 (by decide) ?_
  exact z_widen (Nat.le_of_ble_eq_true rfl) (Nat.le_of_ble_eq_true rfl) (z_sub _ [2, 6] rfl (kk _))
set_option maxRecDepth 100000 in
set_option maxHeartbeats 4000000 in
theorem lf_1_244 {p : Program} {l : Launch} {e : Env} {s : State} {m : MethodId} {args : Array Value} {below : List Frame} {meth : Method} {c : Code} {g : gx_T} {Q : State → Prop} {σ : sx_T} {b t bS : Nat} {xs : Nat → Int32} (hlt : l.stackTraces = false) (B : zx_B p s m args meth c code RL 8 g) (hX : va_X bS 6 xs s s.heap) (hbl : bS < s.heap.size) (hbA : ¬ gx_b g ≤ bS) (hF : fz_P b t σ) (h_x1 : xs 1 = 4) {x2 : Int32} (h_x2 : xs 2 = x2) (q1_x2 : (0 : Int) ≤ x2.toInt) (q2_x2 : x2.toInt ≤ (19 : Int)) {x3 : Int32} (h_x3 : xs 3 = x3) (q1_x3 : (18 : Int) ≤ x3.toInt) (q2_x3 : x3.toInt ≤ (2147483647 : Int)) {x4 : Int32} (h_x4 : xs 4 = x4) (q1_x4 : (-2147483648 : Int) ≤ x4.toInt) (q2_x4 : x4.toInt ≤ (2147483647 : Int)) {x5 : Int32} (h_x5 : xs 5 = x5) (q1_x5 : (-2147483648 : Int) ≤ x5.toInt) (q2_x5 : x5.toInt ≤ (2147483647 : Int)) (kk : ∀ σ', zx p l e room_1 s m args below meth c g 8 600002 7302232 Q σ' 1395 [(4, .int 0), (0, .ref bS)] []) : zx p l e room_1 s m args below meth c g 8 500 100000 Q σ 252 [(4, .int 0), (3, .ref (b + 431)), (2, .ref (b + 405)), (1, .ref (b + 0)), (0, .ref bS)] [] := by
  have hK := fz_lay hF
  refine z_eqs (σ' := (ap b σ [] [] [])) rfl ?_
  refine z_aload_n B dL_law_252 rfl 3 rfl ?_
  refine z_aload_n B dL_law_253 rfl 4 rfl ?_
  refine z_iload B dL_law_254 0 rfl ?_
  refine z_iconst (v := 1) B dL_law_256 (by decide) ?_
  refine z_iadd B dL_law_257 ?_
  refine z_seti (y := 1) (by decide) ?_
  refine z_sld (j := 1) (x := 4) B hX hbl hbA (by decide) (show ¬ ((1 : Int32) < 0 ∨ 6 ≤ (1 : Int32).toNatClampNeg) by decide) h_x1 dL_law_258 ?_
  refine z_aload_n B dL_law_259 rfl 4 rfl ?_
  refine z_iload B dL_law_260 0 rfl ?_
  refine z_iconst (v := 2) B dL_law_262 (by decide) ?_
  refine z_iadd B dL_law_263 ?_
  refine z_seti (y := 2) (by decide) ?_
  refine z_sld (j := 2) (x := x2) B hX hbl hbA (by decide) (show ¬ ((2 : Int32) < 0 ∨ 6 ≤ (2 : Int32).toNatClampNeg) by decide) h_x2 dL_law_264 ?_
  refine z_aload_n B dL_law_265 rfl 4 rfl ?_
  refine z_iload B dL_law_266 0 rfl ?_
  refine z_iconst (v := 3) B dL_law_268 (by decide) ?_
  refine z_iadd B dL_law_269 ?_
  refine z_seti (y := 3) (by decide) ?_
  refine z_sld (j := 3) (x := x3) B hX hbl hbA (by decide) (show ¬ ((3 : Int32) < 0 ∨ 6 ≤ (3 : Int32).toNatClampNeg) by decide) h_x3 dL_law_270 ?_
  refine z_aload_n B dL_law_271 rfl 4 rfl ?_
  refine z_iload B dL_law_272 0 rfl ?_
  refine z_iconst (v := 4) B dL_law_274 (by decide) ?_
  refine z_iadd B dL_law_275 ?_
  refine z_seti (y := 4) (by decide) ?_
  refine z_sld (j := 4) (x := x4) B hX hbl hbA (by decide) (show ¬ ((4 : Int32) < 0 ∨ 6 ≤ (4 : Int32).toNatClampNeg) by decide) h_x4 dL_law_276 ?_
  refine z_aload_n B dL_law_277 rfl 4 rfl ?_
  refine z_iload B dL_law_278 0 rfl ?_
  refine z_iconst (v := 5) B dL_law_280 (by decide) ?_
  refine z_iadd B dL_law_281 ?_
  refine z_seti (y := 5) (by decide) ?_
  refine z_sld (j := 5) (x := x5) B hX hbl hbA (by decide) (show ¬ ((5 : Int32) < 0 ∨ 6 ≤ (5 : Int32).toNatClampNeg) by decide) h_x5 dL_law_282 ?_
  refine z_aload_n B dL_law_283 rfl 1 rfl ?_
  refine z_cSWi (As := [.ref (b + 0), .int 4, .int x2, .int x3, .int x4, .int x5, .ref (b + 431)]) (rest := []) B cw_L_84 dL_law_284 (ci_L_check_587 l hlt (σ := (ap b σ [] [] [])) (b := b) (lyA hK) x2 x3 x4 x5 q1_x2 q2_x2 q1_x3 q2_x3 (rR_at 0 0 (fz_R hF 0 0 rfl rfl)) (rR_at 1 4 (fz_R hF 1 4 rfl rfl))) rfl (by decide) rfl (Nat.le_of_ble_eq_true rfl) (by decide) (fun r u hu => ?_)
  obtain ⟨hu1, z, hu⟩ := hu
  refine z_eqs (σ' := (ap b (wx_Z σ z) [] [] [])) (hu.trans az_ap) ?_
  show zx p l e _ s m _ below meth c g 8 _ _ _ _ 287 [(4, .int 0), (3, .ref (b + 431)), (2, .ref (b + 405)), (1, .ref (b + 0)), (0, .ref bS)] _
  refine z_seti (y := 2) hu1 ?_
  refine z_istore (lv' := [(5, .int 2), (4, .int 0), (3, .ref (b + 431)), (2, .ref (b + 405)), (1, .ref (b + 0)), (0, .ref bS)]) B dL_law_287 (by decide) rfl ?_
  refine z_aload_n B dL_law_289 rfl 3 rfl ?_
  refine z_aload_n B dL_law_290 rfl 5 rfl ?_
  refine z_iload B dL_law_291 1 rfl ?_
  refine z_iconst (v := 1) B dL_law_293 (by decide) ?_
  refine z_iadd B dL_law_294 ?_
  refine z_seti (y := 1) (by decide) ?_
  refine z_sld (j := 1) (x := 4) B hX hbl hbA (by decide) (show ¬ ((1 : Int32) < 0 ∨ 6 ≤ (1 : Int32).toNatClampNeg) by decide) h_x1 dL_law_295 ?_
  refine z_aload_n B dL_law_296 rfl 5 rfl ?_
  refine z_iload B dL_law_297 1 rfl ?_
  refine z_iconst (v := 2) B dL_law_299 (by decide) ?_
  refine z_iadd B dL_law_300 ?_
  refine z_seti (y := 2) (by decide) ?_
  refine z_sld (j := 2) (x := x2) B hX hbl hbA (by decide) (show ¬ ((2 : Int32) < 0 ∨ 6 ≤ (2 : Int32).toNatClampNeg) by decide) h_x2 dL_law_301 ?_
  refine z_aload_n B dL_law_302 rfl 5 rfl ?_
  refine z_iload B dL_law_303 1 rfl ?_
  refine z_iconst (v := 3) B dL_law_305 (by decide) ?_
  refine z_iadd B dL_law_306 ?_
  refine z_seti (y := 3) (by decide) ?_
  refine z_sld (j := 3) (x := x3) B hX hbl hbA (by decide) (show ¬ ((3 : Int32) < 0 ∨ 6 ≤ (3 : Int32).toNatClampNeg) by decide) h_x3 dL_law_307 ?_
  refine z_aload_n B dL_law_308 rfl 5 rfl ?_
  refine z_iload B dL_law_309 1 rfl ?_
  refine z_iconst (v := 4) B dL_law_311 (by decide) ?_
  refine z_iadd B dL_law_312 ?_
  refine z_seti (y := 4) (by decide) ?_
  refine z_sld (j := 4) (x := x4) B hX hbl hbA (by decide) (show ¬ ((4 : Int32) < 0 ∨ 6 ≤ (4 : Int32).toNatClampNeg) by decide) h_x4 dL_law_313 ?_
  refine z_aload_n B dL_law_314 rfl 5 rfl ?_
  refine z_iload B dL_law_315 1 rfl ?_
  refine z_iconst (v := 5) B dL_law_317 (by decide) ?_
  refine z_iadd B dL_law_318 ?_
  refine z_seti (y := 5) (by decide) ?_
  refine z_sld (j := 5) (x := x5) B hX hbl hbA (by decide) (show ¬ ((5 : Int32) < 0 ∨ 6 ≤ (5 : Int32).toNatClampNeg) by decide) h_x5 dL_law_319 ?_
  refine z_cVi (As := [.int 4, .int x2, .int x3, .int x4, .int x5]) (rest := []) B cw_L_86 cx_10 dL_law_320 (ci_X9_check_588 l (σ := (ap b (wx_Z σ z) [] [] [])) (b := b) (lyA (lyZ hK)) x2 x3 x4 x5 q1_x2 q2_x2 q1_x3 q2_x3) (lKA (lKZ (hk_K hK 405 rfl rfl))) rfl (by decide) rfl (Nat.le_of_ble_eq_true rfl) (by decide) (fun r u hu => ?_)
  refine z_eqs (σ' := (ap b (wx_Z σ z) [(405, 0, 2)] [] [])) (hu.2.trans ap_ap) ?_
  show zx p l e _ s m _ below meth c g 8 _ _ _ _ 323 [(5, .int 2), (4, .int 0), (3, .ref (b + 431)), (2, .ref (b + 405)), (1, .ref (b + 0)), (0, .ref bS)] _
  refine z_seti (y := 0) hu.1 ?_
  refine z_istore (lv' := [(6, .int 0), (5, .int 2), (4, .int 0), (3, .ref (b + 431)), (2, .ref (b + 405)), (1, .ref (b + 0)), (0, .ref bS)]) B dL_law_323 (by decide) rfl ?_
  refine z_aload_n B dL_law_325 rfl 4 rfl ?_
  refine z_cVi (As := []) (rest := []) B cw_L_80 cx_10 dL_law_326 (ci_X9_thrown_73 l (σ := (ap b (wx_Z σ z) [(405, 0, 2)] [] [])) (b := b) (lyA (lyZ hK)) (rI_at 405 0 rfl)) (lKA (lKZ (hk_K hK 405 rfl rfl))) rfl (by decide) rfl (Nat.le_of_ble_eq_true rfl) (by decide) (fun r u hu => ?_)
  refine z_eqs (σ' := (ap b (wx_Z σ z) [(405, 0, 2)] [] [])) hu.2 ?_
  show zx p l e _ s m _ below meth c g 8 _ _ _ _ 329 [(6, .int 0), (5, .int 2), (4, .int 0), (3, .ref (b + 431)), (2, .ref (b + 405)), (1, .ref (b + 0)), (0, .ref bS)] _
  refine z_seti (y := 2) hu.1 ?_
  refine z_iload B dL_law_329 1 rfl ?_
  refine z_icmp_eq (tgt := 336) B dL_law_331 (by decide) (fun _ => ?_) (fun h => absurd (by decide) h)
  refine z_iload B dL_law_336 1 rfl ?_
  refine z_if_ne (tgt := 353) B dL_law_338 (by decide) (fun _ => ?_) (fun h => absurd h (by decide))
  refine z_goto (tgt := 1395) B dL_law_353 (by decide) ?_
  exact z_widen (Nat.le_of_ble_eq_true rfl) (Nat.le_of_ble_eq_true rfl) (z_sub _ [2, 6] rfl (kk _))
set_option maxRecDepth 100000 in
set_option maxHeartbeats 4000000 in
theorem lf_1_245 {p : Program} {l : Launch} {e : Env} {s : State} {m : MethodId} {args : Array Value} {below : List Frame} {meth : Method} {c : Code} {g : gx_T} {Q : State → Prop} {σ : sx_T} {b t bS : Nat} {xs : Nat → Int32} (hlt : l.stackTraces = false) (B : zx_B p s m args meth c code RL 8 g) (hX : va_X bS 6 xs s s.heap) (hbl : bS < s.heap.size) (hbA : ¬ gx_b g ≤ bS) (hF : fz_P b t σ) (h_x1 : xs 1 = 4) {x2 : Int32} (h_x2 : xs 2 = x2) (q1_x2 : (20 : Int) ≤ x2.toInt) (q2_x2 : x2.toInt ≤ (2147483647 : Int)) {x3 : Int32} (h_x3 : xs 3 = x3) (q1_x3 : (-2147483648 : Int) ≤ x3.toInt) (q2_x3 : x3.toInt ≤ (-1 : Int)) {x4 : Int32} (h_x4 : xs 4 = x4) (q1_x4 : (-2147483648 : Int) ≤ x4.toInt) (q2_x4 : x4.toInt ≤ (2147483647 : Int)) {x5 : Int32} (h_x5 : xs 5 = x5) (q1_x5 : (-2147483648 : Int) ≤ x5.toInt) (q2_x5 : x5.toInt ≤ (2147483647 : Int)) (kk : ∀ σ', zx p l e room_1 s m args below meth c g 8 600002 7302232 Q σ' 1395 [(4, .int 0), (0, .ref bS)] []) : zx p l e room_1 s m args below meth c g 8 500 100000 Q σ 252 [(4, .int 0), (3, .ref (b + 431)), (2, .ref (b + 405)), (1, .ref (b + 0)), (0, .ref bS)] [] := by
  have hK := fz_lay hF
  refine z_eqs (σ' := (ap b σ [] [] [])) rfl ?_
  refine z_aload_n B dL_law_252 rfl 3 rfl ?_
  refine z_aload_n B dL_law_253 rfl 4 rfl ?_
  refine z_iload B dL_law_254 0 rfl ?_
  refine z_iconst (v := 1) B dL_law_256 (by decide) ?_
  refine z_iadd B dL_law_257 ?_
  refine z_seti (y := 1) (by decide) ?_
  refine z_sld (j := 1) (x := 4) B hX hbl hbA (by decide) (show ¬ ((1 : Int32) < 0 ∨ 6 ≤ (1 : Int32).toNatClampNeg) by decide) h_x1 dL_law_258 ?_
  refine z_aload_n B dL_law_259 rfl 4 rfl ?_
  refine z_iload B dL_law_260 0 rfl ?_
  refine z_iconst (v := 2) B dL_law_262 (by decide) ?_
  refine z_iadd B dL_law_263 ?_
  refine z_seti (y := 2) (by decide) ?_
  refine z_sld (j := 2) (x := x2) B hX hbl hbA (by decide) (show ¬ ((2 : Int32) < 0 ∨ 6 ≤ (2 : Int32).toNatClampNeg) by decide) h_x2 dL_law_264 ?_
  refine z_aload_n B dL_law_265 rfl 4 rfl ?_
  refine z_iload B dL_law_266 0 rfl ?_
  refine z_iconst (v := 3) B dL_law_268 (by decide) ?_
  refine z_iadd B dL_law_269 ?_
  refine z_seti (y := 3) (by decide) ?_
  refine z_sld (j := 3) (x := x3) B hX hbl hbA (by decide) (show ¬ ((3 : Int32) < 0 ∨ 6 ≤ (3 : Int32).toNatClampNeg) by decide) h_x3 dL_law_270 ?_
  refine z_aload_n B dL_law_271 rfl 4 rfl ?_
  refine z_iload B dL_law_272 0 rfl ?_
  refine z_iconst (v := 4) B dL_law_274 (by decide) ?_
  refine z_iadd B dL_law_275 ?_
  refine z_seti (y := 4) (by decide) ?_
  refine z_sld (j := 4) (x := x4) B hX hbl hbA (by decide) (show ¬ ((4 : Int32) < 0 ∨ 6 ≤ (4 : Int32).toNatClampNeg) by decide) h_x4 dL_law_276 ?_
  refine z_aload_n B dL_law_277 rfl 4 rfl ?_
  refine z_iload B dL_law_278 0 rfl ?_
  refine z_iconst (v := 5) B dL_law_280 (by decide) ?_
  refine z_iadd B dL_law_281 ?_
  refine z_seti (y := 5) (by decide) ?_
  refine z_sld (j := 5) (x := x5) B hX hbl hbA (by decide) (show ¬ ((5 : Int32) < 0 ∨ 6 ≤ (5 : Int32).toNatClampNeg) by decide) h_x5 dL_law_282 ?_
  refine z_aload_n B dL_law_283 rfl 1 rfl ?_
  refine z_cSWi (As := [.ref (b + 0), .int 4, .int x2, .int x3, .int x4, .int x5, .ref (b + 431)]) (rest := []) B cw_L_84 dL_law_284 (ci_L_check_590 l hlt (σ := (ap b σ [] [] [])) (b := b) (lyA hK) x2 x3 x4 x5 q1_x2 q2_x2 (rR_at 0 0 (fz_R hF 0 0 rfl rfl)) (rR_at 1 4 (fz_R hF 1 4 rfl rfl))) rfl (by decide) rfl (Nat.le_of_ble_eq_true rfl) (by decide) (fun r u hu => ?_)
  obtain ⟨hu1, z, hu⟩ := hu
  refine z_eqs (σ' := (ap b (wx_Z σ z) [] [] [])) (hu.trans az_ap) ?_
  show zx p l e _ s m _ below meth c g 8 _ _ _ _ 287 [(4, .int 0), (3, .ref (b + 431)), (2, .ref (b + 405)), (1, .ref (b + 0)), (0, .ref bS)] _
  refine z_seti (y := 1) hu1 ?_
  refine z_istore (lv' := [(5, .int 1), (4, .int 0), (3, .ref (b + 431)), (2, .ref (b + 405)), (1, .ref (b + 0)), (0, .ref bS)]) B dL_law_287 (by decide) rfl ?_
  refine z_aload_n B dL_law_289 rfl 3 rfl ?_
  refine z_aload_n B dL_law_290 rfl 5 rfl ?_
  refine z_iload B dL_law_291 1 rfl ?_
  refine z_iconst (v := 1) B dL_law_293 (by decide) ?_
  refine z_iadd B dL_law_294 ?_
  refine z_seti (y := 1) (by decide) ?_
  refine z_sld (j := 1) (x := 4) B hX hbl hbA (by decide) (show ¬ ((1 : Int32) < 0 ∨ 6 ≤ (1 : Int32).toNatClampNeg) by decide) h_x1 dL_law_295 ?_
  refine z_aload_n B dL_law_296 rfl 5 rfl ?_
  refine z_iload B dL_law_297 1 rfl ?_
  refine z_iconst (v := 2) B dL_law_299 (by decide) ?_
  refine z_iadd B dL_law_300 ?_
  refine z_seti (y := 2) (by decide) ?_
  refine z_sld (j := 2) (x := x2) B hX hbl hbA (by decide) (show ¬ ((2 : Int32) < 0 ∨ 6 ≤ (2 : Int32).toNatClampNeg) by decide) h_x2 dL_law_301 ?_
  refine z_aload_n B dL_law_302 rfl 5 rfl ?_
  refine z_iload B dL_law_303 1 rfl ?_
  refine z_iconst (v := 3) B dL_law_305 (by decide) ?_
  refine z_iadd B dL_law_306 ?_
  refine z_seti (y := 3) (by decide) ?_
  refine z_sld (j := 3) (x := x3) B hX hbl hbA (by decide) (show ¬ ((3 : Int32) < 0 ∨ 6 ≤ (3 : Int32).toNatClampNeg) by decide) h_x3 dL_law_307 ?_
  refine z_aload_n B dL_law_308 rfl 5 rfl ?_
  refine z_iload B dL_law_309 1 rfl ?_
  refine z_iconst (v := 4) B dL_law_311 (by decide) ?_
  refine z_iadd B dL_law_312 ?_
  refine z_seti (y := 4) (by decide) ?_
  refine z_sld (j := 4) (x := x4) B hX hbl hbA (by decide) (show ¬ ((4 : Int32) < 0 ∨ 6 ≤ (4 : Int32).toNatClampNeg) by decide) h_x4 dL_law_313 ?_
  refine z_aload_n B dL_law_314 rfl 5 rfl ?_
  refine z_iload B dL_law_315 1 rfl ?_
  refine z_iconst (v := 5) B dL_law_317 (by decide) ?_
  refine z_iadd B dL_law_318 ?_
  refine z_seti (y := 5) (by decide) ?_
  refine z_sld (j := 5) (x := x5) B hX hbl hbA (by decide) (show ¬ ((5 : Int32) < 0 ∨ 6 ≤ (5 : Int32).toNatClampNeg) by decide) h_x5 dL_law_319 ?_
  refine z_cVi (As := [.int 4, .int x2, .int x3, .int x4, .int x5]) (rest := []) B cw_L_86 cx_10 dL_law_320 (ci_X9_check_591 l (σ := (ap b (wx_Z σ z) [] [] [])) (b := b) (lyA (lyZ hK)) x2 x3 x4 x5 q1_x2 q2_x2 q1_x3 q2_x3) (lKA (lKZ (hk_K hK 405 rfl rfl))) rfl (by decide) rfl (Nat.le_of_ble_eq_true rfl) (by decide) (fun r u hu => ?_)
  refine z_eqs (σ' := (ap b (wx_Z σ z) [(405, 0, 1)] [] [])) (hu.2.trans ap_ap) ?_
  show zx p l e _ s m _ below meth c g 8 _ _ _ _ 323 [(5, .int 1), (4, .int 0), (3, .ref (b + 431)), (2, .ref (b + 405)), (1, .ref (b + 0)), (0, .ref bS)] _
  refine z_seti (y := 0) hu.1 ?_
  refine z_istore (lv' := [(6, .int 0), (5, .int 1), (4, .int 0), (3, .ref (b + 431)), (2, .ref (b + 405)), (1, .ref (b + 0)), (0, .ref bS)]) B dL_law_323 (by decide) rfl ?_
  refine z_aload_n B dL_law_325 rfl 4 rfl ?_
  refine z_cVi (As := []) (rest := []) B cw_L_80 cx_10 dL_law_326 (ci_X9_thrown_31 l (σ := (ap b (wx_Z σ z) [(405, 0, 1)] [] [])) (b := b) (lyA (lyZ hK)) (rI_at 405 0 rfl)) (lKA (lKZ (hk_K hK 405 rfl rfl))) rfl (by decide) rfl (Nat.le_of_ble_eq_true rfl) (by decide) (fun r u hu => ?_)
  refine z_eqs (σ' := (ap b (wx_Z σ z) [(405, 0, 1)] [] [])) hu.2 ?_
  show zx p l e _ s m _ below meth c g 8 _ _ _ _ 329 [(6, .int 0), (5, .int 1), (4, .int 0), (3, .ref (b + 431)), (2, .ref (b + 405)), (1, .ref (b + 0)), (0, .ref bS)] _
  refine z_seti (y := 1) hu.1 ?_
  refine z_iload B dL_law_329 1 rfl ?_
  refine z_icmp_eq (tgt := 336) B dL_law_331 (by decide) (fun _ => ?_) (fun h => absurd (by decide) h)
  refine z_iload B dL_law_336 1 rfl ?_
  refine z_if_ne (tgt := 353) B dL_law_338 (by decide) (fun _ => ?_) (fun h => absurd h (by decide))
  refine z_goto (tgt := 1395) B dL_law_353 (by decide) ?_
  exact z_widen (Nat.le_of_ble_eq_true rfl) (Nat.le_of_ble_eq_true rfl) (z_sub _ [2, 6] rfl (kk _))
set_option maxRecDepth 100000 in
set_option maxHeartbeats 4000000 in
theorem lf_1_246 {p : Program} {l : Launch} {e : Env} {s : State} {m : MethodId} {args : Array Value} {below : List Frame} {meth : Method} {c : Code} {g : gx_T} {Q : State → Prop} {σ : sx_T} {b t bS : Nat} {xs : Nat → Int32} (hlt : l.stackTraces = false) (B : zx_B p s m args meth c code RL 8 g) (hX : va_X bS 6 xs s s.heap) (hbl : bS < s.heap.size) (hbA : ¬ gx_b g ≤ bS) (hF : fz_P b t σ) (h_x1 : xs 1 = 4) {x2 : Int32} (h_x2 : xs 2 = x2) (q1_x2 : (20 : Int) ≤ x2.toInt) (q2_x2 : x2.toInt ≤ (2147483647 : Int)) {x3 : Int32} (h_x3 : xs 3 = x3) (q1_x3 : (0 : Int) ≤ x3.toInt) (q2_x3 : x3.toInt ≤ (17 : Int)) {x4 : Int32} (h_x4 : xs 4 = x4) (q1_x4 : (-2147483648 : Int) ≤ x4.toInt) (q2_x4 : x4.toInt ≤ (-1 : Int)) {x5 : Int32} (h_x5 : xs 5 = x5) (q1_x5 : (-2147483648 : Int) ≤ x5.toInt) (q2_x5 : x5.toInt ≤ (2147483647 : Int)) (kk : ∀ σ', zx p l e room_1 s m args below meth c g 8 600002 7302232 Q σ' 1395 [(4, .int 0), (0, .ref bS)] []) : zx p l e room_1 s m args below meth c g 8 500 100000 Q σ 252 [(4, .int 0), (3, .ref (b + 431)), (2, .ref (b + 405)), (1, .ref (b + 0)), (0, .ref bS)] [] := by
  have hK := fz_lay hF
  refine z_eqs (σ' := (ap b σ [] [] [])) rfl ?_
  refine z_aload_n B dL_law_252 rfl 3 rfl ?_
  refine z_aload_n B dL_law_253 rfl 4 rfl ?_
  refine z_iload B dL_law_254 0 rfl ?_
  refine z_iconst (v := 1) B dL_law_256 (by decide) ?_
  refine z_iadd B dL_law_257 ?_
  refine z_seti (y := 1) (by decide) ?_
  refine z_sld (j := 1) (x := 4) B hX hbl hbA (by decide) (show ¬ ((1 : Int32) < 0 ∨ 6 ≤ (1 : Int32).toNatClampNeg) by decide) h_x1 dL_law_258 ?_
  refine z_aload_n B dL_law_259 rfl 4 rfl ?_
  refine z_iload B dL_law_260 0 rfl ?_
  refine z_iconst (v := 2) B dL_law_262 (by decide) ?_
  refine z_iadd B dL_law_263 ?_
  refine z_seti (y := 2) (by decide) ?_
  refine z_sld (j := 2) (x := x2) B hX hbl hbA (by decide) (show ¬ ((2 : Int32) < 0 ∨ 6 ≤ (2 : Int32).toNatClampNeg) by decide) h_x2 dL_law_264 ?_
  refine z_aload_n B dL_law_265 rfl 4 rfl ?_
  refine z_iload B dL_law_266 0 rfl ?_
  refine z_iconst (v := 3) B dL_law_268 (by decide) ?_
  refine z_iadd B dL_law_269 ?_
  refine z_seti (y := 3) (by decide) ?_
  refine z_sld (j := 3) (x := x3) B hX hbl hbA (by decide) (show ¬ ((3 : Int32) < 0 ∨ 6 ≤ (3 : Int32).toNatClampNeg) by decide) h_x3 dL_law_270 ?_
  refine z_aload_n B dL_law_271 rfl 4 rfl ?_
  refine z_iload B dL_law_272 0 rfl ?_
  refine z_iconst (v := 4) B dL_law_274 (by decide) ?_
  refine z_iadd B dL_law_275 ?_
  refine z_seti (y := 4) (by decide) ?_
  refine z_sld (j := 4) (x := x4) B hX hbl hbA (by decide) (show ¬ ((4 : Int32) < 0 ∨ 6 ≤ (4 : Int32).toNatClampNeg) by decide) h_x4 dL_law_276 ?_
  refine z_aload_n B dL_law_277 rfl 4 rfl ?_
  refine z_iload B dL_law_278 0 rfl ?_
  refine z_iconst (v := 5) B dL_law_280 (by decide) ?_
  refine z_iadd B dL_law_281 ?_
  refine z_seti (y := 5) (by decide) ?_
  refine z_sld (j := 5) (x := x5) B hX hbl hbA (by decide) (show ¬ ((5 : Int32) < 0 ∨ 6 ≤ (5 : Int32).toNatClampNeg) by decide) h_x5 dL_law_282 ?_
  refine z_aload_n B dL_law_283 rfl 1 rfl ?_
  refine z_cSWi (As := [.ref (b + 0), .int 4, .int x2, .int x3, .int x4, .int x5, .ref (b + 431)]) (rest := []) B cw_L_84 dL_law_284 (ci_L_check_590 l hlt (σ := (ap b σ [] [] [])) (b := b) (lyA hK) x2 x3 x4 x5 q1_x2 q2_x2 (rR_at 0 0 (fz_R hF 0 0 rfl rfl)) (rR_at 1 4 (fz_R hF 1 4 rfl rfl))) rfl (by decide) rfl (Nat.le_of_ble_eq_true rfl) (by decide) (fun r u hu => ?_)
  obtain ⟨hu1, z, hu⟩ := hu
  refine z_eqs (σ' := (ap b (wx_Z σ z) [] [] [])) (hu.trans az_ap) ?_
  show zx p l e _ s m _ below meth c g 8 _ _ _ _ 287 [(4, .int 0), (3, .ref (b + 431)), (2, .ref (b + 405)), (1, .ref (b + 0)), (0, .ref bS)] _
  refine z_seti (y := 1) hu1 ?_
  refine z_istore (lv' := [(5, .int 1), (4, .int 0), (3, .ref (b + 431)), (2, .ref (b + 405)), (1, .ref (b + 0)), (0, .ref bS)]) B dL_law_287 (by decide) rfl ?_
  refine z_aload_n B dL_law_289 rfl 3 rfl ?_
  refine z_aload_n B dL_law_290 rfl 5 rfl ?_
  refine z_iload B dL_law_291 1 rfl ?_
  refine z_iconst (v := 1) B dL_law_293 (by decide) ?_
  refine z_iadd B dL_law_294 ?_
  refine z_seti (y := 1) (by decide) ?_
  refine z_sld (j := 1) (x := 4) B hX hbl hbA (by decide) (show ¬ ((1 : Int32) < 0 ∨ 6 ≤ (1 : Int32).toNatClampNeg) by decide) h_x1 dL_law_295 ?_
  refine z_aload_n B dL_law_296 rfl 5 rfl ?_
  refine z_iload B dL_law_297 1 rfl ?_
  refine z_iconst (v := 2) B dL_law_299 (by decide) ?_
  refine z_iadd B dL_law_300 ?_
  refine z_seti (y := 2) (by decide) ?_
  refine z_sld (j := 2) (x := x2) B hX hbl hbA (by decide) (show ¬ ((2 : Int32) < 0 ∨ 6 ≤ (2 : Int32).toNatClampNeg) by decide) h_x2 dL_law_301 ?_
  refine z_aload_n B dL_law_302 rfl 5 rfl ?_
  refine z_iload B dL_law_303 1 rfl ?_
  refine z_iconst (v := 3) B dL_law_305 (by decide) ?_
  refine z_iadd B dL_law_306 ?_
  refine z_seti (y := 3) (by decide) ?_
  refine z_sld (j := 3) (x := x3) B hX hbl hbA (by decide) (show ¬ ((3 : Int32) < 0 ∨ 6 ≤ (3 : Int32).toNatClampNeg) by decide) h_x3 dL_law_307 ?_
  refine z_aload_n B dL_law_308 rfl 5 rfl ?_
  refine z_iload B dL_law_309 1 rfl ?_
  refine z_iconst (v := 4) B dL_law_311 (by decide) ?_
  refine z_iadd B dL_law_312 ?_
  refine z_seti (y := 4) (by decide) ?_
  refine z_sld (j := 4) (x := x4) B hX hbl hbA (by decide) (show ¬ ((4 : Int32) < 0 ∨ 6 ≤ (4 : Int32).toNatClampNeg) by decide) h_x4 dL_law_313 ?_
  refine z_aload_n B dL_law_314 rfl 5 rfl ?_
  refine z_iload B dL_law_315 1 rfl ?_
  refine z_iconst (v := 5) B dL_law_317 (by decide) ?_
  refine z_iadd B dL_law_318 ?_
  refine z_seti (y := 5) (by decide) ?_
  refine z_sld (j := 5) (x := x5) B hX hbl hbA (by decide) (show ¬ ((5 : Int32) < 0 ∨ 6 ≤ (5 : Int32).toNatClampNeg) by decide) h_x5 dL_law_319 ?_
  refine z_cVi (As := [.int 4, .int x2, .int x3, .int x4, .int x5]) (rest := []) B cw_L_86 cx_10 dL_law_320 (ci_X9_check_592 l (σ := (ap b (wx_Z σ z) [] [] [])) (b := b) (lyA (lyZ hK)) x2 x3 x4 x5 q1_x2 q2_x2 q1_x3 q2_x3 q1_x4 q2_x4) (lKA (lKZ (hk_K hK 405 rfl rfl))) rfl (by decide) rfl (Nat.le_of_ble_eq_true rfl) (by decide) (fun r u hu => ?_)
  refine z_eqs (σ' := (ap b (wx_Z σ z) [(405, 0, 1)] [] [])) (hu.2.trans ap_ap) ?_
  show zx p l e _ s m _ below meth c g 8 _ _ _ _ 323 [(5, .int 1), (4, .int 0), (3, .ref (b + 431)), (2, .ref (b + 405)), (1, .ref (b + 0)), (0, .ref bS)] _
  refine z_seti (y := 0) hu.1 ?_
  refine z_istore (lv' := [(6, .int 0), (5, .int 1), (4, .int 0), (3, .ref (b + 431)), (2, .ref (b + 405)), (1, .ref (b + 0)), (0, .ref bS)]) B dL_law_323 (by decide) rfl ?_
  refine z_aload_n B dL_law_325 rfl 4 rfl ?_
  refine z_cVi (As := []) (rest := []) B cw_L_80 cx_10 dL_law_326 (ci_X9_thrown_31 l (σ := (ap b (wx_Z σ z) [(405, 0, 1)] [] [])) (b := b) (lyA (lyZ hK)) (rI_at 405 0 rfl)) (lKA (lKZ (hk_K hK 405 rfl rfl))) rfl (by decide) rfl (Nat.le_of_ble_eq_true rfl) (by decide) (fun r u hu => ?_)
  refine z_eqs (σ' := (ap b (wx_Z σ z) [(405, 0, 1)] [] [])) hu.2 ?_
  show zx p l e _ s m _ below meth c g 8 _ _ _ _ 329 [(6, .int 0), (5, .int 1), (4, .int 0), (3, .ref (b + 431)), (2, .ref (b + 405)), (1, .ref (b + 0)), (0, .ref bS)] _
  refine z_seti (y := 1) hu.1 ?_
  refine z_iload B dL_law_329 1 rfl ?_
  refine z_icmp_eq (tgt := 336) B dL_law_331 (by decide) (fun _ => ?_) (fun h => absurd (by decide) h)
  refine z_iload B dL_law_336 1 rfl ?_
  refine z_if_ne (tgt := 353) B dL_law_338 (by decide) (fun _ => ?_) (fun h => absurd h (by decide))
  refine z_goto (tgt := 1395) B dL_law_353 (by decide) ?_
  exact z_widen (Nat.le_of_ble_eq_true rfl) (Nat.le_of_ble_eq_true rfl) (z_sub _ [2, 6] rfl (kk _))
set_option maxRecDepth 100000 in
set_option maxHeartbeats 4000000 in
theorem lf_1_247 {p : Program} {l : Launch} {e : Env} {s : State} {m : MethodId} {args : Array Value} {below : List Frame} {meth : Method} {c : Code} {g : gx_T} {Q : State → Prop} {σ : sx_T} {b t bS : Nat} {xs : Nat → Int32} (hlt : l.stackTraces = false) (B : zx_B p s m args meth c code RL 8 g) (hX : va_X bS 6 xs s s.heap) (hbl : bS < s.heap.size) (hbA : ¬ gx_b g ≤ bS) (hF : fz_P b t σ) (h_x1 : xs 1 = 4) {x2 : Int32} (h_x2 : xs 2 = x2) (q1_x2 : (20 : Int) ≤ x2.toInt) (q2_x2 : x2.toInt ≤ (2147483647 : Int)) {x3 : Int32} (h_x3 : xs 3 = x3) (q1_x3 : (0 : Int) ≤ x3.toInt) (q2_x3 : x3.toInt ≤ (17 : Int)) {x4 : Int32} (h_x4 : xs 4 = x4) (q1_x4 : (0 : Int) ≤ x4.toInt) (q2_x4 : x4.toInt ≤ (99 : Int)) {x5 : Int32} (h_x5 : xs 5 = x5) (q1_x5 : (-2147483648 : Int) ≤ x5.toInt) (q2_x5 : x5.toInt ≤ (-1 : Int)) (kk : ∀ σ', zx p l e room_1 s m args below meth c g 8 600002 7302232 Q σ' 1395 [(4, .int 0), (0, .ref bS)] []) : zx p l e room_1 s m args below meth c g 8 500 100000 Q σ 252 [(4, .int 0), (3, .ref (b + 431)), (2, .ref (b + 405)), (1, .ref (b + 0)), (0, .ref bS)] [] := by
  have hK := fz_lay hF
  refine z_eqs (σ' := (ap b σ [] [] [])) rfl ?_
  refine z_aload_n B dL_law_252 rfl 3 rfl ?_
  refine z_aload_n B dL_law_253 rfl 4 rfl ?_
  refine z_iload B dL_law_254 0 rfl ?_
  refine z_iconst (v := 1) B dL_law_256 (by decide) ?_
  refine z_iadd B dL_law_257 ?_
  refine z_seti (y := 1) (by decide) ?_
  refine z_sld (j := 1) (x := 4) B hX hbl hbA (by decide) (show ¬ ((1 : Int32) < 0 ∨ 6 ≤ (1 : Int32).toNatClampNeg) by decide) h_x1 dL_law_258 ?_
  refine z_aload_n B dL_law_259 rfl 4 rfl ?_
  refine z_iload B dL_law_260 0 rfl ?_
  refine z_iconst (v := 2) B dL_law_262 (by decide) ?_
  refine z_iadd B dL_law_263 ?_
  refine z_seti (y := 2) (by decide) ?_
  refine z_sld (j := 2) (x := x2) B hX hbl hbA (by decide) (show ¬ ((2 : Int32) < 0 ∨ 6 ≤ (2 : Int32).toNatClampNeg) by decide) h_x2 dL_law_264 ?_
  refine z_aload_n B dL_law_265 rfl 4 rfl ?_
  refine z_iload B dL_law_266 0 rfl ?_
  refine z_iconst (v := 3) B dL_law_268 (by decide) ?_
  refine z_iadd B dL_law_269 ?_
  refine z_seti (y := 3) (by decide) ?_
  refine z_sld (j := 3) (x := x3) B hX hbl hbA (by decide) (show ¬ ((3 : Int32) < 0 ∨ 6 ≤ (3 : Int32).toNatClampNeg) by decide) h_x3 dL_law_270 ?_
  refine z_aload_n B dL_law_271 rfl 4 rfl ?_
  refine z_iload B dL_law_272 0 rfl ?_
  refine z_iconst (v := 4) B dL_law_274 (by decide) ?_
  refine z_iadd B dL_law_275 ?_
  refine z_seti (y := 4) (by decide) ?_
  refine z_sld (j := 4) (x := x4) B hX hbl hbA (by decide) (show ¬ ((4 : Int32) < 0 ∨ 6 ≤ (4 : Int32).toNatClampNeg) by decide) h_x4 dL_law_276 ?_
  refine z_aload_n B dL_law_277 rfl 4 rfl ?_
  refine z_iload B dL_law_278 0 rfl ?_
  refine z_iconst (v := 5) B dL_law_280 (by decide) ?_
  refine z_iadd B dL_law_281 ?_
  refine z_seti (y := 5) (by decide) ?_
  refine z_sld (j := 5) (x := x5) B hX hbl hbA (by decide) (show ¬ ((5 : Int32) < 0 ∨ 6 ≤ (5 : Int32).toNatClampNeg) by decide) h_x5 dL_law_282 ?_
  refine z_aload_n B dL_law_283 rfl 1 rfl ?_
  refine z_cSWi (As := [.ref (b + 0), .int 4, .int x2, .int x3, .int x4, .int x5, .ref (b + 431)]) (rest := []) B cw_L_84 dL_law_284 (ci_L_check_590 l hlt (σ := (ap b σ [] [] [])) (b := b) (lyA hK) x2 x3 x4 x5 q1_x2 q2_x2 (rR_at 0 0 (fz_R hF 0 0 rfl rfl)) (rR_at 1 4 (fz_R hF 1 4 rfl rfl))) rfl (by decide) rfl (Nat.le_of_ble_eq_true rfl) (by decide) (fun r u hu => ?_)
  obtain ⟨hu1, z, hu⟩ := hu
  refine z_eqs (σ' := (ap b (wx_Z σ z) [] [] [])) (hu.trans az_ap) ?_
  show zx p l e _ s m _ below meth c g 8 _ _ _ _ 287 [(4, .int 0), (3, .ref (b + 431)), (2, .ref (b + 405)), (1, .ref (b + 0)), (0, .ref bS)] _
  refine z_seti (y := 1) hu1 ?_
  refine z_istore (lv' := [(5, .int 1), (4, .int 0), (3, .ref (b + 431)), (2, .ref (b + 405)), (1, .ref (b + 0)), (0, .ref bS)]) B dL_law_287 (by decide) rfl ?_
  refine z_aload_n B dL_law_289 rfl 3 rfl ?_
  refine z_aload_n B dL_law_290 rfl 5 rfl ?_
  refine z_iload B dL_law_291 1 rfl ?_
  refine z_iconst (v := 1) B dL_law_293 (by decide) ?_
  refine z_iadd B dL_law_294 ?_
  refine z_seti (y := 1) (by decide) ?_
  refine z_sld (j := 1) (x := 4) B hX hbl hbA (by decide) (show ¬ ((1 : Int32) < 0 ∨ 6 ≤ (1 : Int32).toNatClampNeg) by decide) h_x1 dL_law_295 ?_
  refine z_aload_n B dL_law_296 rfl 5 rfl ?_
  refine z_iload B dL_law_297 1 rfl ?_
  refine z_iconst (v := 2) B dL_law_299 (by decide) ?_
  refine z_iadd B dL_law_300 ?_
  refine z_seti (y := 2) (by decide) ?_
  refine z_sld (j := 2) (x := x2) B hX hbl hbA (by decide) (show ¬ ((2 : Int32) < 0 ∨ 6 ≤ (2 : Int32).toNatClampNeg) by decide) h_x2 dL_law_301 ?_
  refine z_aload_n B dL_law_302 rfl 5 rfl ?_
  refine z_iload B dL_law_303 1 rfl ?_
  refine z_iconst (v := 3) B dL_law_305 (by decide) ?_
  refine z_iadd B dL_law_306 ?_
  refine z_seti (y := 3) (by decide) ?_
  refine z_sld (j := 3) (x := x3) B hX hbl hbA (by decide) (show ¬ ((3 : Int32) < 0 ∨ 6 ≤ (3 : Int32).toNatClampNeg) by decide) h_x3 dL_law_307 ?_
  refine z_aload_n B dL_law_308 rfl 5 rfl ?_
  refine z_iload B dL_law_309 1 rfl ?_
  refine z_iconst (v := 4) B dL_law_311 (by decide) ?_
  refine z_iadd B dL_law_312 ?_
  refine z_seti (y := 4) (by decide) ?_
  refine z_sld (j := 4) (x := x4) B hX hbl hbA (by decide) (show ¬ ((4 : Int32) < 0 ∨ 6 ≤ (4 : Int32).toNatClampNeg) by decide) h_x4 dL_law_313 ?_
  refine z_aload_n B dL_law_314 rfl 5 rfl ?_
  refine z_iload B dL_law_315 1 rfl ?_
  refine z_iconst (v := 5) B dL_law_317 (by decide) ?_
  refine z_iadd B dL_law_318 ?_
  refine z_seti (y := 5) (by decide) ?_
  refine z_sld (j := 5) (x := x5) B hX hbl hbA (by decide) (show ¬ ((5 : Int32) < 0 ∨ 6 ≤ (5 : Int32).toNatClampNeg) by decide) h_x5 dL_law_319 ?_
  refine z_cVi (As := [.int 4, .int x2, .int x3, .int x4, .int x5]) (rest := []) B cw_L_86 cx_10 dL_law_320 (ci_X9_check_593 l (σ := (ap b (wx_Z σ z) [] [] [])) (b := b) (lyA (lyZ hK)) x2 x3 x4 x5 q1_x2 q2_x2 q1_x3 q2_x3 q1_x4 q2_x4 q1_x5 q2_x5) (lKA (lKZ (hk_K hK 405 rfl rfl))) rfl (by decide) rfl (Nat.le_of_ble_eq_true rfl) (by decide) (fun r u hu => ?_)
  refine z_eqs (σ' := (ap b (wx_Z σ z) [(405, 0, 1)] [] [])) (hu.2.trans ap_ap) ?_
  show zx p l e _ s m _ below meth c g 8 _ _ _ _ 323 [(5, .int 1), (4, .int 0), (3, .ref (b + 431)), (2, .ref (b + 405)), (1, .ref (b + 0)), (0, .ref bS)] _
  refine z_seti (y := 0) hu.1 ?_
  refine z_istore (lv' := [(6, .int 0), (5, .int 1), (4, .int 0), (3, .ref (b + 431)), (2, .ref (b + 405)), (1, .ref (b + 0)), (0, .ref bS)]) B dL_law_323 (by decide) rfl ?_
  refine z_aload_n B dL_law_325 rfl 4 rfl ?_
  refine z_cVi (As := []) (rest := []) B cw_L_80 cx_10 dL_law_326 (ci_X9_thrown_31 l (σ := (ap b (wx_Z σ z) [(405, 0, 1)] [] [])) (b := b) (lyA (lyZ hK)) (rI_at 405 0 rfl)) (lKA (lKZ (hk_K hK 405 rfl rfl))) rfl (by decide) rfl (Nat.le_of_ble_eq_true rfl) (by decide) (fun r u hu => ?_)
  refine z_eqs (σ' := (ap b (wx_Z σ z) [(405, 0, 1)] [] [])) hu.2 ?_
  show zx p l e _ s m _ below meth c g 8 _ _ _ _ 329 [(6, .int 0), (5, .int 1), (4, .int 0), (3, .ref (b + 431)), (2, .ref (b + 405)), (1, .ref (b + 0)), (0, .ref bS)] _
  refine z_seti (y := 1) hu.1 ?_
  refine z_iload B dL_law_329 1 rfl ?_
  refine z_icmp_eq (tgt := 336) B dL_law_331 (by decide) (fun _ => ?_) (fun h => absurd (by decide) h)
  refine z_iload B dL_law_336 1 rfl ?_
  refine z_if_ne (tgt := 353) B dL_law_338 (by decide) (fun _ => ?_) (fun h => absurd h (by decide))
  refine z_goto (tgt := 1395) B dL_law_353 (by decide) ?_
  exact z_widen (Nat.le_of_ble_eq_true rfl) (Nat.le_of_ble_eq_true rfl) (z_sub _ [2, 6] rfl (kk _))
set_option maxRecDepth 100000 in
set_option maxHeartbeats 4000000 in
theorem lf_1_248 {p : Program} {l : Launch} {e : Env} {s : State} {m : MethodId} {args : Array Value} {below : List Frame} {meth : Method} {c : Code} {g : gx_T} {Q : State → Prop} {σ : sx_T} {b t bS : Nat} {xs : Nat → Int32} (hlt : l.stackTraces = false) (B : zx_B p s m args meth c code RL 8 g) (hX : va_X bS 6 xs s s.heap) (hbl : bS < s.heap.size) (hbA : ¬ gx_b g ≤ bS) (hF : fz_P b t σ) (h_x1 : xs 1 = 4) {x2 : Int32} (h_x2 : xs 2 = x2) (q1_x2 : (20 : Int) ≤ x2.toInt) (q2_x2 : x2.toInt ≤ (2147483647 : Int)) {x3 : Int32} (h_x3 : xs 3 = x3) (q1_x3 : (0 : Int) ≤ x3.toInt) (q2_x3 : x3.toInt ≤ (17 : Int)) {x4 : Int32} (h_x4 : xs 4 = x4) (q1_x4 : (0 : Int) ≤ x4.toInt) (q2_x4 : x4.toInt ≤ (99 : Int)) {x5 : Int32} (h_x5 : xs 5 = x5) (q1_x5 : (0 : Int) ≤ x5.toInt) (q2_x5 : x5.toInt ≤ (99 : Int)) (kk : ∀ σ', zx p l e room_1 s m args below meth c g 8 600002 7302232 Q σ' 1395 [(4, .int 0), (0, .ref bS)] []) : zx p l e room_1 s m args below meth c g 8 500 100000 Q σ 252 [(4, .int 0), (3, .ref (b + 431)), (2, .ref (b + 405)), (1, .ref (b + 0)), (0, .ref bS)] [] := by
  have hK := fz_lay hF
  refine z_eqs (σ' := (ap b σ [] [] [])) rfl ?_
  refine z_aload_n B dL_law_252 rfl 3 rfl ?_
  refine z_aload_n B dL_law_253 rfl 4 rfl ?_
  refine z_iload B dL_law_254 0 rfl ?_
  refine z_iconst (v := 1) B dL_law_256 (by decide) ?_
  refine z_iadd B dL_law_257 ?_
  refine z_seti (y := 1) (by decide) ?_
  refine z_sld (j := 1) (x := 4) B hX hbl hbA (by decide) (show ¬ ((1 : Int32) < 0 ∨ 6 ≤ (1 : Int32).toNatClampNeg) by decide) h_x1 dL_law_258 ?_
  refine z_aload_n B dL_law_259 rfl 4 rfl ?_
  refine z_iload B dL_law_260 0 rfl ?_
  refine z_iconst (v := 2) B dL_law_262 (by decide) ?_
  refine z_iadd B dL_law_263 ?_
  refine z_seti (y := 2) (by decide) ?_
  refine z_sld (j := 2) (x := x2) B hX hbl hbA (by decide) (show ¬ ((2 : Int32) < 0 ∨ 6 ≤ (2 : Int32).toNatClampNeg) by decide) h_x2 dL_law_264 ?_
  refine z_aload_n B dL_law_265 rfl 4 rfl ?_
  refine z_iload B dL_law_266 0 rfl ?_
  refine z_iconst (v := 3) B dL_law_268 (by decide) ?_
  refine z_iadd B dL_law_269 ?_
  refine z_seti (y := 3) (by decide) ?_
  refine z_sld (j := 3) (x := x3) B hX hbl hbA (by decide) (show ¬ ((3 : Int32) < 0 ∨ 6 ≤ (3 : Int32).toNatClampNeg) by decide) h_x3 dL_law_270 ?_
  refine z_aload_n B dL_law_271 rfl 4 rfl ?_
  refine z_iload B dL_law_272 0 rfl ?_
  refine z_iconst (v := 4) B dL_law_274 (by decide) ?_
  refine z_iadd B dL_law_275 ?_
  refine z_seti (y := 4) (by decide) ?_
  refine z_sld (j := 4) (x := x4) B hX hbl hbA (by decide) (show ¬ ((4 : Int32) < 0 ∨ 6 ≤ (4 : Int32).toNatClampNeg) by decide) h_x4 dL_law_276 ?_
  refine z_aload_n B dL_law_277 rfl 4 rfl ?_
  refine z_iload B dL_law_278 0 rfl ?_
  refine z_iconst (v := 5) B dL_law_280 (by decide) ?_
  refine z_iadd B dL_law_281 ?_
  refine z_seti (y := 5) (by decide) ?_
  refine z_sld (j := 5) (x := x5) B hX hbl hbA (by decide) (show ¬ ((5 : Int32) < 0 ∨ 6 ≤ (5 : Int32).toNatClampNeg) by decide) h_x5 dL_law_282 ?_
  refine z_aload_n B dL_law_283 rfl 1 rfl ?_
  refine z_cSWi (As := [.ref (b + 0), .int 4, .int x2, .int x3, .int x4, .int x5, .ref (b + 431)]) (rest := []) B cw_L_84 dL_law_284 (ci_L_check_590 l hlt (σ := (ap b σ [] [] [])) (b := b) (lyA hK) x2 x3 x4 x5 q1_x2 q2_x2 (rR_at 0 0 (fz_R hF 0 0 rfl rfl)) (rR_at 1 4 (fz_R hF 1 4 rfl rfl))) rfl (by decide) rfl (Nat.le_of_ble_eq_true rfl) (by decide) (fun r u hu => ?_)
  obtain ⟨hu1, z, hu⟩ := hu
  refine z_eqs (σ' := (ap b (wx_Z σ z) [] [] [])) (hu.trans az_ap) ?_
  show zx p l e _ s m _ below meth c g 8 _ _ _ _ 287 [(4, .int 0), (3, .ref (b + 431)), (2, .ref (b + 405)), (1, .ref (b + 0)), (0, .ref bS)] _
  refine z_seti (y := 1) hu1 ?_
  refine z_istore (lv' := [(5, .int 1), (4, .int 0), (3, .ref (b + 431)), (2, .ref (b + 405)), (1, .ref (b + 0)), (0, .ref bS)]) B dL_law_287 (by decide) rfl ?_
  refine z_aload_n B dL_law_289 rfl 3 rfl ?_
  refine z_aload_n B dL_law_290 rfl 5 rfl ?_
  refine z_iload B dL_law_291 1 rfl ?_
  refine z_iconst (v := 1) B dL_law_293 (by decide) ?_
  refine z_iadd B dL_law_294 ?_
  refine z_seti (y := 1) (by decide) ?_
  refine z_sld (j := 1) (x := 4) B hX hbl hbA (by decide) (show ¬ ((1 : Int32) < 0 ∨ 6 ≤ (1 : Int32).toNatClampNeg) by decide) h_x1 dL_law_295 ?_
  refine z_aload_n B dL_law_296 rfl 5 rfl ?_
  refine z_iload B dL_law_297 1 rfl ?_
  refine z_iconst (v := 2) B dL_law_299 (by decide) ?_
  refine z_iadd B dL_law_300 ?_
  refine z_seti (y := 2) (by decide) ?_
  refine z_sld (j := 2) (x := x2) B hX hbl hbA (by decide) (show ¬ ((2 : Int32) < 0 ∨ 6 ≤ (2 : Int32).toNatClampNeg) by decide) h_x2 dL_law_301 ?_
  refine z_aload_n B dL_law_302 rfl 5 rfl ?_
  refine z_iload B dL_law_303 1 rfl ?_
  refine z_iconst (v := 3) B dL_law_305 (by decide) ?_
  refine z_iadd B dL_law_306 ?_
  refine z_seti (y := 3) (by decide) ?_
  refine z_sld (j := 3) (x := x3) B hX hbl hbA (by decide) (show ¬ ((3 : Int32) < 0 ∨ 6 ≤ (3 : Int32).toNatClampNeg) by decide) h_x3 dL_law_307 ?_
  refine z_aload_n B dL_law_308 rfl 5 rfl ?_
  refine z_iload B dL_law_309 1 rfl ?_
  refine z_iconst (v := 4) B dL_law_311 (by decide) ?_
  refine z_iadd B dL_law_312 ?_
  refine z_seti (y := 4) (by decide) ?_
  refine z_sld (j := 4) (x := x4) B hX hbl hbA (by decide) (show ¬ ((4 : Int32) < 0 ∨ 6 ≤ (4 : Int32).toNatClampNeg) by decide) h_x4 dL_law_313 ?_
  refine z_aload_n B dL_law_314 rfl 5 rfl ?_
  refine z_iload B dL_law_315 1 rfl ?_
  refine z_iconst (v := 5) B dL_law_317 (by decide) ?_
  refine z_iadd B dL_law_318 ?_
  refine z_seti (y := 5) (by decide) ?_
  refine z_sld (j := 5) (x := x5) B hX hbl hbA (by decide) (show ¬ ((5 : Int32) < 0 ∨ 6 ≤ (5 : Int32).toNatClampNeg) by decide) h_x5 dL_law_319 ?_
  refine z_cVi (As := [.int 4, .int x2, .int x3, .int x4, .int x5]) (rest := []) B cw_L_86 cx_10 dL_law_320 (ci_X9_check_594 l (σ := (ap b (wx_Z σ z) [] [] [])) (b := b) (lyA (lyZ hK)) x2 x3 x4 x5 q1_x2 q2_x2 q1_x3 q2_x3 q1_x4 q2_x4 q1_x5 q2_x5) (lKA (lKZ (hk_K hK 405 rfl rfl))) rfl (by decide) rfl (Nat.le_of_ble_eq_true rfl) (by decide) (fun r u hu => ?_)
  refine z_eqs (σ' := (ap b (wx_Z σ z) [(405, 0, 1)] [] [])) (hu.2.trans ap_ap) ?_
  show zx p l e _ s m _ below meth c g 8 _ _ _ _ 323 [(5, .int 1), (4, .int 0), (3, .ref (b + 431)), (2, .ref (b + 405)), (1, .ref (b + 0)), (0, .ref bS)] _
  refine z_seti (y := 0) hu.1 ?_
  refine z_istore (lv' := [(6, .int 0), (5, .int 1), (4, .int 0), (3, .ref (b + 431)), (2, .ref (b + 405)), (1, .ref (b + 0)), (0, .ref bS)]) B dL_law_323 (by decide) rfl ?_
  refine z_aload_n B dL_law_325 rfl 4 rfl ?_
  refine z_cVi (As := []) (rest := []) B cw_L_80 cx_10 dL_law_326 (ci_X9_thrown_31 l (σ := (ap b (wx_Z σ z) [(405, 0, 1)] [] [])) (b := b) (lyA (lyZ hK)) (rI_at 405 0 rfl)) (lKA (lKZ (hk_K hK 405 rfl rfl))) rfl (by decide) rfl (Nat.le_of_ble_eq_true rfl) (by decide) (fun r u hu => ?_)
  refine z_eqs (σ' := (ap b (wx_Z σ z) [(405, 0, 1)] [] [])) hu.2 ?_
  show zx p l e _ s m _ below meth c g 8 _ _ _ _ 329 [(6, .int 0), (5, .int 1), (4, .int 0), (3, .ref (b + 431)), (2, .ref (b + 405)), (1, .ref (b + 0)), (0, .ref bS)] _
  refine z_seti (y := 1) hu.1 ?_
  refine z_iload B dL_law_329 1 rfl ?_
  refine z_icmp_eq (tgt := 336) B dL_law_331 (by decide) (fun _ => ?_) (fun h => absurd (by decide) h)
  refine z_iload B dL_law_336 1 rfl ?_
  refine z_if_ne (tgt := 353) B dL_law_338 (by decide) (fun _ => ?_) (fun h => absurd h (by decide))
  refine z_goto (tgt := 1395) B dL_law_353 (by decide) ?_
  exact z_widen (Nat.le_of_ble_eq_true rfl) (Nat.le_of_ble_eq_true rfl) (z_sub _ [2, 6] rfl (kk _))
set_option maxRecDepth 100000 in
set_option maxHeartbeats 4000000 in
theorem lf_1_249 {p : Program} {l : Launch} {e : Env} {s : State} {m : MethodId} {args : Array Value} {below : List Frame} {meth : Method} {c : Code} {g : gx_T} {Q : State → Prop} {σ : sx_T} {b t bS : Nat} {xs : Nat → Int32} (hlt : l.stackTraces = false) (B : zx_B p s m args meth c code RL 8 g) (hX : va_X bS 6 xs s s.heap) (hbl : bS < s.heap.size) (hbA : ¬ gx_b g ≤ bS) (hF : fz_P b t σ) (h_x1 : xs 1 = 4) {x2 : Int32} (h_x2 : xs 2 = x2) (q1_x2 : (20 : Int) ≤ x2.toInt) (q2_x2 : x2.toInt ≤ (2147483647 : Int)) {x3 : Int32} (h_x3 : xs 3 = x3) (q1_x3 : (0 : Int) ≤ x3.toInt) (q2_x3 : x3.toInt ≤ (17 : Int)) {x4 : Int32} (h_x4 : xs 4 = x4) (q1_x4 : (0 : Int) ≤ x4.toInt) (q2_x4 : x4.toInt ≤ (99 : Int)) {x5 : Int32} (h_x5 : xs 5 = x5) (q1_x5 : (100 : Int) ≤ x5.toInt) (q2_x5 : x5.toInt ≤ (2147483647 : Int)) (kk : ∀ σ', zx p l e room_1 s m args below meth c g 8 600002 7302232 Q σ' 1395 [(4, .int 0), (0, .ref bS)] []) : zx p l e room_1 s m args below meth c g 8 500 100000 Q σ 252 [(4, .int 0), (3, .ref (b + 431)), (2, .ref (b + 405)), (1, .ref (b + 0)), (0, .ref bS)] [] := by
  have hK := fz_lay hF
  refine z_eqs (σ' := (ap b σ [] [] [])) rfl ?_
  refine z_aload_n B dL_law_252 rfl 3 rfl ?_
  refine z_aload_n B dL_law_253 rfl 4 rfl ?_
  refine z_iload B dL_law_254 0 rfl ?_
  refine z_iconst (v := 1) B dL_law_256 (by decide) ?_
  refine z_iadd B dL_law_257 ?_
  refine z_seti (y := 1) (by decide) ?_
  refine z_sld (j := 1) (x := 4) B hX hbl hbA (by decide) (show ¬ ((1 : Int32) < 0 ∨ 6 ≤ (1 : Int32).toNatClampNeg) by decide) h_x1 dL_law_258 ?_
  refine z_aload_n B dL_law_259 rfl 4 rfl ?_
  refine z_iload B dL_law_260 0 rfl ?_
  refine z_iconst (v := 2) B dL_law_262 (by decide) ?_
  refine z_iadd B dL_law_263 ?_
  refine z_seti (y := 2) (by decide) ?_
  refine z_sld (j := 2) (x := x2) B hX hbl hbA (by decide) (show ¬ ((2 : Int32) < 0 ∨ 6 ≤ (2 : Int32).toNatClampNeg) by decide) h_x2 dL_law_264 ?_
  refine z_aload_n B dL_law_265 rfl 4 rfl ?_
  refine z_iload B dL_law_266 0 rfl ?_
  refine z_iconst (v := 3) B dL_law_268 (by decide) ?_
  refine z_iadd B dL_law_269 ?_
  refine z_seti (y := 3) (by decide) ?_
  refine z_sld (j := 3) (x := x3) B hX hbl hbA (by decide) (show ¬ ((3 : Int32) < 0 ∨ 6 ≤ (3 : Int32).toNatClampNeg) by decide) h_x3 dL_law_270 ?_
  refine z_aload_n B dL_law_271 rfl 4 rfl ?_
  refine z_iload B dL_law_272 0 rfl ?_
  refine z_iconst (v := 4) B dL_law_274 (by decide) ?_
  refine z_iadd B dL_law_275 ?_
  refine z_seti (y := 4) (by decide) ?_
  refine z_sld (j := 4) (x := x4) B hX hbl hbA (by decide) (show ¬ ((4 : Int32) < 0 ∨ 6 ≤ (4 : Int32).toNatClampNeg) by decide) h_x4 dL_law_276 ?_
  refine z_aload_n B dL_law_277 rfl 4 rfl ?_
  refine z_iload B dL_law_278 0 rfl ?_
  refine z_iconst (v := 5) B dL_law_280 (by decide) ?_
  refine z_iadd B dL_law_281 ?_
  refine z_seti (y := 5) (by decide) ?_
  refine z_sld (j := 5) (x := x5) B hX hbl hbA (by decide) (show ¬ ((5 : Int32) < 0 ∨ 6 ≤ (5 : Int32).toNatClampNeg) by decide) h_x5 dL_law_282 ?_
  refine z_aload_n B dL_law_283 rfl 1 rfl ?_
  refine z_cSWi (As := [.ref (b + 0), .int 4, .int x2, .int x3, .int x4, .int x5, .ref (b + 431)]) (rest := []) B cw_L_84 dL_law_284 (ci_L_check_590 l hlt (σ := (ap b σ [] [] [])) (b := b) (lyA hK) x2 x3 x4 x5 q1_x2 q2_x2 (rR_at 0 0 (fz_R hF 0 0 rfl rfl)) (rR_at 1 4 (fz_R hF 1 4 rfl rfl))) rfl (by decide) rfl (Nat.le_of_ble_eq_true rfl) (by decide) (fun r u hu => ?_)
  obtain ⟨hu1, z, hu⟩ := hu
  refine z_eqs (σ' := (ap b (wx_Z σ z) [] [] [])) (hu.trans az_ap) ?_
  show zx p l e _ s m _ below meth c g 8 _ _ _ _ 287 [(4, .int 0), (3, .ref (b + 431)), (2, .ref (b + 405)), (1, .ref (b + 0)), (0, .ref bS)] _
  refine z_seti (y := 1) hu1 ?_
  refine z_istore (lv' := [(5, .int 1), (4, .int 0), (3, .ref (b + 431)), (2, .ref (b + 405)), (1, .ref (b + 0)), (0, .ref bS)]) B dL_law_287 (by decide) rfl ?_
  refine z_aload_n B dL_law_289 rfl 3 rfl ?_
  refine z_aload_n B dL_law_290 rfl 5 rfl ?_
  refine z_iload B dL_law_291 1 rfl ?_
  refine z_iconst (v := 1) B dL_law_293 (by decide) ?_
  refine z_iadd B dL_law_294 ?_
  refine z_seti (y := 1) (by decide) ?_
  refine z_sld (j := 1) (x := 4) B hX hbl hbA (by decide) (show ¬ ((1 : Int32) < 0 ∨ 6 ≤ (1 : Int32).toNatClampNeg) by decide) h_x1 dL_law_295 ?_
  refine z_aload_n B dL_law_296 rfl 5 rfl ?_
  refine z_iload B dL_law_297 1 rfl ?_
  refine z_iconst (v := 2) B dL_law_299 (by decide) ?_
  refine z_iadd B dL_law_300 ?_
  refine z_seti (y := 2) (by decide) ?_
  refine z_sld (j := 2) (x := x2) B hX hbl hbA (by decide) (show ¬ ((2 : Int32) < 0 ∨ 6 ≤ (2 : Int32).toNatClampNeg) by decide) h_x2 dL_law_301 ?_
  refine z_aload_n B dL_law_302 rfl 5 rfl ?_
  refine z_iload B dL_law_303 1 rfl ?_
  refine z_iconst (v := 3) B dL_law_305 (by decide) ?_
  refine z_iadd B dL_law_306 ?_
  refine z_seti (y := 3) (by decide) ?_
  refine z_sld (j := 3) (x := x3) B hX hbl hbA (by decide) (show ¬ ((3 : Int32) < 0 ∨ 6 ≤ (3 : Int32).toNatClampNeg) by decide) h_x3 dL_law_307 ?_
  refine z_aload_n B dL_law_308 rfl 5 rfl ?_
  refine z_iload B dL_law_309 1 rfl ?_
  refine z_iconst (v := 4) B dL_law_311 (by decide) ?_
  refine z_iadd B dL_law_312 ?_
  refine z_seti (y := 4) (by decide) ?_
  refine z_sld (j := 4) (x := x4) B hX hbl hbA (by decide) (show ¬ ((4 : Int32) < 0 ∨ 6 ≤ (4 : Int32).toNatClampNeg) by decide) h_x4 dL_law_313 ?_
  refine z_aload_n B dL_law_314 rfl 5 rfl ?_
  refine z_iload B dL_law_315 1 rfl ?_
  refine z_iconst (v := 5) B dL_law_317 (by decide) ?_
  refine z_iadd B dL_law_318 ?_
  refine z_seti (y := 5) (by decide) ?_
  refine z_sld (j := 5) (x := x5) B hX hbl hbA (by decide) (show ¬ ((5 : Int32) < 0 ∨ 6 ≤ (5 : Int32).toNatClampNeg) by decide) h_x5 dL_law_319 ?_
  refine z_cVi (As := [.int 4, .int x2, .int x3, .int x4, .int x5]) (rest := []) B cw_L_86 cx_10 dL_law_320 (ci_X9_check_595 l (σ := (ap b (wx_Z σ z) [] [] [])) (b := b) (lyA (lyZ hK)) x2 x3 x4 x5 q1_x2 q2_x2 q1_x3 q2_x3 q1_x4 q2_x4 q1_x5 q2_x5) (lKA (lKZ (hk_K hK 405 rfl rfl))) rfl (by decide) rfl (Nat.le_of_ble_eq_true rfl) (by decide) (fun r u hu => ?_)
  refine z_eqs (σ' := (ap b (wx_Z σ z) [(405, 0, 1)] [] [])) (hu.2.trans ap_ap) ?_
  show zx p l e _ s m _ below meth c g 8 _ _ _ _ 323 [(5, .int 1), (4, .int 0), (3, .ref (b + 431)), (2, .ref (b + 405)), (1, .ref (b + 0)), (0, .ref bS)] _
  refine z_seti (y := 0) hu.1 ?_
  refine z_istore (lv' := [(6, .int 0), (5, .int 1), (4, .int 0), (3, .ref (b + 431)), (2, .ref (b + 405)), (1, .ref (b + 0)), (0, .ref bS)]) B dL_law_323 (by decide) rfl ?_
  refine z_aload_n B dL_law_325 rfl 4 rfl ?_
  refine z_cVi (As := []) (rest := []) B cw_L_80 cx_10 dL_law_326 (ci_X9_thrown_31 l (σ := (ap b (wx_Z σ z) [(405, 0, 1)] [] [])) (b := b) (lyA (lyZ hK)) (rI_at 405 0 rfl)) (lKA (lKZ (hk_K hK 405 rfl rfl))) rfl (by decide) rfl (Nat.le_of_ble_eq_true rfl) (by decide) (fun r u hu => ?_)
  refine z_eqs (σ' := (ap b (wx_Z σ z) [(405, 0, 1)] [] [])) hu.2 ?_
  show zx p l e _ s m _ below meth c g 8 _ _ _ _ 329 [(6, .int 0), (5, .int 1), (4, .int 0), (3, .ref (b + 431)), (2, .ref (b + 405)), (1, .ref (b + 0)), (0, .ref bS)] _
  refine z_seti (y := 1) hu.1 ?_
  refine z_iload B dL_law_329 1 rfl ?_
  refine z_icmp_eq (tgt := 336) B dL_law_331 (by decide) (fun _ => ?_) (fun h => absurd (by decide) h)
  refine z_iload B dL_law_336 1 rfl ?_
  refine z_if_ne (tgt := 353) B dL_law_338 (by decide) (fun _ => ?_) (fun h => absurd h (by decide))
  refine z_goto (tgt := 1395) B dL_law_353 (by decide) ?_
  exact z_widen (Nat.le_of_ble_eq_true rfl) (Nat.le_of_ble_eq_true rfl) (z_sub _ [2, 6] rfl (kk _))
set_option maxRecDepth 100000 in
set_option maxHeartbeats 4000000 in
theorem lf_1_250 {p : Program} {l : Launch} {e : Env} {s : State} {m : MethodId} {args : Array Value} {below : List Frame} {meth : Method} {c : Code} {g : gx_T} {Q : State → Prop} {σ : sx_T} {b t bS : Nat} {xs : Nat → Int32} (hlt : l.stackTraces = false) (B : zx_B p s m args meth c code RL 8 g) (hX : va_X bS 6 xs s s.heap) (hbl : bS < s.heap.size) (hbA : ¬ gx_b g ≤ bS) (hF : fz_P b t σ) (h_x1 : xs 1 = 4) {x2 : Int32} (h_x2 : xs 2 = x2) (q1_x2 : (20 : Int) ≤ x2.toInt) (q2_x2 : x2.toInt ≤ (2147483647 : Int)) {x3 : Int32} (h_x3 : xs 3 = x3) (q1_x3 : (0 : Int) ≤ x3.toInt) (q2_x3 : x3.toInt ≤ (17 : Int)) {x4 : Int32} (h_x4 : xs 4 = x4) (q1_x4 : (100 : Int) ≤ x4.toInt) (q2_x4 : x4.toInt ≤ (2147483647 : Int)) {x5 : Int32} (h_x5 : xs 5 = x5) (q1_x5 : (-2147483648 : Int) ≤ x5.toInt) (q2_x5 : x5.toInt ≤ (2147483647 : Int)) (kk : ∀ σ', zx p l e room_1 s m args below meth c g 8 600002 7302232 Q σ' 1395 [(4, .int 0), (0, .ref bS)] []) : zx p l e room_1 s m args below meth c g 8 500 100000 Q σ 252 [(4, .int 0), (3, .ref (b + 431)), (2, .ref (b + 405)), (1, .ref (b + 0)), (0, .ref bS)] [] := by
  have hK := fz_lay hF
  refine z_eqs (σ' := (ap b σ [] [] [])) rfl ?_
  refine z_aload_n B dL_law_252 rfl 3 rfl ?_
  refine z_aload_n B dL_law_253 rfl 4 rfl ?_
  refine z_iload B dL_law_254 0 rfl ?_
  refine z_iconst (v := 1) B dL_law_256 (by decide) ?_
  refine z_iadd B dL_law_257 ?_
  refine z_seti (y := 1) (by decide) ?_
  refine z_sld (j := 1) (x := 4) B hX hbl hbA (by decide) (show ¬ ((1 : Int32) < 0 ∨ 6 ≤ (1 : Int32).toNatClampNeg) by decide) h_x1 dL_law_258 ?_
  refine z_aload_n B dL_law_259 rfl 4 rfl ?_
  refine z_iload B dL_law_260 0 rfl ?_
  refine z_iconst (v := 2) B dL_law_262 (by decide) ?_
  refine z_iadd B dL_law_263 ?_
  refine z_seti (y := 2) (by decide) ?_
  refine z_sld (j := 2) (x := x2) B hX hbl hbA (by decide) (show ¬ ((2 : Int32) < 0 ∨ 6 ≤ (2 : Int32).toNatClampNeg) by decide) h_x2 dL_law_264 ?_
  refine z_aload_n B dL_law_265 rfl 4 rfl ?_
  refine z_iload B dL_law_266 0 rfl ?_
  refine z_iconst (v := 3) B dL_law_268 (by decide) ?_
  refine z_iadd B dL_law_269 ?_
  refine z_seti (y := 3) (by decide) ?_
  refine z_sld (j := 3) (x := x3) B hX hbl hbA (by decide) (show ¬ ((3 : Int32) < 0 ∨ 6 ≤ (3 : Int32).toNatClampNeg) by decide) h_x3 dL_law_270 ?_
  refine z_aload_n B dL_law_271 rfl 4 rfl ?_
  refine z_iload B dL_law_272 0 rfl ?_
  refine z_iconst (v := 4) B dL_law_274 (by decide) ?_
  refine z_iadd B dL_law_275 ?_
  refine z_seti (y := 4) (by decide) ?_
  refine z_sld (j := 4) (x := x4) B hX hbl hbA (by decide) (show ¬ ((4 : Int32) < 0 ∨ 6 ≤ (4 : Int32).toNatClampNeg) by decide) h_x4 dL_law_276 ?_
  refine z_aload_n B dL_law_277 rfl 4 rfl ?_
  refine z_iload B dL_law_278 0 rfl ?_
  refine z_iconst (v := 5) B dL_law_280 (by decide) ?_
  refine z_iadd B dL_law_281 ?_
  refine z_seti (y := 5) (by decide) ?_
  refine z_sld (j := 5) (x := x5) B hX hbl hbA (by decide) (show ¬ ((5 : Int32) < 0 ∨ 6 ≤ (5 : Int32).toNatClampNeg) by decide) h_x5 dL_law_282 ?_
  refine z_aload_n B dL_law_283 rfl 1 rfl ?_
  refine z_cSWi (As := [.ref (b + 0), .int 4, .int x2, .int x3, .int x4, .int x5, .ref (b + 431)]) (rest := []) B cw_L_84 dL_law_284 (ci_L_check_590 l hlt (σ := (ap b σ [] [] [])) (b := b) (lyA hK) x2 x3 x4 x5 q1_x2 q2_x2 (rR_at 0 0 (fz_R hF 0 0 rfl rfl)) (rR_at 1 4 (fz_R hF 1 4 rfl rfl))) rfl (by decide) rfl (Nat.le_of_ble_eq_true rfl) (by decide) (fun r u hu => ?_)
  obtain ⟨hu1, z, hu⟩ := hu
  refine z_eqs (σ' := (ap b (wx_Z σ z) [] [] [])) (hu.trans az_ap) ?_
  show zx p l e _ s m _ below meth c g 8 _ _ _ _ 287 [(4, .int 0), (3, .ref (b + 431)), (2, .ref (b + 405)), (1, .ref (b + 0)), (0, .ref bS)] _
  refine z_seti (y := 1) hu1 ?_
  refine z_istore (lv' := [(5, .int 1), (4, .int 0), (3, .ref (b + 431)), (2, .ref (b + 405)), (1, .ref (b + 0)), (0, .ref bS)]) B dL_law_287 (by decide) rfl ?_
  refine z_aload_n B dL_law_289 rfl 3 rfl ?_
  refine z_aload_n B dL_law_290 rfl 5 rfl ?_
  refine z_iload B dL_law_291 1 rfl ?_
  refine z_iconst (v := 1) B dL_law_293 (by decide) ?_
  refine z_iadd B dL_law_294 ?_
  refine z_seti (y := 1) (by decide) ?_
  refine z_sld (j := 1) (x := 4) B hX hbl hbA (by decide) (show ¬ ((1 : Int32) < 0 ∨ 6 ≤ (1 : Int32).toNatClampNeg) by decide) h_x1 dL_law_295 ?_
  refine z_aload_n B dL_law_296 rfl 5 rfl ?_
  refine z_iload B dL_law_297 1 rfl ?_
  refine z_iconst (v := 2) B dL_law_299 (by decide) ?_
  refine z_iadd B dL_law_300 ?_
  refine z_seti (y := 2) (by decide) ?_
  refine z_sld (j := 2) (x := x2) B hX hbl hbA (by decide) (show ¬ ((2 : Int32) < 0 ∨ 6 ≤ (2 : Int32).toNatClampNeg) by decide) h_x2 dL_law_301 ?_
  refine z_aload_n B dL_law_302 rfl 5 rfl ?_
  refine z_iload B dL_law_303 1 rfl ?_
  refine z_iconst (v := 3) B dL_law_305 (by decide) ?_
  refine z_iadd B dL_law_306 ?_
  refine z_seti (y := 3) (by decide) ?_
  refine z_sld (j := 3) (x := x3) B hX hbl hbA (by decide) (show ¬ ((3 : Int32) < 0 ∨ 6 ≤ (3 : Int32).toNatClampNeg) by decide) h_x3 dL_law_307 ?_
  refine z_aload_n B dL_law_308 rfl 5 rfl ?_
  refine z_iload B dL_law_309 1 rfl ?_
  refine z_iconst (v := 4) B dL_law_311 (by decide) ?_
  refine z_iadd B dL_law_312 ?_
  refine z_seti (y := 4) (by decide) ?_
  refine z_sld (j := 4) (x := x4) B hX hbl hbA (by decide) (show ¬ ((4 : Int32) < 0 ∨ 6 ≤ (4 : Int32).toNatClampNeg) by decide) h_x4 dL_law_313 ?_
  refine z_aload_n B dL_law_314 rfl 5 rfl ?_
  refine z_iload B dL_law_315 1 rfl ?_
  refine z_iconst (v := 5) B dL_law_317 (by decide) ?_
  refine z_iadd B dL_law_318 ?_
  refine z_seti (y := 5) (by decide) ?_
  refine z_sld (j := 5) (x := x5) B hX hbl hbA (by decide) (show ¬ ((5 : Int32) < 0 ∨ 6 ≤ (5 : Int32).toNatClampNeg) by decide) h_x5 dL_law_319 ?_
  refine z_cVi (As := [.int 4, .int x2, .int x3, .int x4, .int x5]) (rest := []) B cw_L_86 cx_10 dL_law_320 (ci_X9_check_596 l (σ := (ap b (wx_Z σ z) [] [] [])) (b := b) (lyA (lyZ hK)) x2 x3 x4 x5 q1_x2 q2_x2 q1_x3 q2_x3 q1_x4 q2_x4) (lKA (lKZ (hk_K hK 405 rfl rfl))) rfl (by decide) rfl (Nat.le_of_ble_eq_true rfl) (by decide) (fun r u hu => ?_)
  refine z_eqs (σ' := (ap b (wx_Z σ z) [(405, 0, 1)] [] [])) (hu.2.trans ap_ap) ?_
  show zx p l e _ s m _ below meth c g 8 _ _ _ _ 323 [(5, .int 1), (4, .int 0), (3, .ref (b + 431)), (2, .ref (b + 405)), (1, .ref (b + 0)), (0, .ref bS)] _
  refine z_seti (y := 0) hu.1 ?_
  refine z_istore (lv' := [(6, .int 0), (5, .int 1), (4, .int 0), (3, .ref (b + 431)), (2, .ref (b + 405)), (1, .ref (b + 0)), (0, .ref bS)]) B dL_law_323 (by decide) rfl ?_
  refine z_aload_n B dL_law_325 rfl 4 rfl ?_
  refine z_cVi (As := []) (rest := []) B cw_L_80 cx_10 dL_law_326 (ci_X9_thrown_31 l (σ := (ap b (wx_Z σ z) [(405, 0, 1)] [] [])) (b := b) (lyA (lyZ hK)) (rI_at 405 0 rfl)) (lKA (lKZ (hk_K hK 405 rfl rfl))) rfl (by decide) rfl (Nat.le_of_ble_eq_true rfl) (by decide) (fun r u hu => ?_)
  refine z_eqs (σ' := (ap b (wx_Z σ z) [(405, 0, 1)] [] [])) hu.2 ?_
  show zx p l e _ s m _ below meth c g 8 _ _ _ _ 329 [(6, .int 0), (5, .int 1), (4, .int 0), (3, .ref (b + 431)), (2, .ref (b + 405)), (1, .ref (b + 0)), (0, .ref bS)] _
  refine z_seti (y := 1) hu.1 ?_
  refine z_iload B dL_law_329 1 rfl ?_
  refine z_icmp_eq (tgt := 336) B dL_law_331 (by decide) (fun _ => ?_) (fun h => absurd (by decide) h)
  refine z_iload B dL_law_336 1 rfl ?_
  refine z_if_ne (tgt := 353) B dL_law_338 (by decide) (fun _ => ?_) (fun h => absurd h (by decide))
  refine z_goto (tgt := 1395) B dL_law_353 (by decide) ?_
  exact z_widen (Nat.le_of_ble_eq_true rfl) (Nat.le_of_ble_eq_true rfl) (z_sub _ [2, 6] rfl (kk _))
set_option maxRecDepth 100000 in
set_option maxHeartbeats 4000000 in
theorem lf_1_251 {p : Program} {l : Launch} {e : Env} {s : State} {m : MethodId} {args : Array Value} {below : List Frame} {meth : Method} {c : Code} {g : gx_T} {Q : State → Prop} {σ : sx_T} {b t bS : Nat} {xs : Nat → Int32} (hlt : l.stackTraces = false) (B : zx_B p s m args meth c code RL 8 g) (hX : va_X bS 6 xs s s.heap) (hbl : bS < s.heap.size) (hbA : ¬ gx_b g ≤ bS) (hF : fz_P b t σ) (h_x1 : xs 1 = 4) {x2 : Int32} (h_x2 : xs 2 = x2) (q1_x2 : (20 : Int) ≤ x2.toInt) (q2_x2 : x2.toInt ≤ (2147483647 : Int)) {x3 : Int32} (h_x3 : xs 3 = x3) (q1_x3 : (18 : Int) ≤ x3.toInt) (q2_x3 : x3.toInt ≤ (2147483647 : Int)) {x4 : Int32} (h_x4 : xs 4 = x4) (q1_x4 : (-2147483648 : Int) ≤ x4.toInt) (q2_x4 : x4.toInt ≤ (2147483647 : Int)) {x5 : Int32} (h_x5 : xs 5 = x5) (q1_x5 : (-2147483648 : Int) ≤ x5.toInt) (q2_x5 : x5.toInt ≤ (2147483647 : Int)) (kk : ∀ σ', zx p l e room_1 s m args below meth c g 8 600002 7302232 Q σ' 1395 [(4, .int 0), (0, .ref bS)] []) : zx p l e room_1 s m args below meth c g 8 500 100000 Q σ 252 [(4, .int 0), (3, .ref (b + 431)), (2, .ref (b + 405)), (1, .ref (b + 0)), (0, .ref bS)] [] := by
  have hK := fz_lay hF
  refine z_eqs (σ' := (ap b σ [] [] [])) rfl ?_
  refine z_aload_n B dL_law_252 rfl 3 rfl ?_
  refine z_aload_n B dL_law_253 rfl 4 rfl ?_
  refine z_iload B dL_law_254 0 rfl ?_
  refine z_iconst (v := 1) B dL_law_256 (by decide) ?_
  refine z_iadd B dL_law_257 ?_
  refine z_seti (y := 1) (by decide) ?_
  refine z_sld (j := 1) (x := 4) B hX hbl hbA (by decide) (show ¬ ((1 : Int32) < 0 ∨ 6 ≤ (1 : Int32).toNatClampNeg) by decide) h_x1 dL_law_258 ?_
  refine z_aload_n B dL_law_259 rfl 4 rfl ?_
  refine z_iload B dL_law_260 0 rfl ?_
  refine z_iconst (v := 2) B dL_law_262 (by decide) ?_
  refine z_iadd B dL_law_263 ?_
  refine z_seti (y := 2) (by decide) ?_
  refine z_sld (j := 2) (x := x2) B hX hbl hbA (by decide) (show ¬ ((2 : Int32) < 0 ∨ 6 ≤ (2 : Int32).toNatClampNeg) by decide) h_x2 dL_law_264 ?_
  refine z_aload_n B dL_law_265 rfl 4 rfl ?_
  refine z_iload B dL_law_266 0 rfl ?_
  refine z_iconst (v := 3) B dL_law_268 (by decide) ?_
  refine z_iadd B dL_law_269 ?_
  refine z_seti (y := 3) (by decide) ?_
  refine z_sld (j := 3) (x := x3) B hX hbl hbA (by decide) (show ¬ ((3 : Int32) < 0 ∨ 6 ≤ (3 : Int32).toNatClampNeg) by decide) h_x3 dL_law_270 ?_
  refine z_aload_n B dL_law_271 rfl 4 rfl ?_
  refine z_iload B dL_law_272 0 rfl ?_
  refine z_iconst (v := 4) B dL_law_274 (by decide) ?_
  refine z_iadd B dL_law_275 ?_
  refine z_seti (y := 4) (by decide) ?_
  refine z_sld (j := 4) (x := x4) B hX hbl hbA (by decide) (show ¬ ((4 : Int32) < 0 ∨ 6 ≤ (4 : Int32).toNatClampNeg) by decide) h_x4 dL_law_276 ?_
  refine z_aload_n B dL_law_277 rfl 4 rfl ?_
  refine z_iload B dL_law_278 0 rfl ?_
  refine z_iconst (v := 5) B dL_law_280 (by decide) ?_
  refine z_iadd B dL_law_281 ?_
  refine z_seti (y := 5) (by decide) ?_
  refine z_sld (j := 5) (x := x5) B hX hbl hbA (by decide) (show ¬ ((5 : Int32) < 0 ∨ 6 ≤ (5 : Int32).toNatClampNeg) by decide) h_x5 dL_law_282 ?_
  refine z_aload_n B dL_law_283 rfl 1 rfl ?_
  refine z_cSWi (As := [.ref (b + 0), .int 4, .int x2, .int x3, .int x4, .int x5, .ref (b + 431)]) (rest := []) B cw_L_84 dL_law_284 (ci_L_check_590 l hlt (σ := (ap b σ [] [] [])) (b := b) (lyA hK) x2 x3 x4 x5 q1_x2 q2_x2 (rR_at 0 0 (fz_R hF 0 0 rfl rfl)) (rR_at 1 4 (fz_R hF 1 4 rfl rfl))) rfl (by decide) rfl (Nat.le_of_ble_eq_true rfl) (by decide) (fun r u hu => ?_)
  obtain ⟨hu1, z, hu⟩ := hu
  refine z_eqs (σ' := (ap b (wx_Z σ z) [] [] [])) (hu.trans az_ap) ?_
  show zx p l e _ s m _ below meth c g 8 _ _ _ _ 287 [(4, .int 0), (3, .ref (b + 431)), (2, .ref (b + 405)), (1, .ref (b + 0)), (0, .ref bS)] _
  refine z_seti (y := 1) hu1 ?_
  refine z_istore (lv' := [(5, .int 1), (4, .int 0), (3, .ref (b + 431)), (2, .ref (b + 405)), (1, .ref (b + 0)), (0, .ref bS)]) B dL_law_287 (by decide) rfl ?_
  refine z_aload_n B dL_law_289 rfl 3 rfl ?_
  refine z_aload_n B dL_law_290 rfl 5 rfl ?_
  refine z_iload B dL_law_291 1 rfl ?_
  refine z_iconst (v := 1) B dL_law_293 (by decide) ?_
  refine z_iadd B dL_law_294 ?_
  refine z_seti (y := 1) (by decide) ?_
  refine z_sld (j := 1) (x := 4) B hX hbl hbA (by decide) (show ¬ ((1 : Int32) < 0 ∨ 6 ≤ (1 : Int32).toNatClampNeg) by decide) h_x1 dL_law_295 ?_
  refine z_aload_n B dL_law_296 rfl 5 rfl ?_
  refine z_iload B dL_law_297 1 rfl ?_
  refine z_iconst (v := 2) B dL_law_299 (by decide) ?_
  refine z_iadd B dL_law_300 ?_
  refine z_seti (y := 2) (by decide) ?_
  refine z_sld (j := 2) (x := x2) B hX hbl hbA (by decide) (show ¬ ((2 : Int32) < 0 ∨ 6 ≤ (2 : Int32).toNatClampNeg) by decide) h_x2 dL_law_301 ?_
  refine z_aload_n B dL_law_302 rfl 5 rfl ?_
  refine z_iload B dL_law_303 1 rfl ?_
  refine z_iconst (v := 3) B dL_law_305 (by decide) ?_
  refine z_iadd B dL_law_306 ?_
  refine z_seti (y := 3) (by decide) ?_
  refine z_sld (j := 3) (x := x3) B hX hbl hbA (by decide) (show ¬ ((3 : Int32) < 0 ∨ 6 ≤ (3 : Int32).toNatClampNeg) by decide) h_x3 dL_law_307 ?_
  refine z_aload_n B dL_law_308 rfl 5 rfl ?_
  refine z_iload B dL_law_309 1 rfl ?_
  refine z_iconst (v := 4) B dL_law_311 (by decide) ?_
  refine z_iadd B dL_law_312 ?_
  refine z_seti (y := 4) (by decide) ?_
  refine z_sld (j := 4) (x := x4) B hX hbl hbA (by decide) (show ¬ ((4 : Int32) < 0 ∨ 6 ≤ (4 : Int32).toNatClampNeg) by decide) h_x4 dL_law_313 ?_
  refine z_aload_n B dL_law_314 rfl 5 rfl ?_
  refine z_iload B dL_law_315 1 rfl ?_
  refine z_iconst (v := 5) B dL_law_317 (by decide) ?_
  refine z_iadd B dL_law_318 ?_
  refine z_seti (y := 5) (by decide) ?_
  refine z_sld (j := 5) (x := x5) B hX hbl hbA (by decide) (show ¬ ((5 : Int32) < 0 ∨ 6 ≤ (5 : Int32).toNatClampNeg) by decide) h_x5 dL_law_319 ?_
  refine z_cVi (As := [.int 4, .int x2, .int x3, .int x4, .int x5]) (rest := []) B cw_L_86 cx_10 dL_law_320 (ci_X9_check_597 l (σ := (ap b (wx_Z σ z) [] [] [])) (b := b) (lyA (lyZ hK)) x2 x3 x4 x5 q1_x2 q2_x2 q1_x3 q2_x3) (lKA (lKZ (hk_K hK 405 rfl rfl))) rfl (by decide) rfl (Nat.le_of_ble_eq_true rfl) (by decide) (fun r u hu => ?_)
  refine z_eqs (σ' := (ap b (wx_Z σ z) [(405, 0, 1)] [] [])) (hu.2.trans ap_ap) ?_
  show zx p l e _ s m _ below meth c g 8 _ _ _ _ 323 [(5, .int 1), (4, .int 0), (3, .ref (b + 431)), (2, .ref (b + 405)), (1, .ref (b + 0)), (0, .ref bS)] _
  refine z_seti (y := 0) hu.1 ?_
  refine z_istore (lv' := [(6, .int 0), (5, .int 1), (4, .int 0), (3, .ref (b + 431)), (2, .ref (b + 405)), (1, .ref (b + 0)), (0, .ref bS)]) B dL_law_323 (by decide) rfl ?_
  refine z_aload_n B dL_law_325 rfl 4 rfl ?_
  refine z_cVi (As := []) (rest := []) B cw_L_80 cx_10 dL_law_326 (ci_X9_thrown_31 l (σ := (ap b (wx_Z σ z) [(405, 0, 1)] [] [])) (b := b) (lyA (lyZ hK)) (rI_at 405 0 rfl)) (lKA (lKZ (hk_K hK 405 rfl rfl))) rfl (by decide) rfl (Nat.le_of_ble_eq_true rfl) (by decide) (fun r u hu => ?_)
  refine z_eqs (σ' := (ap b (wx_Z σ z) [(405, 0, 1)] [] [])) hu.2 ?_
  show zx p l e _ s m _ below meth c g 8 _ _ _ _ 329 [(6, .int 0), (5, .int 1), (4, .int 0), (3, .ref (b + 431)), (2, .ref (b + 405)), (1, .ref (b + 0)), (0, .ref bS)] _
  refine z_seti (y := 1) hu.1 ?_
  refine z_iload B dL_law_329 1 rfl ?_
  refine z_icmp_eq (tgt := 336) B dL_law_331 (by decide) (fun _ => ?_) (fun h => absurd (by decide) h)
  refine z_iload B dL_law_336 1 rfl ?_
  refine z_if_ne (tgt := 353) B dL_law_338 (by decide) (fun _ => ?_) (fun h => absurd h (by decide))
  refine z_goto (tgt := 1395) B dL_law_353 (by decide) ?_
  exact z_widen (Nat.le_of_ble_eq_true rfl) (Nat.le_of_ble_eq_true rfl) (z_sub _ [2, 6] rfl (kk _))
set_option maxRecDepth 100000 in
set_option maxHeartbeats 4000000 in
theorem lf_1_252 {p : Program} {l : Launch} {e : Env} {s : State} {m : MethodId} {args : Array Value} {below : List Frame} {meth : Method} {c : Code} {g : gx_T} {Q : State → Prop} {σ : sx_T} {b t bS : Nat} {xs : Nat → Int32} (hlt : l.stackTraces = false) (B : zx_B p s m args meth c code RL 8 g) (hX : va_X bS 6 xs s s.heap) (hbl : bS < s.heap.size) (hbA : ¬ gx_b g ≤ bS) (hF : fz_P b t σ) (h_x1 : xs 1 = 5) {x2 : Int32} (h_x2 : xs 2 = x2) (q1_x2 : (-2147483648 : Int) ≤ x2.toInt) (q2_x2 : x2.toInt ≤ (-1 : Int)) {x3 : Int32} (h_x3 : xs 3 = x3) (q1_x3 : (-2147483648 : Int) ≤ x3.toInt) (q2_x3 : x3.toInt ≤ (-1 : Int)) {x4 : Int32} (h_x4 : xs 4 = x4) (q1_x4 : (-2147483648 : Int) ≤ x4.toInt) (q2_x4 : x4.toInt ≤ (2147483647 : Int)) {x5 : Int32} (h_x5 : xs 5 = x5) (q1_x5 : (-2147483648 : Int) ≤ x5.toInt) (q2_x5 : x5.toInt ≤ (2147483647 : Int)) (kk : ∀ σ', zx p l e room_1 s m args below meth c g 8 600002 7302232 Q σ' 1395 [(4, .int 0), (0, .ref bS)] []) : zx p l e room_1 s m args below meth c g 8 500 100000 Q σ 252 [(4, .int 0), (3, .ref (b + 431)), (2, .ref (b + 405)), (1, .ref (b + 0)), (0, .ref bS)] [] := by
  have hK := fz_lay hF
  refine z_eqs (σ' := (ap b σ [] [] [])) rfl ?_
  refine z_aload_n B dL_law_252 rfl 3 rfl ?_
  refine z_aload_n B dL_law_253 rfl 4 rfl ?_
  refine z_iload B dL_law_254 0 rfl ?_
  refine z_iconst (v := 1) B dL_law_256 (by decide) ?_
  refine z_iadd B dL_law_257 ?_
  refine z_seti (y := 1) (by decide) ?_
  refine z_sld (j := 1) (x := 5) B hX hbl hbA (by decide) (show ¬ ((1 : Int32) < 0 ∨ 6 ≤ (1 : Int32).toNatClampNeg) by decide) h_x1 dL_law_258 ?_
  refine z_aload_n B dL_law_259 rfl 4 rfl ?_
  refine z_iload B dL_law_260 0 rfl ?_
  refine z_iconst (v := 2) B dL_law_262 (by decide) ?_
  refine z_iadd B dL_law_263 ?_
  refine z_seti (y := 2) (by decide) ?_
  refine z_sld (j := 2) (x := x2) B hX hbl hbA (by decide) (show ¬ ((2 : Int32) < 0 ∨ 6 ≤ (2 : Int32).toNatClampNeg) by decide) h_x2 dL_law_264 ?_
  refine z_aload_n B dL_law_265 rfl 4 rfl ?_
  refine z_iload B dL_law_266 0 rfl ?_
  refine z_iconst (v := 3) B dL_law_268 (by decide) ?_
  refine z_iadd B dL_law_269 ?_
  refine z_seti (y := 3) (by decide) ?_
  refine z_sld (j := 3) (x := x3) B hX hbl hbA (by decide) (show ¬ ((3 : Int32) < 0 ∨ 6 ≤ (3 : Int32).toNatClampNeg) by decide) h_x3 dL_law_270 ?_
  refine z_aload_n B dL_law_271 rfl 4 rfl ?_
  refine z_iload B dL_law_272 0 rfl ?_
  refine z_iconst (v := 4) B dL_law_274 (by decide) ?_
  refine z_iadd B dL_law_275 ?_
  refine z_seti (y := 4) (by decide) ?_
  refine z_sld (j := 4) (x := x4) B hX hbl hbA (by decide) (show ¬ ((4 : Int32) < 0 ∨ 6 ≤ (4 : Int32).toNatClampNeg) by decide) h_x4 dL_law_276 ?_
  refine z_aload_n B dL_law_277 rfl 4 rfl ?_
  refine z_iload B dL_law_278 0 rfl ?_
  refine z_iconst (v := 5) B dL_law_280 (by decide) ?_
  refine z_iadd B dL_law_281 ?_
  refine z_seti (y := 5) (by decide) ?_
  refine z_sld (j := 5) (x := x5) B hX hbl hbA (by decide) (show ¬ ((5 : Int32) < 0 ∨ 6 ≤ (5 : Int32).toNatClampNeg) by decide) h_x5 dL_law_282 ?_
  refine z_aload_n B dL_law_283 rfl 1 rfl ?_
  refine z_cSWi (As := [.ref (b + 0), .int 5, .int x2, .int x3, .int x4, .int x5, .ref (b + 431)]) (rest := []) B cw_L_84 dL_law_284 (ci_L_check_599 l hlt (σ := (ap b σ [] [] [])) (b := b) (lyA hK) x2 x3 x4 x5 q1_x2 q2_x2 (rR_at 0 0 (fz_R hF 0 0 rfl rfl)) (rR_at 1 5 (fz_R hF 1 5 rfl rfl))) rfl (by decide) rfl (Nat.le_of_ble_eq_true rfl) (by decide) (fun r u hu => ?_)
  obtain ⟨hu1, z, hu⟩ := hu
  refine z_eqs (σ' := (ap b (wx_Z σ z) [] [] [])) (hu.trans az_ap) ?_
  show zx p l e _ s m _ below meth c g 8 _ _ _ _ 287 [(4, .int 0), (3, .ref (b + 431)), (2, .ref (b + 405)), (1, .ref (b + 0)), (0, .ref bS)] _
  refine z_seti (y := 1) hu1 ?_
  refine z_istore (lv' := [(5, .int 1), (4, .int 0), (3, .ref (b + 431)), (2, .ref (b + 405)), (1, .ref (b + 0)), (0, .ref bS)]) B dL_law_287 (by decide) rfl ?_
  refine z_aload_n B dL_law_289 rfl 3 rfl ?_
  refine z_aload_n B dL_law_290 rfl 5 rfl ?_
  refine z_iload B dL_law_291 1 rfl ?_
  refine z_iconst (v := 1) B dL_law_293 (by decide) ?_
  refine z_iadd B dL_law_294 ?_
  refine z_seti (y := 1) (by decide) ?_
  refine z_sld (j := 1) (x := 5) B hX hbl hbA (by decide) (show ¬ ((1 : Int32) < 0 ∨ 6 ≤ (1 : Int32).toNatClampNeg) by decide) h_x1 dL_law_295 ?_
  refine z_aload_n B dL_law_296 rfl 5 rfl ?_
  refine z_iload B dL_law_297 1 rfl ?_
  refine z_iconst (v := 2) B dL_law_299 (by decide) ?_
  refine z_iadd B dL_law_300 ?_
  refine z_seti (y := 2) (by decide) ?_
  refine z_sld (j := 2) (x := x2) B hX hbl hbA (by decide) (show ¬ ((2 : Int32) < 0 ∨ 6 ≤ (2 : Int32).toNatClampNeg) by decide) h_x2 dL_law_301 ?_
  refine z_aload_n B dL_law_302 rfl 5 rfl ?_
  refine z_iload B dL_law_303 1 rfl ?_
  refine z_iconst (v := 3) B dL_law_305 (by decide) ?_
  refine z_iadd B dL_law_306 ?_
  refine z_seti (y := 3) (by decide) ?_
  refine z_sld (j := 3) (x := x3) B hX hbl hbA (by decide) (show ¬ ((3 : Int32) < 0 ∨ 6 ≤ (3 : Int32).toNatClampNeg) by decide) h_x3 dL_law_307 ?_
  refine z_aload_n B dL_law_308 rfl 5 rfl ?_
  refine z_iload B dL_law_309 1 rfl ?_
  refine z_iconst (v := 4) B dL_law_311 (by decide) ?_
  refine z_iadd B dL_law_312 ?_
  refine z_seti (y := 4) (by decide) ?_
  refine z_sld (j := 4) (x := x4) B hX hbl hbA (by decide) (show ¬ ((4 : Int32) < 0 ∨ 6 ≤ (4 : Int32).toNatClampNeg) by decide) h_x4 dL_law_313 ?_
  refine z_aload_n B dL_law_314 rfl 5 rfl ?_
  refine z_iload B dL_law_315 1 rfl ?_
  refine z_iconst (v := 5) B dL_law_317 (by decide) ?_
  refine z_iadd B dL_law_318 ?_
  refine z_seti (y := 5) (by decide) ?_
  refine z_sld (j := 5) (x := x5) B hX hbl hbA (by decide) (show ¬ ((5 : Int32) < 0 ∨ 6 ≤ (5 : Int32).toNatClampNeg) by decide) h_x5 dL_law_319 ?_
  refine z_cVi (As := [.int 5, .int x2, .int x3, .int x4, .int x5]) (rest := []) B cw_L_86 cx_10 dL_law_320 (ci_X9_check_600 l (σ := (ap b (wx_Z σ z) [] [] [])) (b := b) (lyA (lyZ hK)) x2 x3 x4 x5 q1_x2 q2_x2 q1_x3 q2_x3) (lKA (lKZ (hk_K hK 405 rfl rfl))) rfl (by decide) rfl (Nat.le_of_ble_eq_true rfl) (by decide) (fun r u hu => ?_)
  refine z_eqs (σ' := (ap b (wx_Z σ z) [(405, 0, 1)] [] [])) (hu.2.trans ap_ap) ?_
  show zx p l e _ s m _ below meth c g 8 _ _ _ _ 323 [(5, .int 1), (4, .int 0), (3, .ref (b + 431)), (2, .ref (b + 405)), (1, .ref (b + 0)), (0, .ref bS)] _
  refine z_seti (y := 0) hu.1 ?_
  refine z_istore (lv' := [(6, .int 0), (5, .int 1), (4, .int 0), (3, .ref (b + 431)), (2, .ref (b + 405)), (1, .ref (b + 0)), (0, .ref bS)]) B dL_law_323 (by decide) rfl ?_
  refine z_aload_n B dL_law_325 rfl 4 rfl ?_
  refine z_cVi (As := []) (rest := []) B cw_L_80 cx_10 dL_law_326 (ci_X9_thrown_31 l (σ := (ap b (wx_Z σ z) [(405, 0, 1)] [] [])) (b := b) (lyA (lyZ hK)) (rI_at 405 0 rfl)) (lKA (lKZ (hk_K hK 405 rfl rfl))) rfl (by decide) rfl (Nat.le_of_ble_eq_true rfl) (by decide) (fun r u hu => ?_)
  refine z_eqs (σ' := (ap b (wx_Z σ z) [(405, 0, 1)] [] [])) hu.2 ?_
  show zx p l e _ s m _ below meth c g 8 _ _ _ _ 329 [(6, .int 0), (5, .int 1), (4, .int 0), (3, .ref (b + 431)), (2, .ref (b + 405)), (1, .ref (b + 0)), (0, .ref bS)] _
  refine z_seti (y := 1) hu.1 ?_
  refine z_iload B dL_law_329 1 rfl ?_
  refine z_icmp_eq (tgt := 336) B dL_law_331 (by decide) (fun _ => ?_) (fun h => absurd (by decide) h)
  refine z_iload B dL_law_336 1 rfl ?_
  refine z_if_ne (tgt := 353) B dL_law_338 (by decide) (fun _ => ?_) (fun h => absurd h (by decide))
  refine z_goto (tgt := 1395) B dL_law_353 (by decide) ?_
  exact z_widen (Nat.le_of_ble_eq_true rfl) (Nat.le_of_ble_eq_true rfl) (z_sub _ [2, 6] rfl (kk _))
set_option maxRecDepth 100000 in
set_option maxHeartbeats 4000000 in
theorem lf_1_253 {p : Program} {l : Launch} {e : Env} {s : State} {m : MethodId} {args : Array Value} {below : List Frame} {meth : Method} {c : Code} {g : gx_T} {Q : State → Prop} {σ : sx_T} {b t bS : Nat} {xs : Nat → Int32} (hlt : l.stackTraces = false) (B : zx_B p s m args meth c code RL 8 g) (hX : va_X bS 6 xs s s.heap) (hbl : bS < s.heap.size) (hbA : ¬ gx_b g ≤ bS) (hF : fz_P b t σ) (h_x1 : xs 1 = 5) {x2 : Int32} (h_x2 : xs 2 = x2) (q1_x2 : (-2147483648 : Int) ≤ x2.toInt) (q2_x2 : x2.toInt ≤ (-1 : Int)) {x3 : Int32} (h_x3 : xs 3 = x3) (q1_x3 : (0 : Int) ≤ x3.toInt) (q2_x3 : x3.toInt ≤ (17 : Int)) {x4 : Int32} (h_x4 : xs 4 = x4) (q1_x4 : (-2147483648 : Int) ≤ x4.toInt) (q2_x4 : x4.toInt ≤ (-1 : Int)) {x5 : Int32} (h_x5 : xs 5 = x5) (q1_x5 : (-2147483648 : Int) ≤ x5.toInt) (q2_x5 : x5.toInt ≤ (2147483647 : Int)) (kk : ∀ σ', zx p l e room_1 s m args below meth c g 8 600002 7302232 Q σ' 1395 [(4, .int 0), (0, .ref bS)] []) : zx p l e room_1 s m args below meth c g 8 500 100000 Q σ 252 [(4, .int 0), (3, .ref (b + 431)), (2, .ref (b + 405)), (1, .ref (b + 0)), (0, .ref bS)] [] := by
  have hK := fz_lay hF
  refine z_eqs (σ' := (ap b σ [] [] [])) rfl ?_
  refine z_aload_n B dL_law_252 rfl 3 rfl ?_
  refine z_aload_n B dL_law_253 rfl 4 rfl ?_
  refine z_iload B dL_law_254 0 rfl ?_
  refine z_iconst (v := 1) B dL_law_256 (by decide) ?_
  refine z_iadd B dL_law_257 ?_
  refine z_seti (y := 1) (by decide) ?_
  refine z_sld (j := 1) (x := 5) B hX hbl hbA (by decide) (show ¬ ((1 : Int32) < 0 ∨ 6 ≤ (1 : Int32).toNatClampNeg) by decide) h_x1 dL_law_258 ?_
  refine z_aload_n B dL_law_259 rfl 4 rfl ?_
  refine z_iload B dL_law_260 0 rfl ?_
  refine z_iconst (v := 2) B dL_law_262 (by decide) ?_
  refine z_iadd B dL_law_263 ?_
  refine z_seti (y := 2) (by decide) ?_
  refine z_sld (j := 2) (x := x2) B hX hbl hbA (by decide) (show ¬ ((2 : Int32) < 0 ∨ 6 ≤ (2 : Int32).toNatClampNeg) by decide) h_x2 dL_law_264 ?_
  refine z_aload_n B dL_law_265 rfl 4 rfl ?_
  refine z_iload B dL_law_266 0 rfl ?_
  refine z_iconst (v := 3) B dL_law_268 (by decide) ?_
  refine z_iadd B dL_law_269 ?_
  refine z_seti (y := 3) (by decide) ?_
  refine z_sld (j := 3) (x := x3) B hX hbl hbA (by decide) (show ¬ ((3 : Int32) < 0 ∨ 6 ≤ (3 : Int32).toNatClampNeg) by decide) h_x3 dL_law_270 ?_
  refine z_aload_n B dL_law_271 rfl 4 rfl ?_
  refine z_iload B dL_law_272 0 rfl ?_
  refine z_iconst (v := 4) B dL_law_274 (by decide) ?_
  refine z_iadd B dL_law_275 ?_
  refine z_seti (y := 4) (by decide) ?_
  refine z_sld (j := 4) (x := x4) B hX hbl hbA (by decide) (show ¬ ((4 : Int32) < 0 ∨ 6 ≤ (4 : Int32).toNatClampNeg) by decide) h_x4 dL_law_276 ?_
  refine z_aload_n B dL_law_277 rfl 4 rfl ?_
  refine z_iload B dL_law_278 0 rfl ?_
  refine z_iconst (v := 5) B dL_law_280 (by decide) ?_
  refine z_iadd B dL_law_281 ?_
  refine z_seti (y := 5) (by decide) ?_
  refine z_sld (j := 5) (x := x5) B hX hbl hbA (by decide) (show ¬ ((5 : Int32) < 0 ∨ 6 ≤ (5 : Int32).toNatClampNeg) by decide) h_x5 dL_law_282 ?_
  refine z_aload_n B dL_law_283 rfl 1 rfl ?_
  refine z_cSWi (As := [.ref (b + 0), .int 5, .int x2, .int x3, .int x4, .int x5, .ref (b + 431)]) (rest := []) B cw_L_84 dL_law_284 (ci_L_check_599 l hlt (σ := (ap b σ [] [] [])) (b := b) (lyA hK) x2 x3 x4 x5 q1_x2 q2_x2 (rR_at 0 0 (fz_R hF 0 0 rfl rfl)) (rR_at 1 5 (fz_R hF 1 5 rfl rfl))) rfl (by decide) rfl (Nat.le_of_ble_eq_true rfl) (by decide) (fun r u hu => ?_)
  obtain ⟨hu1, z, hu⟩ := hu
  refine z_eqs (σ' := (ap b (wx_Z σ z) [] [] [])) (hu.trans az_ap) ?_
  show zx p l e _ s m _ below meth c g 8 _ _ _ _ 287 [(4, .int 0), (3, .ref (b + 431)), (2, .ref (b + 405)), (1, .ref (b + 0)), (0, .ref bS)] _
  refine z_seti (y := 1) hu1 ?_
  refine z_istore (lv' := [(5, .int 1), (4, .int 0), (3, .ref (b + 431)), (2, .ref (b + 405)), (1, .ref (b + 0)), (0, .ref bS)]) B dL_law_287 (by decide) rfl ?_
  refine z_aload_n B dL_law_289 rfl 3 rfl ?_
  refine z_aload_n B dL_law_290 rfl 5 rfl ?_
  refine z_iload B dL_law_291 1 rfl ?_
  refine z_iconst (v := 1) B dL_law_293 (by decide) ?_
  refine z_iadd B dL_law_294 ?_
  refine z_seti (y := 1) (by decide) ?_
  refine z_sld (j := 1) (x := 5) B hX hbl hbA (by decide) (show ¬ ((1 : Int32) < 0 ∨ 6 ≤ (1 : Int32).toNatClampNeg) by decide) h_x1 dL_law_295 ?_
  refine z_aload_n B dL_law_296 rfl 5 rfl ?_
  refine z_iload B dL_law_297 1 rfl ?_
  refine z_iconst (v := 2) B dL_law_299 (by decide) ?_
  refine z_iadd B dL_law_300 ?_
  refine z_seti (y := 2) (by decide) ?_
  refine z_sld (j := 2) (x := x2) B hX hbl hbA (by decide) (show ¬ ((2 : Int32) < 0 ∨ 6 ≤ (2 : Int32).toNatClampNeg) by decide) h_x2 dL_law_301 ?_
  refine z_aload_n B dL_law_302 rfl 5 rfl ?_
  refine z_iload B dL_law_303 1 rfl ?_
  refine z_iconst (v := 3) B dL_law_305 (by decide) ?_
  refine z_iadd B dL_law_306 ?_
  refine z_seti (y := 3) (by decide) ?_
  refine z_sld (j := 3) (x := x3) B hX hbl hbA (by decide) (show ¬ ((3 : Int32) < 0 ∨ 6 ≤ (3 : Int32).toNatClampNeg) by decide) h_x3 dL_law_307 ?_
  refine z_aload_n B dL_law_308 rfl 5 rfl ?_
  refine z_iload B dL_law_309 1 rfl ?_
  refine z_iconst (v := 4) B dL_law_311 (by decide) ?_
  refine z_iadd B dL_law_312 ?_
  refine z_seti (y := 4) (by decide) ?_
  refine z_sld (j := 4) (x := x4) B hX hbl hbA (by decide) (show ¬ ((4 : Int32) < 0 ∨ 6 ≤ (4 : Int32).toNatClampNeg) by decide) h_x4 dL_law_313 ?_
  refine z_aload_n B dL_law_314 rfl 5 rfl ?_
  refine z_iload B dL_law_315 1 rfl ?_
  refine z_iconst (v := 5) B dL_law_317 (by decide) ?_
  refine z_iadd B dL_law_318 ?_
  refine z_seti (y := 5) (by decide) ?_
  refine z_sld (j := 5) (x := x5) B hX hbl hbA (by decide) (show ¬ ((5 : Int32) < 0 ∨ 6 ≤ (5 : Int32).toNatClampNeg) by decide) h_x5 dL_law_319 ?_
  refine z_cVi (As := [.int 5, .int x2, .int x3, .int x4, .int x5]) (rest := []) B cw_L_86 cx_10 dL_law_320 (ci_X9_check_601 l (σ := (ap b (wx_Z σ z) [] [] [])) (b := b) (lyA (lyZ hK)) x2 x3 x4 x5 q1_x2 q2_x2 q1_x3 q2_x3 q1_x4 q2_x4) (lKA (lKZ (hk_K hK 405 rfl rfl))) rfl (by decide) rfl (Nat.le_of_ble_eq_true rfl) (by decide) (fun r u hu => ?_)
  refine z_eqs (σ' := (ap b (wx_Z σ z) [(405, 0, 1)] [] [])) (hu.2.trans ap_ap) ?_
  show zx p l e _ s m _ below meth c g 8 _ _ _ _ 323 [(5, .int 1), (4, .int 0), (3, .ref (b + 431)), (2, .ref (b + 405)), (1, .ref (b + 0)), (0, .ref bS)] _
  refine z_seti (y := 0) hu.1 ?_
  refine z_istore (lv' := [(6, .int 0), (5, .int 1), (4, .int 0), (3, .ref (b + 431)), (2, .ref (b + 405)), (1, .ref (b + 0)), (0, .ref bS)]) B dL_law_323 (by decide) rfl ?_
  refine z_aload_n B dL_law_325 rfl 4 rfl ?_
  refine z_cVi (As := []) (rest := []) B cw_L_80 cx_10 dL_law_326 (ci_X9_thrown_31 l (σ := (ap b (wx_Z σ z) [(405, 0, 1)] [] [])) (b := b) (lyA (lyZ hK)) (rI_at 405 0 rfl)) (lKA (lKZ (hk_K hK 405 rfl rfl))) rfl (by decide) rfl (Nat.le_of_ble_eq_true rfl) (by decide) (fun r u hu => ?_)
  refine z_eqs (σ' := (ap b (wx_Z σ z) [(405, 0, 1)] [] [])) hu.2 ?_
  show zx p l e _ s m _ below meth c g 8 _ _ _ _ 329 [(6, .int 0), (5, .int 1), (4, .int 0), (3, .ref (b + 431)), (2, .ref (b + 405)), (1, .ref (b + 0)), (0, .ref bS)] _
  refine z_seti (y := 1) hu.1 ?_
  refine z_iload B dL_law_329 1 rfl ?_
  refine z_icmp_eq (tgt := 336) B dL_law_331 (by decide) (fun _ => ?_) (fun h => absurd (by decide) h)
  refine z_iload B dL_law_336 1 rfl ?_
  refine z_if_ne (tgt := 353) B dL_law_338 (by decide) (fun _ => ?_) (fun h => absurd h (by decide))
  refine z_goto (tgt := 1395) B dL_law_353 (by decide) ?_
  exact z_widen (Nat.le_of_ble_eq_true rfl) (Nat.le_of_ble_eq_true rfl) (z_sub _ [2, 6] rfl (kk _))
set_option maxRecDepth 100000 in
set_option maxHeartbeats 4000000 in
theorem lf_1_254 {p : Program} {l : Launch} {e : Env} {s : State} {m : MethodId} {args : Array Value} {below : List Frame} {meth : Method} {c : Code} {g : gx_T} {Q : State → Prop} {σ : sx_T} {b t bS : Nat} {xs : Nat → Int32} (hlt : l.stackTraces = false) (B : zx_B p s m args meth c code RL 8 g) (hX : va_X bS 6 xs s s.heap) (hbl : bS < s.heap.size) (hbA : ¬ gx_b g ≤ bS) (hF : fz_P b t σ) (h_x1 : xs 1 = 5) {x2 : Int32} (h_x2 : xs 2 = x2) (q1_x2 : (-2147483648 : Int) ≤ x2.toInt) (q2_x2 : x2.toInt ≤ (-1 : Int)) {x3 : Int32} (h_x3 : xs 3 = x3) (q1_x3 : (0 : Int) ≤ x3.toInt) (q2_x3 : x3.toInt ≤ (17 : Int)) {x4 : Int32} (h_x4 : xs 4 = x4) (q1_x4 : (0 : Int) ≤ x4.toInt) (q2_x4 : x4.toInt ≤ (99 : Int)) {x5 : Int32} (h_x5 : xs 5 = x5) (q1_x5 : (-2147483648 : Int) ≤ x5.toInt) (q2_x5 : x5.toInt ≤ (-1 : Int)) (kk : ∀ σ', zx p l e room_1 s m args below meth c g 8 600002 7302232 Q σ' 1395 [(4, .int 0), (0, .ref bS)] []) : zx p l e room_1 s m args below meth c g 8 500 100000 Q σ 252 [(4, .int 0), (3, .ref (b + 431)), (2, .ref (b + 405)), (1, .ref (b + 0)), (0, .ref bS)] [] := by
  have hK := fz_lay hF
  refine z_eqs (σ' := (ap b σ [] [] [])) rfl ?_
  refine z_aload_n B dL_law_252 rfl 3 rfl ?_
  refine z_aload_n B dL_law_253 rfl 4 rfl ?_
  refine z_iload B dL_law_254 0 rfl ?_
  refine z_iconst (v := 1) B dL_law_256 (by decide) ?_
  refine z_iadd B dL_law_257 ?_
  refine z_seti (y := 1) (by decide) ?_
  refine z_sld (j := 1) (x := 5) B hX hbl hbA (by decide) (show ¬ ((1 : Int32) < 0 ∨ 6 ≤ (1 : Int32).toNatClampNeg) by decide) h_x1 dL_law_258 ?_
  refine z_aload_n B dL_law_259 rfl 4 rfl ?_
  refine z_iload B dL_law_260 0 rfl ?_
  refine z_iconst (v := 2) B dL_law_262 (by decide) ?_
  refine z_iadd B dL_law_263 ?_
  refine z_seti (y := 2) (by decide) ?_
  refine z_sld (j := 2) (x := x2) B hX hbl hbA (by decide) (show ¬ ((2 : Int32) < 0 ∨ 6 ≤ (2 : Int32).toNatClampNeg) by decide) h_x2 dL_law_264 ?_
  refine z_aload_n B dL_law_265 rfl 4 rfl ?_
  refine z_iload B dL_law_266 0 rfl ?_
  refine z_iconst (v := 3) B dL_law_268 (by decide) ?_
  refine z_iadd B dL_law_269 ?_
  refine z_seti (y := 3) (by decide) ?_
  refine z_sld (j := 3) (x := x3) B hX hbl hbA (by decide) (show ¬ ((3 : Int32) < 0 ∨ 6 ≤ (3 : Int32).toNatClampNeg) by decide) h_x3 dL_law_270 ?_
  refine z_aload_n B dL_law_271 rfl 4 rfl ?_
  refine z_iload B dL_law_272 0 rfl ?_
  refine z_iconst (v := 4) B dL_law_274 (by decide) ?_
  refine z_iadd B dL_law_275 ?_
  refine z_seti (y := 4) (by decide) ?_
  refine z_sld (j := 4) (x := x4) B hX hbl hbA (by decide) (show ¬ ((4 : Int32) < 0 ∨ 6 ≤ (4 : Int32).toNatClampNeg) by decide) h_x4 dL_law_276 ?_
  refine z_aload_n B dL_law_277 rfl 4 rfl ?_
  refine z_iload B dL_law_278 0 rfl ?_
  refine z_iconst (v := 5) B dL_law_280 (by decide) ?_
  refine z_iadd B dL_law_281 ?_
  refine z_seti (y := 5) (by decide) ?_
  refine z_sld (j := 5) (x := x5) B hX hbl hbA (by decide) (show ¬ ((5 : Int32) < 0 ∨ 6 ≤ (5 : Int32).toNatClampNeg) by decide) h_x5 dL_law_282 ?_
  refine z_aload_n B dL_law_283 rfl 1 rfl ?_
  refine z_cSWi (As := [.ref (b + 0), .int 5, .int x2, .int x3, .int x4, .int x5, .ref (b + 431)]) (rest := []) B cw_L_84 dL_law_284 (ci_L_check_599 l hlt (σ := (ap b σ [] [] [])) (b := b) (lyA hK) x2 x3 x4 x5 q1_x2 q2_x2 (rR_at 0 0 (fz_R hF 0 0 rfl rfl)) (rR_at 1 5 (fz_R hF 1 5 rfl rfl))) rfl (by decide) rfl (Nat.le_of_ble_eq_true rfl) (by decide) (fun r u hu => ?_)
  obtain ⟨hu1, z, hu⟩ := hu
  refine z_eqs (σ' := (ap b (wx_Z σ z) [] [] [])) (hu.trans az_ap) ?_
  show zx p l e _ s m _ below meth c g 8 _ _ _ _ 287 [(4, .int 0), (3, .ref (b + 431)), (2, .ref (b + 405)), (1, .ref (b + 0)), (0, .ref bS)] _
  refine z_seti (y := 1) hu1 ?_
  refine z_istore (lv' := [(5, .int 1), (4, .int 0), (3, .ref (b + 431)), (2, .ref (b + 405)), (1, .ref (b + 0)), (0, .ref bS)]) B dL_law_287 (by decide) rfl ?_
  refine z_aload_n B dL_law_289 rfl 3 rfl ?_
  refine z_aload_n B dL_law_290 rfl 5 rfl ?_
  refine z_iload B dL_law_291 1 rfl ?_
  refine z_iconst (v := 1) B dL_law_293 (by decide) ?_
  refine z_iadd B dL_law_294 ?_
  refine z_seti (y := 1) (by decide) ?_
  refine z_sld (j := 1) (x := 5) B hX hbl hbA (by decide) (show ¬ ((1 : Int32) < 0 ∨ 6 ≤ (1 : Int32).toNatClampNeg) by decide) h_x1 dL_law_295 ?_
  refine z_aload_n B dL_law_296 rfl 5 rfl ?_
  refine z_iload B dL_law_297 1 rfl ?_
  refine z_iconst (v := 2) B dL_law_299 (by decide) ?_
  refine z_iadd B dL_law_300 ?_
  refine z_seti (y := 2) (by decide) ?_
  refine z_sld (j := 2) (x := x2) B hX hbl hbA (by decide) (show ¬ ((2 : Int32) < 0 ∨ 6 ≤ (2 : Int32).toNatClampNeg) by decide) h_x2 dL_law_301 ?_
  refine z_aload_n B dL_law_302 rfl 5 rfl ?_
  refine z_iload B dL_law_303 1 rfl ?_
  refine z_iconst (v := 3) B dL_law_305 (by decide) ?_
  refine z_iadd B dL_law_306 ?_
  refine z_seti (y := 3) (by decide) ?_
  refine z_sld (j := 3) (x := x3) B hX hbl hbA (by decide) (show ¬ ((3 : Int32) < 0 ∨ 6 ≤ (3 : Int32).toNatClampNeg) by decide) h_x3 dL_law_307 ?_
  refine z_aload_n B dL_law_308 rfl 5 rfl ?_
  refine z_iload B dL_law_309 1 rfl ?_
  refine z_iconst (v := 4) B dL_law_311 (by decide) ?_
  refine z_iadd B dL_law_312 ?_
  refine z_seti (y := 4) (by decide) ?_
  refine z_sld (j := 4) (x := x4) B hX hbl hbA (by decide) (show ¬ ((4 : Int32) < 0 ∨ 6 ≤ (4 : Int32).toNatClampNeg) by decide) h_x4 dL_law_313 ?_
  refine z_aload_n B dL_law_314 rfl 5 rfl ?_
  refine z_iload B dL_law_315 1 rfl ?_
  refine z_iconst (v := 5) B dL_law_317 (by decide) ?_
  refine z_iadd B dL_law_318 ?_
  refine z_seti (y := 5) (by decide) ?_
  refine z_sld (j := 5) (x := x5) B hX hbl hbA (by decide) (show ¬ ((5 : Int32) < 0 ∨ 6 ≤ (5 : Int32).toNatClampNeg) by decide) h_x5 dL_law_319 ?_
  refine z_cVi (As := [.int 5, .int x2, .int x3, .int x4, .int x5]) (rest := []) B cw_L_86 cx_10 dL_law_320 (ci_X9_check_602 l (σ := (ap b (wx_Z σ z) [] [] [])) (b := b) (lyA (lyZ hK)) x2 x3 x4 x5 q1_x2 q2_x2 q1_x3 q2_x3 q1_x4 q2_x4 q1_x5 q2_x5) (lKA (lKZ (hk_K hK 405 rfl rfl))) rfl (by decide) rfl (Nat.le_of_ble_eq_true rfl) (by decide) (fun r u hu => ?_)
  refine z_eqs (σ' := (ap b (wx_Z σ z) [(405, 0, 1)] [] [])) (hu.2.trans ap_ap) ?_
  show zx p l e _ s m _ below meth c g 8 _ _ _ _ 323 [(5, .int 1), (4, .int 0), (3, .ref (b + 431)), (2, .ref (b + 405)), (1, .ref (b + 0)), (0, .ref bS)] _
  refine z_seti (y := 0) hu.1 ?_
  refine z_istore (lv' := [(6, .int 0), (5, .int 1), (4, .int 0), (3, .ref (b + 431)), (2, .ref (b + 405)), (1, .ref (b + 0)), (0, .ref bS)]) B dL_law_323 (by decide) rfl ?_
  refine z_aload_n B dL_law_325 rfl 4 rfl ?_
  refine z_cVi (As := []) (rest := []) B cw_L_80 cx_10 dL_law_326 (ci_X9_thrown_31 l (σ := (ap b (wx_Z σ z) [(405, 0, 1)] [] [])) (b := b) (lyA (lyZ hK)) (rI_at 405 0 rfl)) (lKA (lKZ (hk_K hK 405 rfl rfl))) rfl (by decide) rfl (Nat.le_of_ble_eq_true rfl) (by decide) (fun r u hu => ?_)
  refine z_eqs (σ' := (ap b (wx_Z σ z) [(405, 0, 1)] [] [])) hu.2 ?_
  show zx p l e _ s m _ below meth c g 8 _ _ _ _ 329 [(6, .int 0), (5, .int 1), (4, .int 0), (3, .ref (b + 431)), (2, .ref (b + 405)), (1, .ref (b + 0)), (0, .ref bS)] _
  refine z_seti (y := 1) hu.1 ?_
  refine z_iload B dL_law_329 1 rfl ?_
  refine z_icmp_eq (tgt := 336) B dL_law_331 (by decide) (fun _ => ?_) (fun h => absurd (by decide) h)
  refine z_iload B dL_law_336 1 rfl ?_
  refine z_if_ne (tgt := 353) B dL_law_338 (by decide) (fun _ => ?_) (fun h => absurd h (by decide))
  refine z_goto (tgt := 1395) B dL_law_353 (by decide) ?_
  exact z_widen (Nat.le_of_ble_eq_true rfl) (Nat.le_of_ble_eq_true rfl) (z_sub _ [2, 6] rfl (kk _))
set_option maxRecDepth 100000 in
set_option maxHeartbeats 4000000 in
theorem lf_1_255 {p : Program} {l : Launch} {e : Env} {s : State} {m : MethodId} {args : Array Value} {below : List Frame} {meth : Method} {c : Code} {g : gx_T} {Q : State → Prop} {σ : sx_T} {b t bS : Nat} {xs : Nat → Int32} (hlt : l.stackTraces = false) (B : zx_B p s m args meth c code RL 8 g) (hX : va_X bS 6 xs s s.heap) (hbl : bS < s.heap.size) (hbA : ¬ gx_b g ≤ bS) (hF : fz_P b t σ) (h_x1 : xs 1 = 5) {x2 : Int32} (h_x2 : xs 2 = x2) (q1_x2 : (-2147483648 : Int) ≤ x2.toInt) (q2_x2 : x2.toInt ≤ (-1 : Int)) {x3 : Int32} (h_x3 : xs 3 = x3) (q1_x3 : (0 : Int) ≤ x3.toInt) (q2_x3 : x3.toInt ≤ (17 : Int)) {x4 : Int32} (h_x4 : xs 4 = x4) (q1_x4 : (0 : Int) ≤ x4.toInt) (q2_x4 : x4.toInt ≤ (99 : Int)) {x5 : Int32} (h_x5 : xs 5 = x5) (q1_x5 : (0 : Int) ≤ x5.toInt) (q2_x5 : x5.toInt ≤ (99 : Int)) (kk : ∀ σ', zx p l e room_1 s m args below meth c g 8 600002 7302232 Q σ' 1395 [(4, .int 0), (0, .ref bS)] []) : zx p l e room_1 s m args below meth c g 8 500 100000 Q σ 252 [(4, .int 0), (3, .ref (b + 431)), (2, .ref (b + 405)), (1, .ref (b + 0)), (0, .ref bS)] [] := by
  have hK := fz_lay hF
  refine z_eqs (σ' := (ap b σ [] [] [])) rfl ?_
  refine z_aload_n B dL_law_252 rfl 3 rfl ?_
  refine z_aload_n B dL_law_253 rfl 4 rfl ?_
  refine z_iload B dL_law_254 0 rfl ?_
  refine z_iconst (v := 1) B dL_law_256 (by decide) ?_
  refine z_iadd B dL_law_257 ?_
  refine z_seti (y := 1) (by decide) ?_
  refine z_sld (j := 1) (x := 5) B hX hbl hbA (by decide) (show ¬ ((1 : Int32) < 0 ∨ 6 ≤ (1 : Int32).toNatClampNeg) by decide) h_x1 dL_law_258 ?_
  refine z_aload_n B dL_law_259 rfl 4 rfl ?_
  refine z_iload B dL_law_260 0 rfl ?_
  refine z_iconst (v := 2) B dL_law_262 (by decide) ?_
  refine z_iadd B dL_law_263 ?_
  refine z_seti (y := 2) (by decide) ?_
  refine z_sld (j := 2) (x := x2) B hX hbl hbA (by decide) (show ¬ ((2 : Int32) < 0 ∨ 6 ≤ (2 : Int32).toNatClampNeg) by decide) h_x2 dL_law_264 ?_
  refine z_aload_n B dL_law_265 rfl 4 rfl ?_
  refine z_iload B dL_law_266 0 rfl ?_
  refine z_iconst (v := 3) B dL_law_268 (by decide) ?_
  refine z_iadd B dL_law_269 ?_
  refine z_seti (y := 3) (by decide) ?_
  refine z_sld (j := 3) (x := x3) B hX hbl hbA (by decide) (show ¬ ((3 : Int32) < 0 ∨ 6 ≤ (3 : Int32).toNatClampNeg) by decide) h_x3 dL_law_270 ?_
  refine z_aload_n B dL_law_271 rfl 4 rfl ?_
  refine z_iload B dL_law_272 0 rfl ?_
  refine z_iconst (v := 4) B dL_law_274 (by decide) ?_
  refine z_iadd B dL_law_275 ?_
  refine z_seti (y := 4) (by decide) ?_
  refine z_sld (j := 4) (x := x4) B hX hbl hbA (by decide) (show ¬ ((4 : Int32) < 0 ∨ 6 ≤ (4 : Int32).toNatClampNeg) by decide) h_x4 dL_law_276 ?_
  refine z_aload_n B dL_law_277 rfl 4 rfl ?_
  refine z_iload B dL_law_278 0 rfl ?_
  refine z_iconst (v := 5) B dL_law_280 (by decide) ?_
  refine z_iadd B dL_law_281 ?_
  refine z_seti (y := 5) (by decide) ?_
  refine z_sld (j := 5) (x := x5) B hX hbl hbA (by decide) (show ¬ ((5 : Int32) < 0 ∨ 6 ≤ (5 : Int32).toNatClampNeg) by decide) h_x5 dL_law_282 ?_
  refine z_aload_n B dL_law_283 rfl 1 rfl ?_
  refine z_cSWi (As := [.ref (b + 0), .int 5, .int x2, .int x3, .int x4, .int x5, .ref (b + 431)]) (rest := []) B cw_L_84 dL_law_284 (ci_L_check_599 l hlt (σ := (ap b σ [] [] [])) (b := b) (lyA hK) x2 x3 x4 x5 q1_x2 q2_x2 (rR_at 0 0 (fz_R hF 0 0 rfl rfl)) (rR_at 1 5 (fz_R hF 1 5 rfl rfl))) rfl (by decide) rfl (Nat.le_of_ble_eq_true rfl) (by decide) (fun r u hu => ?_)
  obtain ⟨hu1, z, hu⟩ := hu
  refine z_eqs (σ' := (ap b (wx_Z σ z) [] [] [])) (hu.trans az_ap) ?_
  show zx p l e _ s m _ below meth c g 8 _ _ _ _ 287 [(4, .int 0), (3, .ref (b + 431)), (2, .ref (b + 405)), (1, .ref (b + 0)), (0, .ref bS)] _
  refine z_seti (y := 1) hu1 ?_
  refine z_istore (lv' := [(5, .int 1), (4, .int 0), (3, .ref (b + 431)), (2, .ref (b + 405)), (1, .ref (b + 0)), (0, .ref bS)]) B dL_law_287 (by decide) rfl ?_
  refine z_aload_n B dL_law_289 rfl 3 rfl ?_
  refine z_aload_n B dL_law_290 rfl 5 rfl ?_
  refine z_iload B dL_law_291 1 rfl ?_
  refine z_iconst (v := 1) B dL_law_293 (by decide) ?_
  refine z_iadd B dL_law_294 ?_
  refine z_seti (y := 1) (by decide) ?_
  refine z_sld (j := 1) (x := 5) B hX hbl hbA (by decide) (show ¬ ((1 : Int32) < 0 ∨ 6 ≤ (1 : Int32).toNatClampNeg) by decide) h_x1 dL_law_295 ?_
  refine z_aload_n B dL_law_296 rfl 5 rfl ?_
  refine z_iload B dL_law_297 1 rfl ?_
  refine z_iconst (v := 2) B dL_law_299 (by decide) ?_
  refine z_iadd B dL_law_300 ?_
  refine z_seti (y := 2) (by decide) ?_
  refine z_sld (j := 2) (x := x2) B hX hbl hbA (by decide) (show ¬ ((2 : Int32) < 0 ∨ 6 ≤ (2 : Int32).toNatClampNeg) by decide) h_x2 dL_law_301 ?_
  refine z_aload_n B dL_law_302 rfl 5 rfl ?_
  refine z_iload B dL_law_303 1 rfl ?_
  refine z_iconst (v := 3) B dL_law_305 (by decide) ?_
  refine z_iadd B dL_law_306 ?_
  refine z_seti (y := 3) (by decide) ?_
  refine z_sld (j := 3) (x := x3) B hX hbl hbA (by decide) (show ¬ ((3 : Int32) < 0 ∨ 6 ≤ (3 : Int32).toNatClampNeg) by decide) h_x3 dL_law_307 ?_
  refine z_aload_n B dL_law_308 rfl 5 rfl ?_
  refine z_iload B dL_law_309 1 rfl ?_
  refine z_iconst (v := 4) B dL_law_311 (by decide) ?_
  refine z_iadd B dL_law_312 ?_
  refine z_seti (y := 4) (by decide) ?_
  refine z_sld (j := 4) (x := x4) B hX hbl hbA (by decide) (show ¬ ((4 : Int32) < 0 ∨ 6 ≤ (4 : Int32).toNatClampNeg) by decide) h_x4 dL_law_313 ?_
  refine z_aload_n B dL_law_314 rfl 5 rfl ?_
  refine z_iload B dL_law_315 1 rfl ?_
  refine z_iconst (v := 5) B dL_law_317 (by decide) ?_
  refine z_iadd B dL_law_318 ?_
  refine z_seti (y := 5) (by decide) ?_
  refine z_sld (j := 5) (x := x5) B hX hbl hbA (by decide) (show ¬ ((5 : Int32) < 0 ∨ 6 ≤ (5 : Int32).toNatClampNeg) by decide) h_x5 dL_law_319 ?_
  refine z_cVi (As := [.int 5, .int x2, .int x3, .int x4, .int x5]) (rest := []) B cw_L_86 cx_10 dL_law_320 (ci_X9_check_603 l (σ := (ap b (wx_Z σ z) [] [] [])) (b := b) (lyA (lyZ hK)) x2 x3 x4 x5 q1_x2 q2_x2 q1_x3 q2_x3 q1_x4 q2_x4 q1_x5 q2_x5) (lKA (lKZ (hk_K hK 405 rfl rfl))) rfl (by decide) rfl (Nat.le_of_ble_eq_true rfl) (by decide) (fun r u hu => ?_)
  refine z_eqs (σ' := (ap b (wx_Z σ z) [(405, 0, 1)] [] [])) (hu.2.trans ap_ap) ?_
  show zx p l e _ s m _ below meth c g 8 _ _ _ _ 323 [(5, .int 1), (4, .int 0), (3, .ref (b + 431)), (2, .ref (b + 405)), (1, .ref (b + 0)), (0, .ref bS)] _
  refine z_seti (y := 0) hu.1 ?_
  refine z_istore (lv' := [(6, .int 0), (5, .int 1), (4, .int 0), (3, .ref (b + 431)), (2, .ref (b + 405)), (1, .ref (b + 0)), (0, .ref bS)]) B dL_law_323 (by decide) rfl ?_
  refine z_aload_n B dL_law_325 rfl 4 rfl ?_
  refine z_cVi (As := []) (rest := []) B cw_L_80 cx_10 dL_law_326 (ci_X9_thrown_31 l (σ := (ap b (wx_Z σ z) [(405, 0, 1)] [] [])) (b := b) (lyA (lyZ hK)) (rI_at 405 0 rfl)) (lKA (lKZ (hk_K hK 405 rfl rfl))) rfl (by decide) rfl (Nat.le_of_ble_eq_true rfl) (by decide) (fun r u hu => ?_)
  refine z_eqs (σ' := (ap b (wx_Z σ z) [(405, 0, 1)] [] [])) hu.2 ?_
  show zx p l e _ s m _ below meth c g 8 _ _ _ _ 329 [(6, .int 0), (5, .int 1), (4, .int 0), (3, .ref (b + 431)), (2, .ref (b + 405)), (1, .ref (b + 0)), (0, .ref bS)] _
  refine z_seti (y := 1) hu.1 ?_
  refine z_iload B dL_law_329 1 rfl ?_
  refine z_icmp_eq (tgt := 336) B dL_law_331 (by decide) (fun _ => ?_) (fun h => absurd (by decide) h)
  refine z_iload B dL_law_336 1 rfl ?_
  refine z_if_ne (tgt := 353) B dL_law_338 (by decide) (fun _ => ?_) (fun h => absurd h (by decide))
  refine z_goto (tgt := 1395) B dL_law_353 (by decide) ?_
  exact z_widen (Nat.le_of_ble_eq_true rfl) (Nat.le_of_ble_eq_true rfl) (z_sub _ [2, 6] rfl (kk _))
set_option maxRecDepth 100000 in
set_option maxHeartbeats 4000000 in
theorem lf_1_256 {p : Program} {l : Launch} {e : Env} {s : State} {m : MethodId} {args : Array Value} {below : List Frame} {meth : Method} {c : Code} {g : gx_T} {Q : State → Prop} {σ : sx_T} {b t bS : Nat} {xs : Nat → Int32} (hlt : l.stackTraces = false) (B : zx_B p s m args meth c code RL 8 g) (hX : va_X bS 6 xs s s.heap) (hbl : bS < s.heap.size) (hbA : ¬ gx_b g ≤ bS) (hF : fz_P b t σ) (h_x1 : xs 1 = 5) {x2 : Int32} (h_x2 : xs 2 = x2) (q1_x2 : (-2147483648 : Int) ≤ x2.toInt) (q2_x2 : x2.toInt ≤ (-1 : Int)) {x3 : Int32} (h_x3 : xs 3 = x3) (q1_x3 : (0 : Int) ≤ x3.toInt) (q2_x3 : x3.toInt ≤ (17 : Int)) {x4 : Int32} (h_x4 : xs 4 = x4) (q1_x4 : (0 : Int) ≤ x4.toInt) (q2_x4 : x4.toInt ≤ (99 : Int)) {x5 : Int32} (h_x5 : xs 5 = x5) (q1_x5 : (100 : Int) ≤ x5.toInt) (q2_x5 : x5.toInt ≤ (2147483647 : Int)) (kk : ∀ σ', zx p l e room_1 s m args below meth c g 8 600002 7302232 Q σ' 1395 [(4, .int 0), (0, .ref bS)] []) : zx p l e room_1 s m args below meth c g 8 500 100000 Q σ 252 [(4, .int 0), (3, .ref (b + 431)), (2, .ref (b + 405)), (1, .ref (b + 0)), (0, .ref bS)] [] := by
  have hK := fz_lay hF
  refine z_eqs (σ' := (ap b σ [] [] [])) rfl ?_
  refine z_aload_n B dL_law_252 rfl 3 rfl ?_
  refine z_aload_n B dL_law_253 rfl 4 rfl ?_
  refine z_iload B dL_law_254 0 rfl ?_
  refine z_iconst (v := 1) B dL_law_256 (by decide) ?_
  refine z_iadd B dL_law_257 ?_
  refine z_seti (y := 1) (by decide) ?_
  refine z_sld (j := 1) (x := 5) B hX hbl hbA (by decide) (show ¬ ((1 : Int32) < 0 ∨ 6 ≤ (1 : Int32).toNatClampNeg) by decide) h_x1 dL_law_258 ?_
  refine z_aload_n B dL_law_259 rfl 4 rfl ?_
  refine z_iload B dL_law_260 0 rfl ?_
  refine z_iconst (v := 2) B dL_law_262 (by decide) ?_
  refine z_iadd B dL_law_263 ?_
  refine z_seti (y := 2) (by decide) ?_
  refine z_sld (j := 2) (x := x2) B hX hbl hbA (by decide) (show ¬ ((2 : Int32) < 0 ∨ 6 ≤ (2 : Int32).toNatClampNeg) by decide) h_x2 dL_law_264 ?_
  refine z_aload_n B dL_law_265 rfl 4 rfl ?_
  refine z_iload B dL_law_266 0 rfl ?_
  refine z_iconst (v := 3) B dL_law_268 (by decide) ?_
  refine z_iadd B dL_law_269 ?_
  refine z_seti (y := 3) (by decide) ?_
  refine z_sld (j := 3) (x := x3) B hX hbl hbA (by decide) (show ¬ ((3 : Int32) < 0 ∨ 6 ≤ (3 : Int32).toNatClampNeg) by decide) h_x3 dL_law_270 ?_
  refine z_aload_n B dL_law_271 rfl 4 rfl ?_
  refine z_iload B dL_law_272 0 rfl ?_
  refine z_iconst (v := 4) B dL_law_274 (by decide) ?_
  refine z_iadd B dL_law_275 ?_
  refine z_seti (y := 4) (by decide) ?_
  refine z_sld (j := 4) (x := x4) B hX hbl hbA (by decide) (show ¬ ((4 : Int32) < 0 ∨ 6 ≤ (4 : Int32).toNatClampNeg) by decide) h_x4 dL_law_276 ?_
  refine z_aload_n B dL_law_277 rfl 4 rfl ?_
  refine z_iload B dL_law_278 0 rfl ?_
  refine z_iconst (v := 5) B dL_law_280 (by decide) ?_
  refine z_iadd B dL_law_281 ?_
  refine z_seti (y := 5) (by decide) ?_
  refine z_sld (j := 5) (x := x5) B hX hbl hbA (by decide) (show ¬ ((5 : Int32) < 0 ∨ 6 ≤ (5 : Int32).toNatClampNeg) by decide) h_x5 dL_law_282 ?_
  refine z_aload_n B dL_law_283 rfl 1 rfl ?_
  refine z_cSWi (As := [.ref (b + 0), .int 5, .int x2, .int x3, .int x4, .int x5, .ref (b + 431)]) (rest := []) B cw_L_84 dL_law_284 (ci_L_check_599 l hlt (σ := (ap b σ [] [] [])) (b := b) (lyA hK) x2 x3 x4 x5 q1_x2 q2_x2 (rR_at 0 0 (fz_R hF 0 0 rfl rfl)) (rR_at 1 5 (fz_R hF 1 5 rfl rfl))) rfl (by decide) rfl (Nat.le_of_ble_eq_true rfl) (by decide) (fun r u hu => ?_)
  obtain ⟨hu1, z, hu⟩ := hu
  refine z_eqs (σ' := (ap b (wx_Z σ z) [] [] [])) (hu.trans az_ap) ?_
  show zx p l e _ s m _ below meth c g 8 _ _ _ _ 287 [(4, .int 0), (3, .ref (b + 431)), (2, .ref (b + 405)), (1, .ref (b + 0)), (0, .ref bS)] _
  refine z_seti (y := 1) hu1 ?_
  refine z_istore (lv' := [(5, .int 1), (4, .int 0), (3, .ref (b + 431)), (2, .ref (b + 405)), (1, .ref (b + 0)), (0, .ref bS)]) B dL_law_287 (by decide) rfl ?_
  refine z_aload_n B dL_law_289 rfl 3 rfl ?_
  refine z_aload_n B dL_law_290 rfl 5 rfl ?_
  refine z_iload B dL_law_291 1 rfl ?_
  refine z_iconst (v := 1) B dL_law_293 (by decide) ?_
  refine z_iadd B dL_law_294 ?_
  refine z_seti (y := 1) (by decide) ?_
  refine z_sld (j := 1) (x := 5) B hX hbl hbA (by decide) (show ¬ ((1 : Int32) < 0 ∨ 6 ≤ (1 : Int32).toNatClampNeg) by decide) h_x1 dL_law_295 ?_
  refine z_aload_n B dL_law_296 rfl 5 rfl ?_
  refine z_iload B dL_law_297 1 rfl ?_
  refine z_iconst (v := 2) B dL_law_299 (by decide) ?_
  refine z_iadd B dL_law_300 ?_
  refine z_seti (y := 2) (by decide) ?_
  refine z_sld (j := 2) (x := x2) B hX hbl hbA (by decide) (show ¬ ((2 : Int32) < 0 ∨ 6 ≤ (2 : Int32).toNatClampNeg) by decide) h_x2 dL_law_301 ?_
  refine z_aload_n B dL_law_302 rfl 5 rfl ?_
  refine z_iload B dL_law_303 1 rfl ?_
  refine z_iconst (v := 3) B dL_law_305 (by decide) ?_
  refine z_iadd B dL_law_306 ?_
  refine z_seti (y := 3) (by decide) ?_
  refine z_sld (j := 3) (x := x3) B hX hbl hbA (by decide) (show ¬ ((3 : Int32) < 0 ∨ 6 ≤ (3 : Int32).toNatClampNeg) by decide) h_x3 dL_law_307 ?_
  refine z_aload_n B dL_law_308 rfl 5 rfl ?_
  refine z_iload B dL_law_309 1 rfl ?_
  refine z_iconst (v := 4) B dL_law_311 (by decide) ?_
  refine z_iadd B dL_law_312 ?_
  refine z_seti (y := 4) (by decide) ?_
  refine z_sld (j := 4) (x := x4) B hX hbl hbA (by decide) (show ¬ ((4 : Int32) < 0 ∨ 6 ≤ (4 : Int32).toNatClampNeg) by decide) h_x4 dL_law_313 ?_
  refine z_aload_n B dL_law_314 rfl 5 rfl ?_
  refine z_iload B dL_law_315 1 rfl ?_
  refine z_iconst (v := 5) B dL_law_317 (by decide) ?_
  refine z_iadd B dL_law_318 ?_
  refine z_seti (y := 5) (by decide) ?_
  refine z_sld (j := 5) (x := x5) B hX hbl hbA (by decide) (show ¬ ((5 : Int32) < 0 ∨ 6 ≤ (5 : Int32).toNatClampNeg) by decide) h_x5 dL_law_319 ?_
  refine z_cVi (As := [.int 5, .int x2, .int x3, .int x4, .int x5]) (rest := []) B cw_L_86 cx_10 dL_law_320 (ci_X9_check_604 l (σ := (ap b (wx_Z σ z) [] [] [])) (b := b) (lyA (lyZ hK)) x2 x3 x4 x5 q1_x2 q2_x2 q1_x3 q2_x3 q1_x4 q2_x4 q1_x5 q2_x5) (lKA (lKZ (hk_K hK 405 rfl rfl))) rfl (by decide) rfl (Nat.le_of_ble_eq_true rfl) (by decide) (fun r u hu => ?_)
  refine z_eqs (σ' := (ap b (wx_Z σ z) [(405, 0, 1)] [] [])) (hu.2.trans ap_ap) ?_
  show zx p l e _ s m _ below meth c g 8 _ _ _ _ 323 [(5, .int 1), (4, .int 0), (3, .ref (b + 431)), (2, .ref (b + 405)), (1, .ref (b + 0)), (0, .ref bS)] _
  refine z_seti (y := 0) hu.1 ?_
  refine z_istore (lv' := [(6, .int 0), (5, .int 1), (4, .int 0), (3, .ref (b + 431)), (2, .ref (b + 405)), (1, .ref (b + 0)), (0, .ref bS)]) B dL_law_323 (by decide) rfl ?_
  refine z_aload_n B dL_law_325 rfl 4 rfl ?_
  refine z_cVi (As := []) (rest := []) B cw_L_80 cx_10 dL_law_326 (ci_X9_thrown_31 l (σ := (ap b (wx_Z σ z) [(405, 0, 1)] [] [])) (b := b) (lyA (lyZ hK)) (rI_at 405 0 rfl)) (lKA (lKZ (hk_K hK 405 rfl rfl))) rfl (by decide) rfl (Nat.le_of_ble_eq_true rfl) (by decide) (fun r u hu => ?_)
  refine z_eqs (σ' := (ap b (wx_Z σ z) [(405, 0, 1)] [] [])) hu.2 ?_
  show zx p l e _ s m _ below meth c g 8 _ _ _ _ 329 [(6, .int 0), (5, .int 1), (4, .int 0), (3, .ref (b + 431)), (2, .ref (b + 405)), (1, .ref (b + 0)), (0, .ref bS)] _
  refine z_seti (y := 1) hu.1 ?_
  refine z_iload B dL_law_329 1 rfl ?_
  refine z_icmp_eq (tgt := 336) B dL_law_331 (by decide) (fun _ => ?_) (fun h => absurd (by decide) h)
  refine z_iload B dL_law_336 1 rfl ?_
  refine z_if_ne (tgt := 353) B dL_law_338 (by decide) (fun _ => ?_) (fun h => absurd h (by decide))
  refine z_goto (tgt := 1395) B dL_law_353 (by decide) ?_
  exact z_widen (Nat.le_of_ble_eq_true rfl) (Nat.le_of_ble_eq_true rfl) (z_sub _ [2, 6] rfl (kk _))
set_option maxRecDepth 100000 in
set_option maxHeartbeats 4000000 in
theorem lf_1_257 {p : Program} {l : Launch} {e : Env} {s : State} {m : MethodId} {args : Array Value} {below : List Frame} {meth : Method} {c : Code} {g : gx_T} {Q : State → Prop} {σ : sx_T} {b t bS : Nat} {xs : Nat → Int32} (hlt : l.stackTraces = false) (B : zx_B p s m args meth c code RL 8 g) (hX : va_X bS 6 xs s s.heap) (hbl : bS < s.heap.size) (hbA : ¬ gx_b g ≤ bS) (hF : fz_P b t σ) (h_x1 : xs 1 = 5) {x2 : Int32} (h_x2 : xs 2 = x2) (q1_x2 : (-2147483648 : Int) ≤ x2.toInt) (q2_x2 : x2.toInt ≤ (-1 : Int)) {x3 : Int32} (h_x3 : xs 3 = x3) (q1_x3 : (0 : Int) ≤ x3.toInt) (q2_x3 : x3.toInt ≤ (17 : Int)) {x4 : Int32} (h_x4 : xs 4 = x4) (q1_x4 : (100 : Int) ≤ x4.toInt) (q2_x4 : x4.toInt ≤ (2147483647 : Int)) {x5 : Int32} (h_x5 : xs 5 = x5) (q1_x5 : (-2147483648 : Int) ≤ x5.toInt) (q2_x5 : x5.toInt ≤ (2147483647 : Int)) (kk : ∀ σ', zx p l e room_1 s m args below meth c g 8 600002 7302232 Q σ' 1395 [(4, .int 0), (0, .ref bS)] []) : zx p l e room_1 s m args below meth c g 8 500 100000 Q σ 252 [(4, .int 0), (3, .ref (b + 431)), (2, .ref (b + 405)), (1, .ref (b + 0)), (0, .ref bS)] [] := by
  have hK := fz_lay hF
  refine z_eqs (σ' := (ap b σ [] [] [])) rfl ?_
  refine z_aload_n B dL_law_252 rfl 3 rfl ?_
  refine z_aload_n B dL_law_253 rfl 4 rfl ?_
  refine z_iload B dL_law_254 0 rfl ?_
  refine z_iconst (v := 1) B dL_law_256 (by decide) ?_
  refine z_iadd B dL_law_257 ?_
  refine z_seti (y := 1) (by decide) ?_
  refine z_sld (j := 1) (x := 5) B hX hbl hbA (by decide) (show ¬ ((1 : Int32) < 0 ∨ 6 ≤ (1 : Int32).toNatClampNeg) by decide) h_x1 dL_law_258 ?_
  refine z_aload_n B dL_law_259 rfl 4 rfl ?_
  refine z_iload B dL_law_260 0 rfl ?_
  refine z_iconst (v := 2) B dL_law_262 (by decide) ?_
  refine z_iadd B dL_law_263 ?_
  refine z_seti (y := 2) (by decide) ?_
  refine z_sld (j := 2) (x := x2) B hX hbl hbA (by decide) (show ¬ ((2 : Int32) < 0 ∨ 6 ≤ (2 : Int32).toNatClampNeg) by decide) h_x2 dL_law_264 ?_
  refine z_aload_n B dL_law_265 rfl 4 rfl ?_
  refine z_iload B dL_law_266 0 rfl ?_
  refine z_iconst (v := 3) B dL_law_268 (by decide) ?_
  refine z_iadd B dL_law_269 ?_
  refine z_seti (y := 3) (by decide) ?_
  refine z_sld (j := 3) (x := x3) B hX hbl hbA (by decide) (show ¬ ((3 : Int32) < 0 ∨ 6 ≤ (3 : Int32).toNatClampNeg) by decide) h_x3 dL_law_270 ?_
  refine z_aload_n B dL_law_271 rfl 4 rfl ?_
  refine z_iload B dL_law_272 0 rfl ?_
  refine z_iconst (v := 4) B dL_law_274 (by decide) ?_
  refine z_iadd B dL_law_275 ?_
  refine z_seti (y := 4) (by decide) ?_
  refine z_sld (j := 4) (x := x4) B hX hbl hbA (by decide) (show ¬ ((4 : Int32) < 0 ∨ 6 ≤ (4 : Int32).toNatClampNeg) by decide) h_x4 dL_law_276 ?_
  refine z_aload_n B dL_law_277 rfl 4 rfl ?_
  refine z_iload B dL_law_278 0 rfl ?_
  refine z_iconst (v := 5) B dL_law_280 (by decide) ?_
  refine z_iadd B dL_law_281 ?_
  refine z_seti (y := 5) (by decide) ?_
  refine z_sld (j := 5) (x := x5) B hX hbl hbA (by decide) (show ¬ ((5 : Int32) < 0 ∨ 6 ≤ (5 : Int32).toNatClampNeg) by decide) h_x5 dL_law_282 ?_
  refine z_aload_n B dL_law_283 rfl 1 rfl ?_
  refine z_cSWi (As := [.ref (b + 0), .int 5, .int x2, .int x3, .int x4, .int x5, .ref (b + 431)]) (rest := []) B cw_L_84 dL_law_284 (ci_L_check_599 l hlt (σ := (ap b σ [] [] [])) (b := b) (lyA hK) x2 x3 x4 x5 q1_x2 q2_x2 (rR_at 0 0 (fz_R hF 0 0 rfl rfl)) (rR_at 1 5 (fz_R hF 1 5 rfl rfl))) rfl (by decide) rfl (Nat.le_of_ble_eq_true rfl) (by decide) (fun r u hu => ?_)
  obtain ⟨hu1, z, hu⟩ := hu
  refine z_eqs (σ' := (ap b (wx_Z σ z) [] [] [])) (hu.trans az_ap) ?_
  show zx p l e _ s m _ below meth c g 8 _ _ _ _ 287 [(4, .int 0), (3, .ref (b + 431)), (2, .ref (b + 405)), (1, .ref (b + 0)), (0, .ref bS)] _
  refine z_seti (y := 1) hu1 ?_
  refine z_istore (lv' := [(5, .int 1), (4, .int 0), (3, .ref (b + 431)), (2, .ref (b + 405)), (1, .ref (b + 0)), (0, .ref bS)]) B dL_law_287 (by decide) rfl ?_
  refine z_aload_n B dL_law_289 rfl 3 rfl ?_
  refine z_aload_n B dL_law_290 rfl 5 rfl ?_
  refine z_iload B dL_law_291 1 rfl ?_
  refine z_iconst (v := 1) B dL_law_293 (by decide) ?_
  refine z_iadd B dL_law_294 ?_
  refine z_seti (y := 1) (by decide) ?_
  refine z_sld (j := 1) (x := 5) B hX hbl hbA (by decide) (show ¬ ((1 : Int32) < 0 ∨ 6 ≤ (1 : Int32).toNatClampNeg) by decide) h_x1 dL_law_295 ?_
  refine z_aload_n B dL_law_296 rfl 5 rfl ?_
  refine z_iload B dL_law_297 1 rfl ?_
  refine z_iconst (v := 2) B dL_law_299 (by decide) ?_
  refine z_iadd B dL_law_300 ?_
  refine z_seti (y := 2) (by decide) ?_
  refine z_sld (j := 2) (x := x2) B hX hbl hbA (by decide) (show ¬ ((2 : Int32) < 0 ∨ 6 ≤ (2 : Int32).toNatClampNeg) by decide) h_x2 dL_law_301 ?_
  refine z_aload_n B dL_law_302 rfl 5 rfl ?_
  refine z_iload B dL_law_303 1 rfl ?_
  refine z_iconst (v := 3) B dL_law_305 (by decide) ?_
  refine z_iadd B dL_law_306 ?_
  refine z_seti (y := 3) (by decide) ?_
  refine z_sld (j := 3) (x := x3) B hX hbl hbA (by decide) (show ¬ ((3 : Int32) < 0 ∨ 6 ≤ (3 : Int32).toNatClampNeg) by decide) h_x3 dL_law_307 ?_
  refine z_aload_n B dL_law_308 rfl 5 rfl ?_
  refine z_iload B dL_law_309 1 rfl ?_
  refine z_iconst (v := 4) B dL_law_311 (by decide) ?_
  refine z_iadd B dL_law_312 ?_
  refine z_seti (y := 4) (by decide) ?_
  refine z_sld (j := 4) (x := x4) B hX hbl hbA (by decide) (show ¬ ((4 : Int32) < 0 ∨ 6 ≤ (4 : Int32).toNatClampNeg) by decide) h_x4 dL_law_313 ?_
  refine z_aload_n B dL_law_314 rfl 5 rfl ?_
  refine z_iload B dL_law_315 1 rfl ?_
  refine z_iconst (v := 5) B dL_law_317 (by decide) ?_
  refine z_iadd B dL_law_318 ?_
  refine z_seti (y := 5) (by decide) ?_
  refine z_sld (j := 5) (x := x5) B hX hbl hbA (by decide) (show ¬ ((5 : Int32) < 0 ∨ 6 ≤ (5 : Int32).toNatClampNeg) by decide) h_x5 dL_law_319 ?_
  refine z_cVi (As := [.int 5, .int x2, .int x3, .int x4, .int x5]) (rest := []) B cw_L_86 cx_10 dL_law_320 (ci_X9_check_605 l (σ := (ap b (wx_Z σ z) [] [] [])) (b := b) (lyA (lyZ hK)) x2 x3 x4 x5 q1_x2 q2_x2 q1_x3 q2_x3 q1_x4 q2_x4) (lKA (lKZ (hk_K hK 405 rfl rfl))) rfl (by decide) rfl (Nat.le_of_ble_eq_true rfl) (by decide) (fun r u hu => ?_)
  refine z_eqs (σ' := (ap b (wx_Z σ z) [(405, 0, 1)] [] [])) (hu.2.trans ap_ap) ?_
  show zx p l e _ s m _ below meth c g 8 _ _ _ _ 323 [(5, .int 1), (4, .int 0), (3, .ref (b + 431)), (2, .ref (b + 405)), (1, .ref (b + 0)), (0, .ref bS)] _
  refine z_seti (y := 0) hu.1 ?_
  refine z_istore (lv' := [(6, .int 0), (5, .int 1), (4, .int 0), (3, .ref (b + 431)), (2, .ref (b + 405)), (1, .ref (b + 0)), (0, .ref bS)]) B dL_law_323 (by decide) rfl ?_
  refine z_aload_n B dL_law_325 rfl 4 rfl ?_
  refine z_cVi (As := []) (rest := []) B cw_L_80 cx_10 dL_law_326 (ci_X9_thrown_31 l (σ := (ap b (wx_Z σ z) [(405, 0, 1)] [] [])) (b := b) (lyA (lyZ hK)) (rI_at 405 0 rfl)) (lKA (lKZ (hk_K hK 405 rfl rfl))) rfl (by decide) rfl (Nat.le_of_ble_eq_true rfl) (by decide) (fun r u hu => ?_)
  refine z_eqs (σ' := (ap b (wx_Z σ z) [(405, 0, 1)] [] [])) hu.2 ?_
  show zx p l e _ s m _ below meth c g 8 _ _ _ _ 329 [(6, .int 0), (5, .int 1), (4, .int 0), (3, .ref (b + 431)), (2, .ref (b + 405)), (1, .ref (b + 0)), (0, .ref bS)] _
  refine z_seti (y := 1) hu.1 ?_
  refine z_iload B dL_law_329 1 rfl ?_
  refine z_icmp_eq (tgt := 336) B dL_law_331 (by decide) (fun _ => ?_) (fun h => absurd (by decide) h)
  refine z_iload B dL_law_336 1 rfl ?_
  refine z_if_ne (tgt := 353) B dL_law_338 (by decide) (fun _ => ?_) (fun h => absurd h (by decide))
  refine z_goto (tgt := 1395) B dL_law_353 (by decide) ?_
  exact z_widen (Nat.le_of_ble_eq_true rfl) (Nat.le_of_ble_eq_true rfl) (z_sub _ [2, 6] rfl (kk _))
set_option maxRecDepth 100000 in
set_option maxHeartbeats 4000000 in
theorem lf_1_258 {p : Program} {l : Launch} {e : Env} {s : State} {m : MethodId} {args : Array Value} {below : List Frame} {meth : Method} {c : Code} {g : gx_T} {Q : State → Prop} {σ : sx_T} {b t bS : Nat} {xs : Nat → Int32} (hlt : l.stackTraces = false) (B : zx_B p s m args meth c code RL 8 g) (hX : va_X bS 6 xs s s.heap) (hbl : bS < s.heap.size) (hbA : ¬ gx_b g ≤ bS) (hF : fz_P b t σ) (h_x1 : xs 1 = 5) {x2 : Int32} (h_x2 : xs 2 = x2) (q1_x2 : (-2147483648 : Int) ≤ x2.toInt) (q2_x2 : x2.toInt ≤ (-1 : Int)) {x3 : Int32} (h_x3 : xs 3 = x3) (q1_x3 : (18 : Int) ≤ x3.toInt) (q2_x3 : x3.toInt ≤ (2147483647 : Int)) {x4 : Int32} (h_x4 : xs 4 = x4) (q1_x4 : (-2147483648 : Int) ≤ x4.toInt) (q2_x4 : x4.toInt ≤ (2147483647 : Int)) {x5 : Int32} (h_x5 : xs 5 = x5) (q1_x5 : (-2147483648 : Int) ≤ x5.toInt) (q2_x5 : x5.toInt ≤ (2147483647 : Int)) (kk : ∀ σ', zx p l e room_1 s m args below meth c g 8 600002 7302232 Q σ' 1395 [(4, .int 0), (0, .ref bS)] []) : zx p l e room_1 s m args below meth c g 8 500 100000 Q σ 252 [(4, .int 0), (3, .ref (b + 431)), (2, .ref (b + 405)), (1, .ref (b + 0)), (0, .ref bS)] [] := by
  have hK := fz_lay hF
  refine z_eqs (σ' := (ap b σ [] [] [])) rfl ?_
  refine z_aload_n B dL_law_252 rfl 3 rfl ?_
  refine z_aload_n B dL_law_253 rfl 4 rfl ?_
  refine z_iload B dL_law_254 0 rfl ?_
  refine z_iconst (v := 1) B dL_law_256 (by decide) ?_
  refine z_iadd B dL_law_257 ?_
  refine z_seti (y := 1) (by decide) ?_
  refine z_sld (j := 1) (x := 5) B hX hbl hbA (by decide) (show ¬ ((1 : Int32) < 0 ∨ 6 ≤ (1 : Int32).toNatClampNeg) by decide) h_x1 dL_law_258 ?_
  refine z_aload_n B dL_law_259 rfl 4 rfl ?_
  refine z_iload B dL_law_260 0 rfl ?_
  refine z_iconst (v := 2) B dL_law_262 (by decide) ?_
  refine z_iadd B dL_law_263 ?_
  refine z_seti (y := 2) (by decide) ?_
  refine z_sld (j := 2) (x := x2) B hX hbl hbA (by decide) (show ¬ ((2 : Int32) < 0 ∨ 6 ≤ (2 : Int32).toNatClampNeg) by decide) h_x2 dL_law_264 ?_
  refine z_aload_n B dL_law_265 rfl 4 rfl ?_
  refine z_iload B dL_law_266 0 rfl ?_
  refine z_iconst (v := 3) B dL_law_268 (by decide) ?_
  refine z_iadd B dL_law_269 ?_
  refine z_seti (y := 3) (by decide) ?_
  refine z_sld (j := 3) (x := x3) B hX hbl hbA (by decide) (show ¬ ((3 : Int32) < 0 ∨ 6 ≤ (3 : Int32).toNatClampNeg) by decide) h_x3 dL_law_270 ?_
  refine z_aload_n B dL_law_271 rfl 4 rfl ?_
  refine z_iload B dL_law_272 0 rfl ?_
  refine z_iconst (v := 4) B dL_law_274 (by decide) ?_
  refine z_iadd B dL_law_275 ?_
  refine z_seti (y := 4) (by decide) ?_
  refine z_sld (j := 4) (x := x4) B hX hbl hbA (by decide) (show ¬ ((4 : Int32) < 0 ∨ 6 ≤ (4 : Int32).toNatClampNeg) by decide) h_x4 dL_law_276 ?_
  refine z_aload_n B dL_law_277 rfl 4 rfl ?_
  refine z_iload B dL_law_278 0 rfl ?_
  refine z_iconst (v := 5) B dL_law_280 (by decide) ?_
  refine z_iadd B dL_law_281 ?_
  refine z_seti (y := 5) (by decide) ?_
  refine z_sld (j := 5) (x := x5) B hX hbl hbA (by decide) (show ¬ ((5 : Int32) < 0 ∨ 6 ≤ (5 : Int32).toNatClampNeg) by decide) h_x5 dL_law_282 ?_
  refine z_aload_n B dL_law_283 rfl 1 rfl ?_
  refine z_cSWi (As := [.ref (b + 0), .int 5, .int x2, .int x3, .int x4, .int x5, .ref (b + 431)]) (rest := []) B cw_L_84 dL_law_284 (ci_L_check_599 l hlt (σ := (ap b σ [] [] [])) (b := b) (lyA hK) x2 x3 x4 x5 q1_x2 q2_x2 (rR_at 0 0 (fz_R hF 0 0 rfl rfl)) (rR_at 1 5 (fz_R hF 1 5 rfl rfl))) rfl (by decide) rfl (Nat.le_of_ble_eq_true rfl) (by decide) (fun r u hu => ?_)
  obtain ⟨hu1, z, hu⟩ := hu
  refine z_eqs (σ' := (ap b (wx_Z σ z) [] [] [])) (hu.trans az_ap) ?_
  show zx p l e _ s m _ below meth c g 8 _ _ _ _ 287 [(4, .int 0), (3, .ref (b + 431)), (2, .ref (b + 405)), (1, .ref (b + 0)), (0, .ref bS)] _
  refine z_seti (y := 1) hu1 ?_
  refine z_istore (lv' := [(5, .int 1), (4, .int 0), (3, .ref (b + 431)), (2, .ref (b + 405)), (1, .ref (b + 0)), (0, .ref bS)]) B dL_law_287 (by decide) rfl ?_
  refine z_aload_n B dL_law_289 rfl 3 rfl ?_
  refine z_aload_n B dL_law_290 rfl 5 rfl ?_
  refine z_iload B dL_law_291 1 rfl ?_
  refine z_iconst (v := 1) B dL_law_293 (by decide) ?_
  refine z_iadd B dL_law_294 ?_
  refine z_seti (y := 1) (by decide) ?_
  refine z_sld (j := 1) (x := 5) B hX hbl hbA (by decide) (show ¬ ((1 : Int32) < 0 ∨ 6 ≤ (1 : Int32).toNatClampNeg) by decide) h_x1 dL_law_295 ?_
  refine z_aload_n B dL_law_296 rfl 5 rfl ?_
  refine z_iload B dL_law_297 1 rfl ?_
  refine z_iconst (v := 2) B dL_law_299 (by decide) ?_
  refine z_iadd B dL_law_300 ?_
  refine z_seti (y := 2) (by decide) ?_
  refine z_sld (j := 2) (x := x2) B hX hbl hbA (by decide) (show ¬ ((2 : Int32) < 0 ∨ 6 ≤ (2 : Int32).toNatClampNeg) by decide) h_x2 dL_law_301 ?_
  refine z_aload_n B dL_law_302 rfl 5 rfl ?_
  refine z_iload B dL_law_303 1 rfl ?_
  refine z_iconst (v := 3) B dL_law_305 (by decide) ?_
  refine z_iadd B dL_law_306 ?_
  refine z_seti (y := 3) (by decide) ?_
  refine z_sld (j := 3) (x := x3) B hX hbl hbA (by decide) (show ¬ ((3 : Int32) < 0 ∨ 6 ≤ (3 : Int32).toNatClampNeg) by decide) h_x3 dL_law_307 ?_
  refine z_aload_n B dL_law_308 rfl 5 rfl ?_
  refine z_iload B dL_law_309 1 rfl ?_
  refine z_iconst (v := 4) B dL_law_311 (by decide) ?_
  refine z_iadd B dL_law_312 ?_
  refine z_seti (y := 4) (by decide) ?_
  refine z_sld (j := 4) (x := x4) B hX hbl hbA (by decide) (show ¬ ((4 : Int32) < 0 ∨ 6 ≤ (4 : Int32).toNatClampNeg) by decide) h_x4 dL_law_313 ?_
  refine z_aload_n B dL_law_314 rfl 5 rfl ?_
  refine z_iload B dL_law_315 1 rfl ?_
  refine z_iconst (v := 5) B dL_law_317 (by decide) ?_
  refine z_iadd B dL_law_318 ?_
  refine z_seti (y := 5) (by decide) ?_
  refine z_sld (j := 5) (x := x5) B hX hbl hbA (by decide) (show ¬ ((5 : Int32) < 0 ∨ 6 ≤ (5 : Int32).toNatClampNeg) by decide) h_x5 dL_law_319 ?_
  refine z_cVi (As := [.int 5, .int x2, .int x3, .int x4, .int x5]) (rest := []) B cw_L_86 cx_10 dL_law_320 (ci_X9_check_606 l (σ := (ap b (wx_Z σ z) [] [] [])) (b := b) (lyA (lyZ hK)) x2 x3 x4 x5 q1_x2 q2_x2 q1_x3 q2_x3) (lKA (lKZ (hk_K hK 405 rfl rfl))) rfl (by decide) rfl (Nat.le_of_ble_eq_true rfl) (by decide) (fun r u hu => ?_)
  refine z_eqs (σ' := (ap b (wx_Z σ z) [(405, 0, 1)] [] [])) (hu.2.trans ap_ap) ?_
  show zx p l e _ s m _ below meth c g 8 _ _ _ _ 323 [(5, .int 1), (4, .int 0), (3, .ref (b + 431)), (2, .ref (b + 405)), (1, .ref (b + 0)), (0, .ref bS)] _
  refine z_seti (y := 0) hu.1 ?_
  refine z_istore (lv' := [(6, .int 0), (5, .int 1), (4, .int 0), (3, .ref (b + 431)), (2, .ref (b + 405)), (1, .ref (b + 0)), (0, .ref bS)]) B dL_law_323 (by decide) rfl ?_
  refine z_aload_n B dL_law_325 rfl 4 rfl ?_
  refine z_cVi (As := []) (rest := []) B cw_L_80 cx_10 dL_law_326 (ci_X9_thrown_31 l (σ := (ap b (wx_Z σ z) [(405, 0, 1)] [] [])) (b := b) (lyA (lyZ hK)) (rI_at 405 0 rfl)) (lKA (lKZ (hk_K hK 405 rfl rfl))) rfl (by decide) rfl (Nat.le_of_ble_eq_true rfl) (by decide) (fun r u hu => ?_)
  refine z_eqs (σ' := (ap b (wx_Z σ z) [(405, 0, 1)] [] [])) hu.2 ?_
  show zx p l e _ s m _ below meth c g 8 _ _ _ _ 329 [(6, .int 0), (5, .int 1), (4, .int 0), (3, .ref (b + 431)), (2, .ref (b + 405)), (1, .ref (b + 0)), (0, .ref bS)] _
  refine z_seti (y := 1) hu.1 ?_
  refine z_iload B dL_law_329 1 rfl ?_
  refine z_icmp_eq (tgt := 336) B dL_law_331 (by decide) (fun _ => ?_) (fun h => absurd (by decide) h)
  refine z_iload B dL_law_336 1 rfl ?_
  refine z_if_ne (tgt := 353) B dL_law_338 (by decide) (fun _ => ?_) (fun h => absurd h (by decide))
  refine z_goto (tgt := 1395) B dL_law_353 (by decide) ?_
  exact z_widen (Nat.le_of_ble_eq_true rfl) (Nat.le_of_ble_eq_true rfl) (z_sub _ [2, 6] rfl (kk _))
set_option maxRecDepth 100000 in
set_option maxHeartbeats 4000000 in
theorem lf_1_259 {p : Program} {l : Launch} {e : Env} {s : State} {m : MethodId} {args : Array Value} {below : List Frame} {meth : Method} {c : Code} {g : gx_T} {Q : State → Prop} {σ : sx_T} {b t bS : Nat} {xs : Nat → Int32} (hlt : l.stackTraces = false) (B : zx_B p s m args meth c code RL 8 g) (hX : va_X bS 6 xs s s.heap) (hbl : bS < s.heap.size) (hbA : ¬ gx_b g ≤ bS) (hF : fz_P b t σ) (h_x1 : xs 1 = 5) {x2 : Int32} (h_x2 : xs 2 = x2) (q1_x2 : (0 : Int) ≤ x2.toInt) (q2_x2 : x2.toInt ≤ (19 : Int)) {x3 : Int32} (h_x3 : xs 3 = x3) (q1_x3 : (-2147483648 : Int) ≤ x3.toInt) (q2_x3 : x3.toInt ≤ (-1 : Int)) {x4 : Int32} (h_x4 : xs 4 = x4) (q1_x4 : (-2147483648 : Int) ≤ x4.toInt) (q2_x4 : x4.toInt ≤ (2147483647 : Int)) {x5 : Int32} (h_x5 : xs 5 = x5) (q1_x5 : (-2147483648 : Int) ≤ x5.toInt) (q2_x5 : x5.toInt ≤ (2147483647 : Int)) (kk : ∀ σ', zx p l e room_1 s m args below meth c g 8 600002 7302232 Q σ' 1395 [(4, .int 0), (0, .ref bS)] []) : zx p l e room_1 s m args below meth c g 8 500 100000 Q σ 252 [(4, .int 0), (3, .ref (b + 431)), (2, .ref (b + 405)), (1, .ref (b + 0)), (0, .ref bS)] [] := by
  have hK := fz_lay hF
  refine z_eqs (σ' := (ap b σ [] [] [])) rfl ?_
  refine z_aload_n B dL_law_252 rfl 3 rfl ?_
  refine z_aload_n B dL_law_253 rfl 4 rfl ?_
  refine z_iload B dL_law_254 0 rfl ?_
  refine z_iconst (v := 1) B dL_law_256 (by decide) ?_
  refine z_iadd B dL_law_257 ?_
  refine z_seti (y := 1) (by decide) ?_
  refine z_sld (j := 1) (x := 5) B hX hbl hbA (by decide) (show ¬ ((1 : Int32) < 0 ∨ 6 ≤ (1 : Int32).toNatClampNeg) by decide) h_x1 dL_law_258 ?_
  refine z_aload_n B dL_law_259 rfl 4 rfl ?_
  refine z_iload B dL_law_260 0 rfl ?_
  refine z_iconst (v := 2) B dL_law_262 (by decide) ?_
  refine z_iadd B dL_law_263 ?_
  refine z_seti (y := 2) (by decide) ?_
  refine z_sld (j := 2) (x := x2) B hX hbl hbA (by decide) (show ¬ ((2 : Int32) < 0 ∨ 6 ≤ (2 : Int32).toNatClampNeg) by decide) h_x2 dL_law_264 ?_
  refine z_aload_n B dL_law_265 rfl 4 rfl ?_
  refine z_iload B dL_law_266 0 rfl ?_
  refine z_iconst (v := 3) B dL_law_268 (by decide) ?_
  refine z_iadd B dL_law_269 ?_
  refine z_seti (y := 3) (by decide) ?_
  refine z_sld (j := 3) (x := x3) B hX hbl hbA (by decide) (show ¬ ((3 : Int32) < 0 ∨ 6 ≤ (3 : Int32).toNatClampNeg) by decide) h_x3 dL_law_270 ?_
  refine z_aload_n B dL_law_271 rfl 4 rfl ?_
  refine z_iload B dL_law_272 0 rfl ?_
  refine z_iconst (v := 4) B dL_law_274 (by decide) ?_
  refine z_iadd B dL_law_275 ?_
  refine z_seti (y := 4) (by decide) ?_
  refine z_sld (j := 4) (x := x4) B hX hbl hbA (by decide) (show ¬ ((4 : Int32) < 0 ∨ 6 ≤ (4 : Int32).toNatClampNeg) by decide) h_x4 dL_law_276 ?_
  refine z_aload_n B dL_law_277 rfl 4 rfl ?_
  refine z_iload B dL_law_278 0 rfl ?_
  refine z_iconst (v := 5) B dL_law_280 (by decide) ?_
  refine z_iadd B dL_law_281 ?_
  refine z_seti (y := 5) (by decide) ?_
  refine z_sld (j := 5) (x := x5) B hX hbl hbA (by decide) (show ¬ ((5 : Int32) < 0 ∨ 6 ≤ (5 : Int32).toNatClampNeg) by decide) h_x5 dL_law_282 ?_
  refine z_aload_n B dL_law_283 rfl 1 rfl ?_
  refine z_cSWi (As := [.ref (b + 0), .int 5, .int x2, .int x3, .int x4, .int x5, .ref (b + 431)]) (rest := []) B cw_L_84 dL_law_284 (ci_L_check_608 l hlt (σ := (ap b σ [] [] [])) (b := b) (lyA hK) x2 x3 x4 x5 q1_x2 q2_x2 q1_x3 q2_x3 (rR_at 0 0 (fz_R hF 0 0 rfl rfl)) (rR_at 1 5 (fz_R hF 1 5 rfl rfl))) rfl (by decide) rfl (Nat.le_of_ble_eq_true rfl) (by decide) (fun r u hu => ?_)
  obtain ⟨hu1, z, hu⟩ := hu
  refine z_eqs (σ' := (ap b (wx_Z σ z) [] [] [])) (hu.trans az_ap) ?_
  show zx p l e _ s m _ below meth c g 8 _ _ _ _ 287 [(4, .int 0), (3, .ref (b + 431)), (2, .ref (b + 405)), (1, .ref (b + 0)), (0, .ref bS)] _
  refine z_seti (y := 2) hu1 ?_
  refine z_istore (lv' := [(5, .int 2), (4, .int 0), (3, .ref (b + 431)), (2, .ref (b + 405)), (1, .ref (b + 0)), (0, .ref bS)]) B dL_law_287 (by decide) rfl ?_
  refine z_aload_n B dL_law_289 rfl 3 rfl ?_
  refine z_aload_n B dL_law_290 rfl 5 rfl ?_
  refine z_iload B dL_law_291 1 rfl ?_
  refine z_iconst (v := 1) B dL_law_293 (by decide) ?_
  refine z_iadd B dL_law_294 ?_
  refine z_seti (y := 1) (by decide) ?_
  refine z_sld (j := 1) (x := 5) B hX hbl hbA (by decide) (show ¬ ((1 : Int32) < 0 ∨ 6 ≤ (1 : Int32).toNatClampNeg) by decide) h_x1 dL_law_295 ?_
  refine z_aload_n B dL_law_296 rfl 5 rfl ?_
  refine z_iload B dL_law_297 1 rfl ?_
  refine z_iconst (v := 2) B dL_law_299 (by decide) ?_
  refine z_iadd B dL_law_300 ?_
  refine z_seti (y := 2) (by decide) ?_
  refine z_sld (j := 2) (x := x2) B hX hbl hbA (by decide) (show ¬ ((2 : Int32) < 0 ∨ 6 ≤ (2 : Int32).toNatClampNeg) by decide) h_x2 dL_law_301 ?_
  refine z_aload_n B dL_law_302 rfl 5 rfl ?_
  refine z_iload B dL_law_303 1 rfl ?_
  refine z_iconst (v := 3) B dL_law_305 (by decide) ?_
  refine z_iadd B dL_law_306 ?_
  refine z_seti (y := 3) (by decide) ?_
  refine z_sld (j := 3) (x := x3) B hX hbl hbA (by decide) (show ¬ ((3 : Int32) < 0 ∨ 6 ≤ (3 : Int32).toNatClampNeg) by decide) h_x3 dL_law_307 ?_
  refine z_aload_n B dL_law_308 rfl 5 rfl ?_
  refine z_iload B dL_law_309 1 rfl ?_
  refine z_iconst (v := 4) B dL_law_311 (by decide) ?_
  refine z_iadd B dL_law_312 ?_
  refine z_seti (y := 4) (by decide) ?_
  refine z_sld (j := 4) (x := x4) B hX hbl hbA (by decide) (show ¬ ((4 : Int32) < 0 ∨ 6 ≤ (4 : Int32).toNatClampNeg) by decide) h_x4 dL_law_313 ?_
  refine z_aload_n B dL_law_314 rfl 5 rfl ?_
  refine z_iload B dL_law_315 1 rfl ?_
  refine z_iconst (v := 5) B dL_law_317 (by decide) ?_
  refine z_iadd B dL_law_318 ?_
  refine z_seti (y := 5) (by decide) ?_
  refine z_sld (j := 5) (x := x5) B hX hbl hbA (by decide) (show ¬ ((5 : Int32) < 0 ∨ 6 ≤ (5 : Int32).toNatClampNeg) by decide) h_x5 dL_law_319 ?_
  refine z_cVi (As := [.int 5, .int x2, .int x3, .int x4, .int x5]) (rest := []) B cw_L_86 cx_10 dL_law_320 (ci_X9_check_609 l (σ := (ap b (wx_Z σ z) [] [] [])) (b := b) (lyA (lyZ hK)) x2 x3 x4 x5 q1_x2 q2_x2 q1_x3 q2_x3) (lKA (lKZ (hk_K hK 405 rfl rfl))) rfl (by decide) rfl (Nat.le_of_ble_eq_true rfl) (by decide) (fun r u hu => ?_)
  refine z_eqs (σ' := (ap b (wx_Z σ z) [(405, 0, 2)] [] [])) (hu.2.trans ap_ap) ?_
  show zx p l e _ s m _ below meth c g 8 _ _ _ _ 323 [(5, .int 2), (4, .int 0), (3, .ref (b + 431)), (2, .ref (b + 405)), (1, .ref (b + 0)), (0, .ref bS)] _
  refine z_seti (y := 0) hu.1 ?_
  refine z_istore (lv' := [(6, .int 0), (5, .int 2), (4, .int 0), (3, .ref (b + 431)), (2, .ref (b + 405)), (1, .ref (b + 0)), (0, .ref bS)]) B dL_law_323 (by decide) rfl ?_
  refine z_aload_n B dL_law_325 rfl 4 rfl ?_
  refine z_cVi (As := []) (rest := []) B cw_L_80 cx_10 dL_law_326 (ci_X9_thrown_73 l (σ := (ap b (wx_Z σ z) [(405, 0, 2)] [] [])) (b := b) (lyA (lyZ hK)) (rI_at 405 0 rfl)) (lKA (lKZ (hk_K hK 405 rfl rfl))) rfl (by decide) rfl (Nat.le_of_ble_eq_true rfl) (by decide) (fun r u hu => ?_)
  refine z_eqs (σ' := (ap b (wx_Z σ z) [(405, 0, 2)] [] [])) hu.2 ?_
  show zx p l e _ s m _ below meth c g 8 _ _ _ _ 329 [(6, .int 0), (5, .int 2), (4, .int 0), (3, .ref (b + 431)), (2, .ref (b + 405)), (1, .ref (b + 0)), (0, .ref bS)] _
  refine z_seti (y := 2) hu.1 ?_
  refine z_iload B dL_law_329 1 rfl ?_
  refine z_icmp_eq (tgt := 336) B dL_law_331 (by decide) (fun _ => ?_) (fun h => absurd (by decide) h)
  refine z_iload B dL_law_336 1 rfl ?_
  refine z_if_ne (tgt := 353) B dL_law_338 (by decide) (fun _ => ?_) (fun h => absurd h (by decide))
  refine z_goto (tgt := 1395) B dL_law_353 (by decide) ?_
  exact z_widen (Nat.le_of_ble_eq_true rfl) (Nat.le_of_ble_eq_true rfl) (z_sub _ [2, 6] rfl (kk _))
set_option maxRecDepth 100000 in
set_option maxHeartbeats 4000000 in
theorem lf_1_260 {p : Program} {l : Launch} {e : Env} {s : State} {m : MethodId} {args : Array Value} {below : List Frame} {meth : Method} {c : Code} {g : gx_T} {Q : State → Prop} {σ : sx_T} {b t bS : Nat} {xs : Nat → Int32} (hlt : l.stackTraces = false) (B : zx_B p s m args meth c code RL 8 g) (hX : va_X bS 6 xs s s.heap) (hbl : bS < s.heap.size) (hbA : ¬ gx_b g ≤ bS) (hF : fz_P b t σ) (h_x1 : xs 1 = 5) {x2 : Int32} (h_x2 : xs 2 = x2) (q1_x2 : (0 : Int) ≤ x2.toInt) (q2_x2 : x2.toInt ≤ (19 : Int)) {x3 : Int32} (h_x3 : xs 3 = x3) (q1_x3 : (0 : Int) ≤ x3.toInt) (q2_x3 : x3.toInt ≤ (17 : Int)) {x4 : Int32} (h_x4 : xs 4 = x4) (q1_x4 : (-2147483648 : Int) ≤ x4.toInt) (q2_x4 : x4.toInt ≤ (-1 : Int)) {x5 : Int32} (h_x5 : xs 5 = x5) (q1_x5 : (-2147483648 : Int) ≤ x5.toInt) (q2_x5 : x5.toInt ≤ (2147483647 : Int)) (kk : ∀ σ', zx p l e room_1 s m args below meth c g 8 600002 7302232 Q σ' 1395 [(4, .int 0), (0, .ref bS)] []) : zx p l e room_1 s m args below meth c g 8 500 100000 Q σ 252 [(4, .int 0), (3, .ref (b + 431)), (2, .ref (b + 405)), (1, .ref (b + 0)), (0, .ref bS)] [] := by
  have hK := fz_lay hF
  refine z_eqs (σ' := (ap b σ [] [] [])) rfl ?_
  refine z_aload_n B dL_law_252 rfl 3 rfl ?_
  refine z_aload_n B dL_law_253 rfl 4 rfl ?_
  refine z_iload B dL_law_254 0 rfl ?_
  refine z_iconst (v := 1) B dL_law_256 (by decide) ?_
  refine z_iadd B dL_law_257 ?_
  refine z_seti (y := 1) (by decide) ?_
  refine z_sld (j := 1) (x := 5) B hX hbl hbA (by decide) (show ¬ ((1 : Int32) < 0 ∨ 6 ≤ (1 : Int32).toNatClampNeg) by decide) h_x1 dL_law_258 ?_
  refine z_aload_n B dL_law_259 rfl 4 rfl ?_
  refine z_iload B dL_law_260 0 rfl ?_
  refine z_iconst (v := 2) B dL_law_262 (by decide) ?_
  refine z_iadd B dL_law_263 ?_
  refine z_seti (y := 2) (by decide) ?_
  refine z_sld (j := 2) (x := x2) B hX hbl hbA (by decide) (show ¬ ((2 : Int32) < 0 ∨ 6 ≤ (2 : Int32).toNatClampNeg) by decide) h_x2 dL_law_264 ?_
  refine z_aload_n B dL_law_265 rfl 4 rfl ?_
  refine z_iload B dL_law_266 0 rfl ?_
  refine z_iconst (v := 3) B dL_law_268 (by decide) ?_
  refine z_iadd B dL_law_269 ?_
  refine z_seti (y := 3) (by decide) ?_
  refine z_sld (j := 3) (x := x3) B hX hbl hbA (by decide) (show ¬ ((3 : Int32) < 0 ∨ 6 ≤ (3 : Int32).toNatClampNeg) by decide) h_x3 dL_law_270 ?_
  refine z_aload_n B dL_law_271 rfl 4 rfl ?_
  refine z_iload B dL_law_272 0 rfl ?_
  refine z_iconst (v := 4) B dL_law_274 (by decide) ?_
  refine z_iadd B dL_law_275 ?_
  refine z_seti (y := 4) (by decide) ?_
  refine z_sld (j := 4) (x := x4) B hX hbl hbA (by decide) (show ¬ ((4 : Int32) < 0 ∨ 6 ≤ (4 : Int32).toNatClampNeg) by decide) h_x4 dL_law_276 ?_
  refine z_aload_n B dL_law_277 rfl 4 rfl ?_
  refine z_iload B dL_law_278 0 rfl ?_
  refine z_iconst (v := 5) B dL_law_280 (by decide) ?_
  refine z_iadd B dL_law_281 ?_
  refine z_seti (y := 5) (by decide) ?_
  refine z_sld (j := 5) (x := x5) B hX hbl hbA (by decide) (show ¬ ((5 : Int32) < 0 ∨ 6 ≤ (5 : Int32).toNatClampNeg) by decide) h_x5 dL_law_282 ?_
  refine z_aload_n B dL_law_283 rfl 1 rfl ?_
  refine z_cSWi (As := [.ref (b + 0), .int 5, .int x2, .int x3, .int x4, .int x5, .ref (b + 431)]) (rest := []) B cw_L_84 dL_law_284 (ci_L_check_611 l hlt (σ := (ap b σ [] [] [])) (b := b) (lyA hK) x2 x3 x4 x5 q1_x2 q2_x2 q1_x3 q2_x3 q1_x4 q2_x4 (rR_at 0 0 (fz_R hF 0 0 rfl rfl)) (rR_at 1 5 (fz_R hF 1 5 rfl rfl))) rfl (by decide) rfl (Nat.le_of_ble_eq_true rfl) (by decide) (fun r u hu => ?_)
  obtain ⟨hu1, z, hu⟩ := hu
  refine z_eqs (σ' := (ap b (wx_Z σ z) [] [] [])) (hu.trans az_ap) ?_
  show zx p l e _ s m _ below meth c g 8 _ _ _ _ 287 [(4, .int 0), (3, .ref (b + 431)), (2, .ref (b + 405)), (1, .ref (b + 0)), (0, .ref bS)] _
  refine z_seti (y := 2) hu1 ?_
  refine z_istore (lv' := [(5, .int 2), (4, .int 0), (3, .ref (b + 431)), (2, .ref (b + 405)), (1, .ref (b + 0)), (0, .ref bS)]) B dL_law_287 (by decide) rfl ?_
  refine z_aload_n B dL_law_289 rfl 3 rfl ?_
  refine z_aload_n B dL_law_290 rfl 5 rfl ?_
  refine z_iload B dL_law_291 1 rfl ?_
  refine z_iconst (v := 1) B dL_law_293 (by decide) ?_
  refine z_iadd B dL_law_294 ?_
  refine z_seti (y := 1) (by decide) ?_
  refine z_sld (j := 1) (x := 5) B hX hbl hbA (by decide) (show ¬ ((1 : Int32) < 0 ∨ 6 ≤ (1 : Int32).toNatClampNeg) by decide) h_x1 dL_law_295 ?_
  refine z_aload_n B dL_law_296 rfl 5 rfl ?_
  refine z_iload B dL_law_297 1 rfl ?_
  refine z_iconst (v := 2) B dL_law_299 (by decide) ?_
  refine z_iadd B dL_law_300 ?_
  refine z_seti (y := 2) (by decide) ?_
  refine z_sld (j := 2) (x := x2) B hX hbl hbA (by decide) (show ¬ ((2 : Int32) < 0 ∨ 6 ≤ (2 : Int32).toNatClampNeg) by decide) h_x2 dL_law_301 ?_
  refine z_aload_n B dL_law_302 rfl 5 rfl ?_
  refine z_iload B dL_law_303 1 rfl ?_
  refine z_iconst (v := 3) B dL_law_305 (by decide) ?_
  refine z_iadd B dL_law_306 ?_
  refine z_seti (y := 3) (by decide) ?_
  refine z_sld (j := 3) (x := x3) B hX hbl hbA (by decide) (show ¬ ((3 : Int32) < 0 ∨ 6 ≤ (3 : Int32).toNatClampNeg) by decide) h_x3 dL_law_307 ?_
  refine z_aload_n B dL_law_308 rfl 5 rfl ?_
  refine z_iload B dL_law_309 1 rfl ?_
  refine z_iconst (v := 4) B dL_law_311 (by decide) ?_
  refine z_iadd B dL_law_312 ?_
  refine z_seti (y := 4) (by decide) ?_
  refine z_sld (j := 4) (x := x4) B hX hbl hbA (by decide) (show ¬ ((4 : Int32) < 0 ∨ 6 ≤ (4 : Int32).toNatClampNeg) by decide) h_x4 dL_law_313 ?_
  refine z_aload_n B dL_law_314 rfl 5 rfl ?_
  refine z_iload B dL_law_315 1 rfl ?_
  refine z_iconst (v := 5) B dL_law_317 (by decide) ?_
  refine z_iadd B dL_law_318 ?_
  refine z_seti (y := 5) (by decide) ?_
  refine z_sld (j := 5) (x := x5) B hX hbl hbA (by decide) (show ¬ ((5 : Int32) < 0 ∨ 6 ≤ (5 : Int32).toNatClampNeg) by decide) h_x5 dL_law_319 ?_
  refine z_cVi (As := [.int 5, .int x2, .int x3, .int x4, .int x5]) (rest := []) B cw_L_86 cx_10 dL_law_320 (ci_X9_check_612 l (σ := (ap b (wx_Z σ z) [] [] [])) (b := b) (lyA (lyZ hK)) x2 x3 x4 x5 q1_x2 q2_x2 q1_x3 q2_x3 q1_x4 q2_x4) (lKA (lKZ (hk_K hK 405 rfl rfl))) rfl (by decide) rfl (Nat.le_of_ble_eq_true rfl) (by decide) (fun r u hu => ?_)
  refine z_eqs (σ' := (ap b (wx_Z σ z) [(405, 0, 2)] [] [])) (hu.2.trans ap_ap) ?_
  show zx p l e _ s m _ below meth c g 8 _ _ _ _ 323 [(5, .int 2), (4, .int 0), (3, .ref (b + 431)), (2, .ref (b + 405)), (1, .ref (b + 0)), (0, .ref bS)] _
  refine z_seti (y := 0) hu.1 ?_
  refine z_istore (lv' := [(6, .int 0), (5, .int 2), (4, .int 0), (3, .ref (b + 431)), (2, .ref (b + 405)), (1, .ref (b + 0)), (0, .ref bS)]) B dL_law_323 (by decide) rfl ?_
  refine z_aload_n B dL_law_325 rfl 4 rfl ?_
  refine z_cVi (As := []) (rest := []) B cw_L_80 cx_10 dL_law_326 (ci_X9_thrown_73 l (σ := (ap b (wx_Z σ z) [(405, 0, 2)] [] [])) (b := b) (lyA (lyZ hK)) (rI_at 405 0 rfl)) (lKA (lKZ (hk_K hK 405 rfl rfl))) rfl (by decide) rfl (Nat.le_of_ble_eq_true rfl) (by decide) (fun r u hu => ?_)
  refine z_eqs (σ' := (ap b (wx_Z σ z) [(405, 0, 2)] [] [])) hu.2 ?_
  show zx p l e _ s m _ below meth c g 8 _ _ _ _ 329 [(6, .int 0), (5, .int 2), (4, .int 0), (3, .ref (b + 431)), (2, .ref (b + 405)), (1, .ref (b + 0)), (0, .ref bS)] _
  refine z_seti (y := 2) hu.1 ?_
  refine z_iload B dL_law_329 1 rfl ?_
  refine z_icmp_eq (tgt := 336) B dL_law_331 (by decide) (fun _ => ?_) (fun h => absurd (by decide) h)
  refine z_iload B dL_law_336 1 rfl ?_
  refine z_if_ne (tgt := 353) B dL_law_338 (by decide) (fun _ => ?_) (fun h => absurd h (by decide))
  refine z_goto (tgt := 1395) B dL_law_353 (by decide) ?_
  exact z_widen (Nat.le_of_ble_eq_true rfl) (Nat.le_of_ble_eq_true rfl) (z_sub _ [2, 6] rfl (kk _))
set_option maxRecDepth 100000 in
set_option maxHeartbeats 4000000 in
theorem lf_1_261 {p : Program} {l : Launch} {e : Env} {s : State} {m : MethodId} {args : Array Value} {below : List Frame} {meth : Method} {c : Code} {g : gx_T} {Q : State → Prop} {σ : sx_T} {b t bS : Nat} {xs : Nat → Int32} (hlt : l.stackTraces = false) (B : zx_B p s m args meth c code RL 8 g) (hX : va_X bS 6 xs s s.heap) (hbl : bS < s.heap.size) (hbA : ¬ gx_b g ≤ bS) (hF : fz_P b t σ) (h_x1 : xs 1 = 5) {x2 : Int32} (h_x2 : xs 2 = x2) (q1_x2 : (0 : Int) ≤ x2.toInt) (q2_x2 : x2.toInt ≤ (19 : Int)) {x3 : Int32} (h_x3 : xs 3 = x3) (q1_x3 : (0 : Int) ≤ x3.toInt) (q2_x3 : x3.toInt ≤ (17 : Int)) {x4 : Int32} (h_x4 : xs 4 = x4) (q1_x4 : (0 : Int) ≤ x4.toInt) (q2_x4 : x4.toInt ≤ (99 : Int)) {x5 : Int32} (h_x5 : xs 5 = x5) (q1_x5 : (-2147483648 : Int) ≤ x5.toInt) (q2_x5 : x5.toInt ≤ (-1 : Int)) (kk : ∀ σ', zx p l e room_1 s m args below meth c g 8 600002 7302232 Q σ' 1395 [(4, .int 0), (0, .ref bS)] []) : zx p l e room_1 s m args below meth c g 8 500 100000 Q σ 252 [(4, .int 0), (3, .ref (b + 431)), (2, .ref (b + 405)), (1, .ref (b + 0)), (0, .ref bS)] [] := by
  have hK := fz_lay hF
  refine z_eqs (σ' := (ap b σ [] [] [])) rfl ?_
  refine z_aload_n B dL_law_252 rfl 3 rfl ?_
  refine z_aload_n B dL_law_253 rfl 4 rfl ?_
  refine z_iload B dL_law_254 0 rfl ?_
  refine z_iconst (v := 1) B dL_law_256 (by decide) ?_
  refine z_iadd B dL_law_257 ?_
  refine z_seti (y := 1) (by decide) ?_
  refine z_sld (j := 1) (x := 5) B hX hbl hbA (by decide) (show ¬ ((1 : Int32) < 0 ∨ 6 ≤ (1 : Int32).toNatClampNeg) by decide) h_x1 dL_law_258 ?_
  refine z_aload_n B dL_law_259 rfl 4 rfl ?_
  refine z_iload B dL_law_260 0 rfl ?_
  refine z_iconst (v := 2) B dL_law_262 (by decide) ?_
  refine z_iadd B dL_law_263 ?_
  refine z_seti (y := 2) (by decide) ?_
  refine z_sld (j := 2) (x := x2) B hX hbl hbA (by decide) (show ¬ ((2 : Int32) < 0 ∨ 6 ≤ (2 : Int32).toNatClampNeg) by decide) h_x2 dL_law_264 ?_
  refine z_aload_n B dL_law_265 rfl 4 rfl ?_
  refine z_iload B dL_law_266 0 rfl ?_
  refine z_iconst (v := 3) B dL_law_268 (by decide) ?_
  refine z_iadd B dL_law_269 ?_
  refine z_seti (y := 3) (by decide) ?_
  refine z_sld (j := 3) (x := x3) B hX hbl hbA (by decide) (show ¬ ((3 : Int32) < 0 ∨ 6 ≤ (3 : Int32).toNatClampNeg) by decide) h_x3 dL_law_270 ?_
  refine z_aload_n B dL_law_271 rfl 4 rfl ?_
  refine z_iload B dL_law_272 0 rfl ?_
  refine z_iconst (v := 4) B dL_law_274 (by decide) ?_
  refine z_iadd B dL_law_275 ?_
  refine z_seti (y := 4) (by decide) ?_
  refine z_sld (j := 4) (x := x4) B hX hbl hbA (by decide) (show ¬ ((4 : Int32) < 0 ∨ 6 ≤ (4 : Int32).toNatClampNeg) by decide) h_x4 dL_law_276 ?_
  refine z_aload_n B dL_law_277 rfl 4 rfl ?_
  refine z_iload B dL_law_278 0 rfl ?_
  refine z_iconst (v := 5) B dL_law_280 (by decide) ?_
  refine z_iadd B dL_law_281 ?_
  refine z_seti (y := 5) (by decide) ?_
  refine z_sld (j := 5) (x := x5) B hX hbl hbA (by decide) (show ¬ ((5 : Int32) < 0 ∨ 6 ≤ (5 : Int32).toNatClampNeg) by decide) h_x5 dL_law_282 ?_
  refine z_aload_n B dL_law_283 rfl 1 rfl ?_
  refine z_cSWi (As := [.ref (b + 0), .int 5, .int x2, .int x3, .int x4, .int x5, .ref (b + 431)]) (rest := []) B cw_L_84 dL_law_284 (ci_L_check_614 l hlt (σ := (ap b σ [] [] [])) (b := b) (lyA hK) x2 x3 x4 x5 q1_x2 q2_x2 q1_x3 q2_x3 q1_x4 q2_x4 q1_x5 q2_x5 (rR_at 0 0 (fz_R hF 0 0 rfl rfl)) (rR_at 1 5 (fz_R hF 1 5 rfl rfl))) rfl (by decide) rfl (Nat.le_of_ble_eq_true rfl) (by decide) (fun r u hu => ?_)
  obtain ⟨hu1, z, hu⟩ := hu
  refine z_eqs (σ' := (ap b (wx_Z σ z) [] [] [])) (hu.trans az_ap) ?_
  show zx p l e _ s m _ below meth c g 8 _ _ _ _ 287 [(4, .int 0), (3, .ref (b + 431)), (2, .ref (b + 405)), (1, .ref (b + 0)), (0, .ref bS)] _
  refine z_seti (y := 2) hu1 ?_
  refine z_istore (lv' := [(5, .int 2), (4, .int 0), (3, .ref (b + 431)), (2, .ref (b + 405)), (1, .ref (b + 0)), (0, .ref bS)]) B dL_law_287 (by decide) rfl ?_
  refine z_aload_n B dL_law_289 rfl 3 rfl ?_
  refine z_aload_n B dL_law_290 rfl 5 rfl ?_
  refine z_iload B dL_law_291 1 rfl ?_
  refine z_iconst (v := 1) B dL_law_293 (by decide) ?_
  refine z_iadd B dL_law_294 ?_
  refine z_seti (y := 1) (by decide) ?_
  refine z_sld (j := 1) (x := 5) B hX hbl hbA (by decide) (show ¬ ((1 : Int32) < 0 ∨ 6 ≤ (1 : Int32).toNatClampNeg) by decide) h_x1 dL_law_295 ?_
  refine z_aload_n B dL_law_296 rfl 5 rfl ?_
  refine z_iload B dL_law_297 1 rfl ?_
  refine z_iconst (v := 2) B dL_law_299 (by decide) ?_
  refine z_iadd B dL_law_300 ?_
  refine z_seti (y := 2) (by decide) ?_
  refine z_sld (j := 2) (x := x2) B hX hbl hbA (by decide) (show ¬ ((2 : Int32) < 0 ∨ 6 ≤ (2 : Int32).toNatClampNeg) by decide) h_x2 dL_law_301 ?_
  refine z_aload_n B dL_law_302 rfl 5 rfl ?_
  refine z_iload B dL_law_303 1 rfl ?_
  refine z_iconst (v := 3) B dL_law_305 (by decide) ?_
  refine z_iadd B dL_law_306 ?_
  refine z_seti (y := 3) (by decide) ?_
  refine z_sld (j := 3) (x := x3) B hX hbl hbA (by decide) (show ¬ ((3 : Int32) < 0 ∨ 6 ≤ (3 : Int32).toNatClampNeg) by decide) h_x3 dL_law_307 ?_
  refine z_aload_n B dL_law_308 rfl 5 rfl ?_
  refine z_iload B dL_law_309 1 rfl ?_
  refine z_iconst (v := 4) B dL_law_311 (by decide) ?_
  refine z_iadd B dL_law_312 ?_
  refine z_seti (y := 4) (by decide) ?_
  refine z_sld (j := 4) (x := x4) B hX hbl hbA (by decide) (show ¬ ((4 : Int32) < 0 ∨ 6 ≤ (4 : Int32).toNatClampNeg) by decide) h_x4 dL_law_313 ?_
  refine z_aload_n B dL_law_314 rfl 5 rfl ?_
  refine z_iload B dL_law_315 1 rfl ?_
  refine z_iconst (v := 5) B dL_law_317 (by decide) ?_
  refine z_iadd B dL_law_318 ?_
  refine z_seti (y := 5) (by decide) ?_
  refine z_sld (j := 5) (x := x5) B hX hbl hbA (by decide) (show ¬ ((5 : Int32) < 0 ∨ 6 ≤ (5 : Int32).toNatClampNeg) by decide) h_x5 dL_law_319 ?_
  refine z_cVi (As := [.int 5, .int x2, .int x3, .int x4, .int x5]) (rest := []) B cw_L_86 cx_10 dL_law_320 (ci_X9_check_615 l (σ := (ap b (wx_Z σ z) [] [] [])) (b := b) (lyA (lyZ hK)) x2 x3 x4 x5 q1_x2 q2_x2 q1_x3 q2_x3 q1_x4 q2_x4 q1_x5 q2_x5) (lKA (lKZ (hk_K hK 405 rfl rfl))) rfl (by decide) rfl (Nat.le_of_ble_eq_true rfl) (by decide) (fun r u hu => ?_)
  refine z_eqs (σ' := (ap b (wx_Z σ z) [(405, 0, 2)] [] [])) (hu.2.trans ap_ap) ?_
  show zx p l e _ s m _ below meth c g 8 _ _ _ _ 323 [(5, .int 2), (4, .int 0), (3, .ref (b + 431)), (2, .ref (b + 405)), (1, .ref (b + 0)), (0, .ref bS)] _
  refine z_seti (y := 0) hu.1 ?_
  refine z_istore (lv' := [(6, .int 0), (5, .int 2), (4, .int 0), (3, .ref (b + 431)), (2, .ref (b + 405)), (1, .ref (b + 0)), (0, .ref bS)]) B dL_law_323 (by decide) rfl ?_
  refine z_aload_n B dL_law_325 rfl 4 rfl ?_
  refine z_cVi (As := []) (rest := []) B cw_L_80 cx_10 dL_law_326 (ci_X9_thrown_73 l (σ := (ap b (wx_Z σ z) [(405, 0, 2)] [] [])) (b := b) (lyA (lyZ hK)) (rI_at 405 0 rfl)) (lKA (lKZ (hk_K hK 405 rfl rfl))) rfl (by decide) rfl (Nat.le_of_ble_eq_true rfl) (by decide) (fun r u hu => ?_)
  refine z_eqs (σ' := (ap b (wx_Z σ z) [(405, 0, 2)] [] [])) hu.2 ?_
  show zx p l e _ s m _ below meth c g 8 _ _ _ _ 329 [(6, .int 0), (5, .int 2), (4, .int 0), (3, .ref (b + 431)), (2, .ref (b + 405)), (1, .ref (b + 0)), (0, .ref bS)] _
  refine z_seti (y := 2) hu.1 ?_
  refine z_iload B dL_law_329 1 rfl ?_
  refine z_icmp_eq (tgt := 336) B dL_law_331 (by decide) (fun _ => ?_) (fun h => absurd (by decide) h)
  refine z_iload B dL_law_336 1 rfl ?_
  refine z_if_ne (tgt := 353) B dL_law_338 (by decide) (fun _ => ?_) (fun h => absurd h (by decide))
  refine z_goto (tgt := 1395) B dL_law_353 (by decide) ?_
  exact z_widen (Nat.le_of_ble_eq_true rfl) (Nat.le_of_ble_eq_true rfl) (z_sub _ [2, 6] rfl (kk _))
set_option maxRecDepth 100000 in
set_option maxHeartbeats 4000000 in
theorem lf_1_262 {p : Program} {l : Launch} {e : Env} {s : State} {m : MethodId} {args : Array Value} {below : List Frame} {meth : Method} {c : Code} {g : gx_T} {Q : State → Prop} {σ : sx_T} {b t bS : Nat} {xs : Nat → Int32} (hlt : l.stackTraces = false) (B : zx_B p s m args meth c code RL 8 g) (hX : va_X bS 6 xs s s.heap) (hbl : bS < s.heap.size) (hbA : ¬ gx_b g ≤ bS) (hF : fz_P b t σ) (h_x1 : xs 1 = 5) {x2 : Int32} (h_x2 : xs 2 = x2) (q1_x2 : (0 : Int) ≤ x2.toInt) (q2_x2 : x2.toInt ≤ (19 : Int)) {x3 : Int32} (h_x3 : xs 3 = x3) (q1_x3 : (0 : Int) ≤ x3.toInt) (q2_x3 : x3.toInt ≤ (17 : Int)) {x4 : Int32} (h_x4 : xs 4 = x4) (q1_x4 : (0 : Int) ≤ x4.toInt) (q2_x4 : x4.toInt ≤ (99 : Int)) {x5 : Int32} (h_x5 : xs 5 = x5) (q1_x5 : (0 : Int) ≤ x5.toInt) (q2_x5 : x5.toInt ≤ (99 : Int)) (kk : ∀ σ', zx p l e room_1 s m args below meth c g 8 600002 7302232 Q σ' 1395 [(4, .int 0), (0, .ref bS)] []) : zx p l e room_1 s m args below meth c g 8 500 100000 Q σ 252 [(4, .int 0), (3, .ref (b + 431)), (2, .ref (b + 405)), (1, .ref (b + 0)), (0, .ref bS)] [] := by
  have hK := fz_lay hF
  refine z_eqs (σ' := (ap b σ [] [] [])) rfl ?_
  refine z_aload_n B dL_law_252 rfl 3 rfl ?_
  refine z_aload_n B dL_law_253 rfl 4 rfl ?_
  refine z_iload B dL_law_254 0 rfl ?_
  refine z_iconst (v := 1) B dL_law_256 (by decide) ?_
  refine z_iadd B dL_law_257 ?_
  refine z_seti (y := 1) (by decide) ?_
  refine z_sld (j := 1) (x := 5) B hX hbl hbA (by decide) (show ¬ ((1 : Int32) < 0 ∨ 6 ≤ (1 : Int32).toNatClampNeg) by decide) h_x1 dL_law_258 ?_
  refine z_aload_n B dL_law_259 rfl 4 rfl ?_
  refine z_iload B dL_law_260 0 rfl ?_
  refine z_iconst (v := 2) B dL_law_262 (by decide) ?_
  refine z_iadd B dL_law_263 ?_
  refine z_seti (y := 2) (by decide) ?_
  refine z_sld (j := 2) (x := x2) B hX hbl hbA (by decide) (show ¬ ((2 : Int32) < 0 ∨ 6 ≤ (2 : Int32).toNatClampNeg) by decide) h_x2 dL_law_264 ?_
  refine z_aload_n B dL_law_265 rfl 4 rfl ?_
  refine z_iload B dL_law_266 0 rfl ?_
  refine z_iconst (v := 3) B dL_law_268 (by decide) ?_
  refine z_iadd B dL_law_269 ?_
  refine z_seti (y := 3) (by decide) ?_
  refine z_sld (j := 3) (x := x3) B hX hbl hbA (by decide) (show ¬ ((3 : Int32) < 0 ∨ 6 ≤ (3 : Int32).toNatClampNeg) by decide) h_x3 dL_law_270 ?_
  refine z_aload_n B dL_law_271 rfl 4 rfl ?_
  refine z_iload B dL_law_272 0 rfl ?_
  refine z_iconst (v := 4) B dL_law_274 (by decide) ?_
  refine z_iadd B dL_law_275 ?_
  refine z_seti (y := 4) (by decide) ?_
  refine z_sld (j := 4) (x := x4) B hX hbl hbA (by decide) (show ¬ ((4 : Int32) < 0 ∨ 6 ≤ (4 : Int32).toNatClampNeg) by decide) h_x4 dL_law_276 ?_
  refine z_aload_n B dL_law_277 rfl 4 rfl ?_
  refine z_iload B dL_law_278 0 rfl ?_
  refine z_iconst (v := 5) B dL_law_280 (by decide) ?_
  refine z_iadd B dL_law_281 ?_
  refine z_seti (y := 5) (by decide) ?_
  refine z_sld (j := 5) (x := x5) B hX hbl hbA (by decide) (show ¬ ((5 : Int32) < 0 ∨ 6 ≤ (5 : Int32).toNatClampNeg) by decide) h_x5 dL_law_282 ?_
  refine z_aload_n B dL_law_283 rfl 1 rfl ?_
  refine z_cSWi (As := [.ref (b + 0), .int 5, .int x2, .int x3, .int x4, .int x5, .ref (b + 431)]) (rest := []) B cw_L_84 dL_law_284 (ci_L_check_620 l (σ := (ap b σ [] [] [])) (b := b) (lyA hK) x2 x3 x4 x5 q1_x2 q2_x2 q1_x3 q2_x3 q1_x4 q2_x4 q1_x5 q2_x5 (rI_at 0 7 (fz_I hF 0 7 rfl rfl)) (rR_at 0 0 (fz_R hF 0 0 rfl rfl)) (rR_at 1 5 (fz_R hF 1 5 rfl rfl)) (rR_at 29 1 (fz_R hF 29 1 rfl rfl)) (rR_at 29 2 (fz_R hF 29 2 rfl rfl)) (rR_at 29 3 (fz_R hF 29 3 rfl rfl))) rfl (by decide) rfl (Nat.le_of_ble_eq_true rfl) (by decide) (fun r u hu => ?_)
  obtain ⟨y1, y2, y3, hu⟩ := hu
  refine z_eqs (σ' := (ap b (wx_I (ap b (wx_I (ap b (wx_I (ap b (ap b (wx_I (ap b (wx_I (ap b (wx_I (ap b (ap b (ap b (ap b σ [] [] []) [] [] []) [] [] []) [] [] []) (b + 30) x2.toNatClampNeg x3) [] [] []) (b + 31) x2.toNatClampNeg x4) [] [] []) (b + 32) x2.toNatClampNeg x5) [] [] []) [] [] []) (b + 30) x2.toNatClampNeg y1) [] [] []) (b + 31) x2.toNatClampNeg y2) [] [] []) (b + 32) x2.toNatClampNeg y3) [] [(431, 0, 0)] [])) hu.2 ?_
  show zx p l e _ s m _ below meth c g 8 _ _ _ _ 287 [(4, .int 0), (3, .ref (b + 431)), (2, .ref (b + 405)), (1, .ref (b + 0)), (0, .ref bS)] _
  refine z_seti (y := 0) hu.1 ?_
  refine z_istore (lv' := [(5, .int 0), (4, .int 0), (3, .ref (b + 431)), (2, .ref (b + 405)), (1, .ref (b + 0)), (0, .ref bS)]) B dL_law_287 (by decide) rfl ?_
  refine z_aload_n B dL_law_289 rfl 3 rfl ?_
  refine z_aload_n B dL_law_290 rfl 5 rfl ?_
  refine z_iload B dL_law_291 1 rfl ?_
  refine z_iconst (v := 1) B dL_law_293 (by decide) ?_
  refine z_iadd B dL_law_294 ?_
  refine z_seti (y := 1) (by decide) ?_
  refine z_sld (j := 1) (x := 5) B hX hbl hbA (by decide) (show ¬ ((1 : Int32) < 0 ∨ 6 ≤ (1 : Int32).toNatClampNeg) by decide) h_x1 dL_law_295 ?_
  refine z_aload_n B dL_law_296 rfl 5 rfl ?_
  refine z_iload B dL_law_297 1 rfl ?_
  refine z_iconst (v := 2) B dL_law_299 (by decide) ?_
  refine z_iadd B dL_law_300 ?_
  refine z_seti (y := 2) (by decide) ?_
  refine z_sld (j := 2) (x := x2) B hX hbl hbA (by decide) (show ¬ ((2 : Int32) < 0 ∨ 6 ≤ (2 : Int32).toNatClampNeg) by decide) h_x2 dL_law_301 ?_
  refine z_aload_n B dL_law_302 rfl 5 rfl ?_
  refine z_iload B dL_law_303 1 rfl ?_
  refine z_iconst (v := 3) B dL_law_305 (by decide) ?_
  refine z_iadd B dL_law_306 ?_
  refine z_seti (y := 3) (by decide) ?_
  refine z_sld (j := 3) (x := x3) B hX hbl hbA (by decide) (show ¬ ((3 : Int32) < 0 ∨ 6 ≤ (3 : Int32).toNatClampNeg) by decide) h_x3 dL_law_307 ?_
  refine z_aload_n B dL_law_308 rfl 5 rfl ?_
  refine z_iload B dL_law_309 1 rfl ?_
  refine z_iconst (v := 4) B dL_law_311 (by decide) ?_
  refine z_iadd B dL_law_312 ?_
  refine z_seti (y := 4) (by decide) ?_
  refine z_sld (j := 4) (x := x4) B hX hbl hbA (by decide) (show ¬ ((4 : Int32) < 0 ∨ 6 ≤ (4 : Int32).toNatClampNeg) by decide) h_x4 dL_law_313 ?_
  refine z_aload_n B dL_law_314 rfl 5 rfl ?_
  refine z_iload B dL_law_315 1 rfl ?_
  refine z_iconst (v := 5) B dL_law_317 (by decide) ?_
  refine z_iadd B dL_law_318 ?_
  refine z_seti (y := 5) (by decide) ?_
  refine z_sld (j := 5) (x := x5) B hX hbl hbA (by decide) (show ¬ ((5 : Int32) < 0 ∨ 6 ≤ (5 : Int32).toNatClampNeg) by decide) h_x5 dL_law_319 ?_
  refine z_cVi (As := [.int 5, .int x2, .int x3, .int x4, .int x5]) (rest := []) B cw_L_86 cx_10 dL_law_320 (ci_X9_check_621 l (σ := (ap b (wx_I (ap b (wx_I (ap b (wx_I (ap b (ap b (wx_I (ap b (wx_I (ap b (wx_I (ap b (ap b (ap b (ap b σ [] [] []) [] [] []) [] [] []) [] [] []) (b + 30) x2.toNatClampNeg x3) [] [] []) (b + 31) x2.toNatClampNeg x4) [] [] []) (b + 32) x2.toNatClampNeg x5) [] [] []) [] [] []) (b + 30) x2.toNatClampNeg y1) [] [] []) (b + 31) x2.toNatClampNeg y2) [] [] []) (b + 32) x2.toNatClampNeg y3) [] [(431, 0, 0)] [])) (b := b) (lyA (lyW (lyA (lyW (lyA (lyW (lyA (lyA (lyW (lyA (lyW (lyA (lyW (lyA (lyA (lyA (lyA hK))))))))))))))))) x2 x3 x4 x5 q1_x2 q2_x2 q1_x3 q2_x3 q1_x4 q2_x4 q1_x5 q2_x5 (rI_at 405 6 ((ux_a (by omega)).trans (rI_at 405 6 ((ux_a (by omega)).trans (rI_at 405 6 ((ux_a (by omega)).trans (rI_at 405 6 (rI_at 405 6 ((ux_a (by omega)).trans (rI_at 405 6 ((ux_a (by omega)).trans (rI_at 405 6 ((ux_a (by omega)).trans (rI_at 405 6 (rI_at 405 6 (rI_at 405 6 (rI_at 405 6 (fz_I hF 405 6 rfl rfl)))))))))))))))))) (rR_at 405 3 (rR_w (rR_at 405 3 (rR_w (rR_at 405 3 (rR_w (rR_at 405 3 (rR_at 405 3 (rR_w (rR_at 405 3 (rR_w (rR_at 405 3 (rR_w (rR_at 405 3 (rR_at 405 3 (rR_at 405 3 (rR_at 405 3 (fz_R hF 405 3 rfl rfl)))))))))))))))))) (rR_at 405 4 (rR_w (rR_at 405 4 (rR_w (rR_at 405 4 (rR_w (rR_at 405 4 (rR_at 405 4 (rR_w (rR_at 405 4 (rR_w (rR_at 405 4 (rR_w (rR_at 405 4 (rR_at 405 4 (rR_at 405 4 (rR_at 405 4 (fz_R hF 405 4 rfl rfl)))))))))))))))))) (rR_at 405 5 (rR_w (rR_at 405 5 (rR_w (rR_at 405 5 (rR_w (rR_at 405 5 (rR_at 405 5 (rR_w (rR_at 405 5 (rR_w (rR_at 405 5 (rR_w (rR_at 405 5 (rR_at 405 5 (rR_at 405 5 (rR_at 405 5 (fz_R hF 405 5 rfl rfl))))))))))))))))))) (lKA (lKW (lKA (lKW (lKA (lKW (lKA (lKA (lKW (lKA (lKW (lKA (lKW (lKA (lKA (lKA (lKA (hk_K hK 405 rfl rfl)))))))))))))))))) rfl (by decide) rfl (Nat.le_of_ble_eq_true rfl) (by decide) (fun r u hu => ?_)
  obtain ⟨y4, y5, y6, hu⟩ := hu
  refine z_eqs (σ' := (ap b (wx_I (ap b (wx_I (ap b (wx_I (ap b (ap b (wx_I (ap b (wx_I (ap b (wx_I (ap b (ap b (ap b (wx_I (ap b (wx_I (ap b (wx_I (ap b (ap b (wx_I (ap b (wx_I (ap b (wx_I (ap b (ap b (ap b (ap b σ [] [] []) [] [] []) [] [] []) [] [] []) (b + 30) x2.toNatClampNeg x3) [] [] []) (b + 31) x2.toNatClampNeg x4) [] [] []) (b + 32) x2.toNatClampNeg x5) [] [] []) [] [] []) (b + 30) x2.toNatClampNeg y1) [] [] []) (b + 31) x2.toNatClampNeg y2) [] [] []) (b + 32) x2.toNatClampNeg y3) [] [(431, 0, 0)] []) [(405, 0, 0)] [] []) [] [] []) (b + 406) (100 + x2).toNatClampNeg x3) [] [] []) (b + 407) (100 + x2).toNatClampNeg x4) [] [] []) (b + 408) (100 + x2).toNatClampNeg x5) [] [] []) [] [] []) (b + 406) (100 + x2).toNatClampNeg y4) [] [] []) (b + 407) (100 + x2).toNatClampNeg y5) [] [] []) (b + 408) (100 + x2).toNatClampNeg y6) [] [] [])) hu.2 ?_
  show zx p l e _ s m _ below meth c g 8 _ _ _ _ 323 [(5, .int 0), (4, .int 0), (3, .ref (b + 431)), (2, .ref (b + 405)), (1, .ref (b + 0)), (0, .ref bS)] _
  refine z_seti (y := 0) hu.1 ?_
  refine z_istore (lv' := [(6, .int 0), (5, .int 0), (4, .int 0), (3, .ref (b + 431)), (2, .ref (b + 405)), (1, .ref (b + 0)), (0, .ref bS)]) B dL_law_323 (by decide) rfl ?_
  refine z_aload_n B dL_law_325 rfl 4 rfl ?_
  refine z_cVi (As := []) (rest := []) B cw_L_80 cx_10 dL_law_326 (ci_X9_thrown_95 l (σ := (ap b (wx_I (ap b (wx_I (ap b (wx_I (ap b (ap b (wx_I (ap b (wx_I (ap b (wx_I (ap b (ap b (ap b (wx_I (ap b (wx_I (ap b (wx_I (ap b (ap b (wx_I (ap b (wx_I (ap b (wx_I (ap b (ap b (ap b (ap b σ [] [] []) [] [] []) [] [] []) [] [] []) (b + 30) x2.toNatClampNeg x3) [] [] []) (b + 31) x2.toNatClampNeg x4) [] [] []) (b + 32) x2.toNatClampNeg x5) [] [] []) [] [] []) (b + 30) x2.toNatClampNeg y1) [] [] []) (b + 31) x2.toNatClampNeg y2) [] [] []) (b + 32) x2.toNatClampNeg y3) [] [(431, 0, 0)] []) [(405, 0, 0)] [] []) [] [] []) (b + 406) (100 + x2).toNatClampNeg x3) [] [] []) (b + 407) (100 + x2).toNatClampNeg x4) [] [] []) (b + 408) (100 + x2).toNatClampNeg x5) [] [] []) [] [] []) (b + 406) (100 + x2).toNatClampNeg y4) [] [] []) (b + 407) (100 + x2).toNatClampNeg y5) [] [] []) (b + 408) (100 + x2).toNatClampNeg y6) [] [] [])) (b := b) (lyA (lyW (lyA (lyW (lyA (lyW (lyA (lyA (lyW (lyA (lyW (lyA (lyW (lyA (lyA (lyA (lyW (lyA (lyW (lyA (lyW (lyA (lyA (lyW (lyA (lyW (lyA (lyW (lyA (lyA (lyA (lyA hK)))))))))))))))))))))))))))))))) (rI_at 405 0 ((ux_a (by omega)).trans (rI_at 405 0 ((ux_a (by omega)).trans (rI_at 405 0 ((ux_a (by omega)).trans (rI_at 405 0 (rI_at 405 0 ((ux_a (by omega)).trans (rI_at 405 0 ((ux_a (by omega)).trans (rI_at 405 0 ((ux_a (by omega)).trans (rI_at 405 0 (rI_at 405 0 rfl)))))))))))))))) (lKA (lKW (lKA (lKW (lKA (lKW (lKA (lKA (lKW (lKA (lKW (lKA (lKW (lKA (lKA (lKA (lKW (lKA (lKW (lKA (lKW (lKA (lKA (lKW (lKA (lKW (lKA (lKW (lKA (lKA (lKA (lKA (hk_K hK 405 rfl rfl))))))))))))))))))))))))))))))))) rfl (by decide) rfl (Nat.le_of_ble_eq_true rfl) (by decide) (fun r u hu => ?_)
  refine z_eqs (σ' := (ap b (wx_I (ap b (wx_I (ap b (wx_I (ap b (ap b (wx_I (ap b (wx_I (ap b (wx_I (ap b (ap b (ap b (wx_I (ap b (wx_I (ap b (wx_I (ap b (ap b (wx_I (ap b (wx_I (ap b (wx_I (ap b (ap b (ap b (ap b σ [] [] []) [] [] []) [] [] []) [] [] []) (b + 30) x2.toNatClampNeg x3) [] [] []) (b + 31) x2.toNatClampNeg x4) [] [] []) (b + 32) x2.toNatClampNeg x5) [] [] []) [] [] []) (b + 30) x2.toNatClampNeg y1) [] [] []) (b + 31) x2.toNatClampNeg y2) [] [] []) (b + 32) x2.toNatClampNeg y3) [] [(431, 0, 0)] []) [(405, 0, 0)] [] []) [] [] []) (b + 406) (100 + x2).toNatClampNeg x3) [] [] []) (b + 407) (100 + x2).toNatClampNeg x4) [] [] []) (b + 408) (100 + x2).toNatClampNeg x5) [] [] []) [] [] []) (b + 406) (100 + x2).toNatClampNeg y4) [] [] []) (b + 407) (100 + x2).toNatClampNeg y5) [] [] []) (b + 408) (100 + x2).toNatClampNeg y6) [] [] [])) hu.2 ?_
  show zx p l e _ s m _ below meth c g 8 _ _ _ _ 329 [(6, .int 0), (5, .int 0), (4, .int 0), (3, .ref (b + 431)), (2, .ref (b + 405)), (1, .ref (b + 0)), (0, .ref bS)] _
  refine z_seti (y := 0) hu.1 ?_
  refine z_iload B dL_law_329 1 rfl ?_
  refine z_icmp_eq (tgt := 336) B dL_law_331 (by decide) (fun _ => ?_) (fun h => absurd (by decide) h)
  refine z_iload B dL_law_336 1 rfl ?_
  refine z_if_ne (tgt := 353) B dL_law_338 (by decide) (fun h => absurd (by decide) h) (fun _ => ?_)
  refine z_aload_n B dL_law_341 rfl 3 rfl ?_
  refine z_iconst (v := 0) B dL_law_342 (by decide) ?_
  refine z_lald (j := 0) (x := 0) B (lKA (lKW (lKA (lKW (lKA (lKW (lKA (lKA (lKW (lKA (lKW (lKA (lKW (lKA (lKA (lKA (lKW (lKA (lKW (lKA (lKW (lKA (lKA (lKW (lKA (lKW (lKA (lKW (lKA (lKA (lKA (lKA (hk_K hK 431 rfl rfl))))))))))))))))))))))))))))))))) (by decide) (in_of (lNA (lNW (lNA (lNW (lNA (lNW (lNA (lNA (lNW (lNA (lNW (lNA (lNW (lNA (lNA (lNA (lNW (lNA (lNW (lNA (lNW (lNA (lNA (lNW (lNA (lNW (lNA (lNW (lNA (lNA (lNA (lNA (hk_N hK 431 rfl rfl))))))))))))))))))))))))))))))))) (show ¬ ((0 : Int32) < 0 ∨ 1 ≤ (0 : Int32).toNatClampNeg) by decide)) (rJ_at 431 0 (rJ_w (rJ_at 431 0 (rJ_w (rJ_at 431 0 (rJ_w (rJ_at 431 0 (rJ_at 431 0 (rJ_w (rJ_at 431 0 (rJ_w (rJ_at 431 0 (rJ_w (rJ_at 431 0 (rJ_at 431 0 (rJ_at 431 0 rfl)))))))))))))))) dL_law_343 ?_
  refine z_iload B dL_law_344 0 rfl ?_
  refine z_i2l (v := 0) B dL_law_346 (by decide) ?_
  refine z_lcmp (v := 0) B dL_law_347 (by decide) ?_
  refine z_if_eq (tgt := 353) B dL_law_348 (by decide) (fun _ => ?_) (fun h => absurd (by decide) h)
  refine z_goto (tgt := 1395) B dL_law_353 (by decide) ?_
  exact z_widen (Nat.le_of_ble_eq_true rfl) (Nat.le_of_ble_eq_true rfl) (z_sub _ [2, 6] rfl (kk _))
set_option maxRecDepth 100000 in
set_option maxHeartbeats 4000000 in
theorem lf_1_263 {p : Program} {l : Launch} {e : Env} {s : State} {m : MethodId} {args : Array Value} {below : List Frame} {meth : Method} {c : Code} {g : gx_T} {Q : State → Prop} {σ : sx_T} {b t bS : Nat} {xs : Nat → Int32} (hlt : l.stackTraces = false) (B : zx_B p s m args meth c code RL 8 g) (hX : va_X bS 6 xs s s.heap) (hbl : bS < s.heap.size) (hbA : ¬ gx_b g ≤ bS) (hF : fz_P b t σ) (h_x1 : xs 1 = 5) {x2 : Int32} (h_x2 : xs 2 = x2) (q1_x2 : (0 : Int) ≤ x2.toInt) (q2_x2 : x2.toInt ≤ (19 : Int)) {x3 : Int32} (h_x3 : xs 3 = x3) (q1_x3 : (0 : Int) ≤ x3.toInt) (q2_x3 : x3.toInt ≤ (17 : Int)) {x4 : Int32} (h_x4 : xs 4 = x4) (q1_x4 : (0 : Int) ≤ x4.toInt) (q2_x4 : x4.toInt ≤ (99 : Int)) {x5 : Int32} (h_x5 : xs 5 = x5) (q1_x5 : (100 : Int) ≤ x5.toInt) (q2_x5 : x5.toInt ≤ (2147483647 : Int)) (kk : ∀ σ', zx p l e room_1 s m args below meth c g 8 600002 7302232 Q σ' 1395 [(4, .int 0), (0, .ref bS)] []) : zx p l e room_1 s m args below meth c g 8 500 100000 Q σ 252 [(4, .int 0), (3, .ref (b + 431)), (2, .ref (b + 405)), (1, .ref (b + 0)), (0, .ref bS)] [] := by
  have hK := fz_lay hF
  refine z_eqs (σ' := (ap b σ [] [] [])) rfl ?_
  refine z_aload_n B dL_law_252 rfl 3 rfl ?_
  refine z_aload_n B dL_law_253 rfl 4 rfl ?_
  refine z_iload B dL_law_254 0 rfl ?_
  refine z_iconst (v := 1) B dL_law_256 (by decide) ?_
  refine z_iadd B dL_law_257 ?_
  refine z_seti (y := 1) (by decide) ?_
  refine z_sld (j := 1) (x := 5) B hX hbl hbA (by decide) (show ¬ ((1 : Int32) < 0 ∨ 6 ≤ (1 : Int32).toNatClampNeg) by decide) h_x1 dL_law_258 ?_
  refine z_aload_n B dL_law_259 rfl 4 rfl ?_
  refine z_iload B dL_law_260 0 rfl ?_
  refine z_iconst (v := 2) B dL_law_262 (by decide) ?_
  refine z_iadd B dL_law_263 ?_
  refine z_seti (y := 2) (by decide) ?_
  refine z_sld (j := 2) (x := x2) B hX hbl hbA (by decide) (show ¬ ((2 : Int32) < 0 ∨ 6 ≤ (2 : Int32).toNatClampNeg) by decide) h_x2 dL_law_264 ?_
  refine z_aload_n B dL_law_265 rfl 4 rfl ?_
  refine z_iload B dL_law_266 0 rfl ?_
  refine z_iconst (v := 3) B dL_law_268 (by decide) ?_
  refine z_iadd B dL_law_269 ?_
  refine z_seti (y := 3) (by decide) ?_
  refine z_sld (j := 3) (x := x3) B hX hbl hbA (by decide) (show ¬ ((3 : Int32) < 0 ∨ 6 ≤ (3 : Int32).toNatClampNeg) by decide) h_x3 dL_law_270 ?_
  refine z_aload_n B dL_law_271 rfl 4 rfl ?_
  refine z_iload B dL_law_272 0 rfl ?_
  refine z_iconst (v := 4) B dL_law_274 (by decide) ?_
  refine z_iadd B dL_law_275 ?_
  refine z_seti (y := 4) (by decide) ?_
  refine z_sld (j := 4) (x := x4) B hX hbl hbA (by decide) (show ¬ ((4 : Int32) < 0 ∨ 6 ≤ (4 : Int32).toNatClampNeg) by decide) h_x4 dL_law_276 ?_
  refine z_aload_n B dL_law_277 rfl 4 rfl ?_
  refine z_iload B dL_law_278 0 rfl ?_
  refine z_iconst (v := 5) B dL_law_280 (by decide) ?_
  refine z_iadd B dL_law_281 ?_
  refine z_seti (y := 5) (by decide) ?_
  refine z_sld (j := 5) (x := x5) B hX hbl hbA (by decide) (show ¬ ((5 : Int32) < 0 ∨ 6 ≤ (5 : Int32).toNatClampNeg) by decide) h_x5 dL_law_282 ?_
  refine z_aload_n B dL_law_283 rfl 1 rfl ?_
  refine z_cSWi (As := [.ref (b + 0), .int 5, .int x2, .int x3, .int x4, .int x5, .ref (b + 431)]) (rest := []) B cw_L_84 dL_law_284 (ci_L_check_623 l hlt (σ := (ap b σ [] [] [])) (b := b) (lyA hK) x2 x3 x4 x5 q1_x2 q2_x2 q1_x3 q2_x3 q1_x4 q2_x4 q1_x5 q2_x5 (rR_at 0 0 (fz_R hF 0 0 rfl rfl)) (rR_at 1 5 (fz_R hF 1 5 rfl rfl))) rfl (by decide) rfl (Nat.le_of_ble_eq_true rfl) (by decide) (fun r u hu => ?_)
  obtain ⟨hu1, z, hu⟩ := hu
  refine z_eqs (σ' := (ap b (wx_Z σ z) [] [] [])) (hu.trans az_ap) ?_
  show zx p l e _ s m _ below meth c g 8 _ _ _ _ 287 [(4, .int 0), (3, .ref (b + 431)), (2, .ref (b + 405)), (1, .ref (b + 0)), (0, .ref bS)] _
  refine z_seti (y := 2) hu1 ?_
  refine z_istore (lv' := [(5, .int 2), (4, .int 0), (3, .ref (b + 431)), (2, .ref (b + 405)), (1, .ref (b + 0)), (0, .ref bS)]) B dL_law_287 (by decide) rfl ?_
  refine z_aload_n B dL_law_289 rfl 3 rfl ?_
  refine z_aload_n B dL_law_290 rfl 5 rfl ?_
  refine z_iload B dL_law_291 1 rfl ?_
  refine z_iconst (v := 1) B dL_law_293 (by decide) ?_
  refine z_iadd B dL_law_294 ?_
  refine z_seti (y := 1) (by decide) ?_
  refine z_sld (j := 1) (x := 5) B hX hbl hbA (by decide) (show ¬ ((1 : Int32) < 0 ∨ 6 ≤ (1 : Int32).toNatClampNeg) by decide) h_x1 dL_law_295 ?_
  refine z_aload_n B dL_law_296 rfl 5 rfl ?_
  refine z_iload B dL_law_297 1 rfl ?_
  refine z_iconst (v := 2) B dL_law_299 (by decide) ?_
  refine z_iadd B dL_law_300 ?_
  refine z_seti (y := 2) (by decide) ?_
  refine z_sld (j := 2) (x := x2) B hX hbl hbA (by decide) (show ¬ ((2 : Int32) < 0 ∨ 6 ≤ (2 : Int32).toNatClampNeg) by decide) h_x2 dL_law_301 ?_
  refine z_aload_n B dL_law_302 rfl 5 rfl ?_
  refine z_iload B dL_law_303 1 rfl ?_
  refine z_iconst (v := 3) B dL_law_305 (by decide) ?_
  refine z_iadd B dL_law_306 ?_
  refine z_seti (y := 3) (by decide) ?_
  refine z_sld (j := 3) (x := x3) B hX hbl hbA (by decide) (show ¬ ((3 : Int32) < 0 ∨ 6 ≤ (3 : Int32).toNatClampNeg) by decide) h_x3 dL_law_307 ?_
  refine z_aload_n B dL_law_308 rfl 5 rfl ?_
  refine z_iload B dL_law_309 1 rfl ?_
  refine z_iconst (v := 4) B dL_law_311 (by decide) ?_
  refine z_iadd B dL_law_312 ?_
  refine z_seti (y := 4) (by decide) ?_
  refine z_sld (j := 4) (x := x4) B hX hbl hbA (by decide) (show ¬ ((4 : Int32) < 0 ∨ 6 ≤ (4 : Int32).toNatClampNeg) by decide) h_x4 dL_law_313 ?_
  refine z_aload_n B dL_law_314 rfl 5 rfl ?_
  refine z_iload B dL_law_315 1 rfl ?_
  refine z_iconst (v := 5) B dL_law_317 (by decide) ?_
  refine z_iadd B dL_law_318 ?_
  refine z_seti (y := 5) (by decide) ?_
  refine z_sld (j := 5) (x := x5) B hX hbl hbA (by decide) (show ¬ ((5 : Int32) < 0 ∨ 6 ≤ (5 : Int32).toNatClampNeg) by decide) h_x5 dL_law_319 ?_
  refine z_cVi (As := [.int 5, .int x2, .int x3, .int x4, .int x5]) (rest := []) B cw_L_86 cx_10 dL_law_320 (ci_X9_check_624 l (σ := (ap b (wx_Z σ z) [] [] [])) (b := b) (lyA (lyZ hK)) x2 x3 x4 x5 q1_x2 q2_x2 q1_x3 q2_x3 q1_x4 q2_x4 q1_x5 q2_x5) (lKA (lKZ (hk_K hK 405 rfl rfl))) rfl (by decide) rfl (Nat.le_of_ble_eq_true rfl) (by decide) (fun r u hu => ?_)
  refine z_eqs (σ' := (ap b (wx_Z σ z) [(405, 0, 2)] [] [])) (hu.2.trans ap_ap) ?_
  show zx p l e _ s m _ below meth c g 8 _ _ _ _ 323 [(5, .int 2), (4, .int 0), (3, .ref (b + 431)), (2, .ref (b + 405)), (1, .ref (b + 0)), (0, .ref bS)] _
  refine z_seti (y := 0) hu.1 ?_
  refine z_istore (lv' := [(6, .int 0), (5, .int 2), (4, .int 0), (3, .ref (b + 431)), (2, .ref (b + 405)), (1, .ref (b + 0)), (0, .ref bS)]) B dL_law_323 (by decide) rfl ?_
  refine z_aload_n B dL_law_325 rfl 4 rfl ?_
  refine z_cVi (As := []) (rest := []) B cw_L_80 cx_10 dL_law_326 (ci_X9_thrown_73 l (σ := (ap b (wx_Z σ z) [(405, 0, 2)] [] [])) (b := b) (lyA (lyZ hK)) (rI_at 405 0 rfl)) (lKA (lKZ (hk_K hK 405 rfl rfl))) rfl (by decide) rfl (Nat.le_of_ble_eq_true rfl) (by decide) (fun r u hu => ?_)
  refine z_eqs (σ' := (ap b (wx_Z σ z) [(405, 0, 2)] [] [])) hu.2 ?_
  show zx p l e _ s m _ below meth c g 8 _ _ _ _ 329 [(6, .int 0), (5, .int 2), (4, .int 0), (3, .ref (b + 431)), (2, .ref (b + 405)), (1, .ref (b + 0)), (0, .ref bS)] _
  refine z_seti (y := 2) hu.1 ?_
  refine z_iload B dL_law_329 1 rfl ?_
  refine z_icmp_eq (tgt := 336) B dL_law_331 (by decide) (fun _ => ?_) (fun h => absurd (by decide) h)
  refine z_iload B dL_law_336 1 rfl ?_
  refine z_if_ne (tgt := 353) B dL_law_338 (by decide) (fun _ => ?_) (fun h => absurd h (by decide))
  refine z_goto (tgt := 1395) B dL_law_353 (by decide) ?_
  exact z_widen (Nat.le_of_ble_eq_true rfl) (Nat.le_of_ble_eq_true rfl) (z_sub _ [2, 6] rfl (kk _))
set_option maxRecDepth 100000 in
set_option maxHeartbeats 4000000 in
theorem lf_1_264 {p : Program} {l : Launch} {e : Env} {s : State} {m : MethodId} {args : Array Value} {below : List Frame} {meth : Method} {c : Code} {g : gx_T} {Q : State → Prop} {σ : sx_T} {b t bS : Nat} {xs : Nat → Int32} (hlt : l.stackTraces = false) (B : zx_B p s m args meth c code RL 8 g) (hX : va_X bS 6 xs s s.heap) (hbl : bS < s.heap.size) (hbA : ¬ gx_b g ≤ bS) (hF : fz_P b t σ) (h_x1 : xs 1 = 5) {x2 : Int32} (h_x2 : xs 2 = x2) (q1_x2 : (0 : Int) ≤ x2.toInt) (q2_x2 : x2.toInt ≤ (19 : Int)) {x3 : Int32} (h_x3 : xs 3 = x3) (q1_x3 : (0 : Int) ≤ x3.toInt) (q2_x3 : x3.toInt ≤ (17 : Int)) {x4 : Int32} (h_x4 : xs 4 = x4) (q1_x4 : (100 : Int) ≤ x4.toInt) (q2_x4 : x4.toInt ≤ (2147483647 : Int)) {x5 : Int32} (h_x5 : xs 5 = x5) (q1_x5 : (-2147483648 : Int) ≤ x5.toInt) (q2_x5 : x5.toInt ≤ (2147483647 : Int)) (kk : ∀ σ', zx p l e room_1 s m args below meth c g 8 600002 7302232 Q σ' 1395 [(4, .int 0), (0, .ref bS)] []) : zx p l e room_1 s m args below meth c g 8 500 100000 Q σ 252 [(4, .int 0), (3, .ref (b + 431)), (2, .ref (b + 405)), (1, .ref (b + 0)), (0, .ref bS)] [] := by
  have hK := fz_lay hF
  refine z_eqs (σ' := (ap b σ [] [] [])) rfl ?_
  refine z_aload_n B dL_law_252 rfl 3 rfl ?_
  refine z_aload_n B dL_law_253 rfl 4 rfl ?_
  refine z_iload B dL_law_254 0 rfl ?_
  refine z_iconst (v := 1) B dL_law_256 (by decide) ?_
  refine z_iadd B dL_law_257 ?_
  refine z_seti (y := 1) (by decide) ?_
  refine z_sld (j := 1) (x := 5) B hX hbl hbA (by decide) (show ¬ ((1 : Int32) < 0 ∨ 6 ≤ (1 : Int32).toNatClampNeg) by decide) h_x1 dL_law_258 ?_
  refine z_aload_n B dL_law_259 rfl 4 rfl ?_
  refine z_iload B dL_law_260 0 rfl ?_
  refine z_iconst (v := 2) B dL_law_262 (by decide) ?_
  refine z_iadd B dL_law_263 ?_
  refine z_seti (y := 2) (by decide) ?_
  refine z_sld (j := 2) (x := x2) B hX hbl hbA (by decide) (show ¬ ((2 : Int32) < 0 ∨ 6 ≤ (2 : Int32).toNatClampNeg) by decide) h_x2 dL_law_264 ?_
  refine z_aload_n B dL_law_265 rfl 4 rfl ?_
  refine z_iload B dL_law_266 0 rfl ?_
  refine z_iconst (v := 3) B dL_law_268 (by decide) ?_
  refine z_iadd B dL_law_269 ?_
  refine z_seti (y := 3) (by decide) ?_
  refine z_sld (j := 3) (x := x3) B hX hbl hbA (by decide) (show ¬ ((3 : Int32) < 0 ∨ 6 ≤ (3 : Int32).toNatClampNeg) by decide) h_x3 dL_law_270 ?_
  refine z_aload_n B dL_law_271 rfl 4 rfl ?_
  refine z_iload B dL_law_272 0 rfl ?_
  refine z_iconst (v := 4) B dL_law_274 (by decide) ?_
  refine z_iadd B dL_law_275 ?_
  refine z_seti (y := 4) (by decide) ?_
  refine z_sld (j := 4) (x := x4) B hX hbl hbA (by decide) (show ¬ ((4 : Int32) < 0 ∨ 6 ≤ (4 : Int32).toNatClampNeg) by decide) h_x4 dL_law_276 ?_
  refine z_aload_n B dL_law_277 rfl 4 rfl ?_
  refine z_iload B dL_law_278 0 rfl ?_
  refine z_iconst (v := 5) B dL_law_280 (by decide) ?_
  refine z_iadd B dL_law_281 ?_
  refine z_seti (y := 5) (by decide) ?_
  refine z_sld (j := 5) (x := x5) B hX hbl hbA (by decide) (show ¬ ((5 : Int32) < 0 ∨ 6 ≤ (5 : Int32).toNatClampNeg) by decide) h_x5 dL_law_282 ?_
  refine z_aload_n B dL_law_283 rfl 1 rfl ?_
  refine z_cSWi (As := [.ref (b + 0), .int 5, .int x2, .int x3, .int x4, .int x5, .ref (b + 431)]) (rest := []) B cw_L_84 dL_law_284 (ci_L_check_626 l hlt (σ := (ap b σ [] [] [])) (b := b) (lyA hK) x2 x3 x4 x5 q1_x2 q2_x2 q1_x3 q2_x3 q1_x4 q2_x4 (rR_at 0 0 (fz_R hF 0 0 rfl rfl)) (rR_at 1 5 (fz_R hF 1 5 rfl rfl))) rfl (by decide) rfl (Nat.le_of_ble_eq_true rfl) (by decide) (fun r u hu => ?_)
  obtain ⟨hu1, z, hu⟩ := hu
  refine z_eqs (σ' := (ap b (wx_Z σ z) [] [] [])) (hu.trans az_ap) ?_
  show zx p l e _ s m _ below meth c g 8 _ _ _ _ 287 [(4, .int 0), (3, .ref (b + 431)), (2, .ref (b + 405)), (1, .ref (b + 0)), (0, .ref bS)] _
  refine z_seti (y := 2) hu1 ?_
  refine z_istore (lv' := [(5, .int 2), (4, .int 0), (3, .ref (b + 431)), (2, .ref (b + 405)), (1, .ref (b + 0)), (0, .ref bS)]) B dL_law_287 (by decide) rfl ?_
  refine z_aload_n B dL_law_289 rfl 3 rfl ?_
  refine z_aload_n B dL_law_290 rfl 5 rfl ?_
  refine z_iload B dL_law_291 1 rfl ?_
  refine z_iconst (v := 1) B dL_law_293 (by decide) ?_
  refine z_iadd B dL_law_294 ?_
  refine z_seti (y := 1) (by decide) ?_
  refine z_sld (j := 1) (x := 5) B hX hbl hbA (by decide) (show ¬ ((1 : Int32) < 0 ∨ 6 ≤ (1 : Int32).toNatClampNeg) by decide) h_x1 dL_law_295 ?_
  refine z_aload_n B dL_law_296 rfl 5 rfl ?_
  refine z_iload B dL_law_297 1 rfl ?_
  refine z_iconst (v := 2) B dL_law_299 (by decide) ?_
  refine z_iadd B dL_law_300 ?_
  refine z_seti (y := 2) (by decide) ?_
  refine z_sld (j := 2) (x := x2) B hX hbl hbA (by decide) (show ¬ ((2 : Int32) < 0 ∨ 6 ≤ (2 : Int32).toNatClampNeg) by decide) h_x2 dL_law_301 ?_
  refine z_aload_n B dL_law_302 rfl 5 rfl ?_
  refine z_iload B dL_law_303 1 rfl ?_
  refine z_iconst (v := 3) B dL_law_305 (by decide) ?_
  refine z_iadd B dL_law_306 ?_
  refine z_seti (y := 3) (by decide) ?_
  refine z_sld (j := 3) (x := x3) B hX hbl hbA (by decide) (show ¬ ((3 : Int32) < 0 ∨ 6 ≤ (3 : Int32).toNatClampNeg) by decide) h_x3 dL_law_307 ?_
  refine z_aload_n B dL_law_308 rfl 5 rfl ?_
  refine z_iload B dL_law_309 1 rfl ?_
  refine z_iconst (v := 4) B dL_law_311 (by decide) ?_
  refine z_iadd B dL_law_312 ?_
  refine z_seti (y := 4) (by decide) ?_
  refine z_sld (j := 4) (x := x4) B hX hbl hbA (by decide) (show ¬ ((4 : Int32) < 0 ∨ 6 ≤ (4 : Int32).toNatClampNeg) by decide) h_x4 dL_law_313 ?_
  refine z_aload_n B dL_law_314 rfl 5 rfl ?_
  refine z_iload B dL_law_315 1 rfl ?_
  refine z_iconst (v := 5) B dL_law_317 (by decide) ?_
  refine z_iadd B dL_law_318 ?_
  refine z_seti (y := 5) (by decide) ?_
  refine z_sld (j := 5) (x := x5) B hX hbl hbA (by decide) (show ¬ ((5 : Int32) < 0 ∨ 6 ≤ (5 : Int32).toNatClampNeg) by decide) h_x5 dL_law_319 ?_
  refine z_cVi (As := [.int 5, .int x2, .int x3, .int x4, .int x5]) (rest := []) B cw_L_86 cx_10 dL_law_320 (ci_X9_check_627 l (σ := (ap b (wx_Z σ z) [] [] [])) (b := b) (lyA (lyZ hK)) x2 x3 x4 x5 q1_x2 q2_x2 q1_x3 q2_x3 q1_x4 q2_x4) (lKA (lKZ (hk_K hK 405 rfl rfl))) rfl (by decide) rfl (Nat.le_of_ble_eq_true rfl) (by decide) (fun r u hu => ?_)
  refine z_eqs (σ' := (ap b (wx_Z σ z) [(405, 0, 2)] [] [])) (hu.2.trans ap_ap) ?_
  show zx p l e _ s m _ below meth c g 8 _ _ _ _ 323 [(5, .int 2), (4, .int 0), (3, .ref (b + 431)), (2, .ref (b + 405)), (1, .ref (b + 0)), (0, .ref bS)] _
  refine z_seti (y := 0) hu.1 ?_
  refine z_istore (lv' := [(6, .int 0), (5, .int 2), (4, .int 0), (3, .ref (b + 431)), (2, .ref (b + 405)), (1, .ref (b + 0)), (0, .ref bS)]) B dL_law_323 (by decide) rfl ?_
  refine z_aload_n B dL_law_325 rfl 4 rfl ?_
  refine z_cVi (As := []) (rest := []) B cw_L_80 cx_10 dL_law_326 (ci_X9_thrown_73 l (σ := (ap b (wx_Z σ z) [(405, 0, 2)] [] [])) (b := b) (lyA (lyZ hK)) (rI_at 405 0 rfl)) (lKA (lKZ (hk_K hK 405 rfl rfl))) rfl (by decide) rfl (Nat.le_of_ble_eq_true rfl) (by decide) (fun r u hu => ?_)
  refine z_eqs (σ' := (ap b (wx_Z σ z) [(405, 0, 2)] [] [])) hu.2 ?_
  show zx p l e _ s m _ below meth c g 8 _ _ _ _ 329 [(6, .int 0), (5, .int 2), (4, .int 0), (3, .ref (b + 431)), (2, .ref (b + 405)), (1, .ref (b + 0)), (0, .ref bS)] _
  refine z_seti (y := 2) hu.1 ?_
  refine z_iload B dL_law_329 1 rfl ?_
  refine z_icmp_eq (tgt := 336) B dL_law_331 (by decide) (fun _ => ?_) (fun h => absurd (by decide) h)
  refine z_iload B dL_law_336 1 rfl ?_
  refine z_if_ne (tgt := 353) B dL_law_338 (by decide) (fun _ => ?_) (fun h => absurd h (by decide))
  refine z_goto (tgt := 1395) B dL_law_353 (by decide) ?_
  exact z_widen (Nat.le_of_ble_eq_true rfl) (Nat.le_of_ble_eq_true rfl) (z_sub _ [2, 6] rfl (kk _))
set_option maxRecDepth 100000 in
set_option maxHeartbeats 4000000 in
theorem lf_1_265 {p : Program} {l : Launch} {e : Env} {s : State} {m : MethodId} {args : Array Value} {below : List Frame} {meth : Method} {c : Code} {g : gx_T} {Q : State → Prop} {σ : sx_T} {b t bS : Nat} {xs : Nat → Int32} (hlt : l.stackTraces = false) (B : zx_B p s m args meth c code RL 8 g) (hX : va_X bS 6 xs s s.heap) (hbl : bS < s.heap.size) (hbA : ¬ gx_b g ≤ bS) (hF : fz_P b t σ) (h_x1 : xs 1 = 5) {x2 : Int32} (h_x2 : xs 2 = x2) (q1_x2 : (0 : Int) ≤ x2.toInt) (q2_x2 : x2.toInt ≤ (19 : Int)) {x3 : Int32} (h_x3 : xs 3 = x3) (q1_x3 : (18 : Int) ≤ x3.toInt) (q2_x3 : x3.toInt ≤ (2147483647 : Int)) {x4 : Int32} (h_x4 : xs 4 = x4) (q1_x4 : (-2147483648 : Int) ≤ x4.toInt) (q2_x4 : x4.toInt ≤ (2147483647 : Int)) {x5 : Int32} (h_x5 : xs 5 = x5) (q1_x5 : (-2147483648 : Int) ≤ x5.toInt) (q2_x5 : x5.toInt ≤ (2147483647 : Int)) (kk : ∀ σ', zx p l e room_1 s m args below meth c g 8 600002 7302232 Q σ' 1395 [(4, .int 0), (0, .ref bS)] []) : zx p l e room_1 s m args below meth c g 8 500 100000 Q σ 252 [(4, .int 0), (3, .ref (b + 431)), (2, .ref (b + 405)), (1, .ref (b + 0)), (0, .ref bS)] [] := by
  have hK := fz_lay hF
  refine z_eqs (σ' := (ap b σ [] [] [])) rfl ?_
  refine z_aload_n B dL_law_252 rfl 3 rfl ?_
  refine z_aload_n B dL_law_253 rfl 4 rfl ?_
  refine z_iload B dL_law_254 0 rfl ?_
  refine z_iconst (v := 1) B dL_law_256 (by decide) ?_
  refine z_iadd B dL_law_257 ?_
  refine z_seti (y := 1) (by decide) ?_
  refine z_sld (j := 1) (x := 5) B hX hbl hbA (by decide) (show ¬ ((1 : Int32) < 0 ∨ 6 ≤ (1 : Int32).toNatClampNeg) by decide) h_x1 dL_law_258 ?_
  refine z_aload_n B dL_law_259 rfl 4 rfl ?_
  refine z_iload B dL_law_260 0 rfl ?_
  refine z_iconst (v := 2) B dL_law_262 (by decide) ?_
  refine z_iadd B dL_law_263 ?_
  refine z_seti (y := 2) (by decide) ?_
  refine z_sld (j := 2) (x := x2) B hX hbl hbA (by decide) (show ¬ ((2 : Int32) < 0 ∨ 6 ≤ (2 : Int32).toNatClampNeg) by decide) h_x2 dL_law_264 ?_
  refine z_aload_n B dL_law_265 rfl 4 rfl ?_
  refine z_iload B dL_law_266 0 rfl ?_
  refine z_iconst (v := 3) B dL_law_268 (by decide) ?_
  refine z_iadd B dL_law_269 ?_
  refine z_seti (y := 3) (by decide) ?_
  refine z_sld (j := 3) (x := x3) B hX hbl hbA (by decide) (show ¬ ((3 : Int32) < 0 ∨ 6 ≤ (3 : Int32).toNatClampNeg) by decide) h_x3 dL_law_270 ?_
  refine z_aload_n B dL_law_271 rfl 4 rfl ?_
  refine z_iload B dL_law_272 0 rfl ?_
  refine z_iconst (v := 4) B dL_law_274 (by decide) ?_
  refine z_iadd B dL_law_275 ?_
  refine z_seti (y := 4) (by decide) ?_
  refine z_sld (j := 4) (x := x4) B hX hbl hbA (by decide) (show ¬ ((4 : Int32) < 0 ∨ 6 ≤ (4 : Int32).toNatClampNeg) by decide) h_x4 dL_law_276 ?_
  refine z_aload_n B dL_law_277 rfl 4 rfl ?_
  refine z_iload B dL_law_278 0 rfl ?_
  refine z_iconst (v := 5) B dL_law_280 (by decide) ?_
  refine z_iadd B dL_law_281 ?_
  refine z_seti (y := 5) (by decide) ?_
  refine z_sld (j := 5) (x := x5) B hX hbl hbA (by decide) (show ¬ ((5 : Int32) < 0 ∨ 6 ≤ (5 : Int32).toNatClampNeg) by decide) h_x5 dL_law_282 ?_
  refine z_aload_n B dL_law_283 rfl 1 rfl ?_
  refine z_cSWi (As := [.ref (b + 0), .int 5, .int x2, .int x3, .int x4, .int x5, .ref (b + 431)]) (rest := []) B cw_L_84 dL_law_284 (ci_L_check_629 l hlt (σ := (ap b σ [] [] [])) (b := b) (lyA hK) x2 x3 x4 x5 q1_x2 q2_x2 q1_x3 q2_x3 (rR_at 0 0 (fz_R hF 0 0 rfl rfl)) (rR_at 1 5 (fz_R hF 1 5 rfl rfl))) rfl (by decide) rfl (Nat.le_of_ble_eq_true rfl) (by decide) (fun r u hu => ?_)
  obtain ⟨hu1, z, hu⟩ := hu
  refine z_eqs (σ' := (ap b (wx_Z σ z) [] [] [])) (hu.trans az_ap) ?_
  show zx p l e _ s m _ below meth c g 8 _ _ _ _ 287 [(4, .int 0), (3, .ref (b + 431)), (2, .ref (b + 405)), (1, .ref (b + 0)), (0, .ref bS)] _
  refine z_seti (y := 2) hu1 ?_
  refine z_istore (lv' := [(5, .int 2), (4, .int 0), (3, .ref (b + 431)), (2, .ref (b + 405)), (1, .ref (b + 0)), (0, .ref bS)]) B dL_law_287 (by decide) rfl ?_
  refine z_aload_n B dL_law_289 rfl 3 rfl ?_
  refine z_aload_n B dL_law_290 rfl 5 rfl ?_
  refine z_iload B dL_law_291 1 rfl ?_
  refine z_iconst (v := 1) B dL_law_293 (by decide) ?_
  refine z_iadd B dL_law_294 ?_
  refine z_seti (y := 1) (by decide) ?_
  refine z_sld (j := 1) (x := 5) B hX hbl hbA (by decide) (show ¬ ((1 : Int32) < 0 ∨ 6 ≤ (1 : Int32).toNatClampNeg) by decide) h_x1 dL_law_295 ?_
  refine z_aload_n B dL_law_296 rfl 5 rfl ?_
  refine z_iload B dL_law_297 1 rfl ?_
  refine z_iconst (v := 2) B dL_law_299 (by decide) ?_
  refine z_iadd B dL_law_300 ?_
  refine z_seti (y := 2) (by decide) ?_
  refine z_sld (j := 2) (x := x2) B hX hbl hbA (by decide) (show ¬ ((2 : Int32) < 0 ∨ 6 ≤ (2 : Int32).toNatClampNeg) by decide) h_x2 dL_law_301 ?_
  refine z_aload_n B dL_law_302 rfl 5 rfl ?_
  refine z_iload B dL_law_303 1 rfl ?_
  refine z_iconst (v := 3) B dL_law_305 (by decide) ?_
  refine z_iadd B dL_law_306 ?_
  refine z_seti (y := 3) (by decide) ?_
  refine z_sld (j := 3) (x := x3) B hX hbl hbA (by decide) (show ¬ ((3 : Int32) < 0 ∨ 6 ≤ (3 : Int32).toNatClampNeg) by decide) h_x3 dL_law_307 ?_
  refine z_aload_n B dL_law_308 rfl 5 rfl ?_
  refine z_iload B dL_law_309 1 rfl ?_
  refine z_iconst (v := 4) B dL_law_311 (by decide) ?_
  refine z_iadd B dL_law_312 ?_
  refine z_seti (y := 4) (by decide) ?_
  refine z_sld (j := 4) (x := x4) B hX hbl hbA (by decide) (show ¬ ((4 : Int32) < 0 ∨ 6 ≤ (4 : Int32).toNatClampNeg) by decide) h_x4 dL_law_313 ?_
  refine z_aload_n B dL_law_314 rfl 5 rfl ?_
  refine z_iload B dL_law_315 1 rfl ?_
  refine z_iconst (v := 5) B dL_law_317 (by decide) ?_
  refine z_iadd B dL_law_318 ?_
  refine z_seti (y := 5) (by decide) ?_
  refine z_sld (j := 5) (x := x5) B hX hbl hbA (by decide) (show ¬ ((5 : Int32) < 0 ∨ 6 ≤ (5 : Int32).toNatClampNeg) by decide) h_x5 dL_law_319 ?_
  refine z_cVi (As := [.int 5, .int x2, .int x3, .int x4, .int x5]) (rest := []) B cw_L_86 cx_10 dL_law_320 (ci_X9_check_630 l (σ := (ap b (wx_Z σ z) [] [] [])) (b := b) (lyA (lyZ hK)) x2 x3 x4 x5 q1_x2 q2_x2 q1_x3 q2_x3) (lKA (lKZ (hk_K hK 405 rfl rfl))) rfl (by decide) rfl (Nat.le_of_ble_eq_true rfl) (by decide) (fun r u hu => ?_)
  refine z_eqs (σ' := (ap b (wx_Z σ z) [(405, 0, 2)] [] [])) (hu.2.trans ap_ap) ?_
  show zx p l e _ s m _ below meth c g 8 _ _ _ _ 323 [(5, .int 2), (4, .int 0), (3, .ref (b + 431)), (2, .ref (b + 405)), (1, .ref (b + 0)), (0, .ref bS)] _
  refine z_seti (y := 0) hu.1 ?_
  refine z_istore (lv' := [(6, .int 0), (5, .int 2), (4, .int 0), (3, .ref (b + 431)), (2, .ref (b + 405)), (1, .ref (b + 0)), (0, .ref bS)]) B dL_law_323 (by decide) rfl ?_
  refine z_aload_n B dL_law_325 rfl 4 rfl ?_
  refine z_cVi (As := []) (rest := []) B cw_L_80 cx_10 dL_law_326 (ci_X9_thrown_73 l (σ := (ap b (wx_Z σ z) [(405, 0, 2)] [] [])) (b := b) (lyA (lyZ hK)) (rI_at 405 0 rfl)) (lKA (lKZ (hk_K hK 405 rfl rfl))) rfl (by decide) rfl (Nat.le_of_ble_eq_true rfl) (by decide) (fun r u hu => ?_)
  refine z_eqs (σ' := (ap b (wx_Z σ z) [(405, 0, 2)] [] [])) hu.2 ?_
  show zx p l e _ s m _ below meth c g 8 _ _ _ _ 329 [(6, .int 0), (5, .int 2), (4, .int 0), (3, .ref (b + 431)), (2, .ref (b + 405)), (1, .ref (b + 0)), (0, .ref bS)] _
  refine z_seti (y := 2) hu.1 ?_
  refine z_iload B dL_law_329 1 rfl ?_
  refine z_icmp_eq (tgt := 336) B dL_law_331 (by decide) (fun _ => ?_) (fun h => absurd (by decide) h)
  refine z_iload B dL_law_336 1 rfl ?_
  refine z_if_ne (tgt := 353) B dL_law_338 (by decide) (fun _ => ?_) (fun h => absurd h (by decide))
  refine z_goto (tgt := 1395) B dL_law_353 (by decide) ?_
  exact z_widen (Nat.le_of_ble_eq_true rfl) (Nat.le_of_ble_eq_true rfl) (z_sub _ [2, 6] rfl (kk _))
set_option maxRecDepth 100000 in
set_option maxHeartbeats 4000000 in
theorem lf_1_266 {p : Program} {l : Launch} {e : Env} {s : State} {m : MethodId} {args : Array Value} {below : List Frame} {meth : Method} {c : Code} {g : gx_T} {Q : State → Prop} {σ : sx_T} {b t bS : Nat} {xs : Nat → Int32} (hlt : l.stackTraces = false) (B : zx_B p s m args meth c code RL 8 g) (hX : va_X bS 6 xs s s.heap) (hbl : bS < s.heap.size) (hbA : ¬ gx_b g ≤ bS) (hF : fz_P b t σ) (h_x1 : xs 1 = 5) {x2 : Int32} (h_x2 : xs 2 = x2) (q1_x2 : (20 : Int) ≤ x2.toInt) (q2_x2 : x2.toInt ≤ (2147483647 : Int)) {x3 : Int32} (h_x3 : xs 3 = x3) (q1_x3 : (-2147483648 : Int) ≤ x3.toInt) (q2_x3 : x3.toInt ≤ (-1 : Int)) {x4 : Int32} (h_x4 : xs 4 = x4) (q1_x4 : (-2147483648 : Int) ≤ x4.toInt) (q2_x4 : x4.toInt ≤ (2147483647 : Int)) {x5 : Int32} (h_x5 : xs 5 = x5) (q1_x5 : (-2147483648 : Int) ≤ x5.toInt) (q2_x5 : x5.toInt ≤ (2147483647 : Int)) (kk : ∀ σ', zx p l e room_1 s m args below meth c g 8 600002 7302232 Q σ' 1395 [(4, .int 0), (0, .ref bS)] []) : zx p l e room_1 s m args below meth c g 8 500 100000 Q σ 252 [(4, .int 0), (3, .ref (b + 431)), (2, .ref (b + 405)), (1, .ref (b + 0)), (0, .ref bS)] [] := by
  have hK := fz_lay hF
  refine z_eqs (σ' := (ap b σ [] [] [])) rfl ?_
  refine z_aload_n B dL_law_252 rfl 3 rfl ?_
  refine z_aload_n B dL_law_253 rfl 4 rfl ?_
  refine z_iload B dL_law_254 0 rfl ?_
  refine z_iconst (v := 1) B dL_law_256 (by decide) ?_
  refine z_iadd B dL_law_257 ?_
  refine z_seti (y := 1) (by decide) ?_
  refine z_sld (j := 1) (x := 5) B hX hbl hbA (by decide) (show ¬ ((1 : Int32) < 0 ∨ 6 ≤ (1 : Int32).toNatClampNeg) by decide) h_x1 dL_law_258 ?_
  refine z_aload_n B dL_law_259 rfl 4 rfl ?_
  refine z_iload B dL_law_260 0 rfl ?_
  refine z_iconst (v := 2) B dL_law_262 (by decide) ?_
  refine z_iadd B dL_law_263 ?_
  refine z_seti (y := 2) (by decide) ?_
  refine z_sld (j := 2) (x := x2) B hX hbl hbA (by decide) (show ¬ ((2 : Int32) < 0 ∨ 6 ≤ (2 : Int32).toNatClampNeg) by decide) h_x2 dL_law_264 ?_
  refine z_aload_n B dL_law_265 rfl 4 rfl ?_
  refine z_iload B dL_law_266 0 rfl ?_
  refine z_iconst (v := 3) B dL_law_268 (by decide) ?_
  refine z_iadd B dL_law_269 ?_
  refine z_seti (y := 3) (by decide) ?_
  refine z_sld (j := 3) (x := x3) B hX hbl hbA (by decide) (show ¬ ((3 : Int32) < 0 ∨ 6 ≤ (3 : Int32).toNatClampNeg) by decide) h_x3 dL_law_270 ?_
  refine z_aload_n B dL_law_271 rfl 4 rfl ?_
  refine z_iload B dL_law_272 0 rfl ?_
  refine z_iconst (v := 4) B dL_law_274 (by decide) ?_
  refine z_iadd B dL_law_275 ?_
  refine z_seti (y := 4) (by decide) ?_
  refine z_sld (j := 4) (x := x4) B hX hbl hbA (by decide) (show ¬ ((4 : Int32) < 0 ∨ 6 ≤ (4 : Int32).toNatClampNeg) by decide) h_x4 dL_law_276 ?_
  refine z_aload_n B dL_law_277 rfl 4 rfl ?_
  refine z_iload B dL_law_278 0 rfl ?_
  refine z_iconst (v := 5) B dL_law_280 (by decide) ?_
  refine z_iadd B dL_law_281 ?_
  refine z_seti (y := 5) (by decide) ?_
  refine z_sld (j := 5) (x := x5) B hX hbl hbA (by decide) (show ¬ ((5 : Int32) < 0 ∨ 6 ≤ (5 : Int32).toNatClampNeg) by decide) h_x5 dL_law_282 ?_
  refine z_aload_n B dL_law_283 rfl 1 rfl ?_
  refine z_cSWi (As := [.ref (b + 0), .int 5, .int x2, .int x3, .int x4, .int x5, .ref (b + 431)]) (rest := []) B cw_L_84 dL_law_284 (ci_L_check_632 l hlt (σ := (ap b σ [] [] [])) (b := b) (lyA hK) x2 x3 x4 x5 q1_x2 q2_x2 (rR_at 0 0 (fz_R hF 0 0 rfl rfl)) (rR_at 1 5 (fz_R hF 1 5 rfl rfl))) rfl (by decide) rfl (Nat.le_of_ble_eq_true rfl) (by decide) (fun r u hu => ?_)
  obtain ⟨hu1, z, hu⟩ := hu
  refine z_eqs (σ' := (ap b (wx_Z σ z) [] [] [])) (hu.trans az_ap) ?_
  show zx p l e _ s m _ below meth c g 8 _ _ _ _ 287 [(4, .int 0), (3, .ref (b + 431)), (2, .ref (b + 405)), (1, .ref (b + 0)), (0, .ref bS)] _
  refine z_seti (y := 1) hu1 ?_
  refine z_istore (lv' := [(5, .int 1), (4, .int 0), (3, .ref (b + 431)), (2, .ref (b + 405)), (1, .ref (b + 0)), (0, .ref bS)]) B dL_law_287 (by decide) rfl ?_
  refine z_aload_n B dL_law_289 rfl 3 rfl ?_
  refine z_aload_n B dL_law_290 rfl 5 rfl ?_
  refine z_iload B dL_law_291 1 rfl ?_
  refine z_iconst (v := 1) B dL_law_293 (by decide) ?_
  refine z_iadd B dL_law_294 ?_
  refine z_seti (y := 1) (by decide) ?_
  refine z_sld (j := 1) (x := 5) B hX hbl hbA (by decide) (show ¬ ((1 : Int32) < 0 ∨ 6 ≤ (1 : Int32).toNatClampNeg) by decide) h_x1 dL_law_295 ?_
  refine z_aload_n B dL_law_296 rfl 5 rfl ?_
  refine z_iload B dL_law_297 1 rfl ?_
  refine z_iconst (v := 2) B dL_law_299 (by decide) ?_
  refine z_iadd B dL_law_300 ?_
  refine z_seti (y := 2) (by decide) ?_
  refine z_sld (j := 2) (x := x2) B hX hbl hbA (by decide) (show ¬ ((2 : Int32) < 0 ∨ 6 ≤ (2 : Int32).toNatClampNeg) by decide) h_x2 dL_law_301 ?_
  refine z_aload_n B dL_law_302 rfl 5 rfl ?_
  refine z_iload B dL_law_303 1 rfl ?_
  refine z_iconst (v := 3) B dL_law_305 (by decide) ?_
  refine z_iadd B dL_law_306 ?_
  refine z_seti (y := 3) (by decide) ?_
  refine z_sld (j := 3) (x := x3) B hX hbl hbA (by decide) (show ¬ ((3 : Int32) < 0 ∨ 6 ≤ (3 : Int32).toNatClampNeg) by decide) h_x3 dL_law_307 ?_
  refine z_aload_n B dL_law_308 rfl 5 rfl ?_
  refine z_iload B dL_law_309 1 rfl ?_
  refine z_iconst (v := 4) B dL_law_311 (by decide) ?_
  refine z_iadd B dL_law_312 ?_
  refine z_seti (y := 4) (by decide) ?_
  refine z_sld (j := 4) (x := x4) B hX hbl hbA (by decide) (show ¬ ((4 : Int32) < 0 ∨ 6 ≤ (4 : Int32).toNatClampNeg) by decide) h_x4 dL_law_313 ?_
  refine z_aload_n B dL_law_314 rfl 5 rfl ?_
  refine z_iload B dL_law_315 1 rfl ?_
  refine z_iconst (v := 5) B dL_law_317 (by decide) ?_
  refine z_iadd B dL_law_318 ?_
  refine z_seti (y := 5) (by decide) ?_
  refine z_sld (j := 5) (x := x5) B hX hbl hbA (by decide) (show ¬ ((5 : Int32) < 0 ∨ 6 ≤ (5 : Int32).toNatClampNeg) by decide) h_x5 dL_law_319 ?_
  refine z_cVi (As := [.int 5, .int x2, .int x3, .int x4, .int x5]) (rest := []) B cw_L_86 cx_10 dL_law_320 (ci_X9_check_633 l (σ := (ap b (wx_Z σ z) [] [] [])) (b := b) (lyA (lyZ hK)) x2 x3 x4 x5 q1_x2 q2_x2 q1_x3 q2_x3) (lKA (lKZ (hk_K hK 405 rfl rfl))) rfl (by decide) rfl (Nat.le_of_ble_eq_true rfl) (by decide) (fun r u hu => ?_)
  refine z_eqs (σ' := (ap b (wx_Z σ z) [(405, 0, 1)] [] [])) (hu.2.trans ap_ap) ?_
  show zx p l e _ s m _ below meth c g 8 _ _ _ _ 323 [(5, .int 1), (4, .int 0), (3, .ref (b + 431)), (2, .ref (b + 405)), (1, .ref (b + 0)), (0, .ref bS)] _
  refine z_seti (y := 0) hu.1 ?_
  refine z_istore (lv' := [(6, .int 0), (5, .int 1), (4, .int 0), (3, .ref (b + 431)), (2, .ref (b + 405)), (1, .ref (b + 0)), (0, .ref bS)]) B dL_law_323 (by decide) rfl ?_
  refine z_aload_n B dL_law_325 rfl 4 rfl ?_
  refine z_cVi (As := []) (rest := []) B cw_L_80 cx_10 dL_law_326 (ci_X9_thrown_31 l (σ := (ap b (wx_Z σ z) [(405, 0, 1)] [] [])) (b := b) (lyA (lyZ hK)) (rI_at 405 0 rfl)) (lKA (lKZ (hk_K hK 405 rfl rfl))) rfl (by decide) rfl (Nat.le_of_ble_eq_true rfl) (by decide) (fun r u hu => ?_)
  refine z_eqs (σ' := (ap b (wx_Z σ z) [(405, 0, 1)] [] [])) hu.2 ?_
  show zx p l e _ s m _ below meth c g 8 _ _ _ _ 329 [(6, .int 0), (5, .int 1), (4, .int 0), (3, .ref (b + 431)), (2, .ref (b + 405)), (1, .ref (b + 0)), (0, .ref bS)] _
  refine z_seti (y := 1) hu.1 ?_
  refine z_iload B dL_law_329 1 rfl ?_
  refine z_icmp_eq (tgt := 336) B dL_law_331 (by decide) (fun _ => ?_) (fun h => absurd (by decide) h)
  refine z_iload B dL_law_336 1 rfl ?_
  refine z_if_ne (tgt := 353) B dL_law_338 (by decide) (fun _ => ?_) (fun h => absurd h (by decide))
  refine z_goto (tgt := 1395) B dL_law_353 (by decide) ?_
  exact z_widen (Nat.le_of_ble_eq_true rfl) (Nat.le_of_ble_eq_true rfl) (z_sub _ [2, 6] rfl (kk _))
set_option maxRecDepth 100000 in
set_option maxHeartbeats 4000000 in
theorem lf_1_267 {p : Program} {l : Launch} {e : Env} {s : State} {m : MethodId} {args : Array Value} {below : List Frame} {meth : Method} {c : Code} {g : gx_T} {Q : State → Prop} {σ : sx_T} {b t bS : Nat} {xs : Nat → Int32} (hlt : l.stackTraces = false) (B : zx_B p s m args meth c code RL 8 g) (hX : va_X bS 6 xs s s.heap) (hbl : bS < s.heap.size) (hbA : ¬ gx_b g ≤ bS) (hF : fz_P b t σ) (h_x1 : xs 1 = 5) {x2 : Int32} (h_x2 : xs 2 = x2) (q1_x2 : (20 : Int) ≤ x2.toInt) (q2_x2 : x2.toInt ≤ (2147483647 : Int)) {x3 : Int32} (h_x3 : xs 3 = x3) (q1_x3 : (0 : Int) ≤ x3.toInt) (q2_x3 : x3.toInt ≤ (17 : Int)) {x4 : Int32} (h_x4 : xs 4 = x4) (q1_x4 : (-2147483648 : Int) ≤ x4.toInt) (q2_x4 : x4.toInt ≤ (-1 : Int)) {x5 : Int32} (h_x5 : xs 5 = x5) (q1_x5 : (-2147483648 : Int) ≤ x5.toInt) (q2_x5 : x5.toInt ≤ (2147483647 : Int)) (kk : ∀ σ', zx p l e room_1 s m args below meth c g 8 600002 7302232 Q σ' 1395 [(4, .int 0), (0, .ref bS)] []) : zx p l e room_1 s m args below meth c g 8 500 100000 Q σ 252 [(4, .int 0), (3, .ref (b + 431)), (2, .ref (b + 405)), (1, .ref (b + 0)), (0, .ref bS)] [] := by
  have hK := fz_lay hF
  refine z_eqs (σ' := (ap b σ [] [] [])) rfl ?_
  refine z_aload_n B dL_law_252 rfl 3 rfl ?_
  refine z_aload_n B dL_law_253 rfl 4 rfl ?_
  refine z_iload B dL_law_254 0 rfl ?_
  refine z_iconst (v := 1) B dL_law_256 (by decide) ?_
  refine z_iadd B dL_law_257 ?_
  refine z_seti (y := 1) (by decide) ?_
  refine z_sld (j := 1) (x := 5) B hX hbl hbA (by decide) (show ¬ ((1 : Int32) < 0 ∨ 6 ≤ (1 : Int32).toNatClampNeg) by decide) h_x1 dL_law_258 ?_
  refine z_aload_n B dL_law_259 rfl 4 rfl ?_
  refine z_iload B dL_law_260 0 rfl ?_
  refine z_iconst (v := 2) B dL_law_262 (by decide) ?_
  refine z_iadd B dL_law_263 ?_
  refine z_seti (y := 2) (by decide) ?_
  refine z_sld (j := 2) (x := x2) B hX hbl hbA (by decide) (show ¬ ((2 : Int32) < 0 ∨ 6 ≤ (2 : Int32).toNatClampNeg) by decide) h_x2 dL_law_264 ?_
  refine z_aload_n B dL_law_265 rfl 4 rfl ?_
  refine z_iload B dL_law_266 0 rfl ?_
  refine z_iconst (v := 3) B dL_law_268 (by decide) ?_
  refine z_iadd B dL_law_269 ?_
  refine z_seti (y := 3) (by decide) ?_
  refine z_sld (j := 3) (x := x3) B hX hbl hbA (by decide) (show ¬ ((3 : Int32) < 0 ∨ 6 ≤ (3 : Int32).toNatClampNeg) by decide) h_x3 dL_law_270 ?_
  refine z_aload_n B dL_law_271 rfl 4 rfl ?_
  refine z_iload B dL_law_272 0 rfl ?_
  refine z_iconst (v := 4) B dL_law_274 (by decide) ?_
  refine z_iadd B dL_law_275 ?_
  refine z_seti (y := 4) (by decide) ?_
  refine z_sld (j := 4) (x := x4) B hX hbl hbA (by decide) (show ¬ ((4 : Int32) < 0 ∨ 6 ≤ (4 : Int32).toNatClampNeg) by decide) h_x4 dL_law_276 ?_
  refine z_aload_n B dL_law_277 rfl 4 rfl ?_
  refine z_iload B dL_law_278 0 rfl ?_
  refine z_iconst (v := 5) B dL_law_280 (by decide) ?_
  refine z_iadd B dL_law_281 ?_
  refine z_seti (y := 5) (by decide) ?_
  refine z_sld (j := 5) (x := x5) B hX hbl hbA (by decide) (show ¬ ((5 : Int32) < 0 ∨ 6 ≤ (5 : Int32).toNatClampNeg) by decide) h_x5 dL_law_282 ?_
  refine z_aload_n B dL_law_283 rfl 1 rfl ?_
  refine z_cSWi (As := [.ref (b + 0), .int 5, .int x2, .int x3, .int x4, .int x5, .ref (b + 431)]) (rest := []) B cw_L_84 dL_law_284 (ci_L_check_632 l hlt (σ := (ap b σ [] [] [])) (b := b) (lyA hK) x2 x3 x4 x5 q1_x2 q2_x2 (rR_at 0 0 (fz_R hF 0 0 rfl rfl)) (rR_at 1 5 (fz_R hF 1 5 rfl rfl))) rfl (by decide) rfl (Nat.le_of_ble_eq_true rfl) (by decide) (fun r u hu => ?_)
  obtain ⟨hu1, z, hu⟩ := hu
  refine z_eqs (σ' := (ap b (wx_Z σ z) [] [] [])) (hu.trans az_ap) ?_
  show zx p l e _ s m _ below meth c g 8 _ _ _ _ 287 [(4, .int 0), (3, .ref (b + 431)), (2, .ref (b + 405)), (1, .ref (b + 0)), (0, .ref bS)] _
  refine z_seti (y := 1) hu1 ?_
  refine z_istore (lv' := [(5, .int 1), (4, .int 0), (3, .ref (b + 431)), (2, .ref (b + 405)), (1, .ref (b + 0)), (0, .ref bS)]) B dL_law_287 (by decide) rfl ?_
  refine z_aload_n B dL_law_289 rfl 3 rfl ?_
  refine z_aload_n B dL_law_290 rfl 5 rfl ?_
  refine z_iload B dL_law_291 1 rfl ?_
  refine z_iconst (v := 1) B dL_law_293 (by decide) ?_
  refine z_iadd B dL_law_294 ?_
  refine z_seti (y := 1) (by decide) ?_
  refine z_sld (j := 1) (x := 5) B hX hbl hbA (by decide) (show ¬ ((1 : Int32) < 0 ∨ 6 ≤ (1 : Int32).toNatClampNeg) by decide) h_x1 dL_law_295 ?_
  refine z_aload_n B dL_law_296 rfl 5 rfl ?_
  refine z_iload B dL_law_297 1 rfl ?_
  refine z_iconst (v := 2) B dL_law_299 (by decide) ?_
  refine z_iadd B dL_law_300 ?_
  refine z_seti (y := 2) (by decide) ?_
  refine z_sld (j := 2) (x := x2) B hX hbl hbA (by decide) (show ¬ ((2 : Int32) < 0 ∨ 6 ≤ (2 : Int32).toNatClampNeg) by decide) h_x2 dL_law_301 ?_
  refine z_aload_n B dL_law_302 rfl 5 rfl ?_
  refine z_iload B dL_law_303 1 rfl ?_
  refine z_iconst (v := 3) B dL_law_305 (by decide) ?_
  refine z_iadd B dL_law_306 ?_
  refine z_seti (y := 3) (by decide) ?_
  refine z_sld (j := 3) (x := x3) B hX hbl hbA (by decide) (show ¬ ((3 : Int32) < 0 ∨ 6 ≤ (3 : Int32).toNatClampNeg) by decide) h_x3 dL_law_307 ?_
  refine z_aload_n B dL_law_308 rfl 5 rfl ?_
  refine z_iload B dL_law_309 1 rfl ?_
  refine z_iconst (v := 4) B dL_law_311 (by decide) ?_
  refine z_iadd B dL_law_312 ?_
  refine z_seti (y := 4) (by decide) ?_
  refine z_sld (j := 4) (x := x4) B hX hbl hbA (by decide) (show ¬ ((4 : Int32) < 0 ∨ 6 ≤ (4 : Int32).toNatClampNeg) by decide) h_x4 dL_law_313 ?_
  refine z_aload_n B dL_law_314 rfl 5 rfl ?_
  refine z_iload B dL_law_315 1 rfl ?_
  refine z_iconst (v := 5) B dL_law_317 (by decide) ?_
  refine z_iadd B dL_law_318 ?_
  refine z_seti (y := 5) (by decide) ?_
  refine z_sld (j := 5) (x := x5) B hX hbl hbA (by decide) (show ¬ ((5 : Int32) < 0 ∨ 6 ≤ (5 : Int32).toNatClampNeg) by decide) h_x5 dL_law_319 ?_
  refine z_cVi (As := [.int 5, .int x2, .int x3, .int x4, .int x5]) (rest := []) B cw_L_86 cx_10 dL_law_320 (ci_X9_check_634 l (σ := (ap b (wx_Z σ z) [] [] [])) (b := b) (lyA (lyZ hK)) x2 x3 x4 x5 q1_x2 q2_x2 q1_x3 q2_x3 q1_x4 q2_x4) (lKA (lKZ (hk_K hK 405 rfl rfl))) rfl (by decide) rfl (Nat.le_of_ble_eq_true rfl) (by decide) (fun r u hu => ?_)
  refine z_eqs (σ' := (ap b (wx_Z σ z) [(405, 0, 1)] [] [])) (hu.2.trans ap_ap) ?_
  show zx p l e _ s m _ below meth c g 8 _ _ _ _ 323 [(5, .int 1), (4, .int 0), (3, .ref (b + 431)), (2, .ref (b + 405)), (1, .ref (b + 0)), (0, .ref bS)] _
  refine z_seti (y := 0) hu.1 ?_
  refine z_istore (lv' := [(6, .int 0), (5, .int 1), (4, .int 0), (3, .ref (b + 431)), (2, .ref (b + 405)), (1, .ref (b + 0)), (0, .ref bS)]) B dL_law_323 (by decide) rfl ?_
  refine z_aload_n B dL_law_325 rfl 4 rfl ?_
  refine z_cVi (As := []) (rest := []) B cw_L_80 cx_10 dL_law_326 (ci_X9_thrown_31 l (σ := (ap b (wx_Z σ z) [(405, 0, 1)] [] [])) (b := b) (lyA (lyZ hK)) (rI_at 405 0 rfl)) (lKA (lKZ (hk_K hK 405 rfl rfl))) rfl (by decide) rfl (Nat.le_of_ble_eq_true rfl) (by decide) (fun r u hu => ?_)
  refine z_eqs (σ' := (ap b (wx_Z σ z) [(405, 0, 1)] [] [])) hu.2 ?_
  show zx p l e _ s m _ below meth c g 8 _ _ _ _ 329 [(6, .int 0), (5, .int 1), (4, .int 0), (3, .ref (b + 431)), (2, .ref (b + 405)), (1, .ref (b + 0)), (0, .ref bS)] _
  refine z_seti (y := 1) hu.1 ?_
  refine z_iload B dL_law_329 1 rfl ?_
  refine z_icmp_eq (tgt := 336) B dL_law_331 (by decide) (fun _ => ?_) (fun h => absurd (by decide) h)
  refine z_iload B dL_law_336 1 rfl ?_
  refine z_if_ne (tgt := 353) B dL_law_338 (by decide) (fun _ => ?_) (fun h => absurd h (by decide))
  refine z_goto (tgt := 1395) B dL_law_353 (by decide) ?_
  exact z_widen (Nat.le_of_ble_eq_true rfl) (Nat.le_of_ble_eq_true rfl) (z_sub _ [2, 6] rfl (kk _))
