set_option maxRecDepth 100000 in
set_option maxHeartbeats 4000000 in
theorem ci_X9_set_266 (l : Launch) {g : gx_T} {σ : sx_T} {b : Nat} (hK : lay b σ) (w1 : Int32) (w2 : Int32) (w3 : Int32) (w4 : Int32) (q1_w1 : (20 : Int) ≤ w1.toInt) (q2_w1 : w1.toInt ≤ (2147483647 : Int)) (q1_w2 : (0 : Int) ≤ w2.toInt) (q2_w2 : w2.toInt ≤ (17 : Int)) (q1_w3 : (0 : Int) ≤ w3.toInt) (q2_w3 : w3.toInt ≤ (99 : Int)) (q1_w4 : (100 : Int) ≤ w4.toInt) (q2_w4 : w4.toInt ≤ (2147483647 : Int))  : Met l yX9_set (.code yX9_set cX9_set 7 (some .int) :: lw_g) { frames := 2, cells := 0, slots := 0, locals := 44 } (va_Pc [.ref (b + 405), .int 3, .int w1, .int w2, .int w3, .int w4] (zx_w g σ)) (va_Qi (fun r u => r = 0 ∧ u = (ap b σ [(405, 0, 1)] [] [])) (zx_w g) (gx_Q g)) 0 0 (gx_Q g) := by
  refine z_met (by decide) (Nat.le_of_ble_eq_true rfl) (fun p e s m below meth c B hr hin => ?_)
  refine z_eqs (σ' := (ap b σ [] [] [])) rfl ?_
  show zx p l e _ s m _ below meth c g 7 0 0 _ _ 0 [(0, .ref (b + 405)), (1, .int 3), (2, .int w1), (3, .int w2), (4, .int w3), (5, .int w4)] []
  refine z_aload_n B dX9_set_0 rfl 0 rfl ?_
  refine z_iload_n B dX9_set_1 rfl 1 rfl ?_
  refine z_iload_n B dX9_set_2 rfl 2 rfl ?_
  refine z_cSi (As := [.int 3, .int w1]) (rest := [.ref (b + 405)]) B cw_X9_238 dX9_set_3 (ci_X9_isStep_261 l (σ := (ap b σ [] [] [])) (b := b) (lyA hK) w1 q1_w1 q2_w1) rfl (by decide) rfl (Nat.le_of_ble_eq_true rfl) (by decide) (fun r u hu => ?_)
  refine z_eqs (σ' := (ap b σ [] [] [])) hu.2 ?_
  show zx p l e _ s m _ below meth c g 7 0 0 _ _ 6 [(0, .ref (b + 405)), (1, .int 3), (2, .int w1), (3, .int w2), (4, .int w3), (5, .int w4)] _
  refine z_seti (y := 0) hu.1 ?_
  refine z_iload_n B dX9_set_6 rfl 3 rfl ?_
  refine z_iload B dX9_set_7 4 rfl ?_
  refine z_iload B dX9_set_9 5 rfl ?_
  refine z_cSi (As := [.int w2, .int w3, .int w4]) (rest := [.int 0, .ref (b + 405)]) B cw_X9_242 dX9_set_11 (ci_X9_isOperation_43 l (σ := (ap b σ [] [] [])) (b := b) (lyA hK) w2 w3 w4 q1_w2 q2_w2 q1_w3 q2_w3 q1_w4 q2_w4) rfl (by decide) rfl (Nat.le_of_ble_eq_true rfl) (by decide) (fun r u hu => ?_)
  refine z_eqs (σ' := (ap b σ [] [] [])) hu.2 ?_
  show zx p l e _ s m _ below meth c g 7 0 0 _ _ 14 [(0, .ref (b + 405)), (1, .int 3), (2, .int w1), (3, .int w2), (4, .int w3), (5, .int w4)] _
  refine z_seti (y := 0) hu.1 ?_
  refine z_cVi (As := [.int 0, .int 0]) (rest := []) B cw_X9_245 cx_10 dX9_set_14 (ci_X9_needs__29 l (σ := (ap b σ [] [] [])) (b := b) (lyA hK) ) (lKA (hk_K hK 405 rfl rfl)) rfl (by decide) rfl (Nat.le_of_ble_eq_true rfl) (by decide) (fun r u hu => ?_)
  refine z_eqs (σ' := (ap b σ [(405, 0, 1)] [] [])) (hu.2.trans ap_ap) ?_
  show zx p l e _ s m _ below meth c g 7 0 0 _ _ 17 [(0, .ref (b + 405)), (1, .int 3), (2, .int w1), (3, .int w2), (4, .int w3), (5, .int w4)] _
  refine z_seti (y := 0) hu.1 ?_
  refine z_if_ne (tgt := 22) B dX9_set_17 (by decide) (fun h => absurd (by decide) h) (fun _ => ?_)
  refine z_iconst (v := 0) B dX9_set_20 (by decide) ?_
  exact z_iret B hr (by decide) (by decide) dX9_set_21 ⟨rfl, rfl⟩
set_option maxRecDepth 100000 in
set_option maxHeartbeats 4000000 in
theorem ci_X9_set_267 (l : Launch) {g : gx_T} {σ : sx_T} {b : Nat} (hK : lay b σ) (w1 : Int32) (w2 : Int32) (w3 : Int32) (w4 : Int32) (q1_w1 : (20 : Int) ≤ w1.toInt) (q2_w1 : w1.toInt ≤ (2147483647 : Int)) (q1_w2 : (0 : Int) ≤ w2.toInt) (q2_w2 : w2.toInt ≤ (17 : Int)) (q1_w3 : (100 : Int) ≤ w3.toInt) (q2_w3 : w3.toInt ≤ (2147483647 : Int))  : Met l yX9_set (.code yX9_set cX9_set 7 (some .int) :: lw_g) { frames := 2, cells := 0, slots := 0, locals := 44 } (va_Pc [.ref (b + 405), .int 3, .int w1, .int w2, .int w3, .int w4] (zx_w g σ)) (va_Qi (fun r u => r = 0 ∧ u = (ap b σ [(405, 0, 1)] [] [])) (zx_w g) (gx_Q g)) 0 0 (gx_Q g) := by
  refine z_met (by decide) (Nat.le_of_ble_eq_true rfl) (fun p e s m below meth c B hr hin => ?_)
  refine z_eqs (σ' := (ap b σ [] [] [])) rfl ?_
  show zx p l e _ s m _ below meth c g 7 0 0 _ _ 0 [(0, .ref (b + 405)), (1, .int 3), (2, .int w1), (3, .int w2), (4, .int w3), (5, .int w4)] []
  refine z_aload_n B dX9_set_0 rfl 0 rfl ?_
  refine z_iload_n B dX9_set_1 rfl 1 rfl ?_
  refine z_iload_n B dX9_set_2 rfl 2 rfl ?_
  refine z_cSi (As := [.int 3, .int w1]) (rest := [.ref (b + 405)]) B cw_X9_238 dX9_set_3 (ci_X9_isStep_261 l (σ := (ap b σ [] [] [])) (b := b) (lyA hK) w1 q1_w1 q2_w1) rfl (by decide) rfl (Nat.le_of_ble_eq_true rfl) (by decide) (fun r u hu => ?_)
  refine z_eqs (σ' := (ap b σ [] [] [])) hu.2 ?_
  show zx p l e _ s m _ below meth c g 7 0 0 _ _ 6 [(0, .ref (b + 405)), (1, .int 3), (2, .int w1), (3, .int w2), (4, .int w3), (5, .int w4)] _
  refine z_seti (y := 0) hu.1 ?_
  refine z_iload_n B dX9_set_6 rfl 3 rfl ?_
  refine z_iload B dX9_set_7 4 rfl ?_
  refine z_iload B dX9_set_9 5 rfl ?_
  refine z_cSi (As := [.int w2, .int w3, .int w4]) (rest := [.int 0, .ref (b + 405)]) B cw_X9_242 dX9_set_11 (ci_X9_isOperation_45 l (σ := (ap b σ [] [] [])) (b := b) (lyA hK) w2 w3 w4 q1_w2 q2_w2 q1_w3 q2_w3) rfl (by decide) rfl (Nat.le_of_ble_eq_true rfl) (by decide) (fun r u hu => ?_)
  refine z_eqs (σ' := (ap b σ [] [] [])) hu.2 ?_
  show zx p l e _ s m _ below meth c g 7 0 0 _ _ 14 [(0, .ref (b + 405)), (1, .int 3), (2, .int w1), (3, .int w2), (4, .int w3), (5, .int w4)] _
  refine z_seti (y := 0) hu.1 ?_
  refine z_cVi (As := [.int 0, .int 0]) (rest := []) B cw_X9_245 cx_10 dX9_set_14 (ci_X9_needs__29 l (σ := (ap b σ [] [] [])) (b := b) (lyA hK) ) (lKA (hk_K hK 405 rfl rfl)) rfl (by decide) rfl (Nat.le_of_ble_eq_true rfl) (by decide) (fun r u hu => ?_)
  refine z_eqs (σ' := (ap b σ [(405, 0, 1)] [] [])) (hu.2.trans ap_ap) ?_
  show zx p l e _ s m _ below meth c g 7 0 0 _ _ 17 [(0, .ref (b + 405)), (1, .int 3), (2, .int w1), (3, .int w2), (4, .int w3), (5, .int w4)] _
  refine z_seti (y := 0) hu.1 ?_
  refine z_if_ne (tgt := 22) B dX9_set_17 (by decide) (fun h => absurd (by decide) h) (fun _ => ?_)
  refine z_iconst (v := 0) B dX9_set_20 (by decide) ?_
  exact z_iret B hr (by decide) (by decide) dX9_set_21 ⟨rfl, rfl⟩
set_option maxRecDepth 100000 in
set_option maxHeartbeats 4000000 in
theorem ci_X9_set_268 (l : Launch) {g : gx_T} {σ : sx_T} {b : Nat} (hK : lay b σ) (w1 : Int32) (w2 : Int32) (w3 : Int32) (w4 : Int32) (q1_w1 : (20 : Int) ≤ w1.toInt) (q2_w1 : w1.toInt ≤ (2147483647 : Int)) (q1_w2 : (18 : Int) ≤ w2.toInt) (q2_w2 : w2.toInt ≤ (2147483647 : Int))  : Met l yX9_set (.code yX9_set cX9_set 7 (some .int) :: lw_g) { frames := 2, cells := 0, slots := 0, locals := 44 } (va_Pc [.ref (b + 405), .int 3, .int w1, .int w2, .int w3, .int w4] (zx_w g σ)) (va_Qi (fun r u => r = 0 ∧ u = (ap b σ [(405, 0, 1)] [] [])) (zx_w g) (gx_Q g)) 0 0 (gx_Q g) := by
  refine z_met (by decide) (Nat.le_of_ble_eq_true rfl) (fun p e s m below meth c B hr hin => ?_)
  refine z_eqs (σ' := (ap b σ [] [] [])) rfl ?_
  show zx p l e _ s m _ below meth c g 7 0 0 _ _ 0 [(0, .ref (b + 405)), (1, .int 3), (2, .int w1), (3, .int w2), (4, .int w3), (5, .int w4)] []
  refine z_aload_n B dX9_set_0 rfl 0 rfl ?_
  refine z_iload_n B dX9_set_1 rfl 1 rfl ?_
  refine z_iload_n B dX9_set_2 rfl 2 rfl ?_
  refine z_cSi (As := [.int 3, .int w1]) (rest := [.ref (b + 405)]) B cw_X9_238 dX9_set_3 (ci_X9_isStep_261 l (σ := (ap b σ [] [] [])) (b := b) (lyA hK) w1 q1_w1 q2_w1) rfl (by decide) rfl (Nat.le_of_ble_eq_true rfl) (by decide) (fun r u hu => ?_)
  refine z_eqs (σ' := (ap b σ [] [] [])) hu.2 ?_
  show zx p l e _ s m _ below meth c g 7 0 0 _ _ 6 [(0, .ref (b + 405)), (1, .int 3), (2, .int w1), (3, .int w2), (4, .int w3), (5, .int w4)] _
  refine z_seti (y := 0) hu.1 ?_
  refine z_iload_n B dX9_set_6 rfl 3 rfl ?_
  refine z_iload B dX9_set_7 4 rfl ?_
  refine z_iload B dX9_set_9 5 rfl ?_
  refine z_cSi (As := [.int w2, .int w3, .int w4]) (rest := [.int 0, .ref (b + 405)]) B cw_X9_242 dX9_set_11 (ci_X9_isOperation_48 l (σ := (ap b σ [] [] [])) (b := b) (lyA hK) w2 w3 w4 q1_w2 q2_w2) rfl (by decide) rfl (Nat.le_of_ble_eq_true rfl) (by decide) (fun r u hu => ?_)
  refine z_eqs (σ' := (ap b σ [] [] [])) hu.2 ?_
  show zx p l e _ s m _ below meth c g 7 0 0 _ _ 14 [(0, .ref (b + 405)), (1, .int 3), (2, .int w1), (3, .int w2), (4, .int w3), (5, .int w4)] _
  refine z_seti (y := 0) hu.1 ?_
  refine z_cVi (As := [.int 0, .int 0]) (rest := []) B cw_X9_245 cx_10 dX9_set_14 (ci_X9_needs__29 l (σ := (ap b σ [] [] [])) (b := b) (lyA hK) ) (lKA (hk_K hK 405 rfl rfl)) rfl (by decide) rfl (Nat.le_of_ble_eq_true rfl) (by decide) (fun r u hu => ?_)
  refine z_eqs (σ' := (ap b σ [(405, 0, 1)] [] [])) (hu.2.trans ap_ap) ?_
  show zx p l e _ s m _ below meth c g 7 0 0 _ _ 17 [(0, .ref (b + 405)), (1, .int 3), (2, .int w1), (3, .int w2), (4, .int w3), (5, .int w4)] _
  refine z_seti (y := 0) hu.1 ?_
  refine z_if_ne (tgt := 22) B dX9_set_17 (by decide) (fun h => absurd (by decide) h) (fun _ => ?_)
  refine z_iconst (v := 0) B dX9_set_20 (by decide) ?_
  exact z_iret B hr (by decide) (by decide) dX9_set_21 ⟨rfl, rfl⟩
set_option maxRecDepth 100000 in
set_option maxHeartbeats 4000000 in
theorem ci_X8_programAt_269 (l : Launch) {g : gx_T} {σ : sx_T} {b : Nat} (hK : lay b σ)   (hR_0_0 : sx_R σ (b + 0) 0 = (some (b + 1))) (hR_1_4 : sx_R σ (b + 1) 4 = (some (b + 25))) : Met l yX8_programAt (.code yX8_programAt cX8_programAt 2 (some (.object "Loomkeeper$Program")) :: lw_g) { frames := 0, cells := 0, slots := 0, locals := 0 } (va_Pc [.ref (b + 0), .int 4] (zx_w g σ)) (va_Qq (fun r u => r = (some (b + 25)) ∧ u = σ) (zx_w g) (gx_Q g)) 0 0 (gx_Q g) := by
  refine z_met (by decide) (Nat.le_of_ble_eq_true rfl) (fun p e s m below meth c B hr hin => ?_)
  refine z_eqs (σ' := (ap b σ [] [] [])) rfl ?_
  show zx p l e _ s m _ below meth c g 2 0 0 _ _ 0 [(0, .ref (b + 0)), (1, .int 4)] []
  refine z_iload_n B dX8_programAt_0 rfl 1 rfl ?_
  refine z_if_lt (tgt := 22) B dX8_programAt_1 (by decide) (fun h => absurd h (by decide)) (fun _ => ?_)
  refine z_iload_n B dX8_programAt_4 rfl 1 rfl ?_
  refine z_aload_n B dX8_programAt_5 rfl 0 rfl ?_
  refine gf_X8_11 (x := (some (b + 1))) B (lKA (hk_K hK 0 rfl rfl)) (rR_at 0 0 hR_0_0) dX8_programAt_6 ?_
  refine z_alen (kd := 16) (ti := 4) (v := 6) B (lKA (hk_K hK 1 rfl rfl)) (by decide) rfl (congrArg Int32.ofNat (lNA (hk_N hK 1 rfl rfl))) dX8_programAt_9 ?_
  refine z_icmp_ge (tgt := 22) B dX8_programAt_10 (by decide) (fun h => absurd h (by decide)) (fun _ => ?_)
  refine z_aload_n B dX8_programAt_13 rfl 0 rfl ?_
  refine gf_X8_11 (x := (some (b + 1))) B (lKA (hk_K hK 0 rfl rfl)) (rR_at 0 0 hR_0_0) dX8_programAt_14 ?_
  refine z_iload_n B dX8_programAt_17 rfl 1 rfl ?_
  refine z_qald (j := 4) (kd := 16) (ti := 4) (r := (some (b + 25))) B (lKA (hk_K hK 1 rfl rfl)) (by decide) rfl (by decide) (in_of (lNA (hk_N hK 1 rfl rfl)) (show ¬ ((4 : Int32) < 0 ∨ 6 ≤ (4 : Int32).toNatClampNeg) by decide)) (rR_at 1 4 hR_1_4) dX8_programAt_18 ?_
  refine z_goto (tgt := 23) B dX8_programAt_19 (by decide) ?_
  exact z_qret (r := (some (b + 25))) B hr (by decide) (by decide) dX8_programAt_23 ⟨rfl, rfl⟩
set_option maxRecDepth 100000 in
set_option maxHeartbeats 4000000 in
theorem ci_X8_set_270 (l : Launch) (hlt : l.stackTraces = false) {g : gx_T} {σ : sx_T} {b : Nat} (hK : lay b σ) (w1 : Int32) (w2 : Int32) (w3 : Int32) (w4 : Int32) (q1_w1 : (-2147483648 : Int) ≤ w1.toInt) (q2_w1 : w1.toInt ≤ (-1 : Int)) (hR_0_0 : sx_R σ (b + 0) 0 = (some (b + 1))) (hR_1_4 : sx_R σ (b + 1) 4 = (some (b + 25))) : vx_Met l yX8_set (.code yX8_set cX8_set 9 (some .int) :: lw_g) { frames := 7, cells := 1, slots := 6, locals := 136 } (va_Pc [.ref (b + 0), .int 4, .int w1, .int w2, .int w3, .int w4] (zx_w g σ)) (va_Qi (S := sx_T) (fun _ _ => False) (zx_w g) (gx_Q g)) (vx_X (fun u : sx_T => ∃ z, u = wx_Z σ z) (fun E u t => E = "java/lang/IndexOutOfBoundsException" ∧ zx_h g u t.heap) (gx_Q g)) 1 6 (gx_Q g) := by
  refine z_metX (by decide) (Nat.le_of_ble_eq_true rfl) (fun p e s m below meth c B hr hin hout => ?_)
  refine z_eqs (σ' := (ap b σ [] [] [])) rfl ?_
  show zx p l e _ s m _ below meth c g 9 0 0 _ _ 0 [(0, .ref (b + 0)), (1, .int 4), (2, .int w1), (3, .int w2), (4, .int w3), (5, .int w4)] []
  refine z_aload_n B dX8_set_0 rfl 0 rfl ?_
  refine z_iload_n B dX8_set_1 rfl 1 rfl ?_
  refine z_cVq (As := [.int 4]) (rest := []) B cw_X8_64 cx_9 dX8_set_2 (ci_X8_programAt_269 l (σ := (ap b σ [] [] [])) (b := b) (lyA hK) (rR_at 0 0 hR_0_0) (rR_at 1 4 hR_1_4)) (lKA (hk_K hK 0 rfl rfl)) rfl (by decide) rfl (Nat.le_of_ble_eq_true rfl) (by decide) (fun r u hu => ?_)
  refine z_eqs (σ' := (ap b σ [] [] [])) hu.2 ?_
  show zx p l e _ s m _ below meth c g 9 0 0 _ _ 5 [(0, .ref (b + 0)), (1, .int 4), (2, .int w1), (3, .int w2), (4, .int w3), (5, .int w4)] _
  refine z_setr (y := (some (b + 25))) hu.1 ?_
  refine z_astore (lv' := [(6, .ref (b + 25)), (0, .ref (b + 0)), (1, .int 4), (2, .int w1), (3, .int w2), (4, .int w3), (5, .int w4)]) B dX8_set_5 (by decide) rfl ?_
  refine z_aload B dX8_set_7 0 rfl ?_
  refine z_ifnull (r := (some (b + 25))) (tgt := 21) B dX8_set_9 (by decide) (fun h => nomatch h) (fun _ _ => ?_)
  refine z_iload_n B dX8_set_12 rfl 3 rfl ?_
  refine z_bipush (v := 20) B dX8_set_13 (by decide) ?_
  refine z_cSi (As := [.int w1, .int 20]) (rest := []) B cw_X8_68 dX8_set_15 (ci_X8_isBelow_51 l (σ := (ap b σ [] [] [])) (b := b) (lyA hK) w1 q1_w1 q2_w1) rfl (by decide) rfl (Nat.le_of_ble_eq_true rfl) (by decide) (fun r u hu => ?_)
  refine z_eqs (σ' := (ap b σ [] [] [])) hu.2 ?_
  show zx p l e _ s m _ below meth c g 9 0 0 _ _ 18 [(6, .ref (b + 25)), (0, .ref (b + 0)), (1, .int 4), (2, .int w1), (3, .int w2), (4, .int w3), (5, .int w4)] _
  refine z_seti (y := 0) hu.1 ?_
  refine z_if_ne (tgt := 31) B dX8_set_18 (by decide) (fun h => absurd (by decide) h) (fun _ => ?_)
  exact z_throw B hlt hout (cls := "java/lang/IndexOutOfBoundsException") (text := "no such step") tw_X8_72_74_76 dX8_set_21 dX8_set_24 dX8_set_25 dX8_set_27 dX8_set_30 (by decide) (by decide) (by decide) (by decide) (by decide) (by decide) (fun z => ⟨z, rfl⟩)
set_option maxRecDepth 100000 in
set_option maxHeartbeats 4000000 in
theorem ci_L_set_271 (l : Launch) (hlt : l.stackTraces = false) {g : gx_T} {σ : sx_T} {b : Nat} (hK : lay b σ) (w1 : Int32) (w2 : Int32) (w3 : Int32) (w4 : Int32) (q1_w1 : (-2147483648 : Int) ≤ w1.toInt) (q2_w1 : w1.toInt ≤ (-1 : Int)) (hR_0_0 : sx_R σ (b + 0) 0 = (some (b + 1))) (hR_1_4 : sx_R σ (b + 1) 4 = (some (b + 25))) : Met l yL_set (.codeWith yL_set cL_set 8 (some .int) [(0, 16, 19, 13), (0, 16, 23, 15)] :: lw_g) { frames := 8, cells := 1, slots := 6, locals := 164 } (va_Pc [.ref (b + 0), .int 4, .int w1, .int w2, .int w3, .int w4, .ref (b + 431)] (zx_w g σ)) (va_Qi (fun r u => r = 1 ∧ ∃ z, u = (ap b (wx_Z σ z) [] [] [])) (zx_w g) (gx_Q g)) 1 6 (gx_Q g) := by
  refine z_metW (by decide) (Nat.le_of_ble_eq_true rfl) (fun p e s m below meth c B hr htab => ?_)
  refine z_eqs (σ' := (ap b σ [] [] [])) rfl ?_
  show zx p l e _ s m _ below meth c g 8 0 0 _ _ 0 [(0, .ref (b + 0)), (1, .int 4), (2, .int w1), (3, .int w2), (4, .int w3), (5, .int w4), (6, .ref (b + 431))] []
  refine z_aload B dL_set_0 6 rfl ?_
  refine z_iconst (v := 0) B dL_set_2 (by decide) ?_
  refine z_aload_n B dL_set_3 rfl 0 rfl ?_
  refine z_iload_n B dL_set_4 rfl 1 rfl ?_
  refine z_iload_n B dL_set_5 rfl 2 rfl ?_
  refine z_iload_n B dL_set_6 rfl 3 rfl ?_
  refine z_iload B dL_set_7 4 rfl ?_
  refine z_iload B dL_set_9 5 rfl ?_
  refine z_cXi (As := [.int 4, .int w1, .int w2, .int w3, .int w4]) (rest := [.int 0, .ref (b + 431)]) B htab tc_set_11_IndexOutOfBoundsException cw_L_7 cx_9 dL_set_11 (ci_X8_set_270 l hlt (σ := (ap b σ [] [] [])) (b := b) (lyA hK) w1 w2 w3 w4 q1_w1 q2_w1 (rR_at 0 0 hR_0_0) (rR_at 1 4 hR_1_4)) (lKA (hk_K hK 0 rfl rfl)) rfl (by decide) rfl (Nat.le_of_ble_eq_true rfl) (by decide) (fun z q => ?_)
  refine z_eqs (σ' := (ap b (wx_Z σ z) [] [] [])) rfl ?_
  show zx p l e _ s m _ below meth c g 8 _ _ _ _ 19 [(0, .ref (b + 0)), (1, .int 4), (2, .int w1), (3, .int w2), (4, .int w3), (5, .int w4), (6, .ref (b + 431))] _
  refine z_astore (lv' := [(7, .ref q), (0, .ref (b + 0)), (1, .int 4), (2, .int w1), (3, .int w2), (4, .int w3), (5, .int w4), (6, .ref (b + 431))]) B dL_set_19 (by decide) rfl ?_
  refine z_iconst (v := 1) B dL_set_21 (by decide) ?_
  exact z_iret B hr (by decide) (by decide) dL_set_22 ⟨rfl, _, rfl⟩
set_option maxRecDepth 100000 in
set_option maxHeartbeats 4000000 in
theorem ci_X9_in_272 (l : Launch) {g : gx_T} {σ : sx_T} {b : Nat} (hK : lay b σ)    : Met l yX9_in (.code yX9_in cX9_in 3 (some .boolean) :: lw_g) { frames := 0, cells := 0, slots := 0, locals := 0 } (va_Pc [.int 4, .int 0, .int 5] (zx_w g σ)) (va_Qi (fun r u => r = 1 ∧ u = σ) (zx_w g) (gx_Q g)) 0 0 (gx_Q g) := by
  refine z_met (by decide) (Nat.le_of_ble_eq_true rfl) (fun p e s m below meth c B hr hin => ?_)
  refine z_eqs (σ' := (ap b σ [] [] [])) rfl ?_
  show zx p l e _ s m _ below meth c g 3 0 0 _ _ 0 [(0, .int 4), (1, .int 0), (2, .int 5)] []
  refine z_iload_n B dX9_in_0 rfl 0 rfl ?_
  refine z_iload_n B dX9_in_1 rfl 1 rfl ?_
  refine z_icmp_lt (tgt := 14) B dX9_in_2 (by decide) (fun h => absurd h (by decide)) (fun _ => ?_)
  refine z_iload_n B dX9_in_5 rfl 0 rfl ?_
  refine z_iload_n B dX9_in_6 rfl 2 rfl ?_
  refine z_icmp_gt (tgt := 14) B dX9_in_7 (by decide) (fun h => absurd h (by decide)) (fun _ => ?_)
  refine z_iconst (v := 1) B dX9_in_10 (by decide) ?_
  refine z_goto (tgt := 15) B dX9_in_11 (by decide) ?_
  exact z_zret B hr (by decide) (by decide) (by decide) dX9_in_15 ⟨rfl, rfl⟩
set_option maxRecDepth 100000 in
set_option maxHeartbeats 4000000 in
theorem ci_X9_isStep_273 (l : Launch) {g : gx_T} {σ : sx_T} {b : Nat} (hK : lay b σ) (w1 : Int32) (q1_w1 : (-2147483648 : Int) ≤ w1.toInt) (q2_w1 : w1.toInt ≤ (-1 : Int))  : Met l yX9_isStep (.code yX9_isStep cX9_isStep 2 (some .boolean) :: lw_g) { frames := 1, cells := 0, slots := 0, locals := 22 } (va_Pc [.int 4, .int w1] (zx_w g σ)) (va_Qi (fun r u => r = 0 ∧ u = σ) (zx_w g) (gx_Q g)) 0 0 (gx_Q g) := by
  refine z_met (by decide) (Nat.le_of_ble_eq_true rfl) (fun p e s m below meth c B hr hin => ?_)
  refine z_eqs (σ' := (ap b σ [] [] [])) rfl ?_
  show zx p l e _ s m _ below meth c g 2 0 0 _ _ 0 [(0, .int 4), (1, .int w1)] []
  refine z_iload_n B dX9_isStep_0 rfl 0 rfl ?_
  refine z_iconst (v := 0) B dX9_isStep_1 (by decide) ?_
  refine z_iconst (v := 5) B dX9_isStep_2 (by decide) ?_
  refine z_cSi (As := [.int 4, .int 0, .int 5]) (rest := []) B cw_X9_96 dX9_isStep_3 (ci_X9_in_272 l (σ := (ap b σ [] [] [])) (b := b) (lyA hK) ) rfl (by decide) rfl (Nat.le_of_ble_eq_true rfl) (by decide) (fun r u hu => ?_)
  refine z_eqs (σ' := (ap b σ [] [] [])) hu.2 ?_
  show zx p l e _ s m _ below meth c g 2 0 0 _ _ 6 [(0, .int 4), (1, .int w1)] _
  refine z_seti (y := 1) hu.1 ?_
  refine z_if_eq (tgt := 23) B dX9_isStep_6 (by decide) (fun h => absurd h (by decide)) (fun _ => ?_)
  refine z_iload_n B dX9_isStep_9 rfl 1 rfl ?_
  refine z_iconst (v := 0) B dX9_isStep_10 (by decide) ?_
  refine z_bipush (v := 19) B dX9_isStep_11 (by decide) ?_
  refine z_cSi (As := [.int w1, .int 0, .int 19]) (rest := []) B cw_X9_96 dX9_isStep_13 (ci_X9_in_55 l (σ := (ap b σ [] [] [])) (b := b) (lyA hK) w1 q1_w1 q2_w1) rfl (by decide) rfl (Nat.le_of_ble_eq_true rfl) (by decide) (fun r u hu => ?_)
  refine z_eqs (σ' := (ap b σ [] [] [])) hu.2 ?_
  show zx p l e _ s m _ below meth c g 2 0 0 _ _ 16 [(0, .int 4), (1, .int w1)] _
  refine z_seti (y := 0) hu.1 ?_
  refine z_if_eq (tgt := 23) B dX9_isStep_16 (by decide) (fun _ => ?_) (fun h => absurd (by decide) h)
  refine z_iconst (v := 0) B dX9_isStep_23 (by decide) ?_
  exact z_zret B hr (by decide) (by decide) (by decide) dX9_isStep_24 ⟨rfl, rfl⟩
set_option maxRecDepth 100000 in
set_option maxHeartbeats 4000000 in
theorem ci_X9_set_274 (l : Launch) {g : gx_T} {σ : sx_T} {b : Nat} (hK : lay b σ) (w1 : Int32) (w2 : Int32) (w3 : Int32) (w4 : Int32) (q1_w1 : (-2147483648 : Int) ≤ w1.toInt) (q2_w1 : w1.toInt ≤ (-1 : Int)) (q1_w2 : (-2147483648 : Int) ≤ w2.toInt) (q2_w2 : w2.toInt ≤ (-1 : Int))  : Met l yX9_set (.code yX9_set cX9_set 7 (some .int) :: lw_g) { frames := 2, cells := 0, slots := 0, locals := 44 } (va_Pc [.ref (b + 405), .int 4, .int w1, .int w2, .int w3, .int w4] (zx_w g σ)) (va_Qi (fun r u => r = 0 ∧ u = (ap b σ [(405, 0, 1)] [] [])) (zx_w g) (gx_Q g)) 0 0 (gx_Q g) := by
  refine z_met (by decide) (Nat.le_of_ble_eq_true rfl) (fun p e s m below meth c B hr hin => ?_)
  refine z_eqs (σ' := (ap b σ [] [] [])) rfl ?_
  show zx p l e _ s m _ below meth c g 7 0 0 _ _ 0 [(0, .ref (b + 405)), (1, .int 4), (2, .int w1), (3, .int w2), (4, .int w3), (5, .int w4)] []
  refine z_aload_n B dX9_set_0 rfl 0 rfl ?_
  refine z_iload_n B dX9_set_1 rfl 1 rfl ?_
  refine z_iload_n B dX9_set_2 rfl 2 rfl ?_
  refine z_cSi (As := [.int 4, .int w1]) (rest := [.ref (b + 405)]) B cw_X9_238 dX9_set_3 (ci_X9_isStep_273 l (σ := (ap b σ [] [] [])) (b := b) (lyA hK) w1 q1_w1 q2_w1) rfl (by decide) rfl (Nat.le_of_ble_eq_true rfl) (by decide) (fun r u hu => ?_)
  refine z_eqs (σ' := (ap b σ [] [] [])) hu.2 ?_
  show zx p l e _ s m _ below meth c g 7 0 0 _ _ 6 [(0, .ref (b + 405)), (1, .int 4), (2, .int w1), (3, .int w2), (4, .int w3), (5, .int w4)] _
  refine z_seti (y := 0) hu.1 ?_
  refine z_iload_n B dX9_set_6 rfl 3 rfl ?_
  refine z_iload B dX9_set_7 4 rfl ?_
  refine z_iload B dX9_set_9 5 rfl ?_
  refine z_cSi (As := [.int w2, .int w3, .int w4]) (rest := [.int 0, .ref (b + 405)]) B cw_X9_242 dX9_set_11 (ci_X9_isOperation_28 l (σ := (ap b σ [] [] [])) (b := b) (lyA hK) w2 w3 w4 q1_w2 q2_w2) rfl (by decide) rfl (Nat.le_of_ble_eq_true rfl) (by decide) (fun r u hu => ?_)
  refine z_eqs (σ' := (ap b σ [] [] [])) hu.2 ?_
  show zx p l e _ s m _ below meth c g 7 0 0 _ _ 14 [(0, .ref (b + 405)), (1, .int 4), (2, .int w1), (3, .int w2), (4, .int w3), (5, .int w4)] _
  refine z_seti (y := 0) hu.1 ?_
  refine z_cVi (As := [.int 0, .int 0]) (rest := []) B cw_X9_245 cx_10 dX9_set_14 (ci_X9_needs__29 l (σ := (ap b σ [] [] [])) (b := b) (lyA hK) ) (lKA (hk_K hK 405 rfl rfl)) rfl (by decide) rfl (Nat.le_of_ble_eq_true rfl) (by decide) (fun r u hu => ?_)
  refine z_eqs (σ' := (ap b σ [(405, 0, 1)] [] [])) (hu.2.trans ap_ap) ?_
  show zx p l e _ s m _ below meth c g 7 0 0 _ _ 17 [(0, .ref (b + 405)), (1, .int 4), (2, .int w1), (3, .int w2), (4, .int w3), (5, .int w4)] _
  refine z_seti (y := 0) hu.1 ?_
  refine z_if_ne (tgt := 22) B dX9_set_17 (by decide) (fun h => absurd (by decide) h) (fun _ => ?_)
  refine z_iconst (v := 0) B dX9_set_20 (by decide) ?_
  exact z_iret B hr (by decide) (by decide) dX9_set_21 ⟨rfl, rfl⟩
set_option maxRecDepth 100000 in
set_option maxHeartbeats 4000000 in
theorem ci_X9_set_275 (l : Launch) {g : gx_T} {σ : sx_T} {b : Nat} (hK : lay b σ) (w1 : Int32) (w2 : Int32) (w3 : Int32) (w4 : Int32) (q1_w1 : (-2147483648 : Int) ≤ w1.toInt) (q2_w1 : w1.toInt ≤ (-1 : Int)) (q1_w2 : (0 : Int) ≤ w2.toInt) (q2_w2 : w2.toInt ≤ (17 : Int)) (q1_w3 : (-2147483648 : Int) ≤ w3.toInt) (q2_w3 : w3.toInt ≤ (-1 : Int))  : Met l yX9_set (.code yX9_set cX9_set 7 (some .int) :: lw_g) { frames := 2, cells := 0, slots := 0, locals := 44 } (va_Pc [.ref (b + 405), .int 4, .int w1, .int w2, .int w3, .int w4] (zx_w g σ)) (va_Qi (fun r u => r = 0 ∧ u = (ap b σ [(405, 0, 1)] [] [])) (zx_w g) (gx_Q g)) 0 0 (gx_Q g) := by
  refine z_met (by decide) (Nat.le_of_ble_eq_true rfl) (fun p e s m below meth c B hr hin => ?_)
  refine z_eqs (σ' := (ap b σ [] [] [])) rfl ?_
  show zx p l e _ s m _ below meth c g 7 0 0 _ _ 0 [(0, .ref (b + 405)), (1, .int 4), (2, .int w1), (3, .int w2), (4, .int w3), (5, .int w4)] []
  refine z_aload_n B dX9_set_0 rfl 0 rfl ?_
  refine z_iload_n B dX9_set_1 rfl 1 rfl ?_
  refine z_iload_n B dX9_set_2 rfl 2 rfl ?_
  refine z_cSi (As := [.int 4, .int w1]) (rest := [.ref (b + 405)]) B cw_X9_238 dX9_set_3 (ci_X9_isStep_273 l (σ := (ap b σ [] [] [])) (b := b) (lyA hK) w1 q1_w1 q2_w1) rfl (by decide) rfl (Nat.le_of_ble_eq_true rfl) (by decide) (fun r u hu => ?_)
  refine z_eqs (σ' := (ap b σ [] [] [])) hu.2 ?_
  show zx p l e _ s m _ below meth c g 7 0 0 _ _ 6 [(0, .ref (b + 405)), (1, .int 4), (2, .int w1), (3, .int w2), (4, .int w3), (5, .int w4)] _
  refine z_seti (y := 0) hu.1 ?_
  refine z_iload_n B dX9_set_6 rfl 3 rfl ?_
  refine z_iload B dX9_set_7 4 rfl ?_
  refine z_iload B dX9_set_9 5 rfl ?_
  refine z_cSi (As := [.int w2, .int w3, .int w4]) (rest := [.int 0, .ref (b + 405)]) B cw_X9_242 dX9_set_11 (ci_X9_isOperation_34 l (σ := (ap b σ [] [] [])) (b := b) (lyA hK) w2 w3 w4 q1_w2 q2_w2 q1_w3 q2_w3) rfl (by decide) rfl (Nat.le_of_ble_eq_true rfl) (by decide) (fun r u hu => ?_)
  refine z_eqs (σ' := (ap b σ [] [] [])) hu.2 ?_
  show zx p l e _ s m _ below meth c g 7 0 0 _ _ 14 [(0, .ref (b + 405)), (1, .int 4), (2, .int w1), (3, .int w2), (4, .int w3), (5, .int w4)] _
  refine z_seti (y := 0) hu.1 ?_
  refine z_cVi (As := [.int 0, .int 0]) (rest := []) B cw_X9_245 cx_10 dX9_set_14 (ci_X9_needs__29 l (σ := (ap b σ [] [] [])) (b := b) (lyA hK) ) (lKA (hk_K hK 405 rfl rfl)) rfl (by decide) rfl (Nat.le_of_ble_eq_true rfl) (by decide) (fun r u hu => ?_)
  refine z_eqs (σ' := (ap b σ [(405, 0, 1)] [] [])) (hu.2.trans ap_ap) ?_
  show zx p l e _ s m _ below meth c g 7 0 0 _ _ 17 [(0, .ref (b + 405)), (1, .int 4), (2, .int w1), (3, .int w2), (4, .int w3), (5, .int w4)] _
  refine z_seti (y := 0) hu.1 ?_
  refine z_if_ne (tgt := 22) B dX9_set_17 (by decide) (fun h => absurd (by decide) h) (fun _ => ?_)
  refine z_iconst (v := 0) B dX9_set_20 (by decide) ?_
  exact z_iret B hr (by decide) (by decide) dX9_set_21 ⟨rfl, rfl⟩
set_option maxRecDepth 100000 in
set_option maxHeartbeats 4000000 in
theorem ci_X9_set_276 (l : Launch) {g : gx_T} {σ : sx_T} {b : Nat} (hK : lay b σ) (w1 : Int32) (w2 : Int32) (w3 : Int32) (w4 : Int32) (q1_w1 : (-2147483648 : Int) ≤ w1.toInt) (q2_w1 : w1.toInt ≤ (-1 : Int)) (q1_w2 : (0 : Int) ≤ w2.toInt) (q2_w2 : w2.toInt ≤ (17 : Int)) (q1_w3 : (0 : Int) ≤ w3.toInt) (q2_w3 : w3.toInt ≤ (99 : Int)) (q1_w4 : (-2147483648 : Int) ≤ w4.toInt) (q2_w4 : w4.toInt ≤ (-1 : Int))  : Met l yX9_set (.code yX9_set cX9_set 7 (some .int) :: lw_g) { frames := 2, cells := 0, slots := 0, locals := 44 } (va_Pc [.ref (b + 405), .int 4, .int w1, .int w2, .int w3, .int w4] (zx_w g σ)) (va_Qi (fun r u => r = 0 ∧ u = (ap b σ [(405, 0, 1)] [] [])) (zx_w g) (gx_Q g)) 0 0 (gx_Q g) := by
  refine z_met (by decide) (Nat.le_of_ble_eq_true rfl) (fun p e s m below meth c B hr hin => ?_)
  refine z_eqs (σ' := (ap b σ [] [] [])) rfl ?_
  show zx p l e _ s m _ below meth c g 7 0 0 _ _ 0 [(0, .ref (b + 405)), (1, .int 4), (2, .int w1), (3, .int w2), (4, .int w3), (5, .int w4)] []
  refine z_aload_n B dX9_set_0 rfl 0 rfl ?_
  refine z_iload_n B dX9_set_1 rfl 1 rfl ?_
  refine z_iload_n B dX9_set_2 rfl 2 rfl ?_
  refine z_cSi (As := [.int 4, .int w1]) (rest := [.ref (b + 405)]) B cw_X9_238 dX9_set_3 (ci_X9_isStep_273 l (σ := (ap b σ [] [] [])) (b := b) (lyA hK) w1 q1_w1 q2_w1) rfl (by decide) rfl (Nat.le_of_ble_eq_true rfl) (by decide) (fun r u hu => ?_)
  refine z_eqs (σ' := (ap b σ [] [] [])) hu.2 ?_
  show zx p l e _ s m _ below meth c g 7 0 0 _ _ 6 [(0, .ref (b + 405)), (1, .int 4), (2, .int w1), (3, .int w2), (4, .int w3), (5, .int w4)] _
  refine z_seti (y := 0) hu.1 ?_
  refine z_iload_n B dX9_set_6 rfl 3 rfl ?_
  refine z_iload B dX9_set_7 4 rfl ?_
  refine z_iload B dX9_set_9 5 rfl ?_
  refine z_cSi (As := [.int w2, .int w3, .int w4]) (rest := [.int 0, .ref (b + 405)]) B cw_X9_242 dX9_set_11 (ci_X9_isOperation_37 l (σ := (ap b σ [] [] [])) (b := b) (lyA hK) w2 w3 w4 q1_w2 q2_w2 q1_w3 q2_w3 q1_w4 q2_w4) rfl (by decide) rfl (Nat.le_of_ble_eq_true rfl) (by decide) (fun r u hu => ?_)
  refine z_eqs (σ' := (ap b σ [] [] [])) hu.2 ?_
  show zx p l e _ s m _ below meth c g 7 0 0 _ _ 14 [(0, .ref (b + 405)), (1, .int 4), (2, .int w1), (3, .int w2), (4, .int w3), (5, .int w4)] _
  refine z_seti (y := 0) hu.1 ?_
  refine z_cVi (As := [.int 0, .int 0]) (rest := []) B cw_X9_245 cx_10 dX9_set_14 (ci_X9_needs__29 l (σ := (ap b σ [] [] [])) (b := b) (lyA hK) ) (lKA (hk_K hK 405 rfl rfl)) rfl (by decide) rfl (Nat.le_of_ble_eq_true rfl) (by decide) (fun r u hu => ?_)
  refine z_eqs (σ' := (ap b σ [(405, 0, 1)] [] [])) (hu.2.trans ap_ap) ?_
  show zx p l e _ s m _ below meth c g 7 0 0 _ _ 17 [(0, .ref (b + 405)), (1, .int 4), (2, .int w1), (3, .int w2), (4, .int w3), (5, .int w4)] _
  refine z_seti (y := 0) hu.1 ?_
  refine z_if_ne (tgt := 22) B dX9_set_17 (by decide) (fun h => absurd (by decide) h) (fun _ => ?_)
  refine z_iconst (v := 0) B dX9_set_20 (by decide) ?_
  exact z_iret B hr (by decide) (by decide) dX9_set_21 ⟨rfl, rfl⟩
set_option maxRecDepth 100000 in
set_option maxHeartbeats 4000000 in
theorem ci_X9_set_277 (l : Launch) {g : gx_T} {σ : sx_T} {b : Nat} (hK : lay b σ) (w1 : Int32) (w2 : Int32) (w3 : Int32) (w4 : Int32) (q1_w1 : (-2147483648 : Int) ≤ w1.toInt) (q2_w1 : w1.toInt ≤ (-1 : Int)) (q1_w2 : (0 : Int) ≤ w2.toInt) (q2_w2 : w2.toInt ≤ (17 : Int)) (q1_w3 : (0 : Int) ≤ w3.toInt) (q2_w3 : w3.toInt ≤ (99 : Int)) (q1_w4 : (0 : Int) ≤ w4.toInt) (q2_w4 : w4.toInt ≤ (99 : Int))  : Met l yX9_set (.code yX9_set cX9_set 7 (some .int) :: lw_g) { frames := 2, cells := 0, slots := 0, locals := 44 } (va_Pc [.ref (b + 405), .int 4, .int w1, .int w2, .int w3, .int w4] (zx_w g σ)) (va_Qi (fun r u => r = 0 ∧ u = (ap b σ [(405, 0, 1)] [] [])) (zx_w g) (gx_Q g)) 0 0 (gx_Q g) := by
  refine z_met (by decide) (Nat.le_of_ble_eq_true rfl) (fun p e s m below meth c B hr hin => ?_)
  refine z_eqs (σ' := (ap b σ [] [] [])) rfl ?_
  show zx p l e _ s m _ below meth c g 7 0 0 _ _ 0 [(0, .ref (b + 405)), (1, .int 4), (2, .int w1), (3, .int w2), (4, .int w3), (5, .int w4)] []
  refine z_aload_n B dX9_set_0 rfl 0 rfl ?_
  refine z_iload_n B dX9_set_1 rfl 1 rfl ?_
  refine z_iload_n B dX9_set_2 rfl 2 rfl ?_
  refine z_cSi (As := [.int 4, .int w1]) (rest := [.ref (b + 405)]) B cw_X9_238 dX9_set_3 (ci_X9_isStep_273 l (σ := (ap b σ [] [] [])) (b := b) (lyA hK) w1 q1_w1 q2_w1) rfl (by decide) rfl (Nat.le_of_ble_eq_true rfl) (by decide) (fun r u hu => ?_)
  refine z_eqs (σ' := (ap b σ [] [] [])) hu.2 ?_
  show zx p l e _ s m _ below meth c g 7 0 0 _ _ 6 [(0, .ref (b + 405)), (1, .int 4), (2, .int w1), (3, .int w2), (4, .int w3), (5, .int w4)] _
  refine z_seti (y := 0) hu.1 ?_
  refine z_iload_n B dX9_set_6 rfl 3 rfl ?_
  refine z_iload B dX9_set_7 4 rfl ?_
  refine z_iload B dX9_set_9 5 rfl ?_
  refine z_cSi (As := [.int w2, .int w3, .int w4]) (rest := [.int 0, .ref (b + 405)]) B cw_X9_242 dX9_set_11 (ci_X9_isOperation_39 l (σ := (ap b σ [] [] [])) (b := b) (lyA hK) w2 w3 w4 q1_w2 q2_w2 q1_w3 q2_w3 q1_w4 q2_w4) rfl (by decide) rfl (Nat.le_of_ble_eq_true rfl) (by decide) (fun r u hu => ?_)
  refine z_eqs (σ' := (ap b σ [] [] [])) hu.2 ?_
  show zx p l e _ s m _ below meth c g 7 0 0 _ _ 14 [(0, .ref (b + 405)), (1, .int 4), (2, .int w1), (3, .int w2), (4, .int w3), (5, .int w4)] _
  refine z_seti (y := 1) hu.1 ?_
  refine z_cVi (As := [.int 0, .int 1]) (rest := []) B cw_X9_245 cx_10 dX9_set_14 (ci_X9_needs__40 l (σ := (ap b σ [] [] [])) (b := b) (lyA hK) ) (lKA (hk_K hK 405 rfl rfl)) rfl (by decide) rfl (Nat.le_of_ble_eq_true rfl) (by decide) (fun r u hu => ?_)
  refine z_eqs (σ' := (ap b σ [(405, 0, 1)] [] [])) (hu.2.trans ap_ap) ?_
  show zx p l e _ s m _ below meth c g 7 0 0 _ _ 17 [(0, .ref (b + 405)), (1, .int 4), (2, .int w1), (3, .int w2), (4, .int w3), (5, .int w4)] _
  refine z_seti (y := 0) hu.1 ?_
  refine z_if_ne (tgt := 22) B dX9_set_17 (by decide) (fun h => absurd (by decide) h) (fun _ => ?_)
  refine z_iconst (v := 0) B dX9_set_20 (by decide) ?_
  exact z_iret B hr (by decide) (by decide) dX9_set_21 ⟨rfl, rfl⟩
set_option maxRecDepth 100000 in
set_option maxHeartbeats 4000000 in
theorem ci_X9_set_278 (l : Launch) {g : gx_T} {σ : sx_T} {b : Nat} (hK : lay b σ) (w1 : Int32) (w2 : Int32) (w3 : Int32) (w4 : Int32) (q1_w1 : (-2147483648 : Int) ≤ w1.toInt) (q2_w1 : w1.toInt ≤ (-1 : Int)) (q1_w2 : (0 : Int) ≤ w2.toInt) (q2_w2 : w2.toInt ≤ (17 : Int)) (q1_w3 : (0 : Int) ≤ w3.toInt) (q2_w3 : w3.toInt ≤ (99 : Int)) (q1_w4 : (100 : Int) ≤ w4.toInt) (q2_w4 : w4.toInt ≤ (2147483647 : Int))  : Met l yX9_set (.code yX9_set cX9_set 7 (some .int) :: lw_g) { frames := 2, cells := 0, slots := 0, locals := 44 } (va_Pc [.ref (b + 405), .int 4, .int w1, .int w2, .int w3, .int w4] (zx_w g σ)) (va_Qi (fun r u => r = 0 ∧ u = (ap b σ [(405, 0, 1)] [] [])) (zx_w g) (gx_Q g)) 0 0 (gx_Q g) := by
  refine z_met (by decide) (Nat.le_of_ble_eq_true rfl) (fun p e s m below meth c B hr hin => ?_)
  refine z_eqs (σ' := (ap b σ [] [] [])) rfl ?_
  show zx p l e _ s m _ below meth c g 7 0 0 _ _ 0 [(0, .ref (b + 405)), (1, .int 4), (2, .int w1), (3, .int w2), (4, .int w3), (5, .int w4)] []
  refine z_aload_n B dX9_set_0 rfl 0 rfl ?_
  refine z_iload_n B dX9_set_1 rfl 1 rfl ?_
  refine z_iload_n B dX9_set_2 rfl 2 rfl ?_
  refine z_cSi (As := [.int 4, .int w1]) (rest := [.ref (b + 405)]) B cw_X9_238 dX9_set_3 (ci_X9_isStep_273 l (σ := (ap b σ [] [] [])) (b := b) (lyA hK) w1 q1_w1 q2_w1) rfl (by decide) rfl (Nat.le_of_ble_eq_true rfl) (by decide) (fun r u hu => ?_)
  refine z_eqs (σ' := (ap b σ [] [] [])) hu.2 ?_
  show zx p l e _ s m _ below meth c g 7 0 0 _ _ 6 [(0, .ref (b + 405)), (1, .int 4), (2, .int w1), (3, .int w2), (4, .int w3), (5, .int w4)] _
  refine z_seti (y := 0) hu.1 ?_
  refine z_iload_n B dX9_set_6 rfl 3 rfl ?_
  refine z_iload B dX9_set_7 4 rfl ?_
  refine z_iload B dX9_set_9 5 rfl ?_
  refine z_cSi (As := [.int w2, .int w3, .int w4]) (rest := [.int 0, .ref (b + 405)]) B cw_X9_242 dX9_set_11 (ci_X9_isOperation_43 l (σ := (ap b σ [] [] [])) (b := b) (lyA hK) w2 w3 w4 q1_w2 q2_w2 q1_w3 q2_w3 q1_w4 q2_w4) rfl (by decide) rfl (Nat.le_of_ble_eq_true rfl) (by decide) (fun r u hu => ?_)
  refine z_eqs (σ' := (ap b σ [] [] [])) hu.2 ?_
  show zx p l e _ s m _ below meth c g 7 0 0 _ _ 14 [(0, .ref (b + 405)), (1, .int 4), (2, .int w1), (3, .int w2), (4, .int w3), (5, .int w4)] _
  refine z_seti (y := 0) hu.1 ?_
  refine z_cVi (As := [.int 0, .int 0]) (rest := []) B cw_X9_245 cx_10 dX9_set_14 (ci_X9_needs__29 l (σ := (ap b σ [] [] [])) (b := b) (lyA hK) ) (lKA (hk_K hK 405 rfl rfl)) rfl (by decide) rfl (Nat.le_of_ble_eq_true rfl) (by decide) (fun r u hu => ?_)
  refine z_eqs (σ' := (ap b σ [(405, 0, 1)] [] [])) (hu.2.trans ap_ap) ?_
  show zx p l e _ s m _ below meth c g 7 0 0 _ _ 17 [(0, .ref (b + 405)), (1, .int 4), (2, .int w1), (3, .int w2), (4, .int w3), (5, .int w4)] _
  refine z_seti (y := 0) hu.1 ?_
  refine z_if_ne (tgt := 22) B dX9_set_17 (by decide) (fun h => absurd (by decide) h) (fun _ => ?_)
  refine z_iconst (v := 0) B dX9_set_20 (by decide) ?_
  exact z_iret B hr (by decide) (by decide) dX9_set_21 ⟨rfl, rfl⟩
set_option maxRecDepth 100000 in
set_option maxHeartbeats 4000000 in
theorem ci_X9_set_279 (l : Launch) {g : gx_T} {σ : sx_T} {b : Nat} (hK : lay b σ) (w1 : Int32) (w2 : Int32) (w3 : Int32) (w4 : Int32) (q1_w1 : (-2147483648 : Int) ≤ w1.toInt) (q2_w1 : w1.toInt ≤ (-1 : Int)) (q1_w2 : (0 : Int) ≤ w2.toInt) (q2_w2 : w2.toInt ≤ (17 : Int)) (q1_w3 : (100 : Int) ≤ w3.toInt) (q2_w3 : w3.toInt ≤ (2147483647 : Int))  : Met l yX9_set (.code yX9_set cX9_set 7 (some .int) :: lw_g) { frames := 2, cells := 0, slots := 0, locals := 44 } (va_Pc [.ref (b + 405), .int 4, .int w1, .int w2, .int w3, .int w4] (zx_w g σ)) (va_Qi (fun r u => r = 0 ∧ u = (ap b σ [(405, 0, 1)] [] [])) (zx_w g) (gx_Q g)) 0 0 (gx_Q g) := by
  refine z_met (by decide) (Nat.le_of_ble_eq_true rfl) (fun p e s m below meth c B hr hin => ?_)
  refine z_eqs (σ' := (ap b σ [] [] [])) rfl ?_
  show zx p l e _ s m _ below meth c g 7 0 0 _ _ 0 [(0, .ref (b + 405)), (1, .int 4), (2, .int w1), (3, .int w2), (4, .int w3), (5, .int w4)] []
  refine z_aload_n B dX9_set_0 rfl 0 rfl ?_
  refine z_iload_n B dX9_set_1 rfl 1 rfl ?_
  refine z_iload_n B dX9_set_2 rfl 2 rfl ?_
  refine z_cSi (As := [.int 4, .int w1]) (rest := [.ref (b + 405)]) B cw_X9_238 dX9_set_3 (ci_X9_isStep_273 l (σ := (ap b σ [] [] [])) (b := b) (lyA hK) w1 q1_w1 q2_w1) rfl (by decide) rfl (Nat.le_of_ble_eq_true rfl) (by decide) (fun r u hu => ?_)
  refine z_eqs (σ' := (ap b σ [] [] [])) hu.2 ?_
  show zx p l e _ s m _ below meth c g 7 0 0 _ _ 6 [(0, .ref (b + 405)), (1, .int 4), (2, .int w1), (3, .int w2), (4, .int w3), (5, .int w4)] _
  refine z_seti (y := 0) hu.1 ?_
  refine z_iload_n B dX9_set_6 rfl 3 rfl ?_
  refine z_iload B dX9_set_7 4 rfl ?_
  refine z_iload B dX9_set_9 5 rfl ?_
  refine z_cSi (As := [.int w2, .int w3, .int w4]) (rest := [.int 0, .ref (b + 405)]) B cw_X9_242 dX9_set_11 (ci_X9_isOperation_45 l (σ := (ap b σ [] [] [])) (b := b) (lyA hK) w2 w3 w4 q1_w2 q2_w2 q1_w3 q2_w3) rfl (by decide) rfl (Nat.le_of_ble_eq_true rfl) (by decide) (fun r u hu => ?_)
  refine z_eqs (σ' := (ap b σ [] [] [])) hu.2 ?_
  show zx p l e _ s m _ below meth c g 7 0 0 _ _ 14 [(0, .ref (b + 405)), (1, .int 4), (2, .int w1), (3, .int w2), (4, .int w3), (5, .int w4)] _
  refine z_seti (y := 0) hu.1 ?_
  refine z_cVi (As := [.int 0, .int 0]) (rest := []) B cw_X9_245 cx_10 dX9_set_14 (ci_X9_needs__29 l (σ := (ap b σ [] [] [])) (b := b) (lyA hK) ) (lKA (hk_K hK 405 rfl rfl)) rfl (by decide) rfl (Nat.le_of_ble_eq_true rfl) (by decide) (fun r u hu => ?_)
  refine z_eqs (σ' := (ap b σ [(405, 0, 1)] [] [])) (hu.2.trans ap_ap) ?_
  show zx p l e _ s m _ below meth c g 7 0 0 _ _ 17 [(0, .ref (b + 405)), (1, .int 4), (2, .int w1), (3, .int w2), (4, .int w3), (5, .int w4)] _
  refine z_seti (y := 0) hu.1 ?_
  refine z_if_ne (tgt := 22) B dX9_set_17 (by decide) (fun h => absurd (by decide) h) (fun _ => ?_)
  refine z_iconst (v := 0) B dX9_set_20 (by decide) ?_
  exact z_iret B hr (by decide) (by decide) dX9_set_21 ⟨rfl, rfl⟩
set_option maxRecDepth 100000 in
set_option maxHeartbeats 4000000 in
theorem ci_X9_set_280 (l : Launch) {g : gx_T} {σ : sx_T} {b : Nat} (hK : lay b σ) (w1 : Int32) (w2 : Int32) (w3 : Int32) (w4 : Int32) (q1_w1 : (-2147483648 : Int) ≤ w1.toInt) (q2_w1 : w1.toInt ≤ (-1 : Int)) (q1_w2 : (18 : Int) ≤ w2.toInt) (q2_w2 : w2.toInt ≤ (2147483647 : Int))  : Met l yX9_set (.code yX9_set cX9_set 7 (some .int) :: lw_g) { frames := 2, cells := 0, slots := 0, locals := 44 } (va_Pc [.ref (b + 405), .int 4, .int w1, .int w2, .int w3, .int w4] (zx_w g σ)) (va_Qi (fun r u => r = 0 ∧ u = (ap b σ [(405, 0, 1)] [] [])) (zx_w g) (gx_Q g)) 0 0 (gx_Q g) := by
  refine z_met (by decide) (Nat.le_of_ble_eq_true rfl) (fun p e s m below meth c B hr hin => ?_)
  refine z_eqs (σ' := (ap b σ [] [] [])) rfl ?_
  show zx p l e _ s m _ below meth c g 7 0 0 _ _ 0 [(0, .ref (b + 405)), (1, .int 4), (2, .int w1), (3, .int w2), (4, .int w3), (5, .int w4)] []
  refine z_aload_n B dX9_set_0 rfl 0 rfl ?_
  refine z_iload_n B dX9_set_1 rfl 1 rfl ?_
  refine z_iload_n B dX9_set_2 rfl 2 rfl ?_
  refine z_cSi (As := [.int 4, .int w1]) (rest := [.ref (b + 405)]) B cw_X9_238 dX9_set_3 (ci_X9_isStep_273 l (σ := (ap b σ [] [] [])) (b := b) (lyA hK) w1 q1_w1 q2_w1) rfl (by decide) rfl (Nat.le_of_ble_eq_true rfl) (by decide) (fun r u hu => ?_)
  refine z_eqs (σ' := (ap b σ [] [] [])) hu.2 ?_
  show zx p l e _ s m _ below meth c g 7 0 0 _ _ 6 [(0, .ref (b + 405)), (1, .int 4), (2, .int w1), (3, .int w2), (4, .int w3), (5, .int w4)] _
  refine z_seti (y := 0) hu.1 ?_
  refine z_iload_n B dX9_set_6 rfl 3 rfl ?_
  refine z_iload B dX9_set_7 4 rfl ?_
  refine z_iload B dX9_set_9 5 rfl ?_
  refine z_cSi (As := [.int w2, .int w3, .int w4]) (rest := [.int 0, .ref (b + 405)]) B cw_X9_242 dX9_set_11 (ci_X9_isOperation_48 l (σ := (ap b σ [] [] [])) (b := b) (lyA hK) w2 w3 w4 q1_w2 q2_w2) rfl (by decide) rfl (Nat.le_of_ble_eq_true rfl) (by decide) (fun r u hu => ?_)
  refine z_eqs (σ' := (ap b σ [] [] [])) hu.2 ?_
  show zx p l e _ s m _ below meth c g 7 0 0 _ _ 14 [(0, .ref (b + 405)), (1, .int 4), (2, .int w1), (3, .int w2), (4, .int w3), (5, .int w4)] _
  refine z_seti (y := 0) hu.1 ?_
  refine z_cVi (As := [.int 0, .int 0]) (rest := []) B cw_X9_245 cx_10 dX9_set_14 (ci_X9_needs__29 l (σ := (ap b σ [] [] [])) (b := b) (lyA hK) ) (lKA (hk_K hK 405 rfl rfl)) rfl (by decide) rfl (Nat.le_of_ble_eq_true rfl) (by decide) (fun r u hu => ?_)
  refine z_eqs (σ' := (ap b σ [(405, 0, 1)] [] [])) (hu.2.trans ap_ap) ?_
  show zx p l e _ s m _ below meth c g 7 0 0 _ _ 17 [(0, .ref (b + 405)), (1, .int 4), (2, .int w1), (3, .int w2), (4, .int w3), (5, .int w4)] _
  refine z_seti (y := 0) hu.1 ?_
  refine z_if_ne (tgt := 22) B dX9_set_17 (by decide) (fun h => absurd (by decide) h) (fun _ => ?_)
  refine z_iconst (v := 0) B dX9_set_20 (by decide) ?_
  exact z_iret B hr (by decide) (by decide) dX9_set_21 ⟨rfl, rfl⟩
set_option maxRecDepth 100000 in
set_option maxHeartbeats 4000000 in
theorem ci_X8_set_281 (l : Launch) (hlt : l.stackTraces = false) {g : gx_T} {σ : sx_T} {b : Nat} (hK : lay b σ) (w1 : Int32) (w2 : Int32) (w3 : Int32) (w4 : Int32) (q1_w1 : (0 : Int) ≤ w1.toInt) (q2_w1 : w1.toInt ≤ (19 : Int)) (q1_w2 : (-2147483648 : Int) ≤ w2.toInt) (q2_w2 : w2.toInt ≤ (-1 : Int)) (hR_0_0 : sx_R σ (b + 0) 0 = (some (b + 1))) (hR_1_4 : sx_R σ (b + 1) 4 = (some (b + 25))) : vx_Met l yX8_set (.code yX8_set cX8_set 9 (some .int) :: lw_g) { frames := 7, cells := 1, slots := 6, locals := 136 } (va_Pc [.ref (b + 0), .int 4, .int w1, .int w2, .int w3, .int w4] (zx_w g σ)) (va_Qi (S := sx_T) (fun _ _ => False) (zx_w g) (gx_Q g)) (vx_X (fun u : sx_T => ∃ z, u = wx_Z σ z) (fun E u t => E = "java/lang/IllegalArgumentException" ∧ zx_h g u t.heap) (gx_Q g)) 1 6 (gx_Q g) := by
  refine z_metX (by decide) (Nat.le_of_ble_eq_true rfl) (fun p e s m below meth c B hr hin hout => ?_)
  refine z_eqs (σ' := (ap b σ [] [] [])) rfl ?_
  show zx p l e _ s m _ below meth c g 9 0 0 _ _ 0 [(0, .ref (b + 0)), (1, .int 4), (2, .int w1), (3, .int w2), (4, .int w3), (5, .int w4)] []
  refine z_aload_n B dX8_set_0 rfl 0 rfl ?_
  refine z_iload_n B dX8_set_1 rfl 1 rfl ?_
  refine z_cVq (As := [.int 4]) (rest := []) B cw_X8_64 cx_9 dX8_set_2 (ci_X8_programAt_269 l (σ := (ap b σ [] [] [])) (b := b) (lyA hK) (rR_at 0 0 hR_0_0) (rR_at 1 4 hR_1_4)) (lKA (hk_K hK 0 rfl rfl)) rfl (by decide) rfl (Nat.le_of_ble_eq_true rfl) (by decide) (fun r u hu => ?_)
  refine z_eqs (σ' := (ap b σ [] [] [])) hu.2 ?_
  show zx p l e _ s m _ below meth c g 9 0 0 _ _ 5 [(0, .ref (b + 0)), (1, .int 4), (2, .int w1), (3, .int w2), (4, .int w3), (5, .int w4)] _
  refine z_setr (y := (some (b + 25))) hu.1 ?_
  refine z_astore (lv' := [(6, .ref (b + 25)), (0, .ref (b + 0)), (1, .int 4), (2, .int w1), (3, .int w2), (4, .int w3), (5, .int w4)]) B dX8_set_5 (by decide) rfl ?_
  refine z_aload B dX8_set_7 0 rfl ?_
  refine z_ifnull (r := (some (b + 25))) (tgt := 21) B dX8_set_9 (by decide) (fun h => nomatch h) (fun _ _ => ?_)
  refine z_iload_n B dX8_set_12 rfl 3 rfl ?_
  refine z_bipush (v := 20) B dX8_set_13 (by decide) ?_
  refine z_cSi (As := [.int w1, .int 20]) (rest := []) B cw_X8_68 dX8_set_15 (ci_X8_isBelow_64 l (σ := (ap b σ [] [] [])) (b := b) (lyA hK) w1 q1_w1 q2_w1) rfl (by decide) rfl (Nat.le_of_ble_eq_true rfl) (by decide) (fun r u hu => ?_)
  refine z_eqs (σ' := (ap b σ [] [] [])) hu.2 ?_
  show zx p l e _ s m _ below meth c g 9 0 0 _ _ 18 [(6, .ref (b + 25)), (0, .ref (b + 0)), (1, .int 4), (2, .int w1), (3, .int w2), (4, .int w3), (5, .int w4)] _
  refine z_seti (y := 1) hu.1 ?_
  refine z_if_ne (tgt := 31) B dX8_set_18 (by decide) (fun _ => ?_) (fun h => absurd h (by decide))
  refine z_iload_n B dX8_set_31 rfl 4 rfl ?_
  refine z_iload B dX8_set_32 5 rfl ?_
  refine z_iload B dX8_set_34 6 rfl ?_
  refine z_cSi (As := [.int w2, .int w3, .int w4]) (rest := []) B cw_X8_79 dX8_set_36 (ci_X8_isStep_66 l (σ := (ap b σ [] [] [])) (b := b) (lyA hK) w2 w3 w4 q1_w2 q2_w2) rfl (by decide) rfl (Nat.le_of_ble_eq_true rfl) (by decide) (fun r u hu => ?_)
  refine z_eqs (σ' := (ap b σ [] [] [])) hu.2 ?_
  show zx p l e _ s m _ below meth c g 9 0 0 _ _ 39 [(6, .ref (b + 25)), (0, .ref (b + 0)), (1, .int 4), (2, .int w1), (3, .int w2), (4, .int w3), (5, .int w4)] _
  refine z_seti (y := 0) hu.1 ?_
  refine z_if_ne (tgt := 52) B dX8_set_39 (by decide) (fun h => absurd (by decide) h) (fun _ => ?_)
  exact z_throw B hlt hout (cls := "java/lang/IllegalArgumentException") (text := "no such operation") tw_X8_83_85_87 dX8_set_42 dX8_set_45 dX8_set_46 dX8_set_48 dX8_set_51 (by decide) (by decide) (by decide) (by decide) (by decide) (by decide) (fun z => ⟨z, rfl⟩)
set_option maxRecDepth 100000 in
set_option maxHeartbeats 4000000 in
theorem ci_L_set_282 (l : Launch) (hlt : l.stackTraces = false) {g : gx_T} {σ : sx_T} {b : Nat} (hK : lay b σ) (w1 : Int32) (w2 : Int32) (w3 : Int32) (w4 : Int32) (q1_w1 : (0 : Int) ≤ w1.toInt) (q2_w1 : w1.toInt ≤ (19 : Int)) (q1_w2 : (-2147483648 : Int) ≤ w2.toInt) (q2_w2 : w2.toInt ≤ (-1 : Int)) (hR_0_0 : sx_R σ (b + 0) 0 = (some (b + 1))) (hR_1_4 : sx_R σ (b + 1) 4 = (some (b + 25))) : Met l yL_set (.codeWith yL_set cL_set 8 (some .int) [(0, 16, 19, 13), (0, 16, 23, 15)] :: lw_g) { frames := 8, cells := 1, slots := 6, locals := 164 } (va_Pc [.ref (b + 0), .int 4, .int w1, .int w2, .int w3, .int w4, .ref (b + 431)] (zx_w g σ)) (va_Qi (fun r u => r = 2 ∧ ∃ z, u = (ap b (wx_Z σ z) [] [] [])) (zx_w g) (gx_Q g)) 1 6 (gx_Q g) := by
  refine z_metW (by decide) (Nat.le_of_ble_eq_true rfl) (fun p e s m below meth c B hr htab => ?_)
  refine z_eqs (σ' := (ap b σ [] [] [])) rfl ?_
  show zx p l e _ s m _ below meth c g 8 0 0 _ _ 0 [(0, .ref (b + 0)), (1, .int 4), (2, .int w1), (3, .int w2), (4, .int w3), (5, .int w4), (6, .ref (b + 431))] []
  refine z_aload B dL_set_0 6 rfl ?_
  refine z_iconst (v := 0) B dL_set_2 (by decide) ?_
  refine z_aload_n B dL_set_3 rfl 0 rfl ?_
  refine z_iload_n B dL_set_4 rfl 1 rfl ?_
  refine z_iload_n B dL_set_5 rfl 2 rfl ?_
  refine z_iload_n B dL_set_6 rfl 3 rfl ?_
  refine z_iload B dL_set_7 4 rfl ?_
  refine z_iload B dL_set_9 5 rfl ?_
  refine z_cXi (As := [.int 4, .int w1, .int w2, .int w3, .int w4]) (rest := [.int 0, .ref (b + 431)]) B htab tc_set_11_IllegalArgumentException cw_L_7 cx_9 dL_set_11 (ci_X8_set_281 l hlt (σ := (ap b σ [] [] [])) (b := b) (lyA hK) w1 w2 w3 w4 q1_w1 q2_w1 q1_w2 q2_w2 (rR_at 0 0 hR_0_0) (rR_at 1 4 hR_1_4)) (lKA (hk_K hK 0 rfl rfl)) rfl (by decide) rfl (Nat.le_of_ble_eq_true rfl) (by decide) (fun z q => ?_)
  refine z_eqs (σ' := (ap b (wx_Z σ z) [] [] [])) rfl ?_
  show zx p l e _ s m _ below meth c g 8 _ _ _ _ 23 [(0, .ref (b + 0)), (1, .int 4), (2, .int w1), (3, .int w2), (4, .int w3), (5, .int w4), (6, .ref (b + 431))] _
  refine z_astore (lv' := [(7, .ref q), (0, .ref (b + 0)), (1, .int 4), (2, .int w1), (3, .int w2), (4, .int w3), (5, .int w4), (6, .ref (b + 431))]) B dL_set_23 (by decide) rfl ?_
  refine z_iconst (v := 2) B dL_set_25 (by decide) ?_
  exact z_iret B hr (by decide) (by decide) dL_set_26 ⟨rfl, _, rfl⟩
set_option maxRecDepth 100000 in
set_option maxHeartbeats 4000000 in
theorem ci_X9_isStep_283 (l : Launch) {g : gx_T} {σ : sx_T} {b : Nat} (hK : lay b σ) (w1 : Int32) (q1_w1 : (0 : Int) ≤ w1.toInt) (q2_w1 : w1.toInt ≤ (19 : Int))  : Met l yX9_isStep (.code yX9_isStep cX9_isStep 2 (some .boolean) :: lw_g) { frames := 1, cells := 0, slots := 0, locals := 22 } (va_Pc [.int 4, .int w1] (zx_w g σ)) (va_Qi (fun r u => r = 1 ∧ u = σ) (zx_w g) (gx_Q g)) 0 0 (gx_Q g) := by
  refine z_met (by decide) (Nat.le_of_ble_eq_true rfl) (fun p e s m below meth c B hr hin => ?_)
  refine z_eqs (σ' := (ap b σ [] [] [])) rfl ?_
  show zx p l e _ s m _ below meth c g 2 0 0 _ _ 0 [(0, .int 4), (1, .int w1)] []
  refine z_iload_n B dX9_isStep_0 rfl 0 rfl ?_
  refine z_iconst (v := 0) B dX9_isStep_1 (by decide) ?_
  refine z_iconst (v := 5) B dX9_isStep_2 (by decide) ?_
  refine z_cSi (As := [.int 4, .int 0, .int 5]) (rest := []) B cw_X9_96 dX9_isStep_3 (ci_X9_in_272 l (σ := (ap b σ [] [] [])) (b := b) (lyA hK) ) rfl (by decide) rfl (Nat.le_of_ble_eq_true rfl) (by decide) (fun r u hu => ?_)
  refine z_eqs (σ' := (ap b σ [] [] [])) hu.2 ?_
  show zx p l e _ s m _ below meth c g 2 0 0 _ _ 6 [(0, .int 4), (1, .int w1)] _
  refine z_seti (y := 1) hu.1 ?_
  refine z_if_eq (tgt := 23) B dX9_isStep_6 (by decide) (fun h => absurd h (by decide)) (fun _ => ?_)
  refine z_iload_n B dX9_isStep_9 rfl 1 rfl ?_
  refine z_iconst (v := 0) B dX9_isStep_10 (by decide) ?_
  refine z_bipush (v := 19) B dX9_isStep_11 (by decide) ?_
  refine z_cSi (As := [.int w1, .int 0, .int 19]) (rest := []) B cw_X9_96 dX9_isStep_13 (ci_X9_in_69 l (σ := (ap b σ [] [] [])) (b := b) (lyA hK) w1 q1_w1 q2_w1) rfl (by decide) rfl (Nat.le_of_ble_eq_true rfl) (by decide) (fun r u hu => ?_)
  refine z_eqs (σ' := (ap b σ [] [] [])) hu.2 ?_
  show zx p l e _ s m _ below meth c g 2 0 0 _ _ 16 [(0, .int 4), (1, .int w1)] _
  refine z_seti (y := 1) hu.1 ?_
  refine z_if_eq (tgt := 23) B dX9_isStep_16 (by decide) (fun h => absurd h (by decide)) (fun _ => ?_)
  refine z_iconst (v := 1) B dX9_isStep_19 (by decide) ?_
  refine z_goto (tgt := 24) B dX9_isStep_20 (by decide) ?_
  exact z_zret B hr (by decide) (by decide) (by decide) dX9_isStep_24 ⟨rfl, rfl⟩
set_option maxRecDepth 100000 in
set_option maxHeartbeats 4000000 in
theorem ci_X9_set_284 (l : Launch) {g : gx_T} {σ : sx_T} {b : Nat} (hK : lay b σ) (w1 : Int32) (w2 : Int32) (w3 : Int32) (w4 : Int32) (q1_w1 : (0 : Int) ≤ w1.toInt) (q2_w1 : w1.toInt ≤ (19 : Int)) (q1_w2 : (-2147483648 : Int) ≤ w2.toInt) (q2_w2 : w2.toInt ≤ (-1 : Int))  : Met l yX9_set (.code yX9_set cX9_set 7 (some .int) :: lw_g) { frames := 2, cells := 0, slots := 0, locals := 44 } (va_Pc [.ref (b + 405), .int 4, .int w1, .int w2, .int w3, .int w4] (zx_w g σ)) (va_Qi (fun r u => r = 0 ∧ u = (ap b σ [(405, 0, 2)] [] [])) (zx_w g) (gx_Q g)) 0 0 (gx_Q g) := by
  refine z_met (by decide) (Nat.le_of_ble_eq_true rfl) (fun p e s m below meth c B hr hin => ?_)
  refine z_eqs (σ' := (ap b σ [] [] [])) rfl ?_
  show zx p l e _ s m _ below meth c g 7 0 0 _ _ 0 [(0, .ref (b + 405)), (1, .int 4), (2, .int w1), (3, .int w2), (4, .int w3), (5, .int w4)] []
  refine z_aload_n B dX9_set_0 rfl 0 rfl ?_
  refine z_iload_n B dX9_set_1 rfl 1 rfl ?_
  refine z_iload_n B dX9_set_2 rfl 2 rfl ?_
  refine z_cSi (As := [.int 4, .int w1]) (rest := [.ref (b + 405)]) B cw_X9_238 dX9_set_3 (ci_X9_isStep_283 l (σ := (ap b σ [] [] [])) (b := b) (lyA hK) w1 q1_w1 q2_w1) rfl (by decide) rfl (Nat.le_of_ble_eq_true rfl) (by decide) (fun r u hu => ?_)
  refine z_eqs (σ' := (ap b σ [] [] [])) hu.2 ?_
  show zx p l e _ s m _ below meth c g 7 0 0 _ _ 6 [(0, .ref (b + 405)), (1, .int 4), (2, .int w1), (3, .int w2), (4, .int w3), (5, .int w4)] _
  refine z_seti (y := 1) hu.1 ?_
  refine z_iload_n B dX9_set_6 rfl 3 rfl ?_
  refine z_iload B dX9_set_7 4 rfl ?_
  refine z_iload B dX9_set_9 5 rfl ?_
  refine z_cSi (As := [.int w2, .int w3, .int w4]) (rest := [.int 1, .ref (b + 405)]) B cw_X9_242 dX9_set_11 (ci_X9_isOperation_28 l (σ := (ap b σ [] [] [])) (b := b) (lyA hK) w2 w3 w4 q1_w2 q2_w2) rfl (by decide) rfl (Nat.le_of_ble_eq_true rfl) (by decide) (fun r u hu => ?_)
  refine z_eqs (σ' := (ap b σ [] [] [])) hu.2 ?_
  show zx p l e _ s m _ below meth c g 7 0 0 _ _ 14 [(0, .ref (b + 405)), (1, .int 4), (2, .int w1), (3, .int w2), (4, .int w3), (5, .int w4)] _
  refine z_seti (y := 0) hu.1 ?_
  refine z_cVi (As := [.int 1, .int 0]) (rest := []) B cw_X9_245 cx_10 dX9_set_14 (ci_X9_needs__71 l (σ := (ap b σ [] [] [])) (b := b) (lyA hK) ) (lKA (hk_K hK 405 rfl rfl)) rfl (by decide) rfl (Nat.le_of_ble_eq_true rfl) (by decide) (fun r u hu => ?_)
  refine z_eqs (σ' := (ap b σ [(405, 0, 2)] [] [])) (hu.2.trans ap_ap) ?_
  show zx p l e _ s m _ below meth c g 7 0 0 _ _ 17 [(0, .ref (b + 405)), (1, .int 4), (2, .int w1), (3, .int w2), (4, .int w3), (5, .int w4)] _
  refine z_seti (y := 0) hu.1 ?_
  refine z_if_ne (tgt := 22) B dX9_set_17 (by decide) (fun h => absurd (by decide) h) (fun _ => ?_)
  refine z_iconst (v := 0) B dX9_set_20 (by decide) ?_
  exact z_iret B hr (by decide) (by decide) dX9_set_21 ⟨rfl, rfl⟩
set_option maxRecDepth 100000 in
set_option maxHeartbeats 4000000 in
theorem ci_X8_set_285 (l : Launch) (hlt : l.stackTraces = false) {g : gx_T} {σ : sx_T} {b : Nat} (hK : lay b σ) (w1 : Int32) (w2 : Int32) (w3 : Int32) (w4 : Int32) (q1_w1 : (0 : Int) ≤ w1.toInt) (q2_w1 : w1.toInt ≤ (19 : Int)) (q1_w2 : (0 : Int) ≤ w2.toInt) (q2_w2 : w2.toInt ≤ (17 : Int)) (q1_w3 : (-2147483648 : Int) ≤ w3.toInt) (q2_w3 : w3.toInt ≤ (-1 : Int)) (hR_0_0 : sx_R σ (b + 0) 0 = (some (b + 1))) (hR_1_4 : sx_R σ (b + 1) 4 = (some (b + 25))) : vx_Met l yX8_set (.code yX8_set cX8_set 9 (some .int) :: lw_g) { frames := 7, cells := 1, slots := 6, locals := 136 } (va_Pc [.ref (b + 0), .int 4, .int w1, .int w2, .int w3, .int w4] (zx_w g σ)) (va_Qi (S := sx_T) (fun _ _ => False) (zx_w g) (gx_Q g)) (vx_X (fun u : sx_T => ∃ z, u = wx_Z σ z) (fun E u t => E = "java/lang/IllegalArgumentException" ∧ zx_h g u t.heap) (gx_Q g)) 1 6 (gx_Q g) := by
  refine z_metX (by decide) (Nat.le_of_ble_eq_true rfl) (fun p e s m below meth c B hr hin hout => ?_)
  refine z_eqs (σ' := (ap b σ [] [] [])) rfl ?_
  show zx p l e _ s m _ below meth c g 9 0 0 _ _ 0 [(0, .ref (b + 0)), (1, .int 4), (2, .int w1), (3, .int w2), (4, .int w3), (5, .int w4)] []
  refine z_aload_n B dX8_set_0 rfl 0 rfl ?_
  refine z_iload_n B dX8_set_1 rfl 1 rfl ?_
  refine z_cVq (As := [.int 4]) (rest := []) B cw_X8_64 cx_9 dX8_set_2 (ci_X8_programAt_269 l (σ := (ap b σ [] [] [])) (b := b) (lyA hK) (rR_at 0 0 hR_0_0) (rR_at 1 4 hR_1_4)) (lKA (hk_K hK 0 rfl rfl)) rfl (by decide) rfl (Nat.le_of_ble_eq_true rfl) (by decide) (fun r u hu => ?_)
  refine z_eqs (σ' := (ap b σ [] [] [])) hu.2 ?_
  show zx p l e _ s m _ below meth c g 9 0 0 _ _ 5 [(0, .ref (b + 0)), (1, .int 4), (2, .int w1), (3, .int w2), (4, .int w3), (5, .int w4)] _
  refine z_setr (y := (some (b + 25))) hu.1 ?_
  refine z_astore (lv' := [(6, .ref (b + 25)), (0, .ref (b + 0)), (1, .int 4), (2, .int w1), (3, .int w2), (4, .int w3), (5, .int w4)]) B dX8_set_5 (by decide) rfl ?_
  refine z_aload B dX8_set_7 0 rfl ?_
  refine z_ifnull (r := (some (b + 25))) (tgt := 21) B dX8_set_9 (by decide) (fun h => nomatch h) (fun _ _ => ?_)
  refine z_iload_n B dX8_set_12 rfl 3 rfl ?_
  refine z_bipush (v := 20) B dX8_set_13 (by decide) ?_
  refine z_cSi (As := [.int w1, .int 20]) (rest := []) B cw_X8_68 dX8_set_15 (ci_X8_isBelow_64 l (σ := (ap b σ [] [] [])) (b := b) (lyA hK) w1 q1_w1 q2_w1) rfl (by decide) rfl (Nat.le_of_ble_eq_true rfl) (by decide) (fun r u hu => ?_)
  refine z_eqs (σ' := (ap b σ [] [] [])) hu.2 ?_
  show zx p l e _ s m _ below meth c g 9 0 0 _ _ 18 [(6, .ref (b + 25)), (0, .ref (b + 0)), (1, .int 4), (2, .int w1), (3, .int w2), (4, .int w3), (5, .int w4)] _
  refine z_seti (y := 1) hu.1 ?_
  refine z_if_ne (tgt := 31) B dX8_set_18 (by decide) (fun _ => ?_) (fun h => absurd h (by decide))
  refine z_iload_n B dX8_set_31 rfl 4 rfl ?_
  refine z_iload B dX8_set_32 5 rfl ?_
  refine z_iload B dX8_set_34 6 rfl ?_
  refine z_cSi (As := [.int w2, .int w3, .int w4]) (rest := []) B cw_X8_79 dX8_set_36 (ci_X8_isStep_76 l (σ := (ap b σ [] [] [])) (b := b) (lyA hK) w2 w3 w4 q1_w2 q2_w2 q1_w3 q2_w3) rfl (by decide) rfl (Nat.le_of_ble_eq_true rfl) (by decide) (fun r u hu => ?_)
  refine z_eqs (σ' := (ap b σ [] [] [])) hu.2 ?_
  show zx p l e _ s m _ below meth c g 9 0 0 _ _ 39 [(6, .ref (b + 25)), (0, .ref (b + 0)), (1, .int 4), (2, .int w1), (3, .int w2), (4, .int w3), (5, .int w4)] _
  refine z_seti (y := 0) hu.1 ?_
  refine z_if_ne (tgt := 52) B dX8_set_39 (by decide) (fun h => absurd (by decide) h) (fun _ => ?_)
  exact z_throw B hlt hout (cls := "java/lang/IllegalArgumentException") (text := "no such operation") tw_X8_83_85_87 dX8_set_42 dX8_set_45 dX8_set_46 dX8_set_48 dX8_set_51 (by decide) (by decide) (by decide) (by decide) (by decide) (by decide) (fun z => ⟨z, rfl⟩)
set_option maxRecDepth 100000 in
set_option maxHeartbeats 4000000 in
theorem ci_L_set_286 (l : Launch) (hlt : l.stackTraces = false) {g : gx_T} {σ : sx_T} {b : Nat} (hK : lay b σ) (w1 : Int32) (w2 : Int32) (w3 : Int32) (w4 : Int32) (q1_w1 : (0 : Int) ≤ w1.toInt) (q2_w1 : w1.toInt ≤ (19 : Int)) (q1_w2 : (0 : Int) ≤ w2.toInt) (q2_w2 : w2.toInt ≤ (17 : Int)) (q1_w3 : (-2147483648 : Int) ≤ w3.toInt) (q2_w3 : w3.toInt ≤ (-1 : Int)) (hR_0_0 : sx_R σ (b + 0) 0 = (some (b + 1))) (hR_1_4 : sx_R σ (b + 1) 4 = (some (b + 25))) : Met l yL_set (.codeWith yL_set cL_set 8 (some .int) [(0, 16, 19, 13), (0, 16, 23, 15)] :: lw_g) { frames := 8, cells := 1, slots := 6, locals := 164 } (va_Pc [.ref (b + 0), .int 4, .int w1, .int w2, .int w3, .int w4, .ref (b + 431)] (zx_w g σ)) (va_Qi (fun r u => r = 2 ∧ ∃ z, u = (ap b (wx_Z σ z) [] [] [])) (zx_w g) (gx_Q g)) 1 6 (gx_Q g) := by
  refine z_metW (by decide) (Nat.le_of_ble_eq_true rfl) (fun p e s m below meth c B hr htab => ?_)
  refine z_eqs (σ' := (ap b σ [] [] [])) rfl ?_
  show zx p l e _ s m _ below meth c g 8 0 0 _ _ 0 [(0, .ref (b + 0)), (1, .int 4), (2, .int w1), (3, .int w2), (4, .int w3), (5, .int w4), (6, .ref (b + 431))] []
  refine z_aload B dL_set_0 6 rfl ?_
  refine z_iconst (v := 0) B dL_set_2 (by decide) ?_
  refine z_aload_n B dL_set_3 rfl 0 rfl ?_
  refine z_iload_n B dL_set_4 rfl 1 rfl ?_
  refine z_iload_n B dL_set_5 rfl 2 rfl ?_
  refine z_iload_n B dL_set_6 rfl 3 rfl ?_
  refine z_iload B dL_set_7 4 rfl ?_
  refine z_iload B dL_set_9 5 rfl ?_
  refine z_cXi (As := [.int 4, .int w1, .int w2, .int w3, .int w4]) (rest := [.int 0, .ref (b + 431)]) B htab tc_set_11_IllegalArgumentException cw_L_7 cx_9 dL_set_11 (ci_X8_set_285 l hlt (σ := (ap b σ [] [] [])) (b := b) (lyA hK) w1 w2 w3 w4 q1_w1 q2_w1 q1_w2 q2_w2 q1_w3 q2_w3 (rR_at 0 0 hR_0_0) (rR_at 1 4 hR_1_4)) (lKA (hk_K hK 0 rfl rfl)) rfl (by decide) rfl (Nat.le_of_ble_eq_true rfl) (by decide) (fun z q => ?_)
  refine z_eqs (σ' := (ap b (wx_Z σ z) [] [] [])) rfl ?_
  show zx p l e _ s m _ below meth c g 8 _ _ _ _ 23 [(0, .ref (b + 0)), (1, .int 4), (2, .int w1), (3, .int w2), (4, .int w3), (5, .int w4), (6, .ref (b + 431))] _
  refine z_astore (lv' := [(7, .ref q), (0, .ref (b + 0)), (1, .int 4), (2, .int w1), (3, .int w2), (4, .int w3), (5, .int w4), (6, .ref (b + 431))]) B dL_set_23 (by decide) rfl ?_
  refine z_iconst (v := 2) B dL_set_25 (by decide) ?_
  exact z_iret B hr (by decide) (by decide) dL_set_26 ⟨rfl, _, rfl⟩
set_option maxRecDepth 100000 in
set_option maxHeartbeats 4000000 in
theorem ci_X9_set_287 (l : Launch) {g : gx_T} {σ : sx_T} {b : Nat} (hK : lay b σ) (w1 : Int32) (w2 : Int32) (w3 : Int32) (w4 : Int32) (q1_w1 : (0 : Int) ≤ w1.toInt) (q2_w1 : w1.toInt ≤ (19 : Int)) (q1_w2 : (0 : Int) ≤ w2.toInt) (q2_w2 : w2.toInt ≤ (17 : Int)) (q1_w3 : (-2147483648 : Int) ≤ w3.toInt) (q2_w3 : w3.toInt ≤ (-1 : Int))  : Met l yX9_set (.code yX9_set cX9_set 7 (some .int) :: lw_g) { frames := 2, cells := 0, slots := 0, locals := 44 } (va_Pc [.ref (b + 405), .int 4, .int w1, .int w2, .int w3, .int w4] (zx_w g σ)) (va_Qi (fun r u => r = 0 ∧ u = (ap b σ [(405, 0, 2)] [] [])) (zx_w g) (gx_Q g)) 0 0 (gx_Q g) := by
  refine z_met (by decide) (Nat.le_of_ble_eq_true rfl) (fun p e s m below meth c B hr hin => ?_)
  refine z_eqs (σ' := (ap b σ [] [] [])) rfl ?_
  show zx p l e _ s m _ below meth c g 7 0 0 _ _ 0 [(0, .ref (b + 405)), (1, .int 4), (2, .int w1), (3, .int w2), (4, .int w3), (5, .int w4)] []
  refine z_aload_n B dX9_set_0 rfl 0 rfl ?_
  refine z_iload_n B dX9_set_1 rfl 1 rfl ?_
  refine z_iload_n B dX9_set_2 rfl 2 rfl ?_
  refine z_cSi (As := [.int 4, .int w1]) (rest := [.ref (b + 405)]) B cw_X9_238 dX9_set_3 (ci_X9_isStep_283 l (σ := (ap b σ [] [] [])) (b := b) (lyA hK) w1 q1_w1 q2_w1) rfl (by decide) rfl (Nat.le_of_ble_eq_true rfl) (by decide) (fun r u hu => ?_)
  refine z_eqs (σ' := (ap b σ [] [] [])) hu.2 ?_
  show zx p l e _ s m _ below meth c g 7 0 0 _ _ 6 [(0, .ref (b + 405)), (1, .int 4), (2, .int w1), (3, .int w2), (4, .int w3), (5, .int w4)] _
  refine z_seti (y := 1) hu.1 ?_
  refine z_iload_n B dX9_set_6 rfl 3 rfl ?_
  refine z_iload B dX9_set_7 4 rfl ?_
  refine z_iload B dX9_set_9 5 rfl ?_
  refine z_cSi (As := [.int w2, .int w3, .int w4]) (rest := [.int 1, .ref (b + 405)]) B cw_X9_242 dX9_set_11 (ci_X9_isOperation_34 l (σ := (ap b σ [] [] [])) (b := b) (lyA hK) w2 w3 w4 q1_w2 q2_w2 q1_w3 q2_w3) rfl (by decide) rfl (Nat.le_of_ble_eq_true rfl) (by decide) (fun r u hu => ?_)
  refine z_eqs (σ' := (ap b σ [] [] [])) hu.2 ?_
  show zx p l e _ s m _ below meth c g 7 0 0 _ _ 14 [(0, .ref (b + 405)), (1, .int 4), (2, .int w1), (3, .int w2), (4, .int w3), (5, .int w4)] _
  refine z_seti (y := 0) hu.1 ?_
  refine z_cVi (As := [.int 1, .int 0]) (rest := []) B cw_X9_245 cx_10 dX9_set_14 (ci_X9_needs__71 l (σ := (ap b σ [] [] [])) (b := b) (lyA hK) ) (lKA (hk_K hK 405 rfl rfl)) rfl (by decide) rfl (Nat.le_of_ble_eq_true rfl) (by decide) (fun r u hu => ?_)
  refine z_eqs (σ' := (ap b σ [(405, 0, 2)] [] [])) (hu.2.trans ap_ap) ?_
  show zx p l e _ s m _ below meth c g 7 0 0 _ _ 17 [(0, .ref (b + 405)), (1, .int 4), (2, .int w1), (3, .int w2), (4, .int w3), (5, .int w4)] _
  refine z_seti (y := 0) hu.1 ?_
  refine z_if_ne (tgt := 22) B dX9_set_17 (by decide) (fun h => absurd (by decide) h) (fun _ => ?_)
  refine z_iconst (v := 0) B dX9_set_20 (by decide) ?_
  exact z_iret B hr (by decide) (by decide) dX9_set_21 ⟨rfl, rfl⟩
set_option maxRecDepth 100000 in
set_option maxHeartbeats 4000000 in
theorem ci_X8_set_288 (l : Launch) (hlt : l.stackTraces = false) {g : gx_T} {σ : sx_T} {b : Nat} (hK : lay b σ) (w1 : Int32) (w2 : Int32) (w3 : Int32) (w4 : Int32) (q1_w1 : (0 : Int) ≤ w1.toInt) (q2_w1 : w1.toInt ≤ (19 : Int)) (q1_w2 : (0 : Int) ≤ w2.toInt) (q2_w2 : w2.toInt ≤ (17 : Int)) (q1_w3 : (0 : Int) ≤ w3.toInt) (q2_w3 : w3.toInt ≤ (99 : Int)) (q1_w4 : (-2147483648 : Int) ≤ w4.toInt) (q2_w4 : w4.toInt ≤ (-1 : Int)) (hR_0_0 : sx_R σ (b + 0) 0 = (some (b + 1))) (hR_1_4 : sx_R σ (b + 1) 4 = (some (b + 25))) : vx_Met l yX8_set (.code yX8_set cX8_set 9 (some .int) :: lw_g) { frames := 7, cells := 1, slots := 6, locals := 136 } (va_Pc [.ref (b + 0), .int 4, .int w1, .int w2, .int w3, .int w4] (zx_w g σ)) (va_Qi (S := sx_T) (fun _ _ => False) (zx_w g) (gx_Q g)) (vx_X (fun u : sx_T => ∃ z, u = wx_Z σ z) (fun E u t => E = "java/lang/IllegalArgumentException" ∧ zx_h g u t.heap) (gx_Q g)) 1 6 (gx_Q g) := by
  refine z_metX (by decide) (Nat.le_of_ble_eq_true rfl) (fun p e s m below meth c B hr hin hout => ?_)
  refine z_eqs (σ' := (ap b σ [] [] [])) rfl ?_
  show zx p l e _ s m _ below meth c g 9 0 0 _ _ 0 [(0, .ref (b + 0)), (1, .int 4), (2, .int w1), (3, .int w2), (4, .int w3), (5, .int w4)] []
  refine z_aload_n B dX8_set_0 rfl 0 rfl ?_
  refine z_iload_n B dX8_set_1 rfl 1 rfl ?_
  refine z_cVq (As := [.int 4]) (rest := []) B cw_X8_64 cx_9 dX8_set_2 (ci_X8_programAt_269 l (σ := (ap b σ [] [] [])) (b := b) (lyA hK) (rR_at 0 0 hR_0_0) (rR_at 1 4 hR_1_4)) (lKA (hk_K hK 0 rfl rfl)) rfl (by decide) rfl (Nat.le_of_ble_eq_true rfl) (by decide) (fun r u hu => ?_)
  refine z_eqs (σ' := (ap b σ [] [] [])) hu.2 ?_
  show zx p l e _ s m _ below meth c g 9 0 0 _ _ 5 [(0, .ref (b + 0)), (1, .int 4), (2, .int w1), (3, .int w2), (4, .int w3), (5, .int w4)] _
  refine z_setr (y := (some (b + 25))) hu.1 ?_
  refine z_astore (lv' := [(6, .ref (b + 25)), (0, .ref (b + 0)), (1, .int 4), (2, .int w1), (3, .int w2), (4, .int w3), (5, .int w4)]) B dX8_set_5 (by decide) rfl ?_
  refine z_aload B dX8_set_7 0 rfl ?_
  refine z_ifnull (r := (some (b + 25))) (tgt := 21) B dX8_set_9 (by decide) (fun h => nomatch h) (fun _ _ => ?_)
  refine z_iload_n B dX8_set_12 rfl 3 rfl ?_
  refine z_bipush (v := 20) B dX8_set_13 (by decide) ?_
  refine z_cSi (As := [.int w1, .int 20]) (rest := []) B cw_X8_68 dX8_set_15 (ci_X8_isBelow_64 l (σ := (ap b σ [] [] [])) (b := b) (lyA hK) w1 q1_w1 q2_w1) rfl (by decide) rfl (Nat.le_of_ble_eq_true rfl) (by decide) (fun r u hu => ?_)
  refine z_eqs (σ' := (ap b σ [] [] [])) hu.2 ?_
  show zx p l e _ s m _ below meth c g 9 0 0 _ _ 18 [(6, .ref (b + 25)), (0, .ref (b + 0)), (1, .int 4), (2, .int w1), (3, .int w2), (4, .int w3), (5, .int w4)] _
  refine z_seti (y := 1) hu.1 ?_
  refine z_if_ne (tgt := 31) B dX8_set_18 (by decide) (fun _ => ?_) (fun h => absurd h (by decide))
  refine z_iload_n B dX8_set_31 rfl 4 rfl ?_
  refine z_iload B dX8_set_32 5 rfl ?_
  refine z_iload B dX8_set_34 6 rfl ?_
  refine z_cSi (As := [.int w2, .int w3, .int w4]) (rest := []) B cw_X8_79 dX8_set_36 (ci_X8_isStep_81 l (σ := (ap b σ [] [] [])) (b := b) (lyA hK) w2 w3 w4 q1_w2 q2_w2 q1_w3 q2_w3 q1_w4 q2_w4) rfl (by decide) rfl (Nat.le_of_ble_eq_true rfl) (by decide) (fun r u hu => ?_)
  refine z_eqs (σ' := (ap b σ [] [] [])) hu.2 ?_
  show zx p l e _ s m _ below meth c g 9 0 0 _ _ 39 [(6, .ref (b + 25)), (0, .ref (b + 0)), (1, .int 4), (2, .int w1), (3, .int w2), (4, .int w3), (5, .int w4)] _
  refine z_seti (y := 0) hu.1 ?_
  refine z_if_ne (tgt := 52) B dX8_set_39 (by decide) (fun h => absurd (by decide) h) (fun _ => ?_)
  exact z_throw B hlt hout (cls := "java/lang/IllegalArgumentException") (text := "no such operation") tw_X8_83_85_87 dX8_set_42 dX8_set_45 dX8_set_46 dX8_set_48 dX8_set_51 (by decide) (by decide) (by decide) (by decide) (by decide) (by decide) (fun z => ⟨z, rfl⟩)
set_option maxRecDepth 100000 in
set_option maxHeartbeats 4000000 in
theorem ci_L_set_289 (l : Launch) (hlt : l.stackTraces = false) {g : gx_T} {σ : sx_T} {b : Nat} (hK : lay b σ) (w1 : Int32) (w2 : Int32) (w3 : Int32) (w4 : Int32) (q1_w1 : (0 : Int) ≤ w1.toInt) (q2_w1 : w1.toInt ≤ (19 : Int)) (q1_w2 : (0 : Int) ≤ w2.toInt) (q2_w2 : w2.toInt ≤ (17 : Int)) (q1_w3 : (0 : Int) ≤ w3.toInt) (q2_w3 : w3.toInt ≤ (99 : Int)) (q1_w4 : (-2147483648 : Int) ≤ w4.toInt) (q2_w4 : w4.toInt ≤ (-1 : Int)) (hR_0_0 : sx_R σ (b + 0) 0 = (some (b + 1))) (hR_1_4 : sx_R σ (b + 1) 4 = (some (b + 25))) : Met l yL_set (.codeWith yL_set cL_set 8 (some .int) [(0, 16, 19, 13), (0, 16, 23, 15)] :: lw_g) { frames := 8, cells := 1, slots := 6, locals := 164 } (va_Pc [.ref (b + 0), .int 4, .int w1, .int w2, .int w3, .int w4, .ref (b + 431)] (zx_w g σ)) (va_Qi (fun r u => r = 2 ∧ ∃ z, u = (ap b (wx_Z σ z) [] [] [])) (zx_w g) (gx_Q g)) 1 6 (gx_Q g) := by
  refine z_metW (by decide) (Nat.le_of_ble_eq_true rfl) (fun p e s m below meth c B hr htab => ?_)
  refine z_eqs (σ' := (ap b σ [] [] [])) rfl ?_
  show zx p l e _ s m _ below meth c g 8 0 0 _ _ 0 [(0, .ref (b + 0)), (1, .int 4), (2, .int w1), (3, .int w2), (4, .int w3), (5, .int w4), (6, .ref (b + 431))] []
  refine z_aload B dL_set_0 6 rfl ?_
  refine z_iconst (v := 0) B dL_set_2 (by decide) ?_
  refine z_aload_n B dL_set_3 rfl 0 rfl ?_
  refine z_iload_n B dL_set_4 rfl 1 rfl ?_
  refine z_iload_n B dL_set_5 rfl 2 rfl ?_
  refine z_iload_n B dL_set_6 rfl 3 rfl ?_
  refine z_iload B dL_set_7 4 rfl ?_
  refine z_iload B dL_set_9 5 rfl ?_
  refine z_cXi (As := [.int 4, .int w1, .int w2, .int w3, .int w4]) (rest := [.int 0, .ref (b + 431)]) B htab tc_set_11_IllegalArgumentException cw_L_7 cx_9 dL_set_11 (ci_X8_set_288 l hlt (σ := (ap b σ [] [] [])) (b := b) (lyA hK) w1 w2 w3 w4 q1_w1 q2_w1 q1_w2 q2_w2 q1_w3 q2_w3 q1_w4 q2_w4 (rR_at 0 0 hR_0_0) (rR_at 1 4 hR_1_4)) (lKA (hk_K hK 0 rfl rfl)) rfl (by decide) rfl (Nat.le_of_ble_eq_true rfl) (by decide) (fun z q => ?_)
  refine z_eqs (σ' := (ap b (wx_Z σ z) [] [] [])) rfl ?_
  show zx p l e _ s m _ below meth c g 8 _ _ _ _ 23 [(0, .ref (b + 0)), (1, .int 4), (2, .int w1), (3, .int w2), (4, .int w3), (5, .int w4), (6, .ref (b + 431))] _
  refine z_astore (lv' := [(7, .ref q), (0, .ref (b + 0)), (1, .int 4), (2, .int w1), (3, .int w2), (4, .int w3), (5, .int w4), (6, .ref (b + 431))]) B dL_set_23 (by decide) rfl ?_
  refine z_iconst (v := 2) B dL_set_25 (by decide) ?_
  exact z_iret B hr (by decide) (by decide) dL_set_26 ⟨rfl, _, rfl⟩
set_option maxRecDepth 100000 in
set_option maxHeartbeats 4000000 in
theorem ci_X9_set_290 (l : Launch) {g : gx_T} {σ : sx_T} {b : Nat} (hK : lay b σ) (w1 : Int32) (w2 : Int32) (w3 : Int32) (w4 : Int32) (q1_w1 : (0 : Int) ≤ w1.toInt) (q2_w1 : w1.toInt ≤ (19 : Int)) (q1_w2 : (0 : Int) ≤ w2.toInt) (q2_w2 : w2.toInt ≤ (17 : Int)) (q1_w3 : (0 : Int) ≤ w3.toInt) (q2_w3 : w3.toInt ≤ (99 : Int)) (q1_w4 : (-2147483648 : Int) ≤ w4.toInt) (q2_w4 : w4.toInt ≤ (-1 : Int))  : Met l yX9_set (.code yX9_set cX9_set 7 (some .int) :: lw_g) { frames := 2, cells := 0, slots := 0, locals := 44 } (va_Pc [.ref (b + 405), .int 4, .int w1, .int w2, .int w3, .int w4] (zx_w g σ)) (va_Qi (fun r u => r = 0 ∧ u = (ap b σ [(405, 0, 2)] [] [])) (zx_w g) (gx_Q g)) 0 0 (gx_Q g) := by
  refine z_met (by decide) (Nat.le_of_ble_eq_true rfl) (fun p e s m below meth c B hr hin => ?_)
  refine z_eqs (σ' := (ap b σ [] [] [])) rfl ?_
  show zx p l e _ s m _ below meth c g 7 0 0 _ _ 0 [(0, .ref (b + 405)), (1, .int 4), (2, .int w1), (3, .int w2), (4, .int w3), (5, .int w4)] []
  refine z_aload_n B dX9_set_0 rfl 0 rfl ?_
  refine z_iload_n B dX9_set_1 rfl 1 rfl ?_
  refine z_iload_n B dX9_set_2 rfl 2 rfl ?_
  refine z_cSi (As := [.int 4, .int w1]) (rest := [.ref (b + 405)]) B cw_X9_238 dX9_set_3 (ci_X9_isStep_283 l (σ := (ap b σ [] [] [])) (b := b) (lyA hK) w1 q1_w1 q2_w1) rfl (by decide) rfl (Nat.le_of_ble_eq_true rfl) (by decide) (fun r u hu => ?_)
  refine z_eqs (σ' := (ap b σ [] [] [])) hu.2 ?_
  show zx p l e _ s m _ below meth c g 7 0 0 _ _ 6 [(0, .ref (b + 405)), (1, .int 4), (2, .int w1), (3, .int w2), (4, .int w3), (5, .int w4)] _
  refine z_seti (y := 1) hu.1 ?_
  refine z_iload_n B dX9_set_6 rfl 3 rfl ?_
  refine z_iload B dX9_set_7 4 rfl ?_
  refine z_iload B dX9_set_9 5 rfl ?_
  refine z_cSi (As := [.int w2, .int w3, .int w4]) (rest := [.int 1, .ref (b + 405)]) B cw_X9_242 dX9_set_11 (ci_X9_isOperation_37 l (σ := (ap b σ [] [] [])) (b := b) (lyA hK) w2 w3 w4 q1_w2 q2_w2 q1_w3 q2_w3 q1_w4 q2_w4) rfl (by decide) rfl (Nat.le_of_ble_eq_true rfl) (by decide) (fun r u hu => ?_)
  refine z_eqs (σ' := (ap b σ [] [] [])) hu.2 ?_
  show zx p l e _ s m _ below meth c g 7 0 0 _ _ 14 [(0, .ref (b + 405)), (1, .int 4), (2, .int w1), (3, .int w2), (4, .int w3), (5, .int w4)] _
  refine z_seti (y := 0) hu.1 ?_
  refine z_cVi (As := [.int 1, .int 0]) (rest := []) B cw_X9_245 cx_10 dX9_set_14 (ci_X9_needs__71 l (σ := (ap b σ [] [] [])) (b := b) (lyA hK) ) (lKA (hk_K hK 405 rfl rfl)) rfl (by decide) rfl (Nat.le_of_ble_eq_true rfl) (by decide) (fun r u hu => ?_)
  refine z_eqs (σ' := (ap b σ [(405, 0, 2)] [] [])) (hu.2.trans ap_ap) ?_
  show zx p l e _ s m _ below meth c g 7 0 0 _ _ 17 [(0, .ref (b + 405)), (1, .int 4), (2, .int w1), (3, .int w2), (4, .int w3), (5, .int w4)] _
  refine z_seti (y := 0) hu.1 ?_
  refine z_if_ne (tgt := 22) B dX9_set_17 (by decide) (fun h => absurd (by decide) h) (fun _ => ?_)
  refine z_iconst (v := 0) B dX9_set_20 (by decide) ?_
  exact z_iret B hr (by decide) (by decide) dX9_set_21 ⟨rfl, rfl⟩
set_option maxRecDepth 100000 in
set_option maxHeartbeats 4000000 in
theorem ci_X4_put_291 (l : Launch) {g : gx_T} {σ : sx_T} {b : Nat} (hK : lay b σ) (w1 : Int32) (w2 : Int32) (w3 : Int32) (w4 : Int32) (q1_w1 : (0 : Int) ≤ w1.toInt) (q2_w1 : w1.toInt ≤ (19 : Int)) (hR_25_1 : sx_R σ (b + 25) 1 = (some (b + 26))) (hR_25_2 : sx_R σ (b + 25) 2 = (some (b + 27))) (hR_25_3 : sx_R σ (b + 25) 3 = (some (b + 28))) : Met l yX4_put (.code yX4_put cX4_put 5 none :: lw_g) { frames := 0, cells := 0, slots := 0, locals := 0 } (va_Pc [.ref (b + 25), .int w1, .int w2, .int w3, .int w4] (zx_w g σ)) (va_Qv (fun u => u = (ap b (wx_I (ap b (wx_I (ap b (wx_I (ap b σ [] [] []) (b + 26) w1.toNatClampNeg w2) [] [] []) (b + 27) w1.toNatClampNeg w3) [] [] []) (b + 28) w1.toNatClampNeg w4) [] [] [])) (zx_w g) (gx_Q g)) 0 0 (gx_Q g) := by
  refine z_met (by decide) (Nat.le_of_ble_eq_true rfl) (fun p e s m below meth c B hr hin => ?_)
  refine z_eqs (σ' := (ap b σ [] [] [])) rfl ?_
  show zx p l e _ s m _ below meth c g 5 0 0 _ _ 0 [(0, .ref (b + 25)), (1, .int w1), (2, .int w2), (3, .int w3), (4, .int w4)] []
  refine z_iload_n B dX4_put_0 rfl 1 rfl ?_
  refine z_if_lt (tgt := 53) B dX4_put_1 (by decide) (fun h => absurd h (iv_nlt q1_w1 (by decide))) (fun _ => ?_)
  refine z_iload_n B dX4_put_4 rfl 1 rfl ?_
  refine z_aload_n B dX4_put_5 rfl 0 rfl ?_
  refine gf_X4_9 (x := (some (b + 26))) B (lKA (hk_K hK 25 rfl rfl)) (rR_at 25 1 hR_25_1) dX4_put_6 ?_
  refine z_alen (kd := 13) (ti := 1) (v := 20) B (lKA (hk_K hK 26 rfl rfl)) (by decide) rfl (congrArg Int32.ofNat (lNA (hk_N hK 26 rfl rfl))) dX4_put_9 ?_
  refine z_icmp_ge (tgt := 53) B dX4_put_10 (by decide) (fun h => absurd h (iv_nge q2_w1 (by decide))) (fun _ => ?_)
  refine z_iload_n B dX4_put_13 rfl 1 rfl ?_
  refine z_aload_n B dX4_put_14 rfl 0 rfl ?_
  refine gf_X4_15 (x := (some (b + 27))) B (lKA (hk_K hK 25 rfl rfl)) (rR_at 25 2 hR_25_2) dX4_put_15 ?_
  refine z_alen (kd := 13) (ti := 1) (v := 20) B (lKA (hk_K hK 27 rfl rfl)) (by decide) rfl (congrArg Int32.ofNat (lNA (hk_N hK 27 rfl rfl))) dX4_put_18 ?_
  refine z_icmp_ge (tgt := 53) B dX4_put_19 (by decide) (fun h => absurd h (iv_nge q2_w1 (by decide))) (fun _ => ?_)
  refine z_iload_n B dX4_put_22 rfl 1 rfl ?_
  refine z_aload_n B dX4_put_23 rfl 0 rfl ?_
  refine gf_X4_18 (x := (some (b + 28))) B (lKA (hk_K hK 25 rfl rfl)) (rR_at 25 3 hR_25_3) dX4_put_24 ?_
  refine z_alen (kd := 13) (ti := 1) (v := 20) B (lKA (hk_K hK 28 rfl rfl)) (by decide) rfl (congrArg Int32.ofNat (lNA (hk_N hK 28 rfl rfl))) dX4_put_27 ?_
  refine z_icmp_ge (tgt := 53) B dX4_put_28 (by decide) (fun h => absurd h (iv_nge q2_w1 (by decide))) (fun _ => ?_)
  refine z_aload_n B dX4_put_31 rfl 0 rfl ?_
  refine gf_X4_9 (x := (some (b + 26))) B (lKA (hk_K hK 25 rfl rfl)) (rR_at 25 1 hR_25_1) dX4_put_32 ?_
  refine z_iload_n B dX4_put_35 rfl 1 rfl ?_
  refine z_iload_n B dX4_put_36 rfl 2 rfl ?_
  refine z_iast (j := w1.toNatClampNeg) (σ' := (wx_I (ap b σ [] [] []) (b + 26) w1.toNatClampNeg w2)) B (lKA (hk_K hK 26 rfl rfl)) rfl (in_of (lNA (hk_N hK 26 rfl rfl)) (iv_in q1_w1 q2_w1 (by decide) (by decide))) rfl dX4_put_37 ?_
  refine z_eqs (σ' := (ap b (wx_I (ap b σ [] [] []) (b + 26) w1.toNatClampNeg w2) [] [] [])) ap_nil ?_
  refine z_aload_n B dX4_put_38 rfl 0 rfl ?_
  refine gf_X4_15 (x := (some (b + 27))) B (lKA (lKW (lKA (hk_K hK 25 rfl rfl)))) (rR_at 25 2 (rR_w (rR_at 25 2 hR_25_2))) dX4_put_39 ?_
  refine z_iload_n B dX4_put_42 rfl 1 rfl ?_
  refine z_iload_n B dX4_put_43 rfl 3 rfl ?_
  refine z_iast (j := w1.toNatClampNeg) (σ' := (wx_I (ap b (wx_I (ap b σ [] [] []) (b + 26) w1.toNatClampNeg w2) [] [] []) (b + 27) w1.toNatClampNeg w3)) B (lKA (lKW (lKA (hk_K hK 27 rfl rfl)))) rfl (in_of (lNA (lNW (lNA (hk_N hK 27 rfl rfl)))) (iv_in q1_w1 q2_w1 (by decide) (by decide))) rfl dX4_put_44 ?_
  refine z_eqs (σ' := (ap b (wx_I (ap b (wx_I (ap b σ [] [] []) (b + 26) w1.toNatClampNeg w2) [] [] []) (b + 27) w1.toNatClampNeg w3) [] [] [])) ap_nil ?_
  refine z_aload_n B dX4_put_45 rfl 0 rfl ?_
  refine gf_X4_18 (x := (some (b + 28))) B (lKA (lKW (lKA (lKW (lKA (hk_K hK 25 rfl rfl)))))) (rR_at 25 3 (rR_w (rR_at 25 3 (rR_w (rR_at 25 3 hR_25_3))))) dX4_put_46 ?_
  refine z_iload_n B dX4_put_49 rfl 1 rfl ?_
  refine z_iload B dX4_put_50 4 rfl ?_
  refine z_iast (j := w1.toNatClampNeg) (σ' := (wx_I (ap b (wx_I (ap b (wx_I (ap b σ [] [] []) (b + 26) w1.toNatClampNeg w2) [] [] []) (b + 27) w1.toNatClampNeg w3) [] [] []) (b + 28) w1.toNatClampNeg w4)) B (lKA (lKW (lKA (lKW (lKA (hk_K hK 28 rfl rfl)))))) rfl (in_of (lNA (lNW (lNA (lNW (lNA (hk_N hK 28 rfl rfl)))))) (iv_in q1_w1 q2_w1 (by decide) (by decide))) rfl dX4_put_52 ?_
  refine z_eqs (σ' := (ap b (wx_I (ap b (wx_I (ap b (wx_I (ap b σ [] [] []) (b + 26) w1.toNatClampNeg w2) [] [] []) (b + 27) w1.toNatClampNeg w3) [] [] []) (b + 28) w1.toNatClampNeg w4) [] [] [])) ap_nil ?_
  exact z_vret B hr (by decide) (by decide) dX4_put_53 rfl
set_option maxRecDepth 100000 in
set_option maxHeartbeats 4000000 in
theorem ci_X8_findAgain_292 (l : Launch) {g : gx_T} {σ : sx_T} {b : Nat} (hK : lay b σ)   (hI_0_7 : sx_I σ (b + 0) 7 = 0) : Met l yX8_findAgain (.code yX8_findAgain cX8_findAgain 4 none :: lw_g) { frames := 0, cells := 0, slots := 0, locals := 0 } (va_Pc [.ref (b + 0), .ref (b + 25)] (zx_w g σ)) (va_Qv (fun u => u = σ) (zx_w g) (gx_Q g)) 0 0 (gx_Q g) := by
  refine z_met (by decide) (Nat.le_of_ble_eq_true rfl) (fun p e s m below meth c B hr hin => ?_)
  refine z_eqs (σ' := (ap b σ [] [] [])) rfl ?_
  show zx p l e _ s m _ below meth c g 4 0 0 _ _ 0 [(0, .ref (b + 0)), (1, .ref (b + 25))] []
  refine z_iconst (v := 0) B dX8_findAgain_0 (by decide) ?_
  refine z_istore_n (lv' := [(2, .int 0), (0, .ref (b + 0)), (1, .ref (b + 25))]) B dX8_findAgain_1 rfl (by decide) rfl ?_
  refine z_iload_n B dX8_findAgain_2 rfl 0 rfl ?_
  refine z_aload_n B dX8_findAgain_3 rfl 1 rfl ?_
  refine gf_X8_96 (x := 0) B (lKA (hk_K hK 0 rfl rfl)) (rI_at 0 7 hI_0_7) dX8_findAgain_4 ?_
  refine z_icmp_ge (tgt := 45) B dX8_findAgain_7 (by decide) (fun _ => ?_) (fun h => absurd (by decide) h)
  exact z_vret B hr (by decide) (by decide) dX8_findAgain_45 rfl
set_option maxRecDepth 100000 in
set_option maxHeartbeats 4000000 in
theorem ci_X8_countAstray_293 (l : Launch) {g : gx_T} {σ : sx_T} {b : Nat} (hK : lay b σ)   (hI_0_7 : sx_I σ (b + 0) 7 = 0) : Met l yX8_countAstray (.code yX8_countAstray cX8_countAstray 5 (some .int) :: lw_g) { frames := 0, cells := 0, slots := 0, locals := 0 } (va_Pc [.ref (b + 0), .ref (b + 25)] (zx_w g σ)) (va_Qi (fun r u => r = 0 ∧ u = σ) (zx_w g) (gx_Q g)) 0 0 (gx_Q g) := by
  refine z_met (by decide) (Nat.le_of_ble_eq_true rfl) (fun p e s m below meth c B hr hin => ?_)
  refine z_eqs (σ' := (ap b σ [] [] [])) rfl ?_
  show zx p l e _ s m _ below meth c g 5 0 0 _ _ 0 [(0, .ref (b + 0)), (1, .ref (b + 25))] []
  refine z_iconst (v := 0) B dX8_countAstray_0 (by decide) ?_
  refine z_istore_n (lv' := [(2, .int 0), (0, .ref (b + 0)), (1, .ref (b + 25))]) B dX8_countAstray_1 rfl (by decide) rfl ?_
  refine z_iconst (v := 0) B dX8_countAstray_2 (by decide) ?_
  refine z_istore_n (lv' := [(3, .int 0), (2, .int 0), (0, .ref (b + 0)), (1, .ref (b + 25))]) B dX8_countAstray_3 rfl (by decide) rfl ?_
  refine z_iload_n B dX8_countAstray_4 rfl 0 rfl ?_
  refine z_aload_n B dX8_countAstray_5 rfl 2 rfl ?_
  refine gf_X8_96 (x := 0) B (lKA (hk_K hK 0 rfl rfl)) (rI_at 0 7 hI_0_7) dX8_countAstray_6 ?_
  refine z_icmp_ge (tgt := 61) B dX8_countAstray_9 (by decide) (fun _ => ?_) (fun h => absurd (by decide) h)
  refine z_iload_n B dX8_countAstray_61 rfl 1 rfl ?_
  exact z_iret B hr (by decide) (by decide) dX8_countAstray_62 ⟨rfl, rfl⟩
set_option maxRecDepth 100000 in
set_option maxHeartbeats 4000000 in
theorem ci_X8_set_294 (l : Launch) {g : gx_T} {σ : sx_T} {b : Nat} (hK : lay b σ) (w1 : Int32) (w2 : Int32) (w3 : Int32) (w4 : Int32) (q1_w1 : (0 : Int) ≤ w1.toInt) (q2_w1 : w1.toInt ≤ (19 : Int)) (q1_w2 : (0 : Int) ≤ w2.toInt) (q2_w2 : w2.toInt ≤ (17 : Int)) (q1_w3 : (0 : Int) ≤ w3.toInt) (q2_w3 : w3.toInt ≤ (99 : Int)) (q1_w4 : (0 : Int) ≤ w4.toInt) (q2_w4 : w4.toInt ≤ (99 : Int)) (hI_0_7 : sx_I σ (b + 0) 7 = 0) (hR_0_0 : sx_R σ (b + 0) 0 = (some (b + 1))) (hR_1_4 : sx_R σ (b + 1) 4 = (some (b + 25))) (hR_25_1 : sx_R σ (b + 25) 1 = (some (b + 26))) (hR_25_2 : sx_R σ (b + 25) 2 = (some (b + 27))) (hR_25_3 : sx_R σ (b + 25) 3 = (some (b + 28))) : Met l yX8_set (.code yX8_set cX8_set 9 (some .int) :: lw_g) { frames := 2, cells := 0, slots := 0, locals := 43 } (va_Pc [.ref (b + 0), .int 4, .int w1, .int w2, .int w3, .int w4] (zx_w g σ)) (va_Qi (fun r u => r = 0 ∧ u = (ap b (wx_I (ap b (wx_I (ap b (wx_I (ap b (ap b σ [] [] []) [] [] []) (b + 26) w1.toNatClampNeg w2) [] [] []) (b + 27) w1.toNatClampNeg w3) [] [] []) (b + 28) w1.toNatClampNeg w4) [] [] [])) (zx_w g) (gx_Q g)) 0 0 (gx_Q g) := by
  refine z_met (by decide) (Nat.le_of_ble_eq_true rfl) (fun p e s m below meth c B hr hin => ?_)
  refine z_eqs (σ' := (ap b σ [] [] [])) rfl ?_
  show zx p l e _ s m _ below meth c g 9 0 0 _ _ 0 [(0, .ref (b + 0)), (1, .int 4), (2, .int w1), (3, .int w2), (4, .int w3), (5, .int w4)] []
  refine z_aload_n B dX8_set_0 rfl 0 rfl ?_
  refine z_iload_n B dX8_set_1 rfl 1 rfl ?_
  refine z_cVq (As := [.int 4]) (rest := []) B cw_X8_64 cx_9 dX8_set_2 (ci_X8_programAt_269 l (σ := (ap b σ [] [] [])) (b := b) (lyA hK) (rR_at 0 0 hR_0_0) (rR_at 1 4 hR_1_4)) (lKA (hk_K hK 0 rfl rfl)) rfl (by decide) rfl (Nat.le_of_ble_eq_true rfl) (by decide) (fun r u hu => ?_)
  refine z_eqs (σ' := (ap b σ [] [] [])) hu.2 ?_
  show zx p l e _ s m _ below meth c g 9 0 0 _ _ 5 [(0, .ref (b + 0)), (1, .int 4), (2, .int w1), (3, .int w2), (4, .int w3), (5, .int w4)] _
  refine z_setr (y := (some (b + 25))) hu.1 ?_
  refine z_astore (lv' := [(6, .ref (b + 25)), (0, .ref (b + 0)), (1, .int 4), (2, .int w1), (3, .int w2), (4, .int w3), (5, .int w4)]) B dX8_set_5 (by decide) rfl ?_
  refine z_aload B dX8_set_7 0 rfl ?_
  refine z_ifnull (r := (some (b + 25))) (tgt := 21) B dX8_set_9 (by decide) (fun h => nomatch h) (fun _ _ => ?_)
  refine z_iload_n B dX8_set_12 rfl 3 rfl ?_
  refine z_bipush (v := 20) B dX8_set_13 (by decide) ?_
  refine z_cSi (As := [.int w1, .int 20]) (rest := []) B cw_X8_68 dX8_set_15 (ci_X8_isBelow_64 l (σ := (ap b σ [] [] [])) (b := b) (lyA hK) w1 q1_w1 q2_w1) rfl (by decide) rfl (Nat.le_of_ble_eq_true rfl) (by decide) (fun r u hu => ?_)
  refine z_eqs (σ' := (ap b σ [] [] [])) hu.2 ?_
  show zx p l e _ s m _ below meth c g 9 0 0 _ _ 18 [(6, .ref (b + 25)), (0, .ref (b + 0)), (1, .int 4), (2, .int w1), (3, .int w2), (4, .int w3), (5, .int w4)] _
  refine z_seti (y := 1) hu.1 ?_
  refine z_if_ne (tgt := 31) B dX8_set_18 (by decide) (fun _ => ?_) (fun h => absurd h (by decide))
  refine z_iload_n B dX8_set_31 rfl 4 rfl ?_
  refine z_iload B dX8_set_32 5 rfl ?_
  refine z_iload B dX8_set_34 6 rfl ?_
  refine z_cSi (As := [.int w2, .int w3, .int w4]) (rest := []) B cw_X8_79 dX8_set_36 (ci_X8_isStep_85 l (σ := (ap b σ [] [] [])) (b := b) (lyA hK) w2 w3 w4 q1_w2 q2_w2 q1_w3 q2_w3 q1_w4 q2_w4) rfl (by decide) rfl (Nat.le_of_ble_eq_true rfl) (by decide) (fun r u hu => ?_)
  refine z_eqs (σ' := (ap b σ [] [] [])) hu.2 ?_
  show zx p l e _ s m _ below meth c g 9 0 0 _ _ 39 [(6, .ref (b + 25)), (0, .ref (b + 0)), (1, .int 4), (2, .int w1), (3, .int w2), (4, .int w3), (5, .int w4)] _
  refine z_seti (y := 1) hu.1 ?_
  refine z_if_ne (tgt := 52) B dX8_set_39 (by decide) (fun _ => ?_) (fun h => absurd h (by decide))
  refine z_aload B dX8_set_52 0 rfl ?_
  refine z_iload_n B dX8_set_54 rfl 3 rfl ?_
  refine z_iload_n B dX8_set_55 rfl 4 rfl ?_
  refine z_iload B dX8_set_56 5 rfl ?_
  refine z_iload B dX8_set_58 6 rfl ?_
  refine z_cVv (As := [.int w1, .int w2, .int w3, .int w4]) (rest := []) B cw_X8_88 cx_5 dX8_set_60 (ci_X4_put_291 l (σ := (ap b σ [] [] [])) (b := b) (lyA hK) w1 w2 w3 w4 q1_w1 q2_w1 (rR_at 25 1 hR_25_1) (rR_at 25 2 hR_25_2) (rR_at 25 3 hR_25_3)) (lKA (hk_K hK 25 rfl rfl)) rfl (by decide) rfl (Nat.le_of_ble_eq_true rfl) (by decide) (fun u hu => ?_)
  refine z_eqs (σ' := (ap b (wx_I (ap b (wx_I (ap b (wx_I (ap b (ap b σ [] [] []) [] [] []) (b + 26) w1.toNatClampNeg w2) [] [] []) (b + 27) w1.toNatClampNeg w3) [] [] []) (b + 28) w1.toNatClampNeg w4) [] [] [])) hu ?_
  show zx p l e _ s m _ below meth c g 9 0 0 _ _ 63 [(6, .ref (b + 25)), (0, .ref (b + 0)), (1, .int 4), (2, .int w1), (3, .int w2), (4, .int w3), (5, .int w4)] _
  refine z_aload_n B dX8_set_63 rfl 1 rfl ?_
  refine z_aload B dX8_set_64 0 rfl ?_
  refine z_cVv (As := [.ref (b + 25)]) (rest := []) B cw_X8_92 cx_9 dX8_set_66 (ci_X8_findAgain_292 l (σ := (ap b (wx_I (ap b (wx_I (ap b (wx_I (ap b (ap b σ [] [] []) [] [] []) (b + 26) w1.toNatClampNeg w2) [] [] []) (b + 27) w1.toNatClampNeg w3) [] [] []) (b + 28) w1.toNatClampNeg w4) [] [] [])) (b := b) (lyA (lyW (lyA (lyW (lyA (lyW (lyA (lyA hK)))))))) (rI_at 0 7 ((ux_a (by omega)).trans (rI_at 0 7 ((ux_a (by omega)).trans (rI_at 0 7 ((ux_a (by omega)).trans (rI_at 0 7 (rI_at 0 7 hI_0_7))))))))) (lKA (lKW (lKA (lKW (lKA (lKW (lKA (lKA (hk_K hK 0 rfl rfl))))))))) rfl (by decide) rfl (Nat.le_of_ble_eq_true rfl) (by decide) (fun u hu => ?_)
  refine z_eqs (σ' := (ap b (wx_I (ap b (wx_I (ap b (wx_I (ap b (ap b σ [] [] []) [] [] []) (b + 26) w1.toNatClampNeg w2) [] [] []) (b + 27) w1.toNatClampNeg w3) [] [] []) (b + 28) w1.toNatClampNeg w4) [] [] [])) hu ?_
  show zx p l e _ s m _ below meth c g 9 0 0 _ _ 69 [(6, .ref (b + 25)), (0, .ref (b + 0)), (1, .int 4), (2, .int w1), (3, .int w2), (4, .int w3), (5, .int w4)] _
  refine z_iconst (v := 0) B dX8_set_69 (by decide) ?_
  refine z_istore (lv' := [(7, .int 0), (6, .ref (b + 25)), (0, .ref (b + 0)), (1, .int 4), (2, .int w1), (3, .int w2), (4, .int w3), (5, .int w4)]) B dX8_set_70 (by decide) rfl ?_
  refine z_iload B dX8_set_72 0 rfl ?_
  refine z_aload_n B dX8_set_74 rfl 2 rfl ?_
  refine gf_X8_96 (x := 0) B (lKA (lKW (lKA (lKW (lKA (lKW (lKA (lKA (hk_K hK 0 rfl rfl))))))))) (rI_at 0 7 ((ux_a (by omega)).trans (rI_at 0 7 ((ux_a (by omega)).trans (rI_at 0 7 ((ux_a (by omega)).trans (rI_at 0 7 (rI_at 0 7 hI_0_7)))))))) dX8_set_75 ?_
  refine z_icmp_ge (tgt := 124) B dX8_set_78 (by decide) (fun _ => ?_) (fun h => absurd (by decide) h)
  refine z_aload_n B dX8_set_124 rfl 2 rfl ?_
  refine z_aload B dX8_set_125 1 rfl ?_
  refine z_cVi (As := [.ref (b + 25)]) (rest := []) B cw_X8_115 cx_9 dX8_set_127 (ci_X8_countAstray_293 l (σ := (ap b (wx_I (ap b (wx_I (ap b (wx_I (ap b (ap b σ [] [] []) [] [] []) (b + 26) w1.toNatClampNeg w2) [] [] []) (b + 27) w1.toNatClampNeg w3) [] [] []) (b + 28) w1.toNatClampNeg w4) [] [] [])) (b := b) (lyA (lyW (lyA (lyW (lyA (lyW (lyA (lyA hK)))))))) (rI_at 0 7 ((ux_a (by omega)).trans (rI_at 0 7 ((ux_a (by omega)).trans (rI_at 0 7 ((ux_a (by omega)).trans (rI_at 0 7 (rI_at 0 7 hI_0_7))))))))) (lKA (lKW (lKA (lKW (lKA (lKW (lKA (lKA (hk_K hK 0 rfl rfl))))))))) rfl (by decide) rfl (Nat.le_of_ble_eq_true rfl) (by decide) (fun r u hu => ?_)
  refine z_eqs (σ' := (ap b (wx_I (ap b (wx_I (ap b (wx_I (ap b (ap b σ [] [] []) [] [] []) (b + 26) w1.toNatClampNeg w2) [] [] []) (b + 27) w1.toNatClampNeg w3) [] [] []) (b + 28) w1.toNatClampNeg w4) [] [] [])) hu.2 ?_
  show zx p l e _ s m _ below meth c g 9 0 0 _ _ 130 [(7, .int 0), (6, .ref (b + 25)), (0, .ref (b + 0)), (1, .int 4), (2, .int w1), (3, .int w2), (4, .int w3), (5, .int w4)] _
  refine z_seti (y := 0) hu.1 ?_
  exact z_iret B hr (by decide) (by decide) dX8_set_130 ⟨rfl, rfl⟩
set_option maxRecDepth 100000 in
set_option maxHeartbeats 4000000 in
theorem ci_L_set_295 (l : Launch) {g : gx_T} {σ : sx_T} {b : Nat} (hK : lay b σ) (w1 : Int32) (w2 : Int32) (w3 : Int32) (w4 : Int32) (q1_w1 : (0 : Int) ≤ w1.toInt) (q2_w1 : w1.toInt ≤ (19 : Int)) (q1_w2 : (0 : Int) ≤ w2.toInt) (q2_w2 : w2.toInt ≤ (17 : Int)) (q1_w3 : (0 : Int) ≤ w3.toInt) (q2_w3 : w3.toInt ≤ (99 : Int)) (q1_w4 : (0 : Int) ≤ w4.toInt) (q2_w4 : w4.toInt ≤ (99 : Int)) (hI_0_7 : sx_I σ (b + 0) 7 = 0) (hR_0_0 : sx_R σ (b + 0) 0 = (some (b + 1))) (hR_1_4 : sx_R σ (b + 1) 4 = (some (b + 25))) (hR_25_1 : sx_R σ (b + 25) 1 = (some (b + 26))) (hR_25_2 : sx_R σ (b + 25) 2 = (some (b + 27))) (hR_25_3 : sx_R σ (b + 25) 3 = (some (b + 28))) : Met l yL_set (.codeWith yL_set cL_set 8 (some .int) [(0, 16, 19, 13), (0, 16, 23, 15)] :: lw_g) { frames := 3, cells := 0, slots := 0, locals := 71 } (va_Pc [.ref (b + 0), .int 4, .int w1, .int w2, .int w3, .int w4, .ref (b + 431)] (zx_w g σ)) (va_Qi (fun r u => r = 0 ∧ u = (ap b (wx_I (ap b (wx_I (ap b (wx_I (ap b (ap b (ap b σ [] [] []) [] [] []) [] [] []) (b + 26) w1.toNatClampNeg w2) [] [] []) (b + 27) w1.toNatClampNeg w3) [] [] []) (b + 28) w1.toNatClampNeg w4) [] [(431, 0, 0)] [])) (zx_w g) (gx_Q g)) 0 0 (gx_Q g) := by
  refine z_metW (by decide) (Nat.le_of_ble_eq_true rfl) (fun p e s m below meth c B hr htab => ?_)
  refine z_eqs (σ' := (ap b σ [] [] [])) rfl ?_
  show zx p l e _ s m _ below meth c g 8 0 0 _ _ 0 [(0, .ref (b + 0)), (1, .int 4), (2, .int w1), (3, .int w2), (4, .int w3), (5, .int w4), (6, .ref (b + 431))] []
  refine z_aload B dL_set_0 6 rfl ?_
  refine z_iconst (v := 0) B dL_set_2 (by decide) ?_
  refine z_aload_n B dL_set_3 rfl 0 rfl ?_
  refine z_iload_n B dL_set_4 rfl 1 rfl ?_
  refine z_iload_n B dL_set_5 rfl 2 rfl ?_
  refine z_iload_n B dL_set_6 rfl 3 rfl ?_
  refine z_iload B dL_set_7 4 rfl ?_
  refine z_iload B dL_set_9 5 rfl ?_
  refine z_cVi (As := [.int 4, .int w1, .int w2, .int w3, .int w4]) (rest := [.int 0, .ref (b + 431)]) B cw_L_7 cx_9 dL_set_11 (ci_X8_set_294 l (σ := (ap b σ [] [] [])) (b := b) (lyA hK) w1 w2 w3 w4 q1_w1 q2_w1 q1_w2 q2_w2 q1_w3 q2_w3 q1_w4 q2_w4 (rI_at 0 7 hI_0_7) (rR_at 0 0 hR_0_0) (rR_at 1 4 hR_1_4) (rR_at 25 1 hR_25_1) (rR_at 25 2 hR_25_2) (rR_at 25 3 hR_25_3)) (lKA (hk_K hK 0 rfl rfl)) rfl (by decide) rfl (Nat.le_of_ble_eq_true rfl) (by decide) (fun r u hu => ?_)
  refine z_eqs (σ' := (ap b (wx_I (ap b (wx_I (ap b (wx_I (ap b (ap b (ap b σ [] [] []) [] [] []) [] [] []) (b + 26) w1.toNatClampNeg w2) [] [] []) (b + 27) w1.toNatClampNeg w3) [] [] []) (b + 28) w1.toNatClampNeg w4) [] [] [])) hu.2 ?_
  show zx p l e _ s m _ below meth c g 8 0 0 _ _ 14 [(0, .ref (b + 0)), (1, .int 4), (2, .int w1), (3, .int w2), (4, .int w3), (5, .int w4), (6, .ref (b + 431))] _
  refine z_seti (y := 0) hu.1 ?_
  refine z_i2l (v := 0) B dL_set_14 (by decide) ?_
  refine z_last (j := 0) (σ' := (ap b (wx_I (ap b (wx_I (ap b (wx_I (ap b (ap b (ap b σ [] [] []) [] [] []) [] [] []) (b + 26) w1.toNatClampNeg w2) [] [] []) (b + 27) w1.toNatClampNeg w3) [] [] []) (b + 28) w1.toNatClampNeg w4) [] [(431, 0, 0)] [])) B (lKA (lKW (lKA (lKW (lKA (lKW (lKA (lKA (lKA (hk_K hK 431 rfl rfl)))))))))) (by decide) (in_of (lNA (lNW (lNA (lNW (lNA (lNW (lNA (lNA (lNA (hk_N hK 431 rfl rfl)))))))))) (show ¬ ((0 : Int32) < 0 ∨ 1 ≤ (0 : Int32).toNatClampNeg) by decide)) wJ_ap dL_set_15 ?_
  refine z_goto (tgt := 27) B dL_set_16 (by decide) ?_
  refine z_iconst (v := 0) B dL_set_27 (by decide) ?_
  exact z_iret B hr (by decide) (by decide) dL_set_28 ⟨rfl, rfl⟩
set_option maxRecDepth 100000 in
set_option maxHeartbeats 4000000 in
theorem ci_X9_lays_296 (l : Launch) {g : gx_T} {σ : sx_T} {b : Nat} (hK : lay b σ) (w1 : Int32) (w2 : Int32) (w3 : Int32) (w4 : Int32) (q1_w1 : (0 : Int) ≤ w1.toInt) (q2_w1 : w1.toInt ≤ (19 : Int)) (hR_405_3 : sx_R σ (b + 405) 3 = (some (b + 406))) (hR_405_4 : sx_R σ (b + 405) 4 = (some (b + 407))) (hR_405_5 : sx_R σ (b + 405) 5 = (some (b + 408))) : Met l yX9_lays (.code yX9_lays cX9_lays 6 none :: lw_g) { frames := 0, cells := 0, slots := 0, locals := 0 } (va_Pc [.ref (b + 405), .int 4, .int w1, .int w2, .int w3, .int w4] (zx_w g σ)) (va_Qv (fun u => u = (ap b (wx_I (ap b (wx_I (ap b (wx_I (ap b σ [] [] []) (b + 406) (80 + w1).toNatClampNeg w2) [] [] []) (b + 407) (80 + w1).toNatClampNeg w3) [] [] []) (b + 408) (80 + w1).toNatClampNeg w4) [] [] [])) (zx_w g) (gx_Q g)) 0 0 (gx_Q g) := by
  refine z_met (by decide) (Nat.le_of_ble_eq_true rfl) (fun p e s m below meth c B hr hin => ?_)
  refine z_eqs (σ' := (ap b σ [] [] [])) rfl ?_
  show zx p l e _ s m _ below meth c g 6 0 0 _ _ 0 [(0, .ref (b + 405)), (1, .int 4), (2, .int w1), (3, .int w2), (4, .int w3), (5, .int w4)] []
  refine z_aload_n B dX9_lays_0 rfl 0 rfl ?_
  refine gf_X9_13 (x := (some (b + 406))) B (lKA (hk_K hK 405 rfl rfl)) (rR_at 405 3 hR_405_3) dX9_lays_1 ?_
  refine z_bipush (v := 20) B dX9_lays_4 (by decide) ?_
  refine z_iload_n B dX9_lays_6 rfl 1 rfl ?_
  refine z_imul B dX9_lays_7 ?_
  refine z_seti (y := 80) (by decide) ?_
  refine z_iload_n B dX9_lays_8 rfl 2 rfl ?_
  refine z_iadd B dX9_lays_9 ?_
  refine z_iload_n B dX9_lays_10 rfl 3 rfl ?_
  refine z_iast (j := (80 + w1).toNatClampNeg) (σ' := (wx_I (ap b σ [] [] []) (b + 406) (80 + w1).toNatClampNeg w2)) B (lKA (hk_K hK 406 rfl rfl)) rfl (in_of (lNA (hk_N hK 406 rfl rfl)) (iv_inadd q1_w1 q2_w1 (by decide) (by decide))) rfl dX9_lays_11 ?_
  refine z_eqs (σ' := (ap b (wx_I (ap b σ [] [] []) (b + 406) (80 + w1).toNatClampNeg w2) [] [] [])) ap_nil ?_
  refine z_aload_n B dX9_lays_12 rfl 0 rfl ?_
  refine gf_X9_17 (x := (some (b + 407))) B (lKA (lKW (lKA (hk_K hK 405 rfl rfl)))) (rR_at 405 4 (rR_w (rR_at 405 4 hR_405_4))) dX9_lays_13 ?_
  refine z_bipush (v := 20) B dX9_lays_16 (by decide) ?_
  refine z_iload_n B dX9_lays_18 rfl 1 rfl ?_
  refine z_imul B dX9_lays_19 ?_
  refine z_seti (y := 80) (by decide) ?_
  refine z_iload_n B dX9_lays_20 rfl 2 rfl ?_
  refine z_iadd B dX9_lays_21 ?_
  refine z_iload B dX9_lays_22 4 rfl ?_
  refine z_iast (j := (80 + w1).toNatClampNeg) (σ' := (wx_I (ap b (wx_I (ap b σ [] [] []) (b + 406) (80 + w1).toNatClampNeg w2) [] [] []) (b + 407) (80 + w1).toNatClampNeg w3)) B (lKA (lKW (lKA (hk_K hK 407 rfl rfl)))) rfl (in_of (lNA (lNW (lNA (hk_N hK 407 rfl rfl)))) (iv_inadd q1_w1 q2_w1 (by decide) (by decide))) rfl dX9_lays_24 ?_
  refine z_eqs (σ' := (ap b (wx_I (ap b (wx_I (ap b σ [] [] []) (b + 406) (80 + w1).toNatClampNeg w2) [] [] []) (b + 407) (80 + w1).toNatClampNeg w3) [] [] [])) ap_nil ?_
  refine z_aload_n B dX9_lays_25 rfl 0 rfl ?_
  refine gf_X9_20 (x := (some (b + 408))) B (lKA (lKW (lKA (lKW (lKA (hk_K hK 405 rfl rfl)))))) (rR_at 405 5 (rR_w (rR_at 405 5 (rR_w (rR_at 405 5 hR_405_5))))) dX9_lays_26 ?_
  refine z_bipush (v := 20) B dX9_lays_29 (by decide) ?_
  refine z_iload_n B dX9_lays_31 rfl 1 rfl ?_
  refine z_imul B dX9_lays_32 ?_
  refine z_seti (y := 80) (by decide) ?_
  refine z_iload_n B dX9_lays_33 rfl 2 rfl ?_
  refine z_iadd B dX9_lays_34 ?_
  refine z_iload B dX9_lays_35 5 rfl ?_
  refine z_iast (j := (80 + w1).toNatClampNeg) (σ' := (wx_I (ap b (wx_I (ap b (wx_I (ap b σ [] [] []) (b + 406) (80 + w1).toNatClampNeg w2) [] [] []) (b + 407) (80 + w1).toNatClampNeg w3) [] [] []) (b + 408) (80 + w1).toNatClampNeg w4)) B (lKA (lKW (lKA (lKW (lKA (hk_K hK 408 rfl rfl)))))) rfl (in_of (lNA (lNW (lNA (lNW (lNA (hk_N hK 408 rfl rfl)))))) (iv_inadd q1_w1 q2_w1 (by decide) (by decide))) rfl dX9_lays_37 ?_
  refine z_eqs (σ' := (ap b (wx_I (ap b (wx_I (ap b (wx_I (ap b σ [] [] []) (b + 406) (80 + w1).toNatClampNeg w2) [] [] []) (b + 407) (80 + w1).toNatClampNeg w3) [] [] []) (b + 408) (80 + w1).toNatClampNeg w4) [] [] [])) ap_nil ?_
  exact z_vret B hr (by decide) (by decide) dX9_lays_38 rfl
set_option maxRecDepth 100000 in
set_option maxHeartbeats 4000000 in
theorem ci_X9_unfit_297 (l : Launch) {g : gx_T} {σ : sx_T} {b : Nat} (hK : lay b σ)   (hI_405_6 : sx_I σ (b + 405) 6 = 0) : Met l yX9_unfit (.code yX9_unfit cX9_unfit 4 (some .int) :: lw_g) { frames := 0, cells := 0, slots := 0, locals := 0 } (va_Pc [.ref (b + 405), .int 4] (zx_w g σ)) (va_Qi (fun r u => r = 0 ∧ u = σ) (zx_w g) (gx_Q g)) 0 0 (gx_Q g) := by
  refine z_met (by decide) (Nat.le_of_ble_eq_true rfl) (fun p e s m below meth c B hr hin => ?_)
  refine z_eqs (σ' := (ap b σ [] [] [])) rfl ?_
  show zx p l e _ s m _ below meth c g 4 0 0 _ _ 0 [(0, .ref (b + 405)), (1, .int 4)] []
  refine z_iconst (v := 0) B dX9_unfit_0 (by decide) ?_
  refine z_istore_n (lv' := [(2, .int 0), (0, .ref (b + 405)), (1, .int 4)]) B dX9_unfit_1 rfl (by decide) rfl ?_
  refine z_iconst (v := 0) B dX9_unfit_2 (by decide) ?_
  refine z_istore_n (lv' := [(3, .int 0), (2, .int 0), (0, .ref (b + 405)), (1, .int 4)]) B dX9_unfit_3 rfl (by decide) rfl ?_
  refine z_iload_n B dX9_unfit_4 rfl 0 rfl ?_
  refine z_aload_n B dX9_unfit_5 rfl 2 rfl ?_
  refine gf_X9_93 (x := 0) B (lKA (hk_K hK 405 rfl rfl)) (rI_at 405 6 hI_405_6) dX9_unfit_6 ?_
  refine z_icmp_ge (tgt := 53) B dX9_unfit_9 (by decide) (fun _ => ?_) (fun h => absurd (by decide) h)
  refine z_iload_n B dX9_unfit_53 rfl 1 rfl ?_
  exact z_iret B hr (by decide) (by decide) dX9_unfit_54 ⟨rfl, rfl⟩
set_option maxRecDepth 100000 in
set_option maxHeartbeats 4000000 in
theorem ci_X9_set_298 (l : Launch) {g : gx_T} {σ : sx_T} {b : Nat} (hK : lay b σ) (w1 : Int32) (w2 : Int32) (w3 : Int32) (w4 : Int32) (q1_w1 : (0 : Int) ≤ w1.toInt) (q2_w1 : w1.toInt ≤ (19 : Int)) (q1_w2 : (0 : Int) ≤ w2.toInt) (q2_w2 : w2.toInt ≤ (17 : Int)) (q1_w3 : (0 : Int) ≤ w3.toInt) (q2_w3 : w3.toInt ≤ (99 : Int)) (q1_w4 : (0 : Int) ≤ w4.toInt) (q2_w4 : w4.toInt ≤ (99 : Int)) (hI_405_6 : sx_I σ (b + 405) 6 = 0) (hR_405_3 : sx_R σ (b + 405) 3 = (some (b + 406))) (hR_405_4 : sx_R σ (b + 405) 4 = (some (b + 407))) (hR_405_5 : sx_R σ (b + 405) 5 = (some (b + 408))) : Met l yX9_set (.code yX9_set cX9_set 7 (some .int) :: lw_g) { frames := 2, cells := 0, slots := 0, locals := 44 } (va_Pc [.ref (b + 405), .int 4, .int w1, .int w2, .int w3, .int w4] (zx_w g σ)) (va_Qi (fun r u => r = 0 ∧ u = (ap b (wx_I (ap b (wx_I (ap b (wx_I (ap b (ap b σ [(405, 0, 0)] [] []) [] [] []) (b + 406) (80 + w1).toNatClampNeg w2) [] [] []) (b + 407) (80 + w1).toNatClampNeg w3) [] [] []) (b + 408) (80 + w1).toNatClampNeg w4) [] [] [])) (zx_w g) (gx_Q g)) 0 0 (gx_Q g) := by
  refine z_met (by decide) (Nat.le_of_ble_eq_true rfl) (fun p e s m below meth c B hr hin => ?_)
  refine z_eqs (σ' := (ap b σ [] [] [])) rfl ?_
  show zx p l e _ s m _ below meth c g 7 0 0 _ _ 0 [(0, .ref (b + 405)), (1, .int 4), (2, .int w1), (3, .int w2), (4, .int w3), (5, .int w4)] []
  refine z_aload_n B dX9_set_0 rfl 0 rfl ?_
  refine z_iload_n B dX9_set_1 rfl 1 rfl ?_
  refine z_iload_n B dX9_set_2 rfl 2 rfl ?_
  refine z_cSi (As := [.int 4, .int w1]) (rest := [.ref (b + 405)]) B cw_X9_238 dX9_set_3 (ci_X9_isStep_283 l (σ := (ap b σ [] [] [])) (b := b) (lyA hK) w1 q1_w1 q2_w1) rfl (by decide) rfl (Nat.le_of_ble_eq_true rfl) (by decide) (fun r u hu => ?_)
  refine z_eqs (σ' := (ap b σ [] [] [])) hu.2 ?_
  show zx p l e _ s m _ below meth c g 7 0 0 _ _ 6 [(0, .ref (b + 405)), (1, .int 4), (2, .int w1), (3, .int w2), (4, .int w3), (5, .int w4)] _
  refine z_seti (y := 1) hu.1 ?_
  refine z_iload_n B dX9_set_6 rfl 3 rfl ?_
  refine z_iload B dX9_set_7 4 rfl ?_
  refine z_iload B dX9_set_9 5 rfl ?_
  refine z_cSi (As := [.int w2, .int w3, .int w4]) (rest := [.int 1, .ref (b + 405)]) B cw_X9_242 dX9_set_11 (ci_X9_isOperation_39 l (σ := (ap b σ [] [] [])) (b := b) (lyA hK) w2 w3 w4 q1_w2 q2_w2 q1_w3 q2_w3 q1_w4 q2_w4) rfl (by decide) rfl (Nat.le_of_ble_eq_true rfl) (by decide) (fun r u hu => ?_)
  refine z_eqs (σ' := (ap b σ [] [] [])) hu.2 ?_
  show zx p l e _ s m _ below meth c g 7 0 0 _ _ 14 [(0, .ref (b + 405)), (1, .int 4), (2, .int w1), (3, .int w2), (4, .int w3), (5, .int w4)] _
  refine z_seti (y := 1) hu.1 ?_
  refine z_cVi (As := [.int 1, .int 1]) (rest := []) B cw_X9_245 cx_10 dX9_set_14 (ci_X9_needs__91 l (σ := (ap b σ [] [] [])) (b := b) (lyA hK) ) (lKA (hk_K hK 405 rfl rfl)) rfl (by decide) rfl (Nat.le_of_ble_eq_true rfl) (by decide) (fun r u hu => ?_)
  refine z_eqs (σ' := (ap b σ [(405, 0, 0)] [] [])) (hu.2.trans ap_ap) ?_
  show zx p l e _ s m _ below meth c g 7 0 0 _ _ 17 [(0, .ref (b + 405)), (1, .int 4), (2, .int w1), (3, .int w2), (4, .int w3), (5, .int w4)] _
  refine z_seti (y := 1) hu.1 ?_
  refine z_if_ne (tgt := 22) B dX9_set_17 (by decide) (fun _ => ?_) (fun h => absurd h (by decide))
  refine z_aload_n B dX9_set_22 rfl 0 rfl ?_
  refine z_iload_n B dX9_set_23 rfl 1 rfl ?_
  refine z_iload_n B dX9_set_24 rfl 2 rfl ?_
  refine z_iload_n B dX9_set_25 rfl 3 rfl ?_
  refine z_iload B dX9_set_26 4 rfl ?_
  refine z_iload B dX9_set_28 5 rfl ?_
  refine z_cVv (As := [.int 4, .int w1, .int w2, .int w3, .int w4]) (rest := []) B cw_X9_249 cx_10 dX9_set_30 (ci_X9_lays_296 l (σ := (ap b σ [(405, 0, 0)] [] [])) (b := b) (lyA hK) w1 w2 w3 w4 q1_w1 q2_w1 (rR_at 405 3 hR_405_3) (rR_at 405 4 hR_405_4) (rR_at 405 5 hR_405_5)) (lKA (hk_K hK 405 rfl rfl)) rfl (by decide) rfl (Nat.le_of_ble_eq_true rfl) (by decide) (fun u hu => ?_)
  refine z_eqs (σ' := (ap b (wx_I (ap b (wx_I (ap b (wx_I (ap b (ap b σ [(405, 0, 0)] [] []) [] [] []) (b + 406) (80 + w1).toNatClampNeg w2) [] [] []) (b + 407) (80 + w1).toNatClampNeg w3) [] [] []) (b + 408) (80 + w1).toNatClampNeg w4) [] [] [])) hu ?_
  show zx p l e _ s m _ below meth c g 7 0 0 _ _ 33 [(0, .ref (b + 405)), (1, .int 4), (2, .int w1), (3, .int w2), (4, .int w3), (5, .int w4)] _
  refine z_iconst (v := 0) B dX9_set_33 (by decide) ?_
  refine z_istore (lv' := [(6, .int 0), (0, .ref (b + 405)), (1, .int 4), (2, .int w1), (3, .int w2), (4, .int w3), (5, .int w4)]) B dX9_set_34 (by decide) rfl ?_
  refine z_iload B dX9_set_36 0 rfl ?_
  refine z_aload_n B dX9_set_38 rfl 1 rfl ?_
  refine gf_X9_93 (x := 0) B (lKA (lKW (lKA (lKW (lKA (lKW (lKA (lKA (hk_K hK 405 rfl rfl))))))))) (rI_at 405 6 ((ux_a (by omega)).trans (rI_at 405 6 ((ux_a (by omega)).trans (rI_at 405 6 ((ux_a (by omega)).trans (rI_at 405 6 (rI_at 405 6 hI_405_6)))))))) dX9_set_39 ?_
  refine z_icmp_ge (tgt := 87) B dX9_set_42 (by decide) (fun _ => ?_) (fun h => absurd (by decide) h)
  refine z_aload_n B dX9_set_87 rfl 1 rfl ?_
  refine z_iload_n B dX9_set_88 rfl 2 rfl ?_
  refine z_cVi (As := [.int 4]) (rest := []) B cw_X9_256 cx_10 dX9_set_89 (ci_X9_unfit_297 l (σ := (ap b (wx_I (ap b (wx_I (ap b (wx_I (ap b (ap b σ [(405, 0, 0)] [] []) [] [] []) (b + 406) (80 + w1).toNatClampNeg w2) [] [] []) (b + 407) (80 + w1).toNatClampNeg w3) [] [] []) (b + 408) (80 + w1).toNatClampNeg w4) [] [] [])) (b := b) (lyA (lyW (lyA (lyW (lyA (lyW (lyA (lyA hK)))))))) (rI_at 405 6 ((ux_a (by omega)).trans (rI_at 405 6 ((ux_a (by omega)).trans (rI_at 405 6 ((ux_a (by omega)).trans (rI_at 405 6 (rI_at 405 6 hI_405_6))))))))) (lKA (lKW (lKA (lKW (lKA (lKW (lKA (lKA (hk_K hK 405 rfl rfl))))))))) rfl (by decide) rfl (Nat.le_of_ble_eq_true rfl) (by decide) (fun r u hu => ?_)
  refine z_eqs (σ' := (ap b (wx_I (ap b (wx_I (ap b (wx_I (ap b (ap b σ [(405, 0, 0)] [] []) [] [] []) (b + 406) (80 + w1).toNatClampNeg w2) [] [] []) (b + 407) (80 + w1).toNatClampNeg w3) [] [] []) (b + 408) (80 + w1).toNatClampNeg w4) [] [] [])) hu.2 ?_
  show zx p l e _ s m _ below meth c g 7 0 0 _ _ 92 [(6, .int 0), (0, .ref (b + 405)), (1, .int 4), (2, .int w1), (3, .int w2), (4, .int w3), (5, .int w4)] _
  refine z_seti (y := 0) hu.1 ?_
  exact z_iret B hr (by decide) (by decide) dX9_set_92 ⟨rfl, rfl⟩
set_option maxRecDepth 100000 in
set_option maxHeartbeats 4000000 in
theorem ci_X8_set_299 (l : Launch) (hlt : l.stackTraces = false) {g : gx_T} {σ : sx_T} {b : Nat} (hK : lay b σ) (w1 : Int32) (w2 : Int32) (w3 : Int32) (w4 : Int32) (q1_w1 : (0 : Int) ≤ w1.toInt) (q2_w1 : w1.toInt ≤ (19 : Int)) (q1_w2 : (0 : Int) ≤ w2.toInt) (q2_w2 : w2.toInt ≤ (17 : Int)) (q1_w3 : (0 : Int) ≤ w3.toInt) (q2_w3 : w3.toInt ≤ (99 : Int)) (q1_w4 : (100 : Int) ≤ w4.toInt) (q2_w4 : w4.toInt ≤ (2147483647 : Int)) (hR_0_0 : sx_R σ (b + 0) 0 = (some (b + 1))) (hR_1_4 : sx_R σ (b + 1) 4 = (some (b + 25))) : vx_Met l yX8_set (.code yX8_set cX8_set 9 (some .int) :: lw_g) { frames := 7, cells := 1, slots := 6, locals := 136 } (va_Pc [.ref (b + 0), .int 4, .int w1, .int w2, .int w3, .int w4] (zx_w g σ)) (va_Qi (S := sx_T) (fun _ _ => False) (zx_w g) (gx_Q g)) (vx_X (fun u : sx_T => ∃ z, u = wx_Z σ z) (fun E u t => E = "java/lang/IllegalArgumentException" ∧ zx_h g u t.heap) (gx_Q g)) 1 6 (gx_Q g) := by
  refine z_metX (by decide) (Nat.le_of_ble_eq_true rfl) (fun p e s m below meth c B hr hin hout => ?_)
  refine z_eqs (σ' := (ap b σ [] [] [])) rfl ?_
  show zx p l e _ s m _ below meth c g 9 0 0 _ _ 0 [(0, .ref (b + 0)), (1, .int 4), (2, .int w1), (3, .int w2), (4, .int w3), (5, .int w4)] []
  refine z_aload_n B dX8_set_0 rfl 0 rfl ?_
  refine z_iload_n B dX8_set_1 rfl 1 rfl ?_
  refine z_cVq (As := [.int 4]) (rest := []) B cw_X8_64 cx_9 dX8_set_2 (ci_X8_programAt_269 l (σ := (ap b σ [] [] [])) (b := b) (lyA hK) (rR_at 0 0 hR_0_0) (rR_at 1 4 hR_1_4)) (lKA (hk_K hK 0 rfl rfl)) rfl (by decide) rfl (Nat.le_of_ble_eq_true rfl) (by decide) (fun r u hu => ?_)
  refine z_eqs (σ' := (ap b σ [] [] [])) hu.2 ?_
  show zx p l e _ s m _ below meth c g 9 0 0 _ _ 5 [(0, .ref (b + 0)), (1, .int 4), (2, .int w1), (3, .int w2), (4, .int w3), (5, .int w4)] _
  refine z_setr (y := (some (b + 25))) hu.1 ?_
  refine z_astore (lv' := [(6, .ref (b + 25)), (0, .ref (b + 0)), (1, .int 4), (2, .int w1), (3, .int w2), (4, .int w3), (5, .int w4)]) B dX8_set_5 (by decide) rfl ?_
  refine z_aload B dX8_set_7 0 rfl ?_
  refine z_ifnull (r := (some (b + 25))) (tgt := 21) B dX8_set_9 (by decide) (fun h => nomatch h) (fun _ _ => ?_)
  refine z_iload_n B dX8_set_12 rfl 3 rfl ?_
  refine z_bipush (v := 20) B dX8_set_13 (by decide) ?_
  refine z_cSi (As := [.int w1, .int 20]) (rest := []) B cw_X8_68 dX8_set_15 (ci_X8_isBelow_64 l (σ := (ap b σ [] [] [])) (b := b) (lyA hK) w1 q1_w1 q2_w1) rfl (by decide) rfl (Nat.le_of_ble_eq_true rfl) (by decide) (fun r u hu => ?_)
  refine z_eqs (σ' := (ap b σ [] [] [])) hu.2 ?_
  show zx p l e _ s m _ below meth c g 9 0 0 _ _ 18 [(6, .ref (b + 25)), (0, .ref (b + 0)), (1, .int 4), (2, .int w1), (3, .int w2), (4, .int w3), (5, .int w4)] _
  refine z_seti (y := 1) hu.1 ?_
  refine z_if_ne (tgt := 31) B dX8_set_18 (by decide) (fun _ => ?_) (fun h => absurd h (by decide))
  refine z_iload_n B dX8_set_31 rfl 4 rfl ?_
  refine z_iload B dX8_set_32 5 rfl ?_
  refine z_iload B dX8_set_34 6 rfl ?_
  refine z_cSi (As := [.int w2, .int w3, .int w4]) (rest := []) B cw_X8_79 dX8_set_36 (ci_X8_isStep_97 l (σ := (ap b σ [] [] [])) (b := b) (lyA hK) w2 w3 w4 q1_w2 q2_w2 q1_w3 q2_w3 q1_w4 q2_w4) rfl (by decide) rfl (Nat.le_of_ble_eq_true rfl) (by decide) (fun r u hu => ?_)
  refine z_eqs (σ' := (ap b σ [] [] [])) hu.2 ?_
  show zx p l e _ s m _ below meth c g 9 0 0 _ _ 39 [(6, .ref (b + 25)), (0, .ref (b + 0)), (1, .int 4), (2, .int w1), (3, .int w2), (4, .int w3), (5, .int w4)] _
  refine z_seti (y := 0) hu.1 ?_
  refine z_if_ne (tgt := 52) B dX8_set_39 (by decide) (fun h => absurd (by decide) h) (fun _ => ?_)
  exact z_throw B hlt hout (cls := "java/lang/IllegalArgumentException") (text := "no such operation") tw_X8_83_85_87 dX8_set_42 dX8_set_45 dX8_set_46 dX8_set_48 dX8_set_51 (by decide) (by decide) (by decide) (by decide) (by decide) (by decide) (fun z => ⟨z, rfl⟩)
set_option maxRecDepth 100000 in
set_option maxHeartbeats 4000000 in
theorem ci_L_set_300 (l : Launch) (hlt : l.stackTraces = false) {g : gx_T} {σ : sx_T} {b : Nat} (hK : lay b σ) (w1 : Int32) (w2 : Int32) (w3 : Int32) (w4 : Int32) (q1_w1 : (0 : Int) ≤ w1.toInt) (q2_w1 : w1.toInt ≤ (19 : Int)) (q1_w2 : (0 : Int) ≤ w2.toInt) (q2_w2 : w2.toInt ≤ (17 : Int)) (q1_w3 : (0 : Int) ≤ w3.toInt) (q2_w3 : w3.toInt ≤ (99 : Int)) (q1_w4 : (100 : Int) ≤ w4.toInt) (q2_w4 : w4.toInt ≤ (2147483647 : Int)) (hR_0_0 : sx_R σ (b + 0) 0 = (some (b + 1))) (hR_1_4 : sx_R σ (b + 1) 4 = (some (b + 25))) : Met l yL_set (.codeWith yL_set cL_set 8 (some .int) [(0, 16, 19, 13), (0, 16, 23, 15)] :: lw_g) { frames := 8, cells := 1, slots := 6, locals := 164 } (va_Pc [.ref (b + 0), .int 4, .int w1, .int w2, .int w3, .int w4, .ref (b + 431)] (zx_w g σ)) (va_Qi (fun r u => r = 2 ∧ ∃ z, u = (ap b (wx_Z σ z) [] [] [])) (zx_w g) (gx_Q g)) 1 6 (gx_Q g) := by
  refine z_metW (by decide) (Nat.le_of_ble_eq_true rfl) (fun p e s m below meth c B hr htab => ?_)
  refine z_eqs (σ' := (ap b σ [] [] [])) rfl ?_
  show zx p l e _ s m _ below meth c g 8 0 0 _ _ 0 [(0, .ref (b + 0)), (1, .int 4), (2, .int w1), (3, .int w2), (4, .int w3), (5, .int w4), (6, .ref (b + 431))] []
  refine z_aload B dL_set_0 6 rfl ?_
  refine z_iconst (v := 0) B dL_set_2 (by decide) ?_
  refine z_aload_n B dL_set_3 rfl 0 rfl ?_
  refine z_iload_n B dL_set_4 rfl 1 rfl ?_
  refine z_iload_n B dL_set_5 rfl 2 rfl ?_
  refine z_iload_n B dL_set_6 rfl 3 rfl ?_
  refine z_iload B dL_set_7 4 rfl ?_
  refine z_iload B dL_set_9 5 rfl ?_
  refine z_cXi (As := [.int 4, .int w1, .int w2, .int w3, .int w4]) (rest := [.int 0, .ref (b + 431)]) B htab tc_set_11_IllegalArgumentException cw_L_7 cx_9 dL_set_11 (ci_X8_set_299 l hlt (σ := (ap b σ [] [] [])) (b := b) (lyA hK) w1 w2 w3 w4 q1_w1 q2_w1 q1_w2 q2_w2 q1_w3 q2_w3 q1_w4 q2_w4 (rR_at 0 0 hR_0_0) (rR_at 1 4 hR_1_4)) (lKA (hk_K hK 0 rfl rfl)) rfl (by decide) rfl (Nat.le_of_ble_eq_true rfl) (by decide) (fun z q => ?_)
  refine z_eqs (σ' := (ap b (wx_Z σ z) [] [] [])) rfl ?_
  show zx p l e _ s m _ below meth c g 8 _ _ _ _ 23 [(0, .ref (b + 0)), (1, .int 4), (2, .int w1), (3, .int w2), (4, .int w3), (5, .int w4), (6, .ref (b + 431))] _
  refine z_astore (lv' := [(7, .ref q), (0, .ref (b + 0)), (1, .int 4), (2, .int w1), (3, .int w2), (4, .int w3), (5, .int w4), (6, .ref (b + 431))]) B dL_set_23 (by decide) rfl ?_
  refine z_iconst (v := 2) B dL_set_25 (by decide) ?_
  exact z_iret B hr (by decide) (by decide) dL_set_26 ⟨rfl, _, rfl⟩
set_option maxRecDepth 100000 in
set_option maxHeartbeats 4000000 in
theorem ci_X9_set_301 (l : Launch) {g : gx_T} {σ : sx_T} {b : Nat} (hK : lay b σ) (w1 : Int32) (w2 : Int32) (w3 : Int32) (w4 : Int32) (q1_w1 : (0 : Int) ≤ w1.toInt) (q2_w1 : w1.toInt ≤ (19 : Int)) (q1_w2 : (0 : Int) ≤ w2.toInt) (q2_w2 : w2.toInt ≤ (17 : Int)) (q1_w3 : (0 : Int) ≤ w3.toInt) (q2_w3 : w3.toInt ≤ (99 : Int)) (q1_w4 : (100 : Int) ≤ w4.toInt) (q2_w4 : w4.toInt ≤ (2147483647 : Int))  : Met l yX9_set (.code yX9_set cX9_set 7 (some .int) :: lw_g) { frames := 2, cells := 0, slots := 0, locals := 44 } (va_Pc [.ref (b + 405), .int 4, .int w1, .int w2, .int w3, .int w4] (zx_w g σ)) (va_Qi (fun r u => r = 0 ∧ u = (ap b σ [(405, 0, 2)] [] [])) (zx_w g) (gx_Q g)) 0 0 (gx_Q g) := by
  refine z_met (by decide) (Nat.le_of_ble_eq_true rfl) (fun p e s m below meth c B hr hin => ?_)
  refine z_eqs (σ' := (ap b σ [] [] [])) rfl ?_
  show zx p l e _ s m _ below meth c g 7 0 0 _ _ 0 [(0, .ref (b + 405)), (1, .int 4), (2, .int w1), (3, .int w2), (4, .int w3), (5, .int w4)] []
  refine z_aload_n B dX9_set_0 rfl 0 rfl ?_
  refine z_iload_n B dX9_set_1 rfl 1 rfl ?_
  refine z_iload_n B dX9_set_2 rfl 2 rfl ?_
  refine z_cSi (As := [.int 4, .int w1]) (rest := [.ref (b + 405)]) B cw_X9_238 dX9_set_3 (ci_X9_isStep_283 l (σ := (ap b σ [] [] [])) (b := b) (lyA hK) w1 q1_w1 q2_w1) rfl (by decide) rfl (Nat.le_of_ble_eq_true rfl) (by decide) (fun r u hu => ?_)
  refine z_eqs (σ' := (ap b σ [] [] [])) hu.2 ?_
  show zx p l e _ s m _ below meth c g 7 0 0 _ _ 6 [(0, .ref (b + 405)), (1, .int 4), (2, .int w1), (3, .int w2), (4, .int w3), (5, .int w4)] _
  refine z_seti (y := 1) hu.1 ?_
  refine z_iload_n B dX9_set_6 rfl 3 rfl ?_
  refine z_iload B dX9_set_7 4 rfl ?_
  refine z_iload B dX9_set_9 5 rfl ?_
  refine z_cSi (As := [.int w2, .int w3, .int w4]) (rest := [.int 1, .ref (b + 405)]) B cw_X9_242 dX9_set_11 (ci_X9_isOperation_43 l (σ := (ap b σ [] [] [])) (b := b) (lyA hK) w2 w3 w4 q1_w2 q2_w2 q1_w3 q2_w3 q1_w4 q2_w4) rfl (by decide) rfl (Nat.le_of_ble_eq_true rfl) (by decide) (fun r u hu => ?_)
  refine z_eqs (σ' := (ap b σ [] [] [])) hu.2 ?_
  show zx p l e _ s m _ below meth c g 7 0 0 _ _ 14 [(0, .ref (b + 405)), (1, .int 4), (2, .int w1), (3, .int w2), (4, .int w3), (5, .int w4)] _
  refine z_seti (y := 0) hu.1 ?_
  refine z_cVi (As := [.int 1, .int 0]) (rest := []) B cw_X9_245 cx_10 dX9_set_14 (ci_X9_needs__71 l (σ := (ap b σ [] [] [])) (b := b) (lyA hK) ) (lKA (hk_K hK 405 rfl rfl)) rfl (by decide) rfl (Nat.le_of_ble_eq_true rfl) (by decide) (fun r u hu => ?_)
  refine z_eqs (σ' := (ap b σ [(405, 0, 2)] [] [])) (hu.2.trans ap_ap) ?_
  show zx p l e _ s m _ below meth c g 7 0 0 _ _ 17 [(0, .ref (b + 405)), (1, .int 4), (2, .int w1), (3, .int w2), (4, .int w3), (5, .int w4)] _
  refine z_seti (y := 0) hu.1 ?_
  refine z_if_ne (tgt := 22) B dX9_set_17 (by decide) (fun h => absurd (by decide) h) (fun _ => ?_)
  refine z_iconst (v := 0) B dX9_set_20 (by decide) ?_
  exact z_iret B hr (by decide) (by decide) dX9_set_21 ⟨rfl, rfl⟩
set_option maxRecDepth 100000 in
set_option maxHeartbeats 4000000 in
theorem ci_X8_set_302 (l : Launch) (hlt : l.stackTraces = false) {g : gx_T} {σ : sx_T} {b : Nat} (hK : lay b σ) (w1 : Int32) (w2 : Int32) (w3 : Int32) (w4 : Int32) (q1_w1 : (0 : Int) ≤ w1.toInt) (q2_w1 : w1.toInt ≤ (19 : Int)) (q1_w2 : (0 : Int) ≤ w2.toInt) (q2_w2 : w2.toInt ≤ (17 : Int)) (q1_w3 : (100 : Int) ≤ w3.toInt) (q2_w3 : w3.toInt ≤ (2147483647 : Int)) (hR_0_0 : sx_R σ (b + 0) 0 = (some (b + 1))) (hR_1_4 : sx_R σ (b + 1) 4 = (some (b + 25))) : vx_Met l yX8_set (.code yX8_set cX8_set 9 (some .int) :: lw_g) { frames := 7, cells := 1, slots := 6, locals := 136 } (va_Pc [.ref (b + 0), .int 4, .int w1, .int w2, .int w3, .int w4] (zx_w g σ)) (va_Qi (S := sx_T) (fun _ _ => False) (zx_w g) (gx_Q g)) (vx_X (fun u : sx_T => ∃ z, u = wx_Z σ z) (fun E u t => E = "java/lang/IllegalArgumentException" ∧ zx_h g u t.heap) (gx_Q g)) 1 6 (gx_Q g) := by
  refine z_metX (by decide) (Nat.le_of_ble_eq_true rfl) (fun p e s m below meth c B hr hin hout => ?_)
  refine z_eqs (σ' := (ap b σ [] [] [])) rfl ?_
  show zx p l e _ s m _ below meth c g 9 0 0 _ _ 0 [(0, .ref (b + 0)), (1, .int 4), (2, .int w1), (3, .int w2), (4, .int w3), (5, .int w4)] []
  refine z_aload_n B dX8_set_0 rfl 0 rfl ?_
  refine z_iload_n B dX8_set_1 rfl 1 rfl ?_
  refine z_cVq (As := [.int 4]) (rest := []) B cw_X8_64 cx_9 dX8_set_2 (ci_X8_programAt_269 l (σ := (ap b σ [] [] [])) (b := b) (lyA hK) (rR_at 0 0 hR_0_0) (rR_at 1 4 hR_1_4)) (lKA (hk_K hK 0 rfl rfl)) rfl (by decide) rfl (Nat.le_of_ble_eq_true rfl) (by decide) (fun r u hu => ?_)
  refine z_eqs (σ' := (ap b σ [] [] [])) hu.2 ?_
  show zx p l e _ s m _ below meth c g 9 0 0 _ _ 5 [(0, .ref (b + 0)), (1, .int 4), (2, .int w1), (3, .int w2), (4, .int w3), (5, .int w4)] _
  refine z_setr (y := (some (b + 25))) hu.1 ?_
  refine z_astore (lv' := [(6, .ref (b + 25)), (0, .ref (b + 0)), (1, .int 4), (2, .int w1), (3, .int w2), (4, .int w3), (5, .int w4)]) B dX8_set_5 (by decide) rfl ?_
  refine z_aload B dX8_set_7 0 rfl ?_
  refine z_ifnull (r := (some (b + 25))) (tgt := 21) B dX8_set_9 (by decide) (fun h => nomatch h) (fun _ _ => ?_)
  refine z_iload_n B dX8_set_12 rfl 3 rfl ?_
  refine z_bipush (v := 20) B dX8_set_13 (by decide) ?_
  refine z_cSi (As := [.int w1, .int 20]) (rest := []) B cw_X8_68 dX8_set_15 (ci_X8_isBelow_64 l (σ := (ap b σ [] [] [])) (b := b) (lyA hK) w1 q1_w1 q2_w1) rfl (by decide) rfl (Nat.le_of_ble_eq_true rfl) (by decide) (fun r u hu => ?_)
  refine z_eqs (σ' := (ap b σ [] [] [])) hu.2 ?_
  show zx p l e _ s m _ below meth c g 9 0 0 _ _ 18 [(6, .ref (b + 25)), (0, .ref (b + 0)), (1, .int 4), (2, .int w1), (3, .int w2), (4, .int w3), (5, .int w4)] _
  refine z_seti (y := 1) hu.1 ?_
  refine z_if_ne (tgt := 31) B dX8_set_18 (by decide) (fun _ => ?_) (fun h => absurd h (by decide))
  refine z_iload_n B dX8_set_31 rfl 4 rfl ?_
  refine z_iload B dX8_set_32 5 rfl ?_
  refine z_iload B dX8_set_34 6 rfl ?_
  refine z_cSi (As := [.int w2, .int w3, .int w4]) (rest := []) B cw_X8_79 dX8_set_36 (ci_X8_isStep_101 l (σ := (ap b σ [] [] [])) (b := b) (lyA hK) w2 w3 w4 q1_w2 q2_w2 q1_w3 q2_w3) rfl (by decide) rfl (Nat.le_of_ble_eq_true rfl) (by decide) (fun r u hu => ?_)
  refine z_eqs (σ' := (ap b σ [] [] [])) hu.2 ?_
  show zx p l e _ s m _ below meth c g 9 0 0 _ _ 39 [(6, .ref (b + 25)), (0, .ref (b + 0)), (1, .int 4), (2, .int w1), (3, .int w2), (4, .int w3), (5, .int w4)] _
  refine z_seti (y := 0) hu.1 ?_
  refine z_if_ne (tgt := 52) B dX8_set_39 (by decide) (fun h => absurd (by decide) h) (fun _ => ?_)
  exact z_throw B hlt hout (cls := "java/lang/IllegalArgumentException") (text := "no such operation") tw_X8_83_85_87 dX8_set_42 dX8_set_45 dX8_set_46 dX8_set_48 dX8_set_51 (by decide) (by decide) (by decide) (by decide) (by decide) (by decide) (fun z => ⟨z, rfl⟩)
set_option maxRecDepth 100000 in
set_option maxHeartbeats 4000000 in
theorem ci_L_set_303 (l : Launch) (hlt : l.stackTraces = false) {g : gx_T} {σ : sx_T} {b : Nat} (hK : lay b σ) (w1 : Int32) (w2 : Int32) (w3 : Int32) (w4 : Int32) (q1_w1 : (0 : Int) ≤ w1.toInt) (q2_w1 : w1.toInt ≤ (19 : Int)) (q1_w2 : (0 : Int) ≤ w2.toInt) (q2_w2 : w2.toInt ≤ (17 : Int)) (q1_w3 : (100 : Int) ≤ w3.toInt) (q2_w3 : w3.toInt ≤ (2147483647 : Int)) (hR_0_0 : sx_R σ (b + 0) 0 = (some (b + 1))) (hR_1_4 : sx_R σ (b + 1) 4 = (some (b + 25))) : Met l yL_set (.codeWith yL_set cL_set 8 (some .int) [(0, 16, 19, 13), (0, 16, 23, 15)] :: lw_g) { frames := 8, cells := 1, slots := 6, locals := 164 } (va_Pc [.ref (b + 0), .int 4, .int w1, .int w2, .int w3, .int w4, .ref (b + 431)] (zx_w g σ)) (va_Qi (fun r u => r = 2 ∧ ∃ z, u = (ap b (wx_Z σ z) [] [] [])) (zx_w g) (gx_Q g)) 1 6 (gx_Q g) := by
  refine z_metW (by decide) (Nat.le_of_ble_eq_true rfl) (fun p e s m below meth c B hr htab => ?_)
  refine z_eqs (σ' := (ap b σ [] [] [])) rfl ?_
  show zx p l e _ s m _ below meth c g 8 0 0 _ _ 0 [(0, .ref (b + 0)), (1, .int 4), (2, .int w1), (3, .int w2), (4, .int w3), (5, .int w4), (6, .ref (b + 431))] []
  refine z_aload B dL_set_0 6 rfl ?_
  refine z_iconst (v := 0) B dL_set_2 (by decide) ?_
  refine z_aload_n B dL_set_3 rfl 0 rfl ?_
  refine z_iload_n B dL_set_4 rfl 1 rfl ?_
  refine z_iload_n B dL_set_5 rfl 2 rfl ?_
  refine z_iload_n B dL_set_6 rfl 3 rfl ?_
  refine z_iload B dL_set_7 4 rfl ?_
  refine z_iload B dL_set_9 5 rfl ?_
  refine z_cXi (As := [.int 4, .int w1, .int w2, .int w3, .int w4]) (rest := [.int 0, .ref (b + 431)]) B htab tc_set_11_IllegalArgumentException cw_L_7 cx_9 dL_set_11 (ci_X8_set_302 l hlt (σ := (ap b σ [] [] [])) (b := b) (lyA hK) w1 w2 w3 w4 q1_w1 q2_w1 q1_w2 q2_w2 q1_w3 q2_w3 (rR_at 0 0 hR_0_0) (rR_at 1 4 hR_1_4)) (lKA (hk_K hK 0 rfl rfl)) rfl (by decide) rfl (Nat.le_of_ble_eq_true rfl) (by decide) (fun z q => ?_)
  refine z_eqs (σ' := (ap b (wx_Z σ z) [] [] [])) rfl ?_
  show zx p l e _ s m _ below meth c g 8 _ _ _ _ 23 [(0, .ref (b + 0)), (1, .int 4), (2, .int w1), (3, .int w2), (4, .int w3), (5, .int w4), (6, .ref (b + 431))] _
  refine z_astore (lv' := [(7, .ref q), (0, .ref (b + 0)), (1, .int 4), (2, .int w1), (3, .int w2), (4, .int w3), (5, .int w4), (6, .ref (b + 431))]) B dL_set_23 (by decide) rfl ?_
  refine z_iconst (v := 2) B dL_set_25 (by decide) ?_
  exact z_iret B hr (by decide) (by decide) dL_set_26 ⟨rfl, _, rfl⟩
set_option maxRecDepth 100000 in
set_option maxHeartbeats 4000000 in
theorem ci_X9_set_304 (l : Launch) {g : gx_T} {σ : sx_T} {b : Nat} (hK : lay b σ) (w1 : Int32) (w2 : Int32) (w3 : Int32) (w4 : Int32) (q1_w1 : (0 : Int) ≤ w1.toInt) (q2_w1 : w1.toInt ≤ (19 : Int)) (q1_w2 : (0 : Int) ≤ w2.toInt) (q2_w2 : w2.toInt ≤ (17 : Int)) (q1_w3 : (100 : Int) ≤ w3.toInt) (q2_w3 : w3.toInt ≤ (2147483647 : Int))  : Met l yX9_set (.code yX9_set cX9_set 7 (some .int) :: lw_g) { frames := 2, cells := 0, slots := 0, locals := 44 } (va_Pc [.ref (b + 405), .int 4, .int w1, .int w2, .int w3, .int w4] (zx_w g σ)) (va_Qi (fun r u => r = 0 ∧ u = (ap b σ [(405, 0, 2)] [] [])) (zx_w g) (gx_Q g)) 0 0 (gx_Q g) := by
  refine z_met (by decide) (Nat.le_of_ble_eq_true rfl) (fun p e s m below meth c B hr hin => ?_)
  refine z_eqs (σ' := (ap b σ [] [] [])) rfl ?_
  show zx p l e _ s m _ below meth c g 7 0 0 _ _ 0 [(0, .ref (b + 405)), (1, .int 4), (2, .int w1), (3, .int w2), (4, .int w3), (5, .int w4)] []
  refine z_aload_n B dX9_set_0 rfl 0 rfl ?_
  refine z_iload_n B dX9_set_1 rfl 1 rfl ?_
  refine z_iload_n B dX9_set_2 rfl 2 rfl ?_
  refine z_cSi (As := [.int 4, .int w1]) (rest := [.ref (b + 405)]) B cw_X9_238 dX9_set_3 (ci_X9_isStep_283 l (σ := (ap b σ [] [] [])) (b := b) (lyA hK) w1 q1_w1 q2_w1) rfl (by decide) rfl (Nat.le_of_ble_eq_true rfl) (by decide) (fun r u hu => ?_)
  refine z_eqs (σ' := (ap b σ [] [] [])) hu.2 ?_
  show zx p l e _ s m _ below meth c g 7 0 0 _ _ 6 [(0, .ref (b + 405)), (1, .int 4), (2, .int w1), (3, .int w2), (4, .int w3), (5, .int w4)] _
  refine z_seti (y := 1) hu.1 ?_
  refine z_iload_n B dX9_set_6 rfl 3 rfl ?_
  refine z_iload B dX9_set_7 4 rfl ?_
  refine z_iload B dX9_set_9 5 rfl ?_
  refine z_cSi (As := [.int w2, .int w3, .int w4]) (rest := [.int 1, .ref (b + 405)]) B cw_X9_242 dX9_set_11 (ci_X9_isOperation_45 l (σ := (ap b σ [] [] [])) (b := b) (lyA hK) w2 w3 w4 q1_w2 q2_w2 q1_w3 q2_w3) rfl (by decide) rfl (Nat.le_of_ble_eq_true rfl) (by decide) (fun r u hu => ?_)
  refine z_eqs (σ' := (ap b σ [] [] [])) hu.2 ?_
  show zx p l e _ s m _ below meth c g 7 0 0 _ _ 14 [(0, .ref (b + 405)), (1, .int 4), (2, .int w1), (3, .int w2), (4, .int w3), (5, .int w4)] _
  refine z_seti (y := 0) hu.1 ?_
  refine z_cVi (As := [.int 1, .int 0]) (rest := []) B cw_X9_245 cx_10 dX9_set_14 (ci_X9_needs__71 l (σ := (ap b σ [] [] [])) (b := b) (lyA hK) ) (lKA (hk_K hK 405 rfl rfl)) rfl (by decide) rfl (Nat.le_of_ble_eq_true rfl) (by decide) (fun r u hu => ?_)
  refine z_eqs (σ' := (ap b σ [(405, 0, 2)] [] [])) (hu.2.trans ap_ap) ?_
  show zx p l e _ s m _ below meth c g 7 0 0 _ _ 17 [(0, .ref (b + 405)), (1, .int 4), (2, .int w1), (3, .int w2), (4, .int w3), (5, .int w4)] _
  refine z_seti (y := 0) hu.1 ?_
  refine z_if_ne (tgt := 22) B dX9_set_17 (by decide) (fun h => absurd (by decide) h) (fun _ => ?_)
  refine z_iconst (v := 0) B dX9_set_20 (by decide) ?_
  exact z_iret B hr (by decide) (by decide) dX9_set_21 ⟨rfl, rfl⟩
set_option maxRecDepth 100000 in
set_option maxHeartbeats 4000000 in
theorem ci_X8_set_305 (l : Launch) (hlt : l.stackTraces = false) {g : gx_T} {σ : sx_T} {b : Nat} (hK : lay b σ) (w1 : Int32) (w2 : Int32) (w3 : Int32) (w4 : Int32) (q1_w1 : (0 : Int) ≤ w1.toInt) (q2_w1 : w1.toInt ≤ (19 : Int)) (q1_w2 : (18 : Int) ≤ w2.toInt) (q2_w2 : w2.toInt ≤ (2147483647 : Int)) (hR_0_0 : sx_R σ (b + 0) 0 = (some (b + 1))) (hR_1_4 : sx_R σ (b + 1) 4 = (some (b + 25))) : vx_Met l yX8_set (.code yX8_set cX8_set 9 (some .int) :: lw_g) { frames := 7, cells := 1, slots := 6, locals := 136 } (va_Pc [.ref (b + 0), .int 4, .int w1, .int w2, .int w3, .int w4] (zx_w g σ)) (va_Qi (S := sx_T) (fun _ _ => False) (zx_w g) (gx_Q g)) (vx_X (fun u : sx_T => ∃ z, u = wx_Z σ z) (fun E u t => E = "java/lang/IllegalArgumentException" ∧ zx_h g u t.heap) (gx_Q g)) 1 6 (gx_Q g) := by
  refine z_metX (by decide) (Nat.le_of_ble_eq_true rfl) (fun p e s m below meth c B hr hin hout => ?_)
  refine z_eqs (σ' := (ap b σ [] [] [])) rfl ?_
  show zx p l e _ s m _ below meth c g 9 0 0 _ _ 0 [(0, .ref (b + 0)), (1, .int 4), (2, .int w1), (3, .int w2), (4, .int w3), (5, .int w4)] []
  refine z_aload_n B dX8_set_0 rfl 0 rfl ?_
  refine z_iload_n B dX8_set_1 rfl 1 rfl ?_
  refine z_cVq (As := [.int 4]) (rest := []) B cw_X8_64 cx_9 dX8_set_2 (ci_X8_programAt_269 l (σ := (ap b σ [] [] [])) (b := b) (lyA hK) (rR_at 0 0 hR_0_0) (rR_at 1 4 hR_1_4)) (lKA (hk_K hK 0 rfl rfl)) rfl (by decide) rfl (Nat.le_of_ble_eq_true rfl) (by decide) (fun r u hu => ?_)
  refine z_eqs (σ' := (ap b σ [] [] [])) hu.2 ?_
  show zx p l e _ s m _ below meth c g 9 0 0 _ _ 5 [(0, .ref (b + 0)), (1, .int 4), (2, .int w1), (3, .int w2), (4, .int w3), (5, .int w4)] _
  refine z_setr (y := (some (b + 25))) hu.1 ?_
  refine z_astore (lv' := [(6, .ref (b + 25)), (0, .ref (b + 0)), (1, .int 4), (2, .int w1), (3, .int w2), (4, .int w3), (5, .int w4)]) B dX8_set_5 (by decide) rfl ?_
  refine z_aload B dX8_set_7 0 rfl ?_
  refine z_ifnull (r := (some (b + 25))) (tgt := 21) B dX8_set_9 (by decide) (fun h => nomatch h) (fun _ _ => ?_)
  refine z_iload_n B dX8_set_12 rfl 3 rfl ?_
  refine z_bipush (v := 20) B dX8_set_13 (by decide) ?_
  refine z_cSi (As := [.int w1, .int 20]) (rest := []) B cw_X8_68 dX8_set_15 (ci_X8_isBelow_64 l (σ := (ap b σ [] [] [])) (b := b) (lyA hK) w1 q1_w1 q2_w1) rfl (by decide) rfl (Nat.le_of_ble_eq_true rfl) (by decide) (fun r u hu => ?_)
  refine z_eqs (σ' := (ap b σ [] [] [])) hu.2 ?_
  show zx p l e _ s m _ below meth c g 9 0 0 _ _ 18 [(6, .ref (b + 25)), (0, .ref (b + 0)), (1, .int 4), (2, .int w1), (3, .int w2), (4, .int w3), (5, .int w4)] _
  refine z_seti (y := 1) hu.1 ?_
  refine z_if_ne (tgt := 31) B dX8_set_18 (by decide) (fun _ => ?_) (fun h => absurd h (by decide))
  refine z_iload_n B dX8_set_31 rfl 4 rfl ?_
  refine z_iload B dX8_set_32 5 rfl ?_
  refine z_iload B dX8_set_34 6 rfl ?_
  refine z_cSi (As := [.int w2, .int w3, .int w4]) (rest := []) B cw_X8_79 dX8_set_36 (ci_X8_isStep_106 l (σ := (ap b σ [] [] [])) (b := b) (lyA hK) w2 w3 w4 q1_w2 q2_w2) rfl (by decide) rfl (Nat.le_of_ble_eq_true rfl) (by decide) (fun r u hu => ?_)
  refine z_eqs (σ' := (ap b σ [] [] [])) hu.2 ?_
  show zx p l e _ s m _ below meth c g 9 0 0 _ _ 39 [(6, .ref (b + 25)), (0, .ref (b + 0)), (1, .int 4), (2, .int w1), (3, .int w2), (4, .int w3), (5, .int w4)] _
  refine z_seti (y := 0) hu.1 ?_
  refine z_if_ne (tgt := 52) B dX8_set_39 (by decide) (fun h => absurd (by decide) h) (fun _ => ?_)
  exact z_throw B hlt hout (cls := "java/lang/IllegalArgumentException") (text := "no such operation") tw_X8_83_85_87 dX8_set_42 dX8_set_45 dX8_set_46 dX8_set_48 dX8_set_51 (by decide) (by decide) (by decide) (by decide) (by decide) (by decide) (fun z => ⟨z, rfl⟩)
set_option maxRecDepth 100000 in
set_option maxHeartbeats 4000000 in
theorem ci_L_set_306 (l : Launch) (hlt : l.stackTraces = false) {g : gx_T} {σ : sx_T} {b : Nat} (hK : lay b σ) (w1 : Int32) (w2 : Int32) (w3 : Int32) (w4 : Int32) (q1_w1 : (0 : Int) ≤ w1.toInt) (q2_w1 : w1.toInt ≤ (19 : Int)) (q1_w2 : (18 : Int) ≤ w2.toInt) (q2_w2 : w2.toInt ≤ (2147483647 : Int)) (hR_0_0 : sx_R σ (b + 0) 0 = (some (b + 1))) (hR_1_4 : sx_R σ (b + 1) 4 = (some (b + 25))) : Met l yL_set (.codeWith yL_set cL_set 8 (some .int) [(0, 16, 19, 13), (0, 16, 23, 15)] :: lw_g) { frames := 8, cells := 1, slots := 6, locals := 164 } (va_Pc [.ref (b + 0), .int 4, .int w1, .int w2, .int w3, .int w4, .ref (b + 431)] (zx_w g σ)) (va_Qi (fun r u => r = 2 ∧ ∃ z, u = (ap b (wx_Z σ z) [] [] [])) (zx_w g) (gx_Q g)) 1 6 (gx_Q g) := by
  refine z_metW (by decide) (Nat.le_of_ble_eq_true rfl) (fun p e s m below meth c B hr htab => ?_)
  refine z_eqs (σ' := (ap b σ [] [] [])) rfl ?_
  show zx p l e _ s m _ below meth c g 8 0 0 _ _ 0 [(0, .ref (b + 0)), (1, .int 4), (2, .int w1), (3, .int w2), (4, .int w3), (5, .int w4), (6, .ref (b + 431))] []
  refine z_aload B dL_set_0 6 rfl ?_
  refine z_iconst (v := 0) B dL_set_2 (by decide) ?_
  refine z_aload_n B dL_set_3 rfl 0 rfl ?_
  refine z_iload_n B dL_set_4 rfl 1 rfl ?_
  refine z_iload_n B dL_set_5 rfl 2 rfl ?_
  refine z_iload_n B dL_set_6 rfl 3 rfl ?_
  refine z_iload B dL_set_7 4 rfl ?_
  refine z_iload B dL_set_9 5 rfl ?_
  refine z_cXi (As := [.int 4, .int w1, .int w2, .int w3, .int w4]) (rest := [.int 0, .ref (b + 431)]) B htab tc_set_11_IllegalArgumentException cw_L_7 cx_9 dL_set_11 (ci_X8_set_305 l hlt (σ := (ap b σ [] [] [])) (b := b) (lyA hK) w1 w2 w3 w4 q1_w1 q2_w1 q1_w2 q2_w2 (rR_at 0 0 hR_0_0) (rR_at 1 4 hR_1_4)) (lKA (hk_K hK 0 rfl rfl)) rfl (by decide) rfl (Nat.le_of_ble_eq_true rfl) (by decide) (fun z q => ?_)
  refine z_eqs (σ' := (ap b (wx_Z σ z) [] [] [])) rfl ?_
  show zx p l e _ s m _ below meth c g 8 _ _ _ _ 23 [(0, .ref (b + 0)), (1, .int 4), (2, .int w1), (3, .int w2), (4, .int w3), (5, .int w4), (6, .ref (b + 431))] _
  refine z_astore (lv' := [(7, .ref q), (0, .ref (b + 0)), (1, .int 4), (2, .int w1), (3, .int w2), (4, .int w3), (5, .int w4), (6, .ref (b + 431))]) B dL_set_23 (by decide) rfl ?_
  refine z_iconst (v := 2) B dL_set_25 (by decide) ?_
  exact z_iret B hr (by decide) (by decide) dL_set_26 ⟨rfl, _, rfl⟩
set_option maxRecDepth 100000 in
set_option maxHeartbeats 4000000 in
theorem ci_X9_set_307 (l : Launch) {g : gx_T} {σ : sx_T} {b : Nat} (hK : lay b σ) (w1 : Int32) (w2 : Int32) (w3 : Int32) (w4 : Int32) (q1_w1 : (0 : Int) ≤ w1.toInt) (q2_w1 : w1.toInt ≤ (19 : Int)) (q1_w2 : (18 : Int) ≤ w2.toInt) (q2_w2 : w2.toInt ≤ (2147483647 : Int))  : Met l yX9_set (.code yX9_set cX9_set 7 (some .int) :: lw_g) { frames := 2, cells := 0, slots := 0, locals := 44 } (va_Pc [.ref (b + 405), .int 4, .int w1, .int w2, .int w3, .int w4] (zx_w g σ)) (va_Qi (fun r u => r = 0 ∧ u = (ap b σ [(405, 0, 2)] [] [])) (zx_w g) (gx_Q g)) 0 0 (gx_Q g) := by
  refine z_met (by decide) (Nat.le_of_ble_eq_true rfl) (fun p e s m below meth c B hr hin => ?_)
  refine z_eqs (σ' := (ap b σ [] [] [])) rfl ?_
  show zx p l e _ s m _ below meth c g 7 0 0 _ _ 0 [(0, .ref (b + 405)), (1, .int 4), (2, .int w1), (3, .int w2), (4, .int w3), (5, .int w4)] []
  refine z_aload_n B dX9_set_0 rfl 0 rfl ?_
  refine z_iload_n B dX9_set_1 rfl 1 rfl ?_
  refine z_iload_n B dX9_set_2 rfl 2 rfl ?_
  refine z_cSi (As := [.int 4, .int w1]) (rest := [.ref (b + 405)]) B cw_X9_238 dX9_set_3 (ci_X9_isStep_283 l (σ := (ap b σ [] [] [])) (b := b) (lyA hK) w1 q1_w1 q2_w1) rfl (by decide) rfl (Nat.le_of_ble_eq_true rfl) (by decide) (fun r u hu => ?_)
  refine z_eqs (σ' := (ap b σ [] [] [])) hu.2 ?_
  show zx p l e _ s m _ below meth c g 7 0 0 _ _ 6 [(0, .ref (b + 405)), (1, .int 4), (2, .int w1), (3, .int w2), (4, .int w3), (5, .int w4)] _
  refine z_seti (y := 1) hu.1 ?_
  refine z_iload_n B dX9_set_6 rfl 3 rfl ?_
  refine z_iload B dX9_set_7 4 rfl ?_
  refine z_iload B dX9_set_9 5 rfl ?_
  refine z_cSi (As := [.int w2, .int w3, .int w4]) (rest := [.int 1, .ref (b + 405)]) B cw_X9_242 dX9_set_11 (ci_X9_isOperation_48 l (σ := (ap b σ [] [] [])) (b := b) (lyA hK) w2 w3 w4 q1_w2 q2_w2) rfl (by decide) rfl (Nat.le_of_ble_eq_true rfl) (by decide) (fun r u hu => ?_)
  refine z_eqs (σ' := (ap b σ [] [] [])) hu.2 ?_
  show zx p l e _ s m _ below meth c g 7 0 0 _ _ 14 [(0, .ref (b + 405)), (1, .int 4), (2, .int w1), (3, .int w2), (4, .int w3), (5, .int w4)] _
  refine z_seti (y := 0) hu.1 ?_
  refine z_cVi (As := [.int 1, .int 0]) (rest := []) B cw_X9_245 cx_10 dX9_set_14 (ci_X9_needs__71 l (σ := (ap b σ [] [] [])) (b := b) (lyA hK) ) (lKA (hk_K hK 405 rfl rfl)) rfl (by decide) rfl (Nat.le_of_ble_eq_true rfl) (by decide) (fun r u hu => ?_)
  refine z_eqs (σ' := (ap b σ [(405, 0, 2)] [] [])) (hu.2.trans ap_ap) ?_
  show zx p l e _ s m _ below meth c g 7 0 0 _ _ 17 [(0, .ref (b + 405)), (1, .int 4), (2, .int w1), (3, .int w2), (4, .int w3), (5, .int w4)] _
  refine z_seti (y := 0) hu.1 ?_
  refine z_if_ne (tgt := 22) B dX9_set_17 (by decide) (fun h => absurd (by decide) h) (fun _ => ?_)
  refine z_iconst (v := 0) B dX9_set_20 (by decide) ?_
  exact z_iret B hr (by decide) (by decide) dX9_set_21 ⟨rfl, rfl⟩
set_option maxRecDepth 100000 in
set_option maxHeartbeats 4000000 in
theorem ci_X8_set_308 (l : Launch) (hlt : l.stackTraces = false) {g : gx_T} {σ : sx_T} {b : Nat} (hK : lay b σ) (w1 : Int32) (w2 : Int32) (w3 : Int32) (w4 : Int32) (q1_w1 : (20 : Int) ≤ w1.toInt) (q2_w1 : w1.toInt ≤ (2147483647 : Int)) (hR_0_0 : sx_R σ (b + 0) 0 = (some (b + 1))) (hR_1_4 : sx_R σ (b + 1) 4 = (some (b + 25))) : vx_Met l yX8_set (.code yX8_set cX8_set 9 (some .int) :: lw_g) { frames := 7, cells := 1, slots := 6, locals := 136 } (va_Pc [.ref (b + 0), .int 4, .int w1, .int w2, .int w3, .int w4] (zx_w g σ)) (va_Qi (S := sx_T) (fun _ _ => False) (zx_w g) (gx_Q g)) (vx_X (fun u : sx_T => ∃ z, u = wx_Z σ z) (fun E u t => E = "java/lang/IndexOutOfBoundsException" ∧ zx_h g u t.heap) (gx_Q g)) 1 6 (gx_Q g) := by
  refine z_metX (by decide) (Nat.le_of_ble_eq_true rfl) (fun p e s m below meth c B hr hin hout => ?_)
  refine z_eqs (σ' := (ap b σ [] [] [])) rfl ?_
  show zx p l e _ s m _ below meth c g 9 0 0 _ _ 0 [(0, .ref (b + 0)), (1, .int 4), (2, .int w1), (3, .int w2), (4, .int w3), (5, .int w4)] []
  refine z_aload_n B dX8_set_0 rfl 0 rfl ?_
  refine z_iload_n B dX8_set_1 rfl 1 rfl ?_
  refine z_cVq (As := [.int 4]) (rest := []) B cw_X8_64 cx_9 dX8_set_2 (ci_X8_programAt_269 l (σ := (ap b σ [] [] [])) (b := b) (lyA hK) (rR_at 0 0 hR_0_0) (rR_at 1 4 hR_1_4)) (lKA (hk_K hK 0 rfl rfl)) rfl (by decide) rfl (Nat.le_of_ble_eq_true rfl) (by decide) (fun r u hu => ?_)
  refine z_eqs (σ' := (ap b σ [] [] [])) hu.2 ?_
  show zx p l e _ s m _ below meth c g 9 0 0 _ _ 5 [(0, .ref (b + 0)), (1, .int 4), (2, .int w1), (3, .int w2), (4, .int w3), (5, .int w4)] _
  refine z_setr (y := (some (b + 25))) hu.1 ?_
  refine z_astore (lv' := [(6, .ref (b + 25)), (0, .ref (b + 0)), (1, .int 4), (2, .int w1), (3, .int w2), (4, .int w3), (5, .int w4)]) B dX8_set_5 (by decide) rfl ?_
  refine z_aload B dX8_set_7 0 rfl ?_
  refine z_ifnull (r := (some (b + 25))) (tgt := 21) B dX8_set_9 (by decide) (fun h => nomatch h) (fun _ _ => ?_)
  refine z_iload_n B dX8_set_12 rfl 3 rfl ?_
  refine z_bipush (v := 20) B dX8_set_13 (by decide) ?_
  refine z_cSi (As := [.int w1, .int 20]) (rest := []) B cw_X8_68 dX8_set_15 (ci_X8_isBelow_110 l (σ := (ap b σ [] [] [])) (b := b) (lyA hK) w1 q1_w1 q2_w1) rfl (by decide) rfl (Nat.le_of_ble_eq_true rfl) (by decide) (fun r u hu => ?_)
  refine z_eqs (σ' := (ap b σ [] [] [])) hu.2 ?_
  show zx p l e _ s m _ below meth c g 9 0 0 _ _ 18 [(6, .ref (b + 25)), (0, .ref (b + 0)), (1, .int 4), (2, .int w1), (3, .int w2), (4, .int w3), (5, .int w4)] _
  refine z_seti (y := 0) hu.1 ?_
  refine z_if_ne (tgt := 31) B dX8_set_18 (by decide) (fun h => absurd (by decide) h) (fun _ => ?_)
  exact z_throw B hlt hout (cls := "java/lang/IndexOutOfBoundsException") (text := "no such step") tw_X8_72_74_76 dX8_set_21 dX8_set_24 dX8_set_25 dX8_set_27 dX8_set_30 (by decide) (by decide) (by decide) (by decide) (by decide) (by decide) (fun z => ⟨z, rfl⟩)
set_option maxRecDepth 100000 in
set_option maxHeartbeats 4000000 in
theorem ci_L_set_309 (l : Launch) (hlt : l.stackTraces = false) {g : gx_T} {σ : sx_T} {b : Nat} (hK : lay b σ) (w1 : Int32) (w2 : Int32) (w3 : Int32) (w4 : Int32) (q1_w1 : (20 : Int) ≤ w1.toInt) (q2_w1 : w1.toInt ≤ (2147483647 : Int)) (hR_0_0 : sx_R σ (b + 0) 0 = (some (b + 1))) (hR_1_4 : sx_R σ (b + 1) 4 = (some (b + 25))) : Met l yL_set (.codeWith yL_set cL_set 8 (some .int) [(0, 16, 19, 13), (0, 16, 23, 15)] :: lw_g) { frames := 8, cells := 1, slots := 6, locals := 164 } (va_Pc [.ref (b + 0), .int 4, .int w1, .int w2, .int w3, .int w4, .ref (b + 431)] (zx_w g σ)) (va_Qi (fun r u => r = 1 ∧ ∃ z, u = (ap b (wx_Z σ z) [] [] [])) (zx_w g) (gx_Q g)) 1 6 (gx_Q g) := by
  refine z_metW (by decide) (Nat.le_of_ble_eq_true rfl) (fun p e s m below meth c B hr htab => ?_)
  refine z_eqs (σ' := (ap b σ [] [] [])) rfl ?_
  show zx p l e _ s m _ below meth c g 8 0 0 _ _ 0 [(0, .ref (b + 0)), (1, .int 4), (2, .int w1), (3, .int w2), (4, .int w3), (5, .int w4), (6, .ref (b + 431))] []
  refine z_aload B dL_set_0 6 rfl ?_
  refine z_iconst (v := 0) B dL_set_2 (by decide) ?_
  refine z_aload_n B dL_set_3 rfl 0 rfl ?_
  refine z_iload_n B dL_set_4 rfl 1 rfl ?_
  refine z_iload_n B dL_set_5 rfl 2 rfl ?_
  refine z_iload_n B dL_set_6 rfl 3 rfl ?_
  refine z_iload B dL_set_7 4 rfl ?_
  refine z_iload B dL_set_9 5 rfl ?_
  refine z_cXi (As := [.int 4, .int w1, .int w2, .int w3, .int w4]) (rest := [.int 0, .ref (b + 431)]) B htab tc_set_11_IndexOutOfBoundsException cw_L_7 cx_9 dL_set_11 (ci_X8_set_308 l hlt (σ := (ap b σ [] [] [])) (b := b) (lyA hK) w1 w2 w3 w4 q1_w1 q2_w1 (rR_at 0 0 hR_0_0) (rR_at 1 4 hR_1_4)) (lKA (hk_K hK 0 rfl rfl)) rfl (by decide) rfl (Nat.le_of_ble_eq_true rfl) (by decide) (fun z q => ?_)
  refine z_eqs (σ' := (ap b (wx_Z σ z) [] [] [])) rfl ?_
  show zx p l e _ s m _ below meth c g 8 _ _ _ _ 19 [(0, .ref (b + 0)), (1, .int 4), (2, .int w1), (3, .int w2), (4, .int w3), (5, .int w4), (6, .ref (b + 431))] _
  refine z_astore (lv' := [(7, .ref q), (0, .ref (b + 0)), (1, .int 4), (2, .int w1), (3, .int w2), (4, .int w3), (5, .int w4), (6, .ref (b + 431))]) B dL_set_19 (by decide) rfl ?_
  refine z_iconst (v := 1) B dL_set_21 (by decide) ?_
  exact z_iret B hr (by decide) (by decide) dL_set_22 ⟨rfl, _, rfl⟩
set_option maxRecDepth 100000 in
set_option maxHeartbeats 4000000 in
theorem ci_X9_isStep_310 (l : Launch) {g : gx_T} {σ : sx_T} {b : Nat} (hK : lay b σ) (w1 : Int32) (q1_w1 : (20 : Int) ≤ w1.toInt) (q2_w1 : w1.toInt ≤ (2147483647 : Int))  : Met l yX9_isStep (.code yX9_isStep cX9_isStep 2 (some .boolean) :: lw_g) { frames := 1, cells := 0, slots := 0, locals := 22 } (va_Pc [.int 4, .int w1] (zx_w g σ)) (va_Qi (fun r u => r = 0 ∧ u = σ) (zx_w g) (gx_Q g)) 0 0 (gx_Q g) := by
  refine z_met (by decide) (Nat.le_of_ble_eq_true rfl) (fun p e s m below meth c B hr hin => ?_)
  refine z_eqs (σ' := (ap b σ [] [] [])) rfl ?_
  show zx p l e _ s m _ below meth c g 2 0 0 _ _ 0 [(0, .int 4), (1, .int w1)] []
  refine z_iload_n B dX9_isStep_0 rfl 0 rfl ?_
  refine z_iconst (v := 0) B dX9_isStep_1 (by decide) ?_
  refine z_iconst (v := 5) B dX9_isStep_2 (by decide) ?_
  refine z_cSi (As := [.int 4, .int 0, .int 5]) (rest := []) B cw_X9_96 dX9_isStep_3 (ci_X9_in_272 l (σ := (ap b σ [] [] [])) (b := b) (lyA hK) ) rfl (by decide) rfl (Nat.le_of_ble_eq_true rfl) (by decide) (fun r u hu => ?_)
  refine z_eqs (σ' := (ap b σ [] [] [])) hu.2 ?_
  show zx p l e _ s m _ below meth c g 2 0 0 _ _ 6 [(0, .int 4), (1, .int w1)] _
  refine z_seti (y := 1) hu.1 ?_
  refine z_if_eq (tgt := 23) B dX9_isStep_6 (by decide) (fun h => absurd h (by decide)) (fun _ => ?_)
  refine z_iload_n B dX9_isStep_9 rfl 1 rfl ?_
  refine z_iconst (v := 0) B dX9_isStep_10 (by decide) ?_
  refine z_bipush (v := 19) B dX9_isStep_11 (by decide) ?_
  refine z_cSi (As := [.int w1, .int 0, .int 19]) (rest := []) B cw_X9_96 dX9_isStep_13 (ci_X9_in_113 l (σ := (ap b σ [] [] [])) (b := b) (lyA hK) w1 q1_w1 q2_w1) rfl (by decide) rfl (Nat.le_of_ble_eq_true rfl) (by decide) (fun r u hu => ?_)
  refine z_eqs (σ' := (ap b σ [] [] [])) hu.2 ?_
  show zx p l e _ s m _ below meth c g 2 0 0 _ _ 16 [(0, .int 4), (1, .int w1)] _
  refine z_seti (y := 0) hu.1 ?_
  refine z_if_eq (tgt := 23) B dX9_isStep_16 (by decide) (fun _ => ?_) (fun h => absurd (by decide) h)
  refine z_iconst (v := 0) B dX9_isStep_23 (by decide) ?_
  exact z_zret B hr (by decide) (by decide) (by decide) dX9_isStep_24 ⟨rfl, rfl⟩
set_option maxRecDepth 100000 in
set_option maxHeartbeats 4000000 in
theorem ci_X9_set_311 (l : Launch) {g : gx_T} {σ : sx_T} {b : Nat} (hK : lay b σ) (w1 : Int32) (w2 : Int32) (w3 : Int32) (w4 : Int32) (q1_w1 : (20 : Int) ≤ w1.toInt) (q2_w1 : w1.toInt ≤ (2147483647 : Int)) (q1_w2 : (-2147483648 : Int) ≤ w2.toInt) (q2_w2 : w2.toInt ≤ (-1 : Int))  : Met l yX9_set (.code yX9_set cX9_set 7 (some .int) :: lw_g) { frames := 2, cells := 0, slots := 0, locals := 44 } (va_Pc [.ref (b + 405), .int 4, .int w1, .int w2, .int w3, .int w4] (zx_w g σ)) (va_Qi (fun r u => r = 0 ∧ u = (ap b σ [(405, 0, 1)] [] [])) (zx_w g) (gx_Q g)) 0 0 (gx_Q g) := by
  refine z_met (by decide) (Nat.le_of_ble_eq_true rfl) (fun p e s m below meth c B hr hin => ?_)
  refine z_eqs (σ' := (ap b σ [] [] [])) rfl ?_
  show zx p l e _ s m _ below meth c g 7 0 0 _ _ 0 [(0, .ref (b + 405)), (1, .int 4), (2, .int w1), (3, .int w2), (4, .int w3), (5, .int w4)] []
  refine z_aload_n B dX9_set_0 rfl 0 rfl ?_
  refine z_iload_n B dX9_set_1 rfl 1 rfl ?_
  refine z_iload_n B dX9_set_2 rfl 2 rfl ?_
  refine z_cSi (As := [.int 4, .int w1]) (rest := [.ref (b + 405)]) B cw_X9_238 dX9_set_3 (ci_X9_isStep_310 l (σ := (ap b σ [] [] [])) (b := b) (lyA hK) w1 q1_w1 q2_w1) rfl (by decide) rfl (Nat.le_of_ble_eq_true rfl) (by decide) (fun r u hu => ?_)
  refine z_eqs (σ' := (ap b σ [] [] [])) hu.2 ?_
  show zx p l e _ s m _ below meth c g 7 0 0 _ _ 6 [(0, .ref (b + 405)), (1, .int 4), (2, .int w1), (3, .int w2), (4, .int w3), (5, .int w4)] _
  refine z_seti (y := 0) hu.1 ?_
  refine z_iload_n B dX9_set_6 rfl 3 rfl ?_
  refine z_iload B dX9_set_7 4 rfl ?_
  refine z_iload B dX9_set_9 5 rfl ?_
  refine z_cSi (As := [.int w2, .int w3, .int w4]) (rest := [.int 0, .ref (b + 405)]) B cw_X9_242 dX9_set_11 (ci_X9_isOperation_28 l (σ := (ap b σ [] [] [])) (b := b) (lyA hK) w2 w3 w4 q1_w2 q2_w2) rfl (by decide) rfl (Nat.le_of_ble_eq_true rfl) (by decide) (fun r u hu => ?_)
  refine z_eqs (σ' := (ap b σ [] [] [])) hu.2 ?_
  show zx p l e _ s m _ below meth c g 7 0 0 _ _ 14 [(0, .ref (b + 405)), (1, .int 4), (2, .int w1), (3, .int w2), (4, .int w3), (5, .int w4)] _
  refine z_seti (y := 0) hu.1 ?_
  refine z_cVi (As := [.int 0, .int 0]) (rest := []) B cw_X9_245 cx_10 dX9_set_14 (ci_X9_needs__29 l (σ := (ap b σ [] [] [])) (b := b) (lyA hK) ) (lKA (hk_K hK 405 rfl rfl)) rfl (by decide) rfl (Nat.le_of_ble_eq_true rfl) (by decide) (fun r u hu => ?_)
  refine z_eqs (σ' := (ap b σ [(405, 0, 1)] [] [])) (hu.2.trans ap_ap) ?_
  show zx p l e _ s m _ below meth c g 7 0 0 _ _ 17 [(0, .ref (b + 405)), (1, .int 4), (2, .int w1), (3, .int w2), (4, .int w3), (5, .int w4)] _
  refine z_seti (y := 0) hu.1 ?_
  refine z_if_ne (tgt := 22) B dX9_set_17 (by decide) (fun h => absurd (by decide) h) (fun _ => ?_)
  refine z_iconst (v := 0) B dX9_set_20 (by decide) ?_
  exact z_iret B hr (by decide) (by decide) dX9_set_21 ⟨rfl, rfl⟩
set_option maxRecDepth 100000 in
set_option maxHeartbeats 4000000 in
theorem ci_X9_set_312 (l : Launch) {g : gx_T} {σ : sx_T} {b : Nat} (hK : lay b σ) (w1 : Int32) (w2 : Int32) (w3 : Int32) (w4 : Int32) (q1_w1 : (20 : Int) ≤ w1.toInt) (q2_w1 : w1.toInt ≤ (2147483647 : Int)) (q1_w2 : (0 : Int) ≤ w2.toInt) (q2_w2 : w2.toInt ≤ (17 : Int)) (q1_w3 : (-2147483648 : Int) ≤ w3.toInt) (q2_w3 : w3.toInt ≤ (-1 : Int))  : Met l yX9_set (.code yX9_set cX9_set 7 (some .int) :: lw_g) { frames := 2, cells := 0, slots := 0, locals := 44 } (va_Pc [.ref (b + 405), .int 4, .int w1, .int w2, .int w3, .int w4] (zx_w g σ)) (va_Qi (fun r u => r = 0 ∧ u = (ap b σ [(405, 0, 1)] [] [])) (zx_w g) (gx_Q g)) 0 0 (gx_Q g) := by
  refine z_met (by decide) (Nat.le_of_ble_eq_true rfl) (fun p e s m below meth c B hr hin => ?_)
  refine z_eqs (σ' := (ap b σ [] [] [])) rfl ?_
  show zx p l e _ s m _ below meth c g 7 0 0 _ _ 0 [(0, .ref (b + 405)), (1, .int 4), (2, .int w1), (3, .int w2), (4, .int w3), (5, .int w4)] []
  refine z_aload_n B dX9_set_0 rfl 0 rfl ?_
  refine z_iload_n B dX9_set_1 rfl 1 rfl ?_
  refine z_iload_n B dX9_set_2 rfl 2 rfl ?_
  refine z_cSi (As := [.int 4, .int w1]) (rest := [.ref (b + 405)]) B cw_X9_238 dX9_set_3 (ci_X9_isStep_310 l (σ := (ap b σ [] [] [])) (b := b) (lyA hK) w1 q1_w1 q2_w1) rfl (by decide) rfl (Nat.le_of_ble_eq_true rfl) (by decide) (fun r u hu => ?_)
  refine z_eqs (σ' := (ap b σ [] [] [])) hu.2 ?_
  show zx p l e _ s m _ below meth c g 7 0 0 _ _ 6 [(0, .ref (b + 405)), (1, .int 4), (2, .int w1), (3, .int w2), (4, .int w3), (5, .int w4)] _
  refine z_seti (y := 0) hu.1 ?_
  refine z_iload_n B dX9_set_6 rfl 3 rfl ?_
  refine z_iload B dX9_set_7 4 rfl ?_
  refine z_iload B dX9_set_9 5 rfl ?_
  refine z_cSi (As := [.int w2, .int w3, .int w4]) (rest := [.int 0, .ref (b + 405)]) B cw_X9_242 dX9_set_11 (ci_X9_isOperation_34 l (σ := (ap b σ [] [] [])) (b := b) (lyA hK) w2 w3 w4 q1_w2 q2_w2 q1_w3 q2_w3) rfl (by decide) rfl (Nat.le_of_ble_eq_true rfl) (by decide) (fun r u hu => ?_)
  refine z_eqs (σ' := (ap b σ [] [] [])) hu.2 ?_
  show zx p l e _ s m _ below meth c g 7 0 0 _ _ 14 [(0, .ref (b + 405)), (1, .int 4), (2, .int w1), (3, .int w2), (4, .int w3), (5, .int w4)] _
  refine z_seti (y := 0) hu.1 ?_
  refine z_cVi (As := [.int 0, .int 0]) (rest := []) B cw_X9_245 cx_10 dX9_set_14 (ci_X9_needs__29 l (σ := (ap b σ [] [] [])) (b := b) (lyA hK) ) (lKA (hk_K hK 405 rfl rfl)) rfl (by decide) rfl (Nat.le_of_ble_eq_true rfl) (by decide) (fun r u hu => ?_)
  refine z_eqs (σ' := (ap b σ [(405, 0, 1)] [] [])) (hu.2.trans ap_ap) ?_
  show zx p l e _ s m _ below meth c g 7 0 0 _ _ 17 [(0, .ref (b + 405)), (1, .int 4), (2, .int w1), (3, .int w2), (4, .int w3), (5, .int w4)] _
  refine z_seti (y := 0) hu.1 ?_
  refine z_if_ne (tgt := 22) B dX9_set_17 (by decide) (fun h => absurd (by decide) h) (fun _ => ?_)
  refine z_iconst (v := 0) B dX9_set_20 (by decide) ?_
  exact z_iret B hr (by decide) (by decide) dX9_set_21 ⟨rfl, rfl⟩
set_option maxRecDepth 100000 in
set_option maxHeartbeats 4000000 in
theorem ci_X9_set_313 (l : Launch) {g : gx_T} {σ : sx_T} {b : Nat} (hK : lay b σ) (w1 : Int32) (w2 : Int32) (w3 : Int32) (w4 : Int32) (q1_w1 : (20 : Int) ≤ w1.toInt) (q2_w1 : w1.toInt ≤ (2147483647 : Int)) (q1_w2 : (0 : Int) ≤ w2.toInt) (q2_w2 : w2.toInt ≤ (17 : Int)) (q1_w3 : (0 : Int) ≤ w3.toInt) (q2_w3 : w3.toInt ≤ (99 : Int)) (q1_w4 : (-2147483648 : Int) ≤ w4.toInt) (q2_w4 : w4.toInt ≤ (-1 : Int))  : Met l yX9_set (.code yX9_set cX9_set 7 (some .int) :: lw_g) { frames := 2, cells := 0, slots := 0, locals := 44 } (va_Pc [.ref (b + 405), .int 4, .int w1, .int w2, .int w3, .int w4] (zx_w g σ)) (va_Qi (fun r u => r = 0 ∧ u = (ap b σ [(405, 0, 1)] [] [])) (zx_w g) (gx_Q g)) 0 0 (gx_Q g) := by
  refine z_met (by decide) (Nat.le_of_ble_eq_true rfl) (fun p e s m below meth c B hr hin => ?_)
  refine z_eqs (σ' := (ap b σ [] [] [])) rfl ?_
  show zx p l e _ s m _ below meth c g 7 0 0 _ _ 0 [(0, .ref (b + 405)), (1, .int 4), (2, .int w1), (3, .int w2), (4, .int w3), (5, .int w4)] []
  refine z_aload_n B dX9_set_0 rfl 0 rfl ?_
  refine z_iload_n B dX9_set_1 rfl 1 rfl ?_
  refine z_iload_n B dX9_set_2 rfl 2 rfl ?_
  refine z_cSi (As := [.int 4, .int w1]) (rest := [.ref (b + 405)]) B cw_X9_238 dX9_set_3 (ci_X9_isStep_310 l (σ := (ap b σ [] [] [])) (b := b) (lyA hK) w1 q1_w1 q2_w1) rfl (by decide) rfl (Nat.le_of_ble_eq_true rfl) (by decide) (fun r u hu => ?_)
  refine z_eqs (σ' := (ap b σ [] [] [])) hu.2 ?_
  show zx p l e _ s m _ below meth c g 7 0 0 _ _ 6 [(0, .ref (b + 405)), (1, .int 4), (2, .int w1), (3, .int w2), (4, .int w3), (5, .int w4)] _
  refine z_seti (y := 0) hu.1 ?_
  refine z_iload_n B dX9_set_6 rfl 3 rfl ?_
  refine z_iload B dX9_set_7 4 rfl ?_
  refine z_iload B dX9_set_9 5 rfl ?_
  refine z_cSi (As := [.int w2, .int w3, .int w4]) (rest := [.int 0, .ref (b + 405)]) B cw_X9_242 dX9_set_11 (ci_X9_isOperation_37 l (σ := (ap b σ [] [] [])) (b := b) (lyA hK) w2 w3 w4 q1_w2 q2_w2 q1_w3 q2_w3 q1_w4 q2_w4) rfl (by decide) rfl (Nat.le_of_ble_eq_true rfl) (by decide) (fun r u hu => ?_)
  refine z_eqs (σ' := (ap b σ [] [] [])) hu.2 ?_
  show zx p l e _ s m _ below meth c g 7 0 0 _ _ 14 [(0, .ref (b + 405)), (1, .int 4), (2, .int w1), (3, .int w2), (4, .int w3), (5, .int w4)] _
  refine z_seti (y := 0) hu.1 ?_
  refine z_cVi (As := [.int 0, .int 0]) (rest := []) B cw_X9_245 cx_10 dX9_set_14 (ci_X9_needs__29 l (σ := (ap b σ [] [] [])) (b := b) (lyA hK) ) (lKA (hk_K hK 405 rfl rfl)) rfl (by decide) rfl (Nat.le_of_ble_eq_true rfl) (by decide) (fun r u hu => ?_)
  refine z_eqs (σ' := (ap b σ [(405, 0, 1)] [] [])) (hu.2.trans ap_ap) ?_
  show zx p l e _ s m _ below meth c g 7 0 0 _ _ 17 [(0, .ref (b + 405)), (1, .int 4), (2, .int w1), (3, .int w2), (4, .int w3), (5, .int w4)] _
  refine z_seti (y := 0) hu.1 ?_
  refine z_if_ne (tgt := 22) B dX9_set_17 (by decide) (fun h => absurd (by decide) h) (fun _ => ?_)
  refine z_iconst (v := 0) B dX9_set_20 (by decide) ?_
  exact z_iret B hr (by decide) (by decide) dX9_set_21 ⟨rfl, rfl⟩
set_option maxRecDepth 100000 in
set_option maxHeartbeats 4000000 in
theorem ci_X9_set_314 (l : Launch) {g : gx_T} {σ : sx_T} {b : Nat} (hK : lay b σ) (w1 : Int32) (w2 : Int32) (w3 : Int32) (w4 : Int32) (q1_w1 : (20 : Int) ≤ w1.toInt) (q2_w1 : w1.toInt ≤ (2147483647 : Int)) (q1_w2 : (0 : Int) ≤ w2.toInt) (q2_w2 : w2.toInt ≤ (17 : Int)) (q1_w3 : (0 : Int) ≤ w3.toInt) (q2_w3 : w3.toInt ≤ (99 : Int)) (q1_w4 : (0 : Int) ≤ w4.toInt) (q2_w4 : w4.toInt ≤ (99 : Int))  : Met l yX9_set (.code yX9_set cX9_set 7 (some .int) :: lw_g) { frames := 2, cells := 0, slots := 0, locals := 44 } (va_Pc [.ref (b + 405), .int 4, .int w1, .int w2, .int w3, .int w4] (zx_w g σ)) (va_Qi (fun r u => r = 0 ∧ u = (ap b σ [(405, 0, 1)] [] [])) (zx_w g) (gx_Q g)) 0 0 (gx_Q g) := by
  refine z_met (by decide) (Nat.le_of_ble_eq_true rfl) (fun p e s m below meth c B hr hin => ?_)
  refine z_eqs (σ' := (ap b σ [] [] [])) rfl ?_
  show zx p l e _ s m _ below meth c g 7 0 0 _ _ 0 [(0, .ref (b + 405)), (1, .int 4), (2, .int w1), (3, .int w2), (4, .int w3), (5, .int w4)] []
  refine z_aload_n B dX9_set_0 rfl 0 rfl ?_
  refine z_iload_n B dX9_set_1 rfl 1 rfl ?_
  refine z_iload_n B dX9_set_2 rfl 2 rfl ?_
  refine z_cSi (As := [.int 4, .int w1]) (rest := [.ref (b + 405)]) B cw_X9_238 dX9_set_3 (ci_X9_isStep_310 l (σ := (ap b σ [] [] [])) (b := b) (lyA hK) w1 q1_w1 q2_w1) rfl (by decide) rfl (Nat.le_of_ble_eq_true rfl) (by decide) (fun r u hu => ?_)
  refine z_eqs (σ' := (ap b σ [] [] [])) hu.2 ?_
  show zx p l e _ s m _ below meth c g 7 0 0 _ _ 6 [(0, .ref (b + 405)), (1, .int 4), (2, .int w1), (3, .int w2), (4, .int w3), (5, .int w4)] _
  refine z_seti (y := 0) hu.1 ?_
  refine z_iload_n B dX9_set_6 rfl 3 rfl ?_
  refine z_iload B dX9_set_7 4 rfl ?_
  refine z_iload B dX9_set_9 5 rfl ?_
  refine z_cSi (As := [.int w2, .int w3, .int w4]) (rest := [.int 0, .ref (b + 405)]) B cw_X9_242 dX9_set_11 (ci_X9_isOperation_39 l (σ := (ap b σ [] [] [])) (b := b) (lyA hK) w2 w3 w4 q1_w2 q2_w2 q1_w3 q2_w3 q1_w4 q2_w4) rfl (by decide) rfl (Nat.le_of_ble_eq_true rfl) (by decide) (fun r u hu => ?_)
  refine z_eqs (σ' := (ap b σ [] [] [])) hu.2 ?_
  show zx p l e _ s m _ below meth c g 7 0 0 _ _ 14 [(0, .ref (b + 405)), (1, .int 4), (2, .int w1), (3, .int w2), (4, .int w3), (5, .int w4)] _
  refine z_seti (y := 1) hu.1 ?_
  refine z_cVi (As := [.int 0, .int 1]) (rest := []) B cw_X9_245 cx_10 dX9_set_14 (ci_X9_needs__40 l (σ := (ap b σ [] [] [])) (b := b) (lyA hK) ) (lKA (hk_K hK 405 rfl rfl)) rfl (by decide) rfl (Nat.le_of_ble_eq_true rfl) (by decide) (fun r u hu => ?_)
  refine z_eqs (σ' := (ap b σ [(405, 0, 1)] [] [])) (hu.2.trans ap_ap) ?_
  show zx p l e _ s m _ below meth c g 7 0 0 _ _ 17 [(0, .ref (b + 405)), (1, .int 4), (2, .int w1), (3, .int w2), (4, .int w3), (5, .int w4)] _
  refine z_seti (y := 0) hu.1 ?_
  refine z_if_ne (tgt := 22) B dX9_set_17 (by decide) (fun h => absurd (by decide) h) (fun _ => ?_)
  refine z_iconst (v := 0) B dX9_set_20 (by decide) ?_
  exact z_iret B hr (by decide) (by decide) dX9_set_21 ⟨rfl, rfl⟩
set_option maxRecDepth 100000 in
set_option maxHeartbeats 4000000 in
theorem ci_X9_set_315 (l : Launch) {g : gx_T} {σ : sx_T} {b : Nat} (hK : lay b σ) (w1 : Int32) (w2 : Int32) (w3 : Int32) (w4 : Int32) (q1_w1 : (20 : Int) ≤ w1.toInt) (q2_w1 : w1.toInt ≤ (2147483647 : Int)) (q1_w2 : (0 : Int) ≤ w2.toInt) (q2_w2 : w2.toInt ≤ (17 : Int)) (q1_w3 : (0 : Int) ≤ w3.toInt) (q2_w3 : w3.toInt ≤ (99 : Int)) (q1_w4 : (100 : Int) ≤ w4.toInt) (q2_w4 : w4.toInt ≤ (2147483647 : Int))  : Met l yX9_set (.code yX9_set cX9_set 7 (some .int) :: lw_g) { frames := 2, cells := 0, slots := 0, locals := 44 } (va_Pc [.ref (b + 405), .int 4, .int w1, .int w2, .int w3, .int w4] (zx_w g σ)) (va_Qi (fun r u => r = 0 ∧ u = (ap b σ [(405, 0, 1)] [] [])) (zx_w g) (gx_Q g)) 0 0 (gx_Q g) := by
  refine z_met (by decide) (Nat.le_of_ble_eq_true rfl) (fun p e s m below meth c B hr hin => ?_)
  refine z_eqs (σ' := (ap b σ [] [] [])) rfl ?_
  show zx p l e _ s m _ below meth c g 7 0 0 _ _ 0 [(0, .ref (b + 405)), (1, .int 4), (2, .int w1), (3, .int w2), (4, .int w3), (5, .int w4)] []
  refine z_aload_n B dX9_set_0 rfl 0 rfl ?_
  refine z_iload_n B dX9_set_1 rfl 1 rfl ?_
  refine z_iload_n B dX9_set_2 rfl 2 rfl ?_
  refine z_cSi (As := [.int 4, .int w1]) (rest := [.ref (b + 405)]) B cw_X9_238 dX9_set_3 (ci_X9_isStep_310 l (σ := (ap b σ [] [] [])) (b := b) (lyA hK) w1 q1_w1 q2_w1) rfl (by decide) rfl (Nat.le_of_ble_eq_true rfl) (by decide) (fun r u hu => ?_)
  refine z_eqs (σ' := (ap b σ [] [] [])) hu.2 ?_
  show zx p l e _ s m _ below meth c g 7 0 0 _ _ 6 [(0, .ref (b + 405)), (1, .int 4), (2, .int w1), (3, .int w2), (4, .int w3), (5, .int w4)] _
  refine z_seti (y := 0) hu.1 ?_
  refine z_iload_n B dX9_set_6 rfl 3 rfl ?_
  refine z_iload B dX9_set_7 4 rfl ?_
  refine z_iload B dX9_set_9 5 rfl ?_
  refine z_cSi (As := [.int w2, .int w3, .int w4]) (rest := [.int 0, .ref (b + 405)]) B cw_X9_242 dX9_set_11 (ci_X9_isOperation_43 l (σ := (ap b σ [] [] [])) (b := b) (lyA hK) w2 w3 w4 q1_w2 q2_w2 q1_w3 q2_w3 q1_w4 q2_w4) rfl (by decide) rfl (Nat.le_of_ble_eq_true rfl) (by decide) (fun r u hu => ?_)
  refine z_eqs (σ' := (ap b σ [] [] [])) hu.2 ?_
  show zx p l e _ s m _ below meth c g 7 0 0 _ _ 14 [(0, .ref (b + 405)), (1, .int 4), (2, .int w1), (3, .int w2), (4, .int w3), (5, .int w4)] _
  refine z_seti (y := 0) hu.1 ?_
  refine z_cVi (As := [.int 0, .int 0]) (rest := []) B cw_X9_245 cx_10 dX9_set_14 (ci_X9_needs__29 l (σ := (ap b σ [] [] [])) (b := b) (lyA hK) ) (lKA (hk_K hK 405 rfl rfl)) rfl (by decide) rfl (Nat.le_of_ble_eq_true rfl) (by decide) (fun r u hu => ?_)
  refine z_eqs (σ' := (ap b σ [(405, 0, 1)] [] [])) (hu.2.trans ap_ap) ?_
  show zx p l e _ s m _ below meth c g 7 0 0 _ _ 17 [(0, .ref (b + 405)), (1, .int 4), (2, .int w1), (3, .int w2), (4, .int w3), (5, .int w4)] _
  refine z_seti (y := 0) hu.1 ?_
  refine z_if_ne (tgt := 22) B dX9_set_17 (by decide) (fun h => absurd (by decide) h) (fun _ => ?_)
  refine z_iconst (v := 0) B dX9_set_20 (by decide) ?_
  exact z_iret B hr (by decide) (by decide) dX9_set_21 ⟨rfl, rfl⟩
set_option maxRecDepth 100000 in
set_option maxHeartbeats 4000000 in
theorem ci_X9_set_316 (l : Launch) {g : gx_T} {σ : sx_T} {b : Nat} (hK : lay b σ) (w1 : Int32) (w2 : Int32) (w3 : Int32) (w4 : Int32) (q1_w1 : (20 : Int) ≤ w1.toInt) (q2_w1 : w1.toInt ≤ (2147483647 : Int)) (q1_w2 : (0 : Int) ≤ w2.toInt) (q2_w2 : w2.toInt ≤ (17 : Int)) (q1_w3 : (100 : Int) ≤ w3.toInt) (q2_w3 : w3.toInt ≤ (2147483647 : Int))  : Met l yX9_set (.code yX9_set cX9_set 7 (some .int) :: lw_g) { frames := 2, cells := 0, slots := 0, locals := 44 } (va_Pc [.ref (b + 405), .int 4, .int w1, .int w2, .int w3, .int w4] (zx_w g σ)) (va_Qi (fun r u => r = 0 ∧ u = (ap b σ [(405, 0, 1)] [] [])) (zx_w g) (gx_Q g)) 0 0 (gx_Q g) := by
  refine z_met (by decide) (Nat.le_of_ble_eq_true rfl) (fun p e s m below meth c B hr hin => ?_)
  refine z_eqs (σ' := (ap b σ [] [] [])) rfl ?_
  show zx p l e _ s m _ below meth c g 7 0 0 _ _ 0 [(0, .ref (b + 405)), (1, .int 4), (2, .int w1), (3, .int w2), (4, .int w3), (5, .int w4)] []
  refine z_aload_n B dX9_set_0 rfl 0 rfl ?_
  refine z_iload_n B dX9_set_1 rfl 1 rfl ?_
  refine z_iload_n B dX9_set_2 rfl 2 rfl ?_
  refine z_cSi (As := [.int 4, .int w1]) (rest := [.ref (b + 405)]) B cw_X9_238 dX9_set_3 (ci_X9_isStep_310 l (σ := (ap b σ [] [] [])) (b := b) (lyA hK) w1 q1_w1 q2_w1) rfl (by decide) rfl (Nat.le_of_ble_eq_true rfl) (by decide) (fun r u hu => ?_)
  refine z_eqs (σ' := (ap b σ [] [] [])) hu.2 ?_
  show zx p l e _ s m _ below meth c g 7 0 0 _ _ 6 [(0, .ref (b + 405)), (1, .int 4), (2, .int w1), (3, .int w2), (4, .int w3), (5, .int w4)] _
  refine z_seti (y := 0) hu.1 ?_
  refine z_iload_n B dX9_set_6 rfl 3 rfl ?_
  refine z_iload B dX9_set_7 4 rfl ?_
  refine z_iload B dX9_set_9 5 rfl ?_
  refine z_cSi (As := [.int w2, .int w3, .int w4]) (rest := [.int 0, .ref (b + 405)]) B cw_X9_242 dX9_set_11 (ci_X9_isOperation_45 l (σ := (ap b σ [] [] [])) (b := b) (lyA hK) w2 w3 w4 q1_w2 q2_w2 q1_w3 q2_w3) rfl (by decide) rfl (Nat.le_of_ble_eq_true rfl) (by decide) (fun r u hu => ?_)
  refine z_eqs (σ' := (ap b σ [] [] [])) hu.2 ?_
  show zx p l e _ s m _ below meth c g 7 0 0 _ _ 14 [(0, .ref (b + 405)), (1, .int 4), (2, .int w1), (3, .int w2), (4, .int w3), (5, .int w4)] _
  refine z_seti (y := 0) hu.1 ?_
  refine z_cVi (As := [.int 0, .int 0]) (rest := []) B cw_X9_245 cx_10 dX9_set_14 (ci_X9_needs__29 l (σ := (ap b σ [] [] [])) (b := b) (lyA hK) ) (lKA (hk_K hK 405 rfl rfl)) rfl (by decide) rfl (Nat.le_of_ble_eq_true rfl) (by decide) (fun r u hu => ?_)
  refine z_eqs (σ' := (ap b σ [(405, 0, 1)] [] [])) (hu.2.trans ap_ap) ?_
  show zx p l e _ s m _ below meth c g 7 0 0 _ _ 17 [(0, .ref (b + 405)), (1, .int 4), (2, .int w1), (3, .int w2), (4, .int w3), (5, .int w4)] _
  refine z_seti (y := 0) hu.1 ?_
  refine z_if_ne (tgt := 22) B dX9_set_17 (by decide) (fun h => absurd (by decide) h) (fun _ => ?_)
  refine z_iconst (v := 0) B dX9_set_20 (by decide) ?_
  exact z_iret B hr (by decide) (by decide) dX9_set_21 ⟨rfl, rfl⟩
set_option maxRecDepth 100000 in
set_option maxHeartbeats 4000000 in
theorem ci_X9_set_317 (l : Launch) {g : gx_T} {σ : sx_T} {b : Nat} (hK : lay b σ) (w1 : Int32) (w2 : Int32) (w3 : Int32) (w4 : Int32) (q1_w1 : (20 : Int) ≤ w1.toInt) (q2_w1 : w1.toInt ≤ (2147483647 : Int)) (q1_w2 : (18 : Int) ≤ w2.toInt) (q2_w2 : w2.toInt ≤ (2147483647 : Int))  : Met l yX9_set (.code yX9_set cX9_set 7 (some .int) :: lw_g) { frames := 2, cells := 0, slots := 0, locals := 44 } (va_Pc [.ref (b + 405), .int 4, .int w1, .int w2, .int w3, .int w4] (zx_w g σ)) (va_Qi (fun r u => r = 0 ∧ u = (ap b σ [(405, 0, 1)] [] [])) (zx_w g) (gx_Q g)) 0 0 (gx_Q g) := by
  refine z_met (by decide) (Nat.le_of_ble_eq_true rfl) (fun p e s m below meth c B hr hin => ?_)
  refine z_eqs (σ' := (ap b σ [] [] [])) rfl ?_
  show zx p l e _ s m _ below meth c g 7 0 0 _ _ 0 [(0, .ref (b + 405)), (1, .int 4), (2, .int w1), (3, .int w2), (4, .int w3), (5, .int w4)] []
  refine z_aload_n B dX9_set_0 rfl 0 rfl ?_
  refine z_iload_n B dX9_set_1 rfl 1 rfl ?_
  refine z_iload_n B dX9_set_2 rfl 2 rfl ?_
  refine z_cSi (As := [.int 4, .int w1]) (rest := [.ref (b + 405)]) B cw_X9_238 dX9_set_3 (ci_X9_isStep_310 l (σ := (ap b σ [] [] [])) (b := b) (lyA hK) w1 q1_w1 q2_w1) rfl (by decide) rfl (Nat.le_of_ble_eq_true rfl) (by decide) (fun r u hu => ?_)
  refine z_eqs (σ' := (ap b σ [] [] [])) hu.2 ?_
  show zx p l e _ s m _ below meth c g 7 0 0 _ _ 6 [(0, .ref (b + 405)), (1, .int 4), (2, .int w1), (3, .int w2), (4, .int w3), (5, .int w4)] _
  refine z_seti (y := 0) hu.1 ?_
  refine z_iload_n B dX9_set_6 rfl 3 rfl ?_
  refine z_iload B dX9_set_7 4 rfl ?_
  refine z_iload B dX9_set_9 5 rfl ?_
  refine z_cSi (As := [.int w2, .int w3, .int w4]) (rest := [.int 0, .ref (b + 405)]) B cw_X9_242 dX9_set_11 (ci_X9_isOperation_48 l (σ := (ap b σ [] [] [])) (b := b) (lyA hK) w2 w3 w4 q1_w2 q2_w2) rfl (by decide) rfl (Nat.le_of_ble_eq_true rfl) (by decide) (fun r u hu => ?_)
  refine z_eqs (σ' := (ap b σ [] [] [])) hu.2 ?_
  show zx p l e _ s m _ below meth c g 7 0 0 _ _ 14 [(0, .ref (b + 405)), (1, .int 4), (2, .int w1), (3, .int w2), (4, .int w3), (5, .int w4)] _
  refine z_seti (y := 0) hu.1 ?_
  refine z_cVi (As := [.int 0, .int 0]) (rest := []) B cw_X9_245 cx_10 dX9_set_14 (ci_X9_needs__29 l (σ := (ap b σ [] [] [])) (b := b) (lyA hK) ) (lKA (hk_K hK 405 rfl rfl)) rfl (by decide) rfl (Nat.le_of_ble_eq_true rfl) (by decide) (fun r u hu => ?_)
  refine z_eqs (σ' := (ap b σ [(405, 0, 1)] [] [])) (hu.2.trans ap_ap) ?_
  show zx p l e _ s m _ below meth c g 7 0 0 _ _ 17 [(0, .ref (b + 405)), (1, .int 4), (2, .int w1), (3, .int w2), (4, .int w3), (5, .int w4)] _
  refine z_seti (y := 0) hu.1 ?_
  refine z_if_ne (tgt := 22) B dX9_set_17 (by decide) (fun h => absurd (by decide) h) (fun _ => ?_)
  refine z_iconst (v := 0) B dX9_set_20 (by decide) ?_
  exact z_iret B hr (by decide) (by decide) dX9_set_21 ⟨rfl, rfl⟩
set_option maxRecDepth 100000 in
set_option maxHeartbeats 4000000 in
theorem ci_X8_programAt_318 (l : Launch) {g : gx_T} {σ : sx_T} {b : Nat} (hK : lay b σ)   (hR_0_0 : sx_R σ (b + 0) 0 = (some (b + 1))) (hR_1_5 : sx_R σ (b + 1) 5 = (some (b + 29))) : Met l yX8_programAt (.code yX8_programAt cX8_programAt 2 (some (.object "Loomkeeper$Program")) :: lw_g) { frames := 0, cells := 0, slots := 0, locals := 0 } (va_Pc [.ref (b + 0), .int 5] (zx_w g σ)) (va_Qq (fun r u => r = (some (b + 29)) ∧ u = σ) (zx_w g) (gx_Q g)) 0 0 (gx_Q g) := by
  refine z_met (by decide) (Nat.le_of_ble_eq_true rfl) (fun p e s m below meth c B hr hin => ?_)
  refine z_eqs (σ' := (ap b σ [] [] [])) rfl ?_
  show zx p l e _ s m _ below meth c g 2 0 0 _ _ 0 [(0, .ref (b + 0)), (1, .int 5)] []
  refine z_iload_n B dX8_programAt_0 rfl 1 rfl ?_
  refine z_if_lt (tgt := 22) B dX8_programAt_1 (by decide) (fun h => absurd h (by decide)) (fun _ => ?_)
  refine z_iload_n B dX8_programAt_4 rfl 1 rfl ?_
  refine z_aload_n B dX8_programAt_5 rfl 0 rfl ?_
  refine gf_X8_11 (x := (some (b + 1))) B (lKA (hk_K hK 0 rfl rfl)) (rR_at 0 0 hR_0_0) dX8_programAt_6 ?_
  refine z_alen (kd := 16) (ti := 4) (v := 6) B (lKA (hk_K hK 1 rfl rfl)) (by decide) rfl (congrArg Int32.ofNat (lNA (hk_N hK 1 rfl rfl))) dX8_programAt_9 ?_
  refine z_icmp_ge (tgt := 22) B dX8_programAt_10 (by decide) (fun h => absurd h (by decide)) (fun _ => ?_)
  refine z_aload_n B dX8_programAt_13 rfl 0 rfl ?_
  refine gf_X8_11 (x := (some (b + 1))) B (lKA (hk_K hK 0 rfl rfl)) (rR_at 0 0 hR_0_0) dX8_programAt_14 ?_
  refine z_iload_n B dX8_programAt_17 rfl 1 rfl ?_
  refine z_qald (j := 5) (kd := 16) (ti := 4) (r := (some (b + 29))) B (lKA (hk_K hK 1 rfl rfl)) (by decide) rfl (by decide) (in_of (lNA (hk_N hK 1 rfl rfl)) (show ¬ ((5 : Int32) < 0 ∨ 6 ≤ (5 : Int32).toNatClampNeg) by decide)) (rR_at 1 5 hR_1_5) dX8_programAt_18 ?_
  refine z_goto (tgt := 23) B dX8_programAt_19 (by decide) ?_
  exact z_qret (r := (some (b + 29))) B hr (by decide) (by decide) dX8_programAt_23 ⟨rfl, rfl⟩
set_option maxRecDepth 100000 in
set_option maxHeartbeats 4000000 in
theorem ci_X8_set_319 (l : Launch) (hlt : l.stackTraces = false) {g : gx_T} {σ : sx_T} {b : Nat} (hK : lay b σ) (w1 : Int32) (w2 : Int32) (w3 : Int32) (w4 : Int32) (q1_w1 : (-2147483648 : Int) ≤ w1.toInt) (q2_w1 : w1.toInt ≤ (-1 : Int)) (hR_0_0 : sx_R σ (b + 0) 0 = (some (b + 1))) (hR_1_5 : sx_R σ (b + 1) 5 = (some (b + 29))) : vx_Met l yX8_set (.code yX8_set cX8_set 9 (some .int) :: lw_g) { frames := 7, cells := 1, slots := 6, locals := 136 } (va_Pc [.ref (b + 0), .int 5, .int w1, .int w2, .int w3, .int w4] (zx_w g σ)) (va_Qi (S := sx_T) (fun _ _ => False) (zx_w g) (gx_Q g)) (vx_X (fun u : sx_T => ∃ z, u = wx_Z σ z) (fun E u t => E = "java/lang/IndexOutOfBoundsException" ∧ zx_h g u t.heap) (gx_Q g)) 1 6 (gx_Q g) := by
  refine z_metX (by decide) (Nat.le_of_ble_eq_true rfl) (fun p e s m below meth c B hr hin hout => ?_)
  refine z_eqs (σ' := (ap b σ [] [] [])) rfl ?_
  show zx p l e _ s m _ below meth c g 9 0 0 _ _ 0 [(0, .ref (b + 0)), (1, .int 5), (2, .int w1), (3, .int w2), (4, .int w3), (5, .int w4)] []
  refine z_aload_n B dX8_set_0 rfl 0 rfl ?_
  refine z_iload_n B dX8_set_1 rfl 1 rfl ?_
  refine z_cVq (As := [.int 5]) (rest := []) B cw_X8_64 cx_9 dX8_set_2 (ci_X8_programAt_318 l (σ := (ap b σ [] [] [])) (b := b) (lyA hK) (rR_at 0 0 hR_0_0) (rR_at 1 5 hR_1_5)) (lKA (hk_K hK 0 rfl rfl)) rfl (by decide) rfl (Nat.le_of_ble_eq_true rfl) (by decide) (fun r u hu => ?_)
  refine z_eqs (σ' := (ap b σ [] [] [])) hu.2 ?_
  show zx p l e _ s m _ below meth c g 9 0 0 _ _ 5 [(0, .ref (b + 0)), (1, .int 5), (2, .int w1), (3, .int w2), (4, .int w3), (5, .int w4)] _
  refine z_setr (y := (some (b + 29))) hu.1 ?_
  refine z_astore (lv' := [(6, .ref (b + 29)), (0, .ref (b + 0)), (1, .int 5), (2, .int w1), (3, .int w2), (4, .int w3), (5, .int w4)]) B dX8_set_5 (by decide) rfl ?_
  refine z_aload B dX8_set_7 0 rfl ?_
  refine z_ifnull (r := (some (b + 29))) (tgt := 21) B dX8_set_9 (by decide) (fun h => nomatch h) (fun _ _ => ?_)
  refine z_iload_n B dX8_set_12 rfl 3 rfl ?_
  refine z_bipush (v := 20) B dX8_set_13 (by decide) ?_
  refine z_cSi (As := [.int w1, .int 20]) (rest := []) B cw_X8_68 dX8_set_15 (ci_X8_isBelow_51 l (σ := (ap b σ [] [] [])) (b := b) (lyA hK) w1 q1_w1 q2_w1) rfl (by decide) rfl (Nat.le_of_ble_eq_true rfl) (by decide) (fun r u hu => ?_)
  refine z_eqs (σ' := (ap b σ [] [] [])) hu.2 ?_
  show zx p l e _ s m _ below meth c g 9 0 0 _ _ 18 [(6, .ref (b + 29)), (0, .ref (b + 0)), (1, .int 5), (2, .int w1), (3, .int w2), (4, .int w3), (5, .int w4)] _
  refine z_seti (y := 0) hu.1 ?_
  refine z_if_ne (tgt := 31) B dX8_set_18 (by decide) (fun h => absurd (by decide) h) (fun _ => ?_)
  exact z_throw B hlt hout (cls := "java/lang/IndexOutOfBoundsException") (text := "no such step") tw_X8_72_74_76 dX8_set_21 dX8_set_24 dX8_set_25 dX8_set_27 dX8_set_30 (by decide) (by decide) (by decide) (by decide) (by decide) (by decide) (fun z => ⟨z, rfl⟩)
set_option maxRecDepth 100000 in
set_option maxHeartbeats 4000000 in
theorem ci_L_set_320 (l : Launch) (hlt : l.stackTraces = false) {g : gx_T} {σ : sx_T} {b : Nat} (hK : lay b σ) (w1 : Int32) (w2 : Int32) (w3 : Int32) (w4 : Int32) (q1_w1 : (-2147483648 : Int) ≤ w1.toInt) (q2_w1 : w1.toInt ≤ (-1 : Int)) (hR_0_0 : sx_R σ (b + 0) 0 = (some (b + 1))) (hR_1_5 : sx_R σ (b + 1) 5 = (some (b + 29))) : Met l yL_set (.codeWith yL_set cL_set 8 (some .int) [(0, 16, 19, 13), (0, 16, 23, 15)] :: lw_g) { frames := 8, cells := 1, slots := 6, locals := 164 } (va_Pc [.ref (b + 0), .int 5, .int w1, .int w2, .int w3, .int w4, .ref (b + 431)] (zx_w g σ)) (va_Qi (fun r u => r = 1 ∧ ∃ z, u = (ap b (wx_Z σ z) [] [] [])) (zx_w g) (gx_Q g)) 1 6 (gx_Q g) := by
  refine z_metW (by decide) (Nat.le_of_ble_eq_true rfl) (fun p e s m below meth c B hr htab => ?_)
  refine z_eqs (σ' := (ap b σ [] [] [])) rfl ?_
  show zx p l e _ s m _ below meth c g 8 0 0 _ _ 0 [(0, .ref (b + 0)), (1, .int 5), (2, .int w1), (3, .int w2), (4, .int w3), (5, .int w4), (6, .ref (b + 431))] []
  refine z_aload B dL_set_0 6 rfl ?_
  refine z_iconst (v := 0) B dL_set_2 (by decide) ?_
  refine z_aload_n B dL_set_3 rfl 0 rfl ?_
  refine z_iload_n B dL_set_4 rfl 1 rfl ?_
  refine z_iload_n B dL_set_5 rfl 2 rfl ?_
  refine z_iload_n B dL_set_6 rfl 3 rfl ?_
  refine z_iload B dL_set_7 4 rfl ?_
  refine z_iload B dL_set_9 5 rfl ?_
  refine z_cXi (As := [.int 5, .int w1, .int w2, .int w3, .int w4]) (rest := [.int 0, .ref (b + 431)]) B htab tc_set_11_IndexOutOfBoundsException cw_L_7 cx_9 dL_set_11 (ci_X8_set_319 l hlt (σ := (ap b σ [] [] [])) (b := b) (lyA hK) w1 w2 w3 w4 q1_w1 q2_w1 (rR_at 0 0 hR_0_0) (rR_at 1 5 hR_1_5)) (lKA (hk_K hK 0 rfl rfl)) rfl (by decide) rfl (Nat.le_of_ble_eq_true rfl) (by decide) (fun z q => ?_)
  refine z_eqs (σ' := (ap b (wx_Z σ z) [] [] [])) rfl ?_
  show zx p l e _ s m _ below meth c g 8 _ _ _ _ 19 [(0, .ref (b + 0)), (1, .int 5), (2, .int w1), (3, .int w2), (4, .int w3), (5, .int w4), (6, .ref (b + 431))] _
  refine z_astore (lv' := [(7, .ref q), (0, .ref (b + 0)), (1, .int 5), (2, .int w1), (3, .int w2), (4, .int w3), (5, .int w4), (6, .ref (b + 431))]) B dL_set_19 (by decide) rfl ?_
  refine z_iconst (v := 1) B dL_set_21 (by decide) ?_
  exact z_iret B hr (by decide) (by decide) dL_set_22 ⟨rfl, _, rfl⟩
set_option maxRecDepth 100000 in
set_option maxHeartbeats 4000000 in
theorem ci_X9_in_321 (l : Launch) {g : gx_T} {σ : sx_T} {b : Nat} (hK : lay b σ)    : Met l yX9_in (.code yX9_in cX9_in 3 (some .boolean) :: lw_g) { frames := 0, cells := 0, slots := 0, locals := 0 } (va_Pc [.int 5, .int 0, .int 5] (zx_w g σ)) (va_Qi (fun r u => r = 1 ∧ u = σ) (zx_w g) (gx_Q g)) 0 0 (gx_Q g) := by
  refine z_met (by decide) (Nat.le_of_ble_eq_true rfl) (fun p e s m below meth c B hr hin => ?_)
  refine z_eqs (σ' := (ap b σ [] [] [])) rfl ?_
  show zx p l e _ s m _ below meth c g 3 0 0 _ _ 0 [(0, .int 5), (1, .int 0), (2, .int 5)] []
  refine z_iload_n B dX9_in_0 rfl 0 rfl ?_
  refine z_iload_n B dX9_in_1 rfl 1 rfl ?_
  refine z_icmp_lt (tgt := 14) B dX9_in_2 (by decide) (fun h => absurd h (by decide)) (fun _ => ?_)
  refine z_iload_n B dX9_in_5 rfl 0 rfl ?_
  refine z_iload_n B dX9_in_6 rfl 2 rfl ?_
  refine z_icmp_gt (tgt := 14) B dX9_in_7 (by decide) (fun h => absurd h (by decide)) (fun _ => ?_)
  refine z_iconst (v := 1) B dX9_in_10 (by decide) ?_
  refine z_goto (tgt := 15) B dX9_in_11 (by decide) ?_
  exact z_zret B hr (by decide) (by decide) (by decide) dX9_in_15 ⟨rfl, rfl⟩
set_option maxRecDepth 100000 in
set_option maxHeartbeats 4000000 in
theorem ci_X9_isStep_322 (l : Launch) {g : gx_T} {σ : sx_T} {b : Nat} (hK : lay b σ) (w1 : Int32) (q1_w1 : (-2147483648 : Int) ≤ w1.toInt) (q2_w1 : w1.toInt ≤ (-1 : Int))  : Met l yX9_isStep (.code yX9_isStep cX9_isStep 2 (some .boolean) :: lw_g) { frames := 1, cells := 0, slots := 0, locals := 22 } (va_Pc [.int 5, .int w1] (zx_w g σ)) (va_Qi (fun r u => r = 0 ∧ u = σ) (zx_w g) (gx_Q g)) 0 0 (gx_Q g) := by
  refine z_met (by decide) (Nat.le_of_ble_eq_true rfl) (fun p e s m below meth c B hr hin => ?_)
  refine z_eqs (σ' := (ap b σ [] [] [])) rfl ?_
  show zx p l e _ s m _ below meth c g 2 0 0 _ _ 0 [(0, .int 5), (1, .int w1)] []
  refine z_iload_n B dX9_isStep_0 rfl 0 rfl ?_
  refine z_iconst (v := 0) B dX9_isStep_1 (by decide) ?_
  refine z_iconst (v := 5) B dX9_isStep_2 (by decide) ?_
  refine z_cSi (As := [.int 5, .int 0, .int 5]) (rest := []) B cw_X9_96 dX9_isStep_3 (ci_X9_in_321 l (σ := (ap b σ [] [] [])) (b := b) (lyA hK) ) rfl (by decide) rfl (Nat.le_of_ble_eq_true rfl) (by decide) (fun r u hu => ?_)
  refine z_eqs (σ' := (ap b σ [] [] [])) hu.2 ?_
  show zx p l e _ s m _ below meth c g 2 0 0 _ _ 6 [(0, .int 5), (1, .int w1)] _
  refine z_seti (y := 1) hu.1 ?_
  refine z_if_eq (tgt := 23) B dX9_isStep_6 (by decide) (fun h => absurd h (by decide)) (fun _ => ?_)
  refine z_iload_n B dX9_isStep_9 rfl 1 rfl ?_
  refine z_iconst (v := 0) B dX9_isStep_10 (by decide) ?_
  refine z_bipush (v := 19) B dX9_isStep_11 (by decide) ?_
  refine z_cSi (As := [.int w1, .int 0, .int 19]) (rest := []) B cw_X9_96 dX9_isStep_13 (ci_X9_in_55 l (σ := (ap b σ [] [] [])) (b := b) (lyA hK) w1 q1_w1 q2_w1) rfl (by decide) rfl (Nat.le_of_ble_eq_true rfl) (by decide) (fun r u hu => ?_)
  refine z_eqs (σ' := (ap b σ [] [] [])) hu.2 ?_
  show zx p l e _ s m _ below meth c g 2 0 0 _ _ 16 [(0, .int 5), (1, .int w1)] _
  refine z_seti (y := 0) hu.1 ?_
  refine z_if_eq (tgt := 23) B dX9_isStep_16 (by decide) (fun _ => ?_) (fun h => absurd (by decide) h)
  refine z_iconst (v := 0) B dX9_isStep_23 (by decide) ?_
  exact z_zret B hr (by decide) (by decide) (by decide) dX9_isStep_24 ⟨rfl, rfl⟩
set_option maxRecDepth 100000 in
set_option maxHeartbeats 4000000 in
theorem ci_X9_set_323 (l : Launch) {g : gx_T} {σ : sx_T} {b : Nat} (hK : lay b σ) (w1 : Int32) (w2 : Int32) (w3 : Int32) (w4 : Int32) (q1_w1 : (-2147483648 : Int) ≤ w1.toInt) (q2_w1 : w1.toInt ≤ (-1 : Int)) (q1_w2 : (-2147483648 : Int) ≤ w2.toInt) (q2_w2 : w2.toInt ≤ (-1 : Int))  : Met l yX9_set (.code yX9_set cX9_set 7 (some .int) :: lw_g) { frames := 2, cells := 0, slots := 0, locals := 44 } (va_Pc [.ref (b + 405), .int 5, .int w1, .int w2, .int w3, .int w4] (zx_w g σ)) (va_Qi (fun r u => r = 0 ∧ u = (ap b σ [(405, 0, 1)] [] [])) (zx_w g) (gx_Q g)) 0 0 (gx_Q g) := by
  refine z_met (by decide) (Nat.le_of_ble_eq_true rfl) (fun p e s m below meth c B hr hin => ?_)
  refine z_eqs (σ' := (ap b σ [] [] [])) rfl ?_
  show zx p l e _ s m _ below meth c g 7 0 0 _ _ 0 [(0, .ref (b + 405)), (1, .int 5), (2, .int w1), (3, .int w2), (4, .int w3), (5, .int w4)] []
  refine z_aload_n B dX9_set_0 rfl 0 rfl ?_
  refine z_iload_n B dX9_set_1 rfl 1 rfl ?_
  refine z_iload_n B dX9_set_2 rfl 2 rfl ?_
  refine z_cSi (As := [.int 5, .int w1]) (rest := [.ref (b + 405)]) B cw_X9_238 dX9_set_3 (ci_X9_isStep_322 l (σ := (ap b σ [] [] [])) (b := b) (lyA hK) w1 q1_w1 q2_w1) rfl (by decide) rfl (Nat.le_of_ble_eq_true rfl) (by decide) (fun r u hu => ?_)
  refine z_eqs (σ' := (ap b σ [] [] [])) hu.2 ?_
  show zx p l e _ s m _ below meth c g 7 0 0 _ _ 6 [(0, .ref (b + 405)), (1, .int 5), (2, .int w1), (3, .int w2), (4, .int w3), (5, .int w4)] _
  refine z_seti (y := 0) hu.1 ?_
  refine z_iload_n B dX9_set_6 rfl 3 rfl ?_
  refine z_iload B dX9_set_7 4 rfl ?_
  refine z_iload B dX9_set_9 5 rfl ?_
  refine z_cSi (As := [.int w2, .int w3, .int w4]) (rest := [.int 0, .ref (b + 405)]) B cw_X9_242 dX9_set_11 (ci_X9_isOperation_28 l (σ := (ap b σ [] [] [])) (b := b) (lyA hK) w2 w3 w4 q1_w2 q2_w2) rfl (by decide) rfl (Nat.le_of_ble_eq_true rfl) (by decide) (fun r u hu => ?_)
  refine z_eqs (σ' := (ap b σ [] [] [])) hu.2 ?_
  show zx p l e _ s m _ below meth c g 7 0 0 _ _ 14 [(0, .ref (b + 405)), (1, .int 5), (2, .int w1), (3, .int w2), (4, .int w3), (5, .int w4)] _
  refine z_seti (y := 0) hu.1 ?_
  refine z_cVi (As := [.int 0, .int 0]) (rest := []) B cw_X9_245 cx_10 dX9_set_14 (ci_X9_needs__29 l (σ := (ap b σ [] [] [])) (b := b) (lyA hK) ) (lKA (hk_K hK 405 rfl rfl)) rfl (by decide) rfl (Nat.le_of_ble_eq_true rfl) (by decide) (fun r u hu => ?_)
  refine z_eqs (σ' := (ap b σ [(405, 0, 1)] [] [])) (hu.2.trans ap_ap) ?_
  show zx p l e _ s m _ below meth c g 7 0 0 _ _ 17 [(0, .ref (b + 405)), (1, .int 5), (2, .int w1), (3, .int w2), (4, .int w3), (5, .int w4)] _
  refine z_seti (y := 0) hu.1 ?_
  refine z_if_ne (tgt := 22) B dX9_set_17 (by decide) (fun h => absurd (by decide) h) (fun _ => ?_)
  refine z_iconst (v := 0) B dX9_set_20 (by decide) ?_
  exact z_iret B hr (by decide) (by decide) dX9_set_21 ⟨rfl, rfl⟩
set_option maxRecDepth 100000 in
set_option maxHeartbeats 4000000 in
theorem ci_X9_set_324 (l : Launch) {g : gx_T} {σ : sx_T} {b : Nat} (hK : lay b σ) (w1 : Int32) (w2 : Int32) (w3 : Int32) (w4 : Int32) (q1_w1 : (-2147483648 : Int) ≤ w1.toInt) (q2_w1 : w1.toInt ≤ (-1 : Int)) (q1_w2 : (0 : Int) ≤ w2.toInt) (q2_w2 : w2.toInt ≤ (17 : Int)) (q1_w3 : (-2147483648 : Int) ≤ w3.toInt) (q2_w3 : w3.toInt ≤ (-1 : Int))  : Met l yX9_set (.code yX9_set cX9_set 7 (some .int) :: lw_g) { frames := 2, cells := 0, slots := 0, locals := 44 } (va_Pc [.ref (b + 405), .int 5, .int w1, .int w2, .int w3, .int w4] (zx_w g σ)) (va_Qi (fun r u => r = 0 ∧ u = (ap b σ [(405, 0, 1)] [] [])) (zx_w g) (gx_Q g)) 0 0 (gx_Q g) := by
  refine z_met (by decide) (Nat.le_of_ble_eq_true rfl) (fun p e s m below meth c B hr hin => ?_)
  refine z_eqs (σ' := (ap b σ [] [] [])) rfl ?_
  show zx p l e _ s m _ below meth c g 7 0 0 _ _ 0 [(0, .ref (b + 405)), (1, .int 5), (2, .int w1), (3, .int w2), (4, .int w3), (5, .int w4)] []
  refine z_aload_n B dX9_set_0 rfl 0 rfl ?_
  refine z_iload_n B dX9_set_1 rfl 1 rfl ?_
  refine z_iload_n B dX9_set_2 rfl 2 rfl ?_
  refine z_cSi (As := [.int 5, .int w1]) (rest := [.ref (b + 405)]) B cw_X9_238 dX9_set_3 (ci_X9_isStep_322 l (σ := (ap b σ [] [] [])) (b := b) (lyA hK) w1 q1_w1 q2_w1) rfl (by decide) rfl (Nat.le_of_ble_eq_true rfl) (by decide) (fun r u hu => ?_)
  refine z_eqs (σ' := (ap b σ [] [] [])) hu.2 ?_
  show zx p l e _ s m _ below meth c g 7 0 0 _ _ 6 [(0, .ref (b + 405)), (1, .int 5), (2, .int w1), (3, .int w2), (4, .int w3), (5, .int w4)] _
  refine z_seti (y := 0) hu.1 ?_
  refine z_iload_n B dX9_set_6 rfl 3 rfl ?_
  refine z_iload B dX9_set_7 4 rfl ?_
  refine z_iload B dX9_set_9 5 rfl ?_
  refine z_cSi (As := [.int w2, .int w3, .int w4]) (rest := [.int 0, .ref (b + 405)]) B cw_X9_242 dX9_set_11 (ci_X9_isOperation_34 l (σ := (ap b σ [] [] [])) (b := b) (lyA hK) w2 w3 w4 q1_w2 q2_w2 q1_w3 q2_w3) rfl (by decide) rfl (Nat.le_of_ble_eq_true rfl) (by decide) (fun r u hu => ?_)
  refine z_eqs (σ' := (ap b σ [] [] [])) hu.2 ?_
  show zx p l e _ s m _ below meth c g 7 0 0 _ _ 14 [(0, .ref (b + 405)), (1, .int 5), (2, .int w1), (3, .int w2), (4, .int w3), (5, .int w4)] _
  refine z_seti (y := 0) hu.1 ?_
  refine z_cVi (As := [.int 0, .int 0]) (rest := []) B cw_X9_245 cx_10 dX9_set_14 (ci_X9_needs__29 l (σ := (ap b σ [] [] [])) (b := b) (lyA hK) ) (lKA (hk_K hK 405 rfl rfl)) rfl (by decide) rfl (Nat.le_of_ble_eq_true rfl) (by decide) (fun r u hu => ?_)
  refine z_eqs (σ' := (ap b σ [(405, 0, 1)] [] [])) (hu.2.trans ap_ap) ?_
  show zx p l e _ s m _ below meth c g 7 0 0 _ _ 17 [(0, .ref (b + 405)), (1, .int 5), (2, .int w1), (3, .int w2), (4, .int w3), (5, .int w4)] _
  refine z_seti (y := 0) hu.1 ?_
  refine z_if_ne (tgt := 22) B dX9_set_17 (by decide) (fun h => absurd (by decide) h) (fun _ => ?_)
  refine z_iconst (v := 0) B dX9_set_20 (by decide) ?_
  exact z_iret B hr (by decide) (by decide) dX9_set_21 ⟨rfl, rfl⟩
set_option maxRecDepth 100000 in
set_option maxHeartbeats 4000000 in
theorem ci_X9_set_325 (l : Launch) {g : gx_T} {σ : sx_T} {b : Nat} (hK : lay b σ) (w1 : Int32) (w2 : Int32) (w3 : Int32) (w4 : Int32) (q1_w1 : (-2147483648 : Int) ≤ w1.toInt) (q2_w1 : w1.toInt ≤ (-1 : Int)) (q1_w2 : (0 : Int) ≤ w2.toInt) (q2_w2 : w2.toInt ≤ (17 : Int)) (q1_w3 : (0 : Int) ≤ w3.toInt) (q2_w3 : w3.toInt ≤ (99 : Int)) (q1_w4 : (-2147483648 : Int) ≤ w4.toInt) (q2_w4 : w4.toInt ≤ (-1 : Int))  : Met l yX9_set (.code yX9_set cX9_set 7 (some .int) :: lw_g) { frames := 2, cells := 0, slots := 0, locals := 44 } (va_Pc [.ref (b + 405), .int 5, .int w1, .int w2, .int w3, .int w4] (zx_w g σ)) (va_Qi (fun r u => r = 0 ∧ u = (ap b σ [(405, 0, 1)] [] [])) (zx_w g) (gx_Q g)) 0 0 (gx_Q g) := by
  refine z_met (by decide) (Nat.le_of_ble_eq_true rfl) (fun p e s m below meth c B hr hin => ?_)
  refine z_eqs (σ' := (ap b σ [] [] [])) rfl ?_
  show zx p l e _ s m _ below meth c g 7 0 0 _ _ 0 [(0, .ref (b + 405)), (1, .int 5), (2, .int w1), (3, .int w2), (4, .int w3), (5, .int w4)] []
  refine z_aload_n B dX9_set_0 rfl 0 rfl ?_
  refine z_iload_n B dX9_set_1 rfl 1 rfl ?_
  refine z_iload_n B dX9_set_2 rfl 2 rfl ?_
  refine z_cSi (As := [.int 5, .int w1]) (rest := [.ref (b + 405)]) B cw_X9_238 dX9_set_3 (ci_X9_isStep_322 l (σ := (ap b σ [] [] [])) (b := b) (lyA hK) w1 q1_w1 q2_w1) rfl (by decide) rfl (Nat.le_of_ble_eq_true rfl) (by decide) (fun r u hu => ?_)
  refine z_eqs (σ' := (ap b σ [] [] [])) hu.2 ?_
  show zx p l e _ s m _ below meth c g 7 0 0 _ _ 6 [(0, .ref (b + 405)), (1, .int 5), (2, .int w1), (3, .int w2), (4, .int w3), (5, .int w4)] _
  refine z_seti (y := 0) hu.1 ?_
  refine z_iload_n B dX9_set_6 rfl 3 rfl ?_
  refine z_iload B dX9_set_7 4 rfl ?_
  refine z_iload B dX9_set_9 5 rfl ?_
  refine z_cSi (As := [.int w2, .int w3, .int w4]) (rest := [.int 0, .ref (b + 405)]) B cw_X9_242 dX9_set_11 (ci_X9_isOperation_37 l (σ := (ap b σ [] [] [])) (b := b) (lyA hK) w2 w3 w4 q1_w2 q2_w2 q1_w3 q2_w3 q1_w4 q2_w4) rfl (by decide) rfl (Nat.le_of_ble_eq_true rfl) (by decide) (fun r u hu => ?_)
  refine z_eqs (σ' := (ap b σ [] [] [])) hu.2 ?_
  show zx p l e _ s m _ below meth c g 7 0 0 _ _ 14 [(0, .ref (b + 405)), (1, .int 5), (2, .int w1), (3, .int w2), (4, .int w3), (5, .int w4)] _
  refine z_seti (y := 0) hu.1 ?_
  refine z_cVi (As := [.int 0, .int 0]) (rest := []) B cw_X9_245 cx_10 dX9_set_14 (ci_X9_needs__29 l (σ := (ap b σ [] [] [])) (b := b) (lyA hK) ) (lKA (hk_K hK 405 rfl rfl)) rfl (by decide) rfl (Nat.le_of_ble_eq_true rfl) (by decide) (fun r u hu => ?_)
  refine z_eqs (σ' := (ap b σ [(405, 0, 1)] [] [])) (hu.2.trans ap_ap) ?_
  show zx p l e _ s m _ below meth c g 7 0 0 _ _ 17 [(0, .ref (b + 405)), (1, .int 5), (2, .int w1), (3, .int w2), (4, .int w3), (5, .int w4)] _
  refine z_seti (y := 0) hu.1 ?_
  refine z_if_ne (tgt := 22) B dX9_set_17 (by decide) (fun h => absurd (by decide) h) (fun _ => ?_)
  refine z_iconst (v := 0) B dX9_set_20 (by decide) ?_
  exact z_iret B hr (by decide) (by decide) dX9_set_21 ⟨rfl, rfl⟩
set_option maxRecDepth 100000 in
set_option maxHeartbeats 4000000 in
theorem ci_X9_set_326 (l : Launch) {g : gx_T} {σ : sx_T} {b : Nat} (hK : lay b σ) (w1 : Int32) (w2 : Int32) (w3 : Int32) (w4 : Int32) (q1_w1 : (-2147483648 : Int) ≤ w1.toInt) (q2_w1 : w1.toInt ≤ (-1 : Int)) (q1_w2 : (0 : Int) ≤ w2.toInt) (q2_w2 : w2.toInt ≤ (17 : Int)) (q1_w3 : (0 : Int) ≤ w3.toInt) (q2_w3 : w3.toInt ≤ (99 : Int)) (q1_w4 : (0 : Int) ≤ w4.toInt) (q2_w4 : w4.toInt ≤ (99 : Int))  : Met l yX9_set (.code yX9_set cX9_set 7 (some .int) :: lw_g) { frames := 2, cells := 0, slots := 0, locals := 44 } (va_Pc [.ref (b + 405), .int 5, .int w1, .int w2, .int w3, .int w4] (zx_w g σ)) (va_Qi (fun r u => r = 0 ∧ u = (ap b σ [(405, 0, 1)] [] [])) (zx_w g) (gx_Q g)) 0 0 (gx_Q g) := by
  refine z_met (by decide) (Nat.le_of_ble_eq_true rfl) (fun p e s m below meth c B hr hin => ?_)
  refine z_eqs (σ' := (ap b σ [] [] [])) rfl ?_
  show zx p l e _ s m _ below meth c g 7 0 0 _ _ 0 [(0, .ref (b + 405)), (1, .int 5), (2, .int w1), (3, .int w2), (4, .int w3), (5, .int w4)] []
  refine z_aload_n B dX9_set_0 rfl 0 rfl ?_
  refine z_iload_n B dX9_set_1 rfl 1 rfl ?_
  refine z_iload_n B dX9_set_2 rfl 2 rfl ?_
  refine z_cSi (As := [.int 5, .int w1]) (rest := [.ref (b + 405)]) B cw_X9_238 dX9_set_3 (ci_X9_isStep_322 l (σ := (ap b σ [] [] [])) (b := b) (lyA hK) w1 q1_w1 q2_w1) rfl (by decide) rfl (Nat.le_of_ble_eq_true rfl) (by decide) (fun r u hu => ?_)
  refine z_eqs (σ' := (ap b σ [] [] [])) hu.2 ?_
  show zx p l e _ s m _ below meth c g 7 0 0 _ _ 6 [(0, .ref (b + 405)), (1, .int 5), (2, .int w1), (3, .int w2), (4, .int w3), (5, .int w4)] _
  refine z_seti (y := 0) hu.1 ?_
  refine z_iload_n B dX9_set_6 rfl 3 rfl ?_
  refine z_iload B dX9_set_7 4 rfl ?_
  refine z_iload B dX9_set_9 5 rfl ?_
  refine z_cSi (As := [.int w2, .int w3, .int w4]) (rest := [.int 0, .ref (b + 405)]) B cw_X9_242 dX9_set_11 (ci_X9_isOperation_39 l (σ := (ap b σ [] [] [])) (b := b) (lyA hK) w2 w3 w4 q1_w2 q2_w2 q1_w3 q2_w3 q1_w4 q2_w4) rfl (by decide) rfl (Nat.le_of_ble_eq_true rfl) (by decide) (fun r u hu => ?_)
  refine z_eqs (σ' := (ap b σ [] [] [])) hu.2 ?_
  show zx p l e _ s m _ below meth c g 7 0 0 _ _ 14 [(0, .ref (b + 405)), (1, .int 5), (2, .int w1), (3, .int w2), (4, .int w3), (5, .int w4)] _
  refine z_seti (y := 1) hu.1 ?_
  refine z_cVi (As := [.int 0, .int 1]) (rest := []) B cw_X9_245 cx_10 dX9_set_14 (ci_X9_needs__40 l (σ := (ap b σ [] [] [])) (b := b) (lyA hK) ) (lKA (hk_K hK 405 rfl rfl)) rfl (by decide) rfl (Nat.le_of_ble_eq_true rfl) (by decide) (fun r u hu => ?_)
  refine z_eqs (σ' := (ap b σ [(405, 0, 1)] [] [])) (hu.2.trans ap_ap) ?_
  show zx p l e _ s m _ below meth c g 7 0 0 _ _ 17 [(0, .ref (b + 405)), (1, .int 5), (2, .int w1), (3, .int w2), (4, .int w3), (5, .int w4)] _
  refine z_seti (y := 0) hu.1 ?_
  refine z_if_ne (tgt := 22) B dX9_set_17 (by decide) (fun h => absurd (by decide) h) (fun _ => ?_)
  refine z_iconst (v := 0) B dX9_set_20 (by decide) ?_
  exact z_iret B hr (by decide) (by decide) dX9_set_21 ⟨rfl, rfl⟩
set_option maxRecDepth 100000 in
set_option maxHeartbeats 4000000 in
theorem ci_X9_set_327 (l : Launch) {g : gx_T} {σ : sx_T} {b : Nat} (hK : lay b σ) (w1 : Int32) (w2 : Int32) (w3 : Int32) (w4 : Int32) (q1_w1 : (-2147483648 : Int) ≤ w1.toInt) (q2_w1 : w1.toInt ≤ (-1 : Int)) (q1_w2 : (0 : Int) ≤ w2.toInt) (q2_w2 : w2.toInt ≤ (17 : Int)) (q1_w3 : (0 : Int) ≤ w3.toInt) (q2_w3 : w3.toInt ≤ (99 : Int)) (q1_w4 : (100 : Int) ≤ w4.toInt) (q2_w4 : w4.toInt ≤ (2147483647 : Int))  : Met l yX9_set (.code yX9_set cX9_set 7 (some .int) :: lw_g) { frames := 2, cells := 0, slots := 0, locals := 44 } (va_Pc [.ref (b + 405), .int 5, .int w1, .int w2, .int w3, .int w4] (zx_w g σ)) (va_Qi (fun r u => r = 0 ∧ u = (ap b σ [(405, 0, 1)] [] [])) (zx_w g) (gx_Q g)) 0 0 (gx_Q g) := by
  refine z_met (by decide) (Nat.le_of_ble_eq_true rfl) (fun p e s m below meth c B hr hin => ?_)
  refine z_eqs (σ' := (ap b σ [] [] [])) rfl ?_
  show zx p l e _ s m _ below meth c g 7 0 0 _ _ 0 [(0, .ref (b + 405)), (1, .int 5), (2, .int w1), (3, .int w2), (4, .int w3), (5, .int w4)] []
  refine z_aload_n B dX9_set_0 rfl 0 rfl ?_
  refine z_iload_n B dX9_set_1 rfl 1 rfl ?_
  refine z_iload_n B dX9_set_2 rfl 2 rfl ?_
  refine z_cSi (As := [.int 5, .int w1]) (rest := [.ref (b + 405)]) B cw_X9_238 dX9_set_3 (ci_X9_isStep_322 l (σ := (ap b σ [] [] [])) (b := b) (lyA hK) w1 q1_w1 q2_w1) rfl (by decide) rfl (Nat.le_of_ble_eq_true rfl) (by decide) (fun r u hu => ?_)
  refine z_eqs (σ' := (ap b σ [] [] [])) hu.2 ?_
  show zx p l e _ s m _ below meth c g 7 0 0 _ _ 6 [(0, .ref (b + 405)), (1, .int 5), (2, .int w1), (3, .int w2), (4, .int w3), (5, .int w4)] _
  refine z_seti (y := 0) hu.1 ?_
  refine z_iload_n B dX9_set_6 rfl 3 rfl ?_
  refine z_iload B dX9_set_7 4 rfl ?_
  refine z_iload B dX9_set_9 5 rfl ?_
  refine z_cSi (As := [.int w2, .int w3, .int w4]) (rest := [.int 0, .ref (b + 405)]) B cw_X9_242 dX9_set_11 (ci_X9_isOperation_43 l (σ := (ap b σ [] [] [])) (b := b) (lyA hK) w2 w3 w4 q1_w2 q2_w2 q1_w3 q2_w3 q1_w4 q2_w4) rfl (by decide) rfl (Nat.le_of_ble_eq_true rfl) (by decide) (fun r u hu => ?_)
  refine z_eqs (σ' := (ap b σ [] [] [])) hu.2 ?_
  show zx p l e _ s m _ below meth c g 7 0 0 _ _ 14 [(0, .ref (b + 405)), (1, .int 5), (2, .int w1), (3, .int w2), (4, .int w3), (5, .int w4)] _
  refine z_seti (y := 0) hu.1 ?_
  refine z_cVi (As := [.int 0, .int 0]) (rest := []) B cw_X9_245 cx_10 dX9_set_14 (ci_X9_needs__29 l (σ := (ap b σ [] [] [])) (b := b) (lyA hK) ) (lKA (hk_K hK 405 rfl rfl)) rfl (by decide) rfl (Nat.le_of_ble_eq_true rfl) (by decide) (fun r u hu => ?_)
  refine z_eqs (σ' := (ap b σ [(405, 0, 1)] [] [])) (hu.2.trans ap_ap) ?_
  show zx p l e _ s m _ below meth c g 7 0 0 _ _ 17 [(0, .ref (b + 405)), (1, .int 5), (2, .int w1), (3, .int w2), (4, .int w3), (5, .int w4)] _
  refine z_seti (y := 0) hu.1 ?_
  refine z_if_ne (tgt := 22) B dX9_set_17 (by decide) (fun h => absurd (by decide) h) (fun _ => ?_)
  refine z_iconst (v := 0) B dX9_set_20 (by decide) ?_
  exact z_iret B hr (by decide) (by decide) dX9_set_21 ⟨rfl, rfl⟩
set_option maxRecDepth 100000 in
set_option maxHeartbeats 4000000 in
theorem ci_X9_set_328 (l : Launch) {g : gx_T} {σ : sx_T} {b : Nat} (hK : lay b σ) (w1 : Int32) (w2 : Int32) (w3 : Int32) (w4 : Int32) (q1_w1 : (-2147483648 : Int) ≤ w1.toInt) (q2_w1 : w1.toInt ≤ (-1 : Int)) (q1_w2 : (0 : Int) ≤ w2.toInt) (q2_w2 : w2.toInt ≤ (17 : Int)) (q1_w3 : (100 : Int) ≤ w3.toInt) (q2_w3 : w3.toInt ≤ (2147483647 : Int))  : Met l yX9_set (.code yX9_set cX9_set 7 (some .int) :: lw_g) { frames := 2, cells := 0, slots := 0, locals := 44 } (va_Pc [.ref (b + 405), .int 5, .int w1, .int w2, .int w3, .int w4] (zx_w g σ)) (va_Qi (fun r u => r = 0 ∧ u = (ap b σ [(405, 0, 1)] [] [])) (zx_w g) (gx_Q g)) 0 0 (gx_Q g) := by
  refine z_met (by decide) (Nat.le_of_ble_eq_true rfl) (fun p e s m below meth c B hr hin => ?_)
  refine z_eqs (σ' := (ap b σ [] [] [])) rfl ?_
  show zx p l e _ s m _ below meth c g 7 0 0 _ _ 0 [(0, .ref (b + 405)), (1, .int 5), (2, .int w1), (3, .int w2), (4, .int w3), (5, .int w4)] []
  refine z_aload_n B dX9_set_0 rfl 0 rfl ?_
  refine z_iload_n B dX9_set_1 rfl 1 rfl ?_
  refine z_iload_n B dX9_set_2 rfl 2 rfl ?_
  refine z_cSi (As := [.int 5, .int w1]) (rest := [.ref (b + 405)]) B cw_X9_238 dX9_set_3 (ci_X9_isStep_322 l (σ := (ap b σ [] [] [])) (b := b) (lyA hK) w1 q1_w1 q2_w1) rfl (by decide) rfl (Nat.le_of_ble_eq_true rfl) (by decide) (fun r u hu => ?_)
  refine z_eqs (σ' := (ap b σ [] [] [])) hu.2 ?_
  show zx p l e _ s m _ below meth c g 7 0 0 _ _ 6 [(0, .ref (b + 405)), (1, .int 5), (2, .int w1), (3, .int w2), (4, .int w3), (5, .int w4)] _
  refine z_seti (y := 0) hu.1 ?_
  refine z_iload_n B dX9_set_6 rfl 3 rfl ?_
  refine z_iload B dX9_set_7 4 rfl ?_
  refine z_iload B dX9_set_9 5 rfl ?_
  refine z_cSi (As := [.int w2, .int w3, .int w4]) (rest := [.int 0, .ref (b + 405)]) B cw_X9_242 dX9_set_11 (ci_X9_isOperation_45 l (σ := (ap b σ [] [] [])) (b := b) (lyA hK) w2 w3 w4 q1_w2 q2_w2 q1_w3 q2_w3) rfl (by decide) rfl (Nat.le_of_ble_eq_true rfl) (by decide) (fun r u hu => ?_)
  refine z_eqs (σ' := (ap b σ [] [] [])) hu.2 ?_
  show zx p l e _ s m _ below meth c g 7 0 0 _ _ 14 [(0, .ref (b + 405)), (1, .int 5), (2, .int w1), (3, .int w2), (4, .int w3), (5, .int w4)] _
  refine z_seti (y := 0) hu.1 ?_
  refine z_cVi (As := [.int 0, .int 0]) (rest := []) B cw_X9_245 cx_10 dX9_set_14 (ci_X9_needs__29 l (σ := (ap b σ [] [] [])) (b := b) (lyA hK) ) (lKA (hk_K hK 405 rfl rfl)) rfl (by decide) rfl (Nat.le_of_ble_eq_true rfl) (by decide) (fun r u hu => ?_)
  refine z_eqs (σ' := (ap b σ [(405, 0, 1)] [] [])) (hu.2.trans ap_ap) ?_
  show zx p l e _ s m _ below meth c g 7 0 0 _ _ 17 [(0, .ref (b + 405)), (1, .int 5), (2, .int w1), (3, .int w2), (4, .int w3), (5, .int w4)] _
  refine z_seti (y := 0) hu.1 ?_
  refine z_if_ne (tgt := 22) B dX9_set_17 (by decide) (fun h => absurd (by decide) h) (fun _ => ?_)
  refine z_iconst (v := 0) B dX9_set_20 (by decide) ?_
  exact z_iret B hr (by decide) (by decide) dX9_set_21 ⟨rfl, rfl⟩
set_option maxRecDepth 100000 in
set_option maxHeartbeats 4000000 in
theorem ci_X9_set_329 (l : Launch) {g : gx_T} {σ : sx_T} {b : Nat} (hK : lay b σ) (w1 : Int32) (w2 : Int32) (w3 : Int32) (w4 : Int32) (q1_w1 : (-2147483648 : Int) ≤ w1.toInt) (q2_w1 : w1.toInt ≤ (-1 : Int)) (q1_w2 : (18 : Int) ≤ w2.toInt) (q2_w2 : w2.toInt ≤ (2147483647 : Int))  : Met l yX9_set (.code yX9_set cX9_set 7 (some .int) :: lw_g) { frames := 2, cells := 0, slots := 0, locals := 44 } (va_Pc [.ref (b + 405), .int 5, .int w1, .int w2, .int w3, .int w4] (zx_w g σ)) (va_Qi (fun r u => r = 0 ∧ u = (ap b σ [(405, 0, 1)] [] [])) (zx_w g) (gx_Q g)) 0 0 (gx_Q g) := by
  refine z_met (by decide) (Nat.le_of_ble_eq_true rfl) (fun p e s m below meth c B hr hin => ?_)
  refine z_eqs (σ' := (ap b σ [] [] [])) rfl ?_
  show zx p l e _ s m _ below meth c g 7 0 0 _ _ 0 [(0, .ref (b + 405)), (1, .int 5), (2, .int w1), (3, .int w2), (4, .int w3), (5, .int w4)] []
  refine z_aload_n B dX9_set_0 rfl 0 rfl ?_
  refine z_iload_n B dX9_set_1 rfl 1 rfl ?_
  refine z_iload_n B dX9_set_2 rfl 2 rfl ?_
  refine z_cSi (As := [.int 5, .int w1]) (rest := [.ref (b + 405)]) B cw_X9_238 dX9_set_3 (ci_X9_isStep_322 l (σ := (ap b σ [] [] [])) (b := b) (lyA hK) w1 q1_w1 q2_w1) rfl (by decide) rfl (Nat.le_of_ble_eq_true rfl) (by decide) (fun r u hu => ?_)
  refine z_eqs (σ' := (ap b σ [] [] [])) hu.2 ?_
  show zx p l e _ s m _ below meth c g 7 0 0 _ _ 6 [(0, .ref (b + 405)), (1, .int 5), (2, .int w1), (3, .int w2), (4, .int w3), (5, .int w4)] _
  refine z_seti (y := 0) hu.1 ?_
  refine z_iload_n B dX9_set_6 rfl 3 rfl ?_
  refine z_iload B dX9_set_7 4 rfl ?_
  refine z_iload B dX9_set_9 5 rfl ?_
  refine z_cSi (As := [.int w2, .int w3, .int w4]) (rest := [.int 0, .ref (b + 405)]) B cw_X9_242 dX9_set_11 (ci_X9_isOperation_48 l (σ := (ap b σ [] [] [])) (b := b) (lyA hK) w2 w3 w4 q1_w2 q2_w2) rfl (by decide) rfl (Nat.le_of_ble_eq_true rfl) (by decide) (fun r u hu => ?_)
  refine z_eqs (σ' := (ap b σ [] [] [])) hu.2 ?_
  show zx p l e _ s m _ below meth c g 7 0 0 _ _ 14 [(0, .ref (b + 405)), (1, .int 5), (2, .int w1), (3, .int w2), (4, .int w3), (5, .int w4)] _
  refine z_seti (y := 0) hu.1 ?_
  refine z_cVi (As := [.int 0, .int 0]) (rest := []) B cw_X9_245 cx_10 dX9_set_14 (ci_X9_needs__29 l (σ := (ap b σ [] [] [])) (b := b) (lyA hK) ) (lKA (hk_K hK 405 rfl rfl)) rfl (by decide) rfl (Nat.le_of_ble_eq_true rfl) (by decide) (fun r u hu => ?_)
  refine z_eqs (σ' := (ap b σ [(405, 0, 1)] [] [])) (hu.2.trans ap_ap) ?_
  show zx p l e _ s m _ below meth c g 7 0 0 _ _ 17 [(0, .ref (b + 405)), (1, .int 5), (2, .int w1), (3, .int w2), (4, .int w3), (5, .int w4)] _
  refine z_seti (y := 0) hu.1 ?_
  refine z_if_ne (tgt := 22) B dX9_set_17 (by decide) (fun h => absurd (by decide) h) (fun _ => ?_)
  refine z_iconst (v := 0) B dX9_set_20 (by decide) ?_
  exact z_iret B hr (by decide) (by decide) dX9_set_21 ⟨rfl, rfl⟩
set_option maxRecDepth 100000 in
set_option maxHeartbeats 4000000 in
theorem ci_X8_set_330 (l : Launch) (hlt : l.stackTraces = false) {g : gx_T} {σ : sx_T} {b : Nat} (hK : lay b σ) (w1 : Int32) (w2 : Int32) (w3 : Int32) (w4 : Int32) (q1_w1 : (0 : Int) ≤ w1.toInt) (q2_w1 : w1.toInt ≤ (19 : Int)) (q1_w2 : (-2147483648 : Int) ≤ w2.toInt) (q2_w2 : w2.toInt ≤ (-1 : Int)) (hR_0_0 : sx_R σ (b + 0) 0 = (some (b + 1))) (hR_1_5 : sx_R σ (b + 1) 5 = (some (b + 29))) : vx_Met l yX8_set (.code yX8_set cX8_set 9 (some .int) :: lw_g) { frames := 7, cells := 1, slots := 6, locals := 136 } (va_Pc [.ref (b + 0), .int 5, .int w1, .int w2, .int w3, .int w4] (zx_w g σ)) (va_Qi (S := sx_T) (fun _ _ => False) (zx_w g) (gx_Q g)) (vx_X (fun u : sx_T => ∃ z, u = wx_Z σ z) (fun E u t => E = "java/lang/IllegalArgumentException" ∧ zx_h g u t.heap) (gx_Q g)) 1 6 (gx_Q g) := by
  refine z_metX (by decide) (Nat.le_of_ble_eq_true rfl) (fun p e s m below meth c B hr hin hout => ?_)
  refine z_eqs (σ' := (ap b σ [] [] [])) rfl ?_
  show zx p l e _ s m _ below meth c g 9 0 0 _ _ 0 [(0, .ref (b + 0)), (1, .int 5), (2, .int w1), (3, .int w2), (4, .int w3), (5, .int w4)] []
  refine z_aload_n B dX8_set_0 rfl 0 rfl ?_
  refine z_iload_n B dX8_set_1 rfl 1 rfl ?_
  refine z_cVq (As := [.int 5]) (rest := []) B cw_X8_64 cx_9 dX8_set_2 (ci_X8_programAt_318 l (σ := (ap b σ [] [] [])) (b := b) (lyA hK) (rR_at 0 0 hR_0_0) (rR_at 1 5 hR_1_5)) (lKA (hk_K hK 0 rfl rfl)) rfl (by decide) rfl (Nat.le_of_ble_eq_true rfl) (by decide) (fun r u hu => ?_)
  refine z_eqs (σ' := (ap b σ [] [] [])) hu.2 ?_
  show zx p l e _ s m _ below meth c g 9 0 0 _ _ 5 [(0, .ref (b + 0)), (1, .int 5), (2, .int w1), (3, .int w2), (4, .int w3), (5, .int w4)] _
  refine z_setr (y := (some (b + 29))) hu.1 ?_
  refine z_astore (lv' := [(6, .ref (b + 29)), (0, .ref (b + 0)), (1, .int 5), (2, .int w1), (3, .int w2), (4, .int w3), (5, .int w4)]) B dX8_set_5 (by decide) rfl ?_
  refine z_aload B dX8_set_7 0 rfl ?_
  refine z_ifnull (r := (some (b + 29))) (tgt := 21) B dX8_set_9 (by decide) (fun h => nomatch h) (fun _ _ => ?_)
  refine z_iload_n B dX8_set_12 rfl 3 rfl ?_
  refine z_bipush (v := 20) B dX8_set_13 (by decide) ?_
  refine z_cSi (As := [.int w1, .int 20]) (rest := []) B cw_X8_68 dX8_set_15 (ci_X8_isBelow_64 l (σ := (ap b σ [] [] [])) (b := b) (lyA hK) w1 q1_w1 q2_w1) rfl (by decide) rfl (Nat.le_of_ble_eq_true rfl) (by decide) (fun r u hu => ?_)
  refine z_eqs (σ' := (ap b σ [] [] [])) hu.2 ?_
  show zx p l e _ s m _ below meth c g 9 0 0 _ _ 18 [(6, .ref (b + 29)), (0, .ref (b + 0)), (1, .int 5), (2, .int w1), (3, .int w2), (4, .int w3), (5, .int w4)] _
  refine z_seti (y := 1) hu.1 ?_
  refine z_if_ne (tgt := 31) B dX8_set_18 (by decide) (fun _ => ?_) (fun h => absurd h (by decide))
  refine z_iload_n B dX8_set_31 rfl 4 rfl ?_
  refine z_iload B dX8_set_32 5 rfl ?_
  refine z_iload B dX8_set_34 6 rfl ?_
  refine z_cSi (As := [.int w2, .int w3, .int w4]) (rest := []) B cw_X8_79 dX8_set_36 (ci_X8_isStep_66 l (σ := (ap b σ [] [] [])) (b := b) (lyA hK) w2 w3 w4 q1_w2 q2_w2) rfl (by decide) rfl (Nat.le_of_ble_eq_true rfl) (by decide) (fun r u hu => ?_)
  refine z_eqs (σ' := (ap b σ [] [] [])) hu.2 ?_
  show zx p l e _ s m _ below meth c g 9 0 0 _ _ 39 [(6, .ref (b + 29)), (0, .ref (b + 0)), (1, .int 5), (2, .int w1), (3, .int w2), (4, .int w3), (5, .int w4)] _
  refine z_seti (y := 0) hu.1 ?_
  refine z_if_ne (tgt := 52) B dX8_set_39 (by decide) (fun h => absurd (by decide) h) (fun _ => ?_)
  exact z_throw B hlt hout (cls := "java/lang/IllegalArgumentException") (text := "no such operation") tw_X8_83_85_87 dX8_set_42 dX8_set_45 dX8_set_46 dX8_set_48 dX8_set_51 (by decide) (by decide) (by decide) (by decide) (by decide) (by decide) (fun z => ⟨z, rfl⟩)
set_option maxRecDepth 100000 in
set_option maxHeartbeats 4000000 in
theorem ci_L_set_331 (l : Launch) (hlt : l.stackTraces = false) {g : gx_T} {σ : sx_T} {b : Nat} (hK : lay b σ) (w1 : Int32) (w2 : Int32) (w3 : Int32) (w4 : Int32) (q1_w1 : (0 : Int) ≤ w1.toInt) (q2_w1 : w1.toInt ≤ (19 : Int)) (q1_w2 : (-2147483648 : Int) ≤ w2.toInt) (q2_w2 : w2.toInt ≤ (-1 : Int)) (hR_0_0 : sx_R σ (b + 0) 0 = (some (b + 1))) (hR_1_5 : sx_R σ (b + 1) 5 = (some (b + 29))) : Met l yL_set (.codeWith yL_set cL_set 8 (some .int) [(0, 16, 19, 13), (0, 16, 23, 15)] :: lw_g) { frames := 8, cells := 1, slots := 6, locals := 164 } (va_Pc [.ref (b + 0), .int 5, .int w1, .int w2, .int w3, .int w4, .ref (b + 431)] (zx_w g σ)) (va_Qi (fun r u => r = 2 ∧ ∃ z, u = (ap b (wx_Z σ z) [] [] [])) (zx_w g) (gx_Q g)) 1 6 (gx_Q g) := by
  refine z_metW (by decide) (Nat.le_of_ble_eq_true rfl) (fun p e s m below meth c B hr htab => ?_)
  refine z_eqs (σ' := (ap b σ [] [] [])) rfl ?_
  show zx p l e _ s m _ below meth c g 8 0 0 _ _ 0 [(0, .ref (b + 0)), (1, .int 5), (2, .int w1), (3, .int w2), (4, .int w3), (5, .int w4), (6, .ref (b + 431))] []
  refine z_aload B dL_set_0 6 rfl ?_
  refine z_iconst (v := 0) B dL_set_2 (by decide) ?_
  refine z_aload_n B dL_set_3 rfl 0 rfl ?_
  refine z_iload_n B dL_set_4 rfl 1 rfl ?_
  refine z_iload_n B dL_set_5 rfl 2 rfl ?_
  refine z_iload_n B dL_set_6 rfl 3 rfl ?_
  refine z_iload B dL_set_7 4 rfl ?_
  refine z_iload B dL_set_9 5 rfl ?_
  refine z_cXi (As := [.int 5, .int w1, .int w2, .int w3, .int w4]) (rest := [.int 0, .ref (b + 431)]) B htab tc_set_11_IllegalArgumentException cw_L_7 cx_9 dL_set_11 (ci_X8_set_330 l hlt (σ := (ap b σ [] [] [])) (b := b) (lyA hK) w1 w2 w3 w4 q1_w1 q2_w1 q1_w2 q2_w2 (rR_at 0 0 hR_0_0) (rR_at 1 5 hR_1_5)) (lKA (hk_K hK 0 rfl rfl)) rfl (by decide) rfl (Nat.le_of_ble_eq_true rfl) (by decide) (fun z q => ?_)
  refine z_eqs (σ' := (ap b (wx_Z σ z) [] [] [])) rfl ?_
  show zx p l e _ s m _ below meth c g 8 _ _ _ _ 23 [(0, .ref (b + 0)), (1, .int 5), (2, .int w1), (3, .int w2), (4, .int w3), (5, .int w4), (6, .ref (b + 431))] _
  refine z_astore (lv' := [(7, .ref q), (0, .ref (b + 0)), (1, .int 5), (2, .int w1), (3, .int w2), (4, .int w3), (5, .int w4), (6, .ref (b + 431))]) B dL_set_23 (by decide) rfl ?_
  refine z_iconst (v := 2) B dL_set_25 (by decide) ?_
  exact z_iret B hr (by decide) (by decide) dL_set_26 ⟨rfl, _, rfl⟩
set_option maxRecDepth 100000 in
set_option maxHeartbeats 4000000 in
theorem ci_X9_isStep_332 (l : Launch) {g : gx_T} {σ : sx_T} {b : Nat} (hK : lay b σ) (w1 : Int32) (q1_w1 : (0 : Int) ≤ w1.toInt) (q2_w1 : w1.toInt ≤ (19 : Int))  : Met l yX9_isStep (.code yX9_isStep cX9_isStep 2 (some .boolean) :: lw_g) { frames := 1, cells := 0, slots := 0, locals := 22 } (va_Pc [.int 5, .int w1] (zx_w g σ)) (va_Qi (fun r u => r = 1 ∧ u = σ) (zx_w g) (gx_Q g)) 0 0 (gx_Q g) := by
  refine z_met (by decide) (Nat.le_of_ble_eq_true rfl) (fun p e s m below meth c B hr hin => ?_)
  refine z_eqs (σ' := (ap b σ [] [] [])) rfl ?_
  show zx p l e _ s m _ below meth c g 2 0 0 _ _ 0 [(0, .int 5), (1, .int w1)] []
  refine z_iload_n B dX9_isStep_0 rfl 0 rfl ?_
  refine z_iconst (v := 0) B dX9_isStep_1 (by decide) ?_
  refine z_iconst (v := 5) B dX9_isStep_2 (by decide) ?_
  refine z_cSi (As := [.int 5, .int 0, .int 5]) (rest := []) B cw_X9_96 dX9_isStep_3 (ci_X9_in_321 l (σ := (ap b σ [] [] [])) (b := b) (lyA hK) ) rfl (by decide) rfl (Nat.le_of_ble_eq_true rfl) (by decide) (fun r u hu => ?_)
  refine z_eqs (σ' := (ap b σ [] [] [])) hu.2 ?_
  show zx p l e _ s m _ below meth c g 2 0 0 _ _ 6 [(0, .int 5), (1, .int w1)] _
  refine z_seti (y := 1) hu.1 ?_
  refine z_if_eq (tgt := 23) B dX9_isStep_6 (by decide) (fun h => absurd h (by decide)) (fun _ => ?_)
  refine z_iload_n B dX9_isStep_9 rfl 1 rfl ?_
  refine z_iconst (v := 0) B dX9_isStep_10 (by decide) ?_
  refine z_bipush (v := 19) B dX9_isStep_11 (by decide) ?_
  refine z_cSi (As := [.int w1, .int 0, .int 19]) (rest := []) B cw_X9_96 dX9_isStep_13 (ci_X9_in_69 l (σ := (ap b σ [] [] [])) (b := b) (lyA hK) w1 q1_w1 q2_w1) rfl (by decide) rfl (Nat.le_of_ble_eq_true rfl) (by decide) (fun r u hu => ?_)
  refine z_eqs (σ' := (ap b σ [] [] [])) hu.2 ?_
  show zx p l e _ s m _ below meth c g 2 0 0 _ _ 16 [(0, .int 5), (1, .int w1)] _
  refine z_seti (y := 1) hu.1 ?_
  refine z_if_eq (tgt := 23) B dX9_isStep_16 (by decide) (fun h => absurd h (by decide)) (fun _ => ?_)
  refine z_iconst (v := 1) B dX9_isStep_19 (by decide) ?_
  refine z_goto (tgt := 24) B dX9_isStep_20 (by decide) ?_
  exact z_zret B hr (by decide) (by decide) (by decide) dX9_isStep_24 ⟨rfl, rfl⟩
set_option maxRecDepth 100000 in
set_option maxHeartbeats 4000000 in
theorem ci_X9_set_333 (l : Launch) {g : gx_T} {σ : sx_T} {b : Nat} (hK : lay b σ) (w1 : Int32) (w2 : Int32) (w3 : Int32) (w4 : Int32) (q1_w1 : (0 : Int) ≤ w1.toInt) (q2_w1 : w1.toInt ≤ (19 : Int)) (q1_w2 : (-2147483648 : Int) ≤ w2.toInt) (q2_w2 : w2.toInt ≤ (-1 : Int))  : Met l yX9_set (.code yX9_set cX9_set 7 (some .int) :: lw_g) { frames := 2, cells := 0, slots := 0, locals := 44 } (va_Pc [.ref (b + 405), .int 5, .int w1, .int w2, .int w3, .int w4] (zx_w g σ)) (va_Qi (fun r u => r = 0 ∧ u = (ap b σ [(405, 0, 2)] [] [])) (zx_w g) (gx_Q g)) 0 0 (gx_Q g) := by
  refine z_met (by decide) (Nat.le_of_ble_eq_true rfl) (fun p e s m below meth c B hr hin => ?_)
  refine z_eqs (σ' := (ap b σ [] [] [])) rfl ?_
  show zx p l e _ s m _ below meth c g 7 0 0 _ _ 0 [(0, .ref (b + 405)), (1, .int 5), (2, .int w1), (3, .int w2), (4, .int w3), (5, .int w4)] []
  refine z_aload_n B dX9_set_0 rfl 0 rfl ?_
  refine z_iload_n B dX9_set_1 rfl 1 rfl ?_
  refine z_iload_n B dX9_set_2 rfl 2 rfl ?_
  refine z_cSi (As := [.int 5, .int w1]) (rest := [.ref (b + 405)]) B cw_X9_238 dX9_set_3 (ci_X9_isStep_332 l (σ := (ap b σ [] [] [])) (b := b) (lyA hK) w1 q1_w1 q2_w1) rfl (by decide) rfl (Nat.le_of_ble_eq_true rfl) (by decide) (fun r u hu => ?_)
  refine z_eqs (σ' := (ap b σ [] [] [])) hu.2 ?_
  show zx p l e _ s m _ below meth c g 7 0 0 _ _ 6 [(0, .ref (b + 405)), (1, .int 5), (2, .int w1), (3, .int w2), (4, .int w3), (5, .int w4)] _
  refine z_seti (y := 1) hu.1 ?_
  refine z_iload_n B dX9_set_6 rfl 3 rfl ?_
  refine z_iload B dX9_set_7 4 rfl ?_
  refine z_iload B dX9_set_9 5 rfl ?_
  refine z_cSi (As := [.int w2, .int w3, .int w4]) (rest := [.int 1, .ref (b + 405)]) B cw_X9_242 dX9_set_11 (ci_X9_isOperation_28 l (σ := (ap b σ [] [] [])) (b := b) (lyA hK) w2 w3 w4 q1_w2 q2_w2) rfl (by decide) rfl (Nat.le_of_ble_eq_true rfl) (by decide) (fun r u hu => ?_)
  refine z_eqs (σ' := (ap b σ [] [] [])) hu.2 ?_
  show zx p l e _ s m _ below meth c g 7 0 0 _ _ 14 [(0, .ref (b + 405)), (1, .int 5), (2, .int w1), (3, .int w2), (4, .int w3), (5, .int w4)] _
  refine z_seti (y := 0) hu.1 ?_
  refine z_cVi (As := [.int 1, .int 0]) (rest := []) B cw_X9_245 cx_10 dX9_set_14 (ci_X9_needs__71 l (σ := (ap b σ [] [] [])) (b := b) (lyA hK) ) (lKA (hk_K hK 405 rfl rfl)) rfl (by decide) rfl (Nat.le_of_ble_eq_true rfl) (by decide) (fun r u hu => ?_)
  refine z_eqs (σ' := (ap b σ [(405, 0, 2)] [] [])) (hu.2.trans ap_ap) ?_
  show zx p l e _ s m _ below meth c g 7 0 0 _ _ 17 [(0, .ref (b + 405)), (1, .int 5), (2, .int w1), (3, .int w2), (4, .int w3), (5, .int w4)] _
  refine z_seti (y := 0) hu.1 ?_
  refine z_if_ne (tgt := 22) B dX9_set_17 (by decide) (fun h => absurd (by decide) h) (fun _ => ?_)
  refine z_iconst (v := 0) B dX9_set_20 (by decide) ?_
  exact z_iret B hr (by decide) (by decide) dX9_set_21 ⟨rfl, rfl⟩
set_option maxRecDepth 100000 in
set_option maxHeartbeats 4000000 in
theorem ci_X8_set_334 (l : Launch) (hlt : l.stackTraces = false) {g : gx_T} {σ : sx_T} {b : Nat} (hK : lay b σ) (w1 : Int32) (w2 : Int32) (w3 : Int32) (w4 : Int32) (q1_w1 : (0 : Int) ≤ w1.toInt) (q2_w1 : w1.toInt ≤ (19 : Int)) (q1_w2 : (0 : Int) ≤ w2.toInt) (q2_w2 : w2.toInt ≤ (17 : Int)) (q1_w3 : (-2147483648 : Int) ≤ w3.toInt) (q2_w3 : w3.toInt ≤ (-1 : Int)) (hR_0_0 : sx_R σ (b + 0) 0 = (some (b + 1))) (hR_1_5 : sx_R σ (b + 1) 5 = (some (b + 29))) : vx_Met l yX8_set (.code yX8_set cX8_set 9 (some .int) :: lw_g) { frames := 7, cells := 1, slots := 6, locals := 136 } (va_Pc [.ref (b + 0), .int 5, .int w1, .int w2, .int w3, .int w4] (zx_w g σ)) (va_Qi (S := sx_T) (fun _ _ => False) (zx_w g) (gx_Q g)) (vx_X (fun u : sx_T => ∃ z, u = wx_Z σ z) (fun E u t => E = "java/lang/IllegalArgumentException" ∧ zx_h g u t.heap) (gx_Q g)) 1 6 (gx_Q g) := by
  refine z_metX (by decide) (Nat.le_of_ble_eq_true rfl) (fun p e s m below meth c B hr hin hout => ?_)
  refine z_eqs (σ' := (ap b σ [] [] [])) rfl ?_
  show zx p l e _ s m _ below meth c g 9 0 0 _ _ 0 [(0, .ref (b + 0)), (1, .int 5), (2, .int w1), (3, .int w2), (4, .int w3), (5, .int w4)] []
  refine z_aload_n B dX8_set_0 rfl 0 rfl ?_
  refine z_iload_n B dX8_set_1 rfl 1 rfl ?_
  refine z_cVq (As := [.int 5]) (rest := []) B cw_X8_64 cx_9 dX8_set_2 (ci_X8_programAt_318 l (σ := (ap b σ [] [] [])) (b := b) (lyA hK) (rR_at 0 0 hR_0_0) (rR_at 1 5 hR_1_5)) (lKA (hk_K hK 0 rfl rfl)) rfl (by decide) rfl (Nat.le_of_ble_eq_true rfl) (by decide) (fun r u hu => ?_)
  refine z_eqs (σ' := (ap b σ [] [] [])) hu.2 ?_
  show zx p l e _ s m _ below meth c g 9 0 0 _ _ 5 [(0, .ref (b + 0)), (1, .int 5), (2, .int w1), (3, .int w2), (4, .int w3), (5, .int w4)] _
  refine z_setr (y := (some (b + 29))) hu.1 ?_
  refine z_astore (lv' := [(6, .ref (b + 29)), (0, .ref (b + 0)), (1, .int 5), (2, .int w1), (3, .int w2), (4, .int w3), (5, .int w4)]) B dX8_set_5 (by decide) rfl ?_
  refine z_aload B dX8_set_7 0 rfl ?_
  refine z_ifnull (r := (some (b + 29))) (tgt := 21) B dX8_set_9 (by decide) (fun h => nomatch h) (fun _ _ => ?_)
  refine z_iload_n B dX8_set_12 rfl 3 rfl ?_
  refine z_bipush (v := 20) B dX8_set_13 (by decide) ?_
  refine z_cSi (As := [.int w1, .int 20]) (rest := []) B cw_X8_68 dX8_set_15 (ci_X8_isBelow_64 l (σ := (ap b σ [] [] [])) (b := b) (lyA hK) w1 q1_w1 q2_w1) rfl (by decide) rfl (Nat.le_of_ble_eq_true rfl) (by decide) (fun r u hu => ?_)
  refine z_eqs (σ' := (ap b σ [] [] [])) hu.2 ?_
  show zx p l e _ s m _ below meth c g 9 0 0 _ _ 18 [(6, .ref (b + 29)), (0, .ref (b + 0)), (1, .int 5), (2, .int w1), (3, .int w2), (4, .int w3), (5, .int w4)] _
  refine z_seti (y := 1) hu.1 ?_
  refine z_if_ne (tgt := 31) B dX8_set_18 (by decide) (fun _ => ?_) (fun h => absurd h (by decide))
  refine z_iload_n B dX8_set_31 rfl 4 rfl ?_
  refine z_iload B dX8_set_32 5 rfl ?_
  refine z_iload B dX8_set_34 6 rfl ?_
  refine z_cSi (As := [.int w2, .int w3, .int w4]) (rest := []) B cw_X8_79 dX8_set_36 (ci_X8_isStep_76 l (σ := (ap b σ [] [] [])) (b := b) (lyA hK) w2 w3 w4 q1_w2 q2_w2 q1_w3 q2_w3) rfl (by decide) rfl (Nat.le_of_ble_eq_true rfl) (by decide) (fun r u hu => ?_)
  refine z_eqs (σ' := (ap b σ [] [] [])) hu.2 ?_
  show zx p l e _ s m _ below meth c g 9 0 0 _ _ 39 [(6, .ref (b + 29)), (0, .ref (b + 0)), (1, .int 5), (2, .int w1), (3, .int w2), (4, .int w3), (5, .int w4)] _
  refine z_seti (y := 0) hu.1 ?_
  refine z_if_ne (tgt := 52) B dX8_set_39 (by decide) (fun h => absurd (by decide) h) (fun _ => ?_)
  exact z_throw B hlt hout (cls := "java/lang/IllegalArgumentException") (text := "no such operation") tw_X8_83_85_87 dX8_set_42 dX8_set_45 dX8_set_46 dX8_set_48 dX8_set_51 (by decide) (by decide) (by decide) (by decide) (by decide) (by decide) (fun z => ⟨z, rfl⟩)
set_option maxRecDepth 100000 in
set_option maxHeartbeats 4000000 in
theorem ci_L_set_335 (l : Launch) (hlt : l.stackTraces = false) {g : gx_T} {σ : sx_T} {b : Nat} (hK : lay b σ) (w1 : Int32) (w2 : Int32) (w3 : Int32) (w4 : Int32) (q1_w1 : (0 : Int) ≤ w1.toInt) (q2_w1 : w1.toInt ≤ (19 : Int)) (q1_w2 : (0 : Int) ≤ w2.toInt) (q2_w2 : w2.toInt ≤ (17 : Int)) (q1_w3 : (-2147483648 : Int) ≤ w3.toInt) (q2_w3 : w3.toInt ≤ (-1 : Int)) (hR_0_0 : sx_R σ (b + 0) 0 = (some (b + 1))) (hR_1_5 : sx_R σ (b + 1) 5 = (some (b + 29))) : Met l yL_set (.codeWith yL_set cL_set 8 (some .int) [(0, 16, 19, 13), (0, 16, 23, 15)] :: lw_g) { frames := 8, cells := 1, slots := 6, locals := 164 } (va_Pc [.ref (b + 0), .int 5, .int w1, .int w2, .int w3, .int w4, .ref (b + 431)] (zx_w g σ)) (va_Qi (fun r u => r = 2 ∧ ∃ z, u = (ap b (wx_Z σ z) [] [] [])) (zx_w g) (gx_Q g)) 1 6 (gx_Q g) := by
  refine z_metW (by decide) (Nat.le_of_ble_eq_true rfl) (fun p e s m below meth c B hr htab => ?_)
  refine z_eqs (σ' := (ap b σ [] [] [])) rfl ?_
  show zx p l e _ s m _ below meth c g 8 0 0 _ _ 0 [(0, .ref (b + 0)), (1, .int 5), (2, .int w1), (3, .int w2), (4, .int w3), (5, .int w4), (6, .ref (b + 431))] []
  refine z_aload B dL_set_0 6 rfl ?_
  refine z_iconst (v := 0) B dL_set_2 (by decide) ?_
  refine z_aload_n B dL_set_3 rfl 0 rfl ?_
  refine z_iload_n B dL_set_4 rfl 1 rfl ?_
  refine z_iload_n B dL_set_5 rfl 2 rfl ?_
  refine z_iload_n B dL_set_6 rfl 3 rfl ?_
  refine z_iload B dL_set_7 4 rfl ?_
  refine z_iload B dL_set_9 5 rfl ?_
  refine z_cXi (As := [.int 5, .int w1, .int w2, .int w3, .int w4]) (rest := [.int 0, .ref (b + 431)]) B htab tc_set_11_IllegalArgumentException cw_L_7 cx_9 dL_set_11 (ci_X8_set_334 l hlt (σ := (ap b σ [] [] [])) (b := b) (lyA hK) w1 w2 w3 w4 q1_w1 q2_w1 q1_w2 q2_w2 q1_w3 q2_w3 (rR_at 0 0 hR_0_0) (rR_at 1 5 hR_1_5)) (lKA (hk_K hK 0 rfl rfl)) rfl (by decide) rfl (Nat.le_of_ble_eq_true rfl) (by decide) (fun z q => ?_)
  refine z_eqs (σ' := (ap b (wx_Z σ z) [] [] [])) rfl ?_
  show zx p l e _ s m _ below meth c g 8 _ _ _ _ 23 [(0, .ref (b + 0)), (1, .int 5), (2, .int w1), (3, .int w2), (4, .int w3), (5, .int w4), (6, .ref (b + 431))] _
  refine z_astore (lv' := [(7, .ref q), (0, .ref (b + 0)), (1, .int 5), (2, .int w1), (3, .int w2), (4, .int w3), (5, .int w4), (6, .ref (b + 431))]) B dL_set_23 (by decide) rfl ?_
  refine z_iconst (v := 2) B dL_set_25 (by decide) ?_
  exact z_iret B hr (by decide) (by decide) dL_set_26 ⟨rfl, _, rfl⟩
set_option maxRecDepth 100000 in
set_option maxHeartbeats 4000000 in
theorem ci_X9_set_336 (l : Launch) {g : gx_T} {σ : sx_T} {b : Nat} (hK : lay b σ) (w1 : Int32) (w2 : Int32) (w3 : Int32) (w4 : Int32) (q1_w1 : (0 : Int) ≤ w1.toInt) (q2_w1 : w1.toInt ≤ (19 : Int)) (q1_w2 : (0 : Int) ≤ w2.toInt) (q2_w2 : w2.toInt ≤ (17 : Int)) (q1_w3 : (-2147483648 : Int) ≤ w3.toInt) (q2_w3 : w3.toInt ≤ (-1 : Int))  : Met l yX9_set (.code yX9_set cX9_set 7 (some .int) :: lw_g) { frames := 2, cells := 0, slots := 0, locals := 44 } (va_Pc [.ref (b + 405), .int 5, .int w1, .int w2, .int w3, .int w4] (zx_w g σ)) (va_Qi (fun r u => r = 0 ∧ u = (ap b σ [(405, 0, 2)] [] [])) (zx_w g) (gx_Q g)) 0 0 (gx_Q g) := by
  refine z_met (by decide) (Nat.le_of_ble_eq_true rfl) (fun p e s m below meth c B hr hin => ?_)
  refine z_eqs (σ' := (ap b σ [] [] [])) rfl ?_
  show zx p l e _ s m _ below meth c g 7 0 0 _ _ 0 [(0, .ref (b + 405)), (1, .int 5), (2, .int w1), (3, .int w2), (4, .int w3), (5, .int w4)] []
  refine z_aload_n B dX9_set_0 rfl 0 rfl ?_
  refine z_iload_n B dX9_set_1 rfl 1 rfl ?_
  refine z_iload_n B dX9_set_2 rfl 2 rfl ?_
  refine z_cSi (As := [.int 5, .int w1]) (rest := [.ref (b + 405)]) B cw_X9_238 dX9_set_3 (ci_X9_isStep_332 l (σ := (ap b σ [] [] [])) (b := b) (lyA hK) w1 q1_w1 q2_w1) rfl (by decide) rfl (Nat.le_of_ble_eq_true rfl) (by decide) (fun r u hu => ?_)
  refine z_eqs (σ' := (ap b σ [] [] [])) hu.2 ?_
  show zx p l e _ s m _ below meth c g 7 0 0 _ _ 6 [(0, .ref (b + 405)), (1, .int 5), (2, .int w1), (3, .int w2), (4, .int w3), (5, .int w4)] _
  refine z_seti (y := 1) hu.1 ?_
  refine z_iload_n B dX9_set_6 rfl 3 rfl ?_
  refine z_iload B dX9_set_7 4 rfl ?_
  refine z_iload B dX9_set_9 5 rfl ?_
  refine z_cSi (As := [.int w2, .int w3, .int w4]) (rest := [.int 1, .ref (b + 405)]) B cw_X9_242 dX9_set_11 (ci_X9_isOperation_34 l (σ := (ap b σ [] [] [])) (b := b) (lyA hK) w2 w3 w4 q1_w2 q2_w2 q1_w3 q2_w3) rfl (by decide) rfl (Nat.le_of_ble_eq_true rfl) (by decide) (fun r u hu => ?_)
  refine z_eqs (σ' := (ap b σ [] [] [])) hu.2 ?_
  show zx p l e _ s m _ below meth c g 7 0 0 _ _ 14 [(0, .ref (b + 405)), (1, .int 5), (2, .int w1), (3, .int w2), (4, .int w3), (5, .int w4)] _
  refine z_seti (y := 0) hu.1 ?_
  refine z_cVi (As := [.int 1, .int 0]) (rest := []) B cw_X9_245 cx_10 dX9_set_14 (ci_X9_needs__71 l (σ := (ap b σ [] [] [])) (b := b) (lyA hK) ) (lKA (hk_K hK 405 rfl rfl)) rfl (by decide) rfl (Nat.le_of_ble_eq_true rfl) (by decide) (fun r u hu => ?_)
  refine z_eqs (σ' := (ap b σ [(405, 0, 2)] [] [])) (hu.2.trans ap_ap) ?_
  show zx p l e _ s m _ below meth c g 7 0 0 _ _ 17 [(0, .ref (b + 405)), (1, .int 5), (2, .int w1), (3, .int w2), (4, .int w3), (5, .int w4)] _
  refine z_seti (y := 0) hu.1 ?_
  refine z_if_ne (tgt := 22) B dX9_set_17 (by decide) (fun h => absurd (by decide) h) (fun _ => ?_)
  refine z_iconst (v := 0) B dX9_set_20 (by decide) ?_
  exact z_iret B hr (by decide) (by decide) dX9_set_21 ⟨rfl, rfl⟩
set_option maxRecDepth 100000 in
set_option maxHeartbeats 4000000 in
theorem ci_X8_set_337 (l : Launch) (hlt : l.stackTraces = false) {g : gx_T} {σ : sx_T} {b : Nat} (hK : lay b σ) (w1 : Int32) (w2 : Int32) (w3 : Int32) (w4 : Int32) (q1_w1 : (0 : Int) ≤ w1.toInt) (q2_w1 : w1.toInt ≤ (19 : Int)) (q1_w2 : (0 : Int) ≤ w2.toInt) (q2_w2 : w2.toInt ≤ (17 : Int)) (q1_w3 : (0 : Int) ≤ w3.toInt) (q2_w3 : w3.toInt ≤ (99 : Int)) (q1_w4 : (-2147483648 : Int) ≤ w4.toInt) (q2_w4 : w4.toInt ≤ (-1 : Int)) (hR_0_0 : sx_R σ (b + 0) 0 = (some (b + 1))) (hR_1_5 : sx_R σ (b + 1) 5 = (some (b + 29))) : vx_Met l yX8_set (.code yX8_set cX8_set 9 (some .int) :: lw_g) { frames := 7, cells := 1, slots := 6, locals := 136 } (va_Pc [.ref (b + 0), .int 5, .int w1, .int w2, .int w3, .int w4] (zx_w g σ)) (va_Qi (S := sx_T) (fun _ _ => False) (zx_w g) (gx_Q g)) (vx_X (fun u : sx_T => ∃ z, u = wx_Z σ z) (fun E u t => E = "java/lang/IllegalArgumentException" ∧ zx_h g u t.heap) (gx_Q g)) 1 6 (gx_Q g) := by
  refine z_metX (by decide) (Nat.le_of_ble_eq_true rfl) (fun p e s m below meth c B hr hin hout => ?_)
  refine z_eqs (σ' := (ap b σ [] [] [])) rfl ?_
  show zx p l e _ s m _ below meth c g 9 0 0 _ _ 0 [(0, .ref (b + 0)), (1, .int 5), (2, .int w1), (3, .int w2), (4, .int w3), (5, .int w4)] []
  refine z_aload_n B dX8_set_0 rfl 0 rfl ?_
  refine z_iload_n B dX8_set_1 rfl 1 rfl ?_
  refine z_cVq (As := [.int 5]) (rest := []) B cw_X8_64 cx_9 dX8_set_2 (ci_X8_programAt_318 l (σ := (ap b σ [] [] [])) (b := b) (lyA hK) (rR_at 0 0 hR_0_0) (rR_at 1 5 hR_1_5)) (lKA (hk_K hK 0 rfl rfl)) rfl (by decide) rfl (Nat.le_of_ble_eq_true rfl) (by decide) (fun r u hu => ?_)
  refine z_eqs (σ' := (ap b σ [] [] [])) hu.2 ?_
  show zx p l e _ s m _ below meth c g 9 0 0 _ _ 5 [(0, .ref (b + 0)), (1, .int 5), (2, .int w1), (3, .int w2), (4, .int w3), (5, .int w4)] _
  refine z_setr (y := (some (b + 29))) hu.1 ?_
  refine z_astore (lv' := [(6, .ref (b + 29)), (0, .ref (b + 0)), (1, .int 5), (2, .int w1), (3, .int w2), (4, .int w3), (5, .int w4)]) B dX8_set_5 (by decide) rfl ?_
  refine z_aload B dX8_set_7 0 rfl ?_
  refine z_ifnull (r := (some (b + 29))) (tgt := 21) B dX8_set_9 (by decide) (fun h => nomatch h) (fun _ _ => ?_)
  refine z_iload_n B dX8_set_12 rfl 3 rfl ?_
  refine z_bipush (v := 20) B dX8_set_13 (by decide) ?_
  refine z_cSi (As := [.int w1, .int 20]) (rest := []) B cw_X8_68 dX8_set_15 (ci_X8_isBelow_64 l (σ := (ap b σ [] [] [])) (b := b) (lyA hK) w1 q1_w1 q2_w1) rfl (by decide) rfl (Nat.le_of_ble_eq_true rfl) (by decide) (fun r u hu => ?_)
  refine z_eqs (σ' := (ap b σ [] [] [])) hu.2 ?_
  show zx p l e _ s m _ below meth c g 9 0 0 _ _ 18 [(6, .ref (b + 29)), (0, .ref (b + 0)), (1, .int 5), (2, .int w1), (3, .int w2), (4, .int w3), (5, .int w4)] _
  refine z_seti (y := 1) hu.1 ?_
  refine z_if_ne (tgt := 31) B dX8_set_18 (by decide) (fun _ => ?_) (fun h => absurd h (by decide))
  refine z_iload_n B dX8_set_31 rfl 4 rfl ?_
  refine z_iload B dX8_set_32 5 rfl ?_
  refine z_iload B dX8_set_34 6 rfl ?_
  refine z_cSi (As := [.int w2, .int w3, .int w4]) (rest := []) B cw_X8_79 dX8_set_36 (ci_X8_isStep_81 l (σ := (ap b σ [] [] [])) (b := b) (lyA hK) w2 w3 w4 q1_w2 q2_w2 q1_w3 q2_w3 q1_w4 q2_w4) rfl (by decide) rfl (Nat.le_of_ble_eq_true rfl) (by decide) (fun r u hu => ?_)
  refine z_eqs (σ' := (ap b σ [] [] [])) hu.2 ?_
  show zx p l e _ s m _ below meth c g 9 0 0 _ _ 39 [(6, .ref (b + 29)), (0, .ref (b + 0)), (1, .int 5), (2, .int w1), (3, .int w2), (4, .int w3), (5, .int w4)] _
  refine z_seti (y := 0) hu.1 ?_
  refine z_if_ne (tgt := 52) B dX8_set_39 (by decide) (fun h => absurd (by decide) h) (fun _ => ?_)
  exact z_throw B hlt hout (cls := "java/lang/IllegalArgumentException") (text := "no such operation") tw_X8_83_85_87 dX8_set_42 dX8_set_45 dX8_set_46 dX8_set_48 dX8_set_51 (by decide) (by decide) (by decide) (by decide) (by decide) (by decide) (fun z => ⟨z, rfl⟩)
set_option maxRecDepth 100000 in
set_option maxHeartbeats 4000000 in
theorem ci_L_set_338 (l : Launch) (hlt : l.stackTraces = false) {g : gx_T} {σ : sx_T} {b : Nat} (hK : lay b σ) (w1 : Int32) (w2 : Int32) (w3 : Int32) (w4 : Int32) (q1_w1 : (0 : Int) ≤ w1.toInt) (q2_w1 : w1.toInt ≤ (19 : Int)) (q1_w2 : (0 : Int) ≤ w2.toInt) (q2_w2 : w2.toInt ≤ (17 : Int)) (q1_w3 : (0 : Int) ≤ w3.toInt) (q2_w3 : w3.toInt ≤ (99 : Int)) (q1_w4 : (-2147483648 : Int) ≤ w4.toInt) (q2_w4 : w4.toInt ≤ (-1 : Int)) (hR_0_0 : sx_R σ (b + 0) 0 = (some (b + 1))) (hR_1_5 : sx_R σ (b + 1) 5 = (some (b + 29))) : Met l yL_set (.codeWith yL_set cL_set 8 (some .int) [(0, 16, 19, 13), (0, 16, 23, 15)] :: lw_g) { frames := 8, cells := 1, slots := 6, locals := 164 } (va_Pc [.ref (b + 0), .int 5, .int w1, .int w2, .int w3, .int w4, .ref (b + 431)] (zx_w g σ)) (va_Qi (fun r u => r = 2 ∧ ∃ z, u = (ap b (wx_Z σ z) [] [] [])) (zx_w g) (gx_Q g)) 1 6 (gx_Q g) := by
  refine z_metW (by decide) (Nat.le_of_ble_eq_true rfl) (fun p e s m below meth c B hr htab => ?_)
  refine z_eqs (σ' := (ap b σ [] [] [])) rfl ?_
  show zx p l e _ s m _ below meth c g 8 0 0 _ _ 0 [(0, .ref (b + 0)), (1, .int 5), (2, .int w1), (3, .int w2), (4, .int w3), (5, .int w4), (6, .ref (b + 431))] []
  refine z_aload B dL_set_0 6 rfl ?_
  refine z_iconst (v := 0) B dL_set_2 (by decide) ?_
  refine z_aload_n B dL_set_3 rfl 0 rfl ?_
  refine z_iload_n B dL_set_4 rfl 1 rfl ?_
  refine z_iload_n B dL_set_5 rfl 2 rfl ?_
  refine z_iload_n B dL_set_6 rfl 3 rfl ?_
  refine z_iload B dL_set_7 4 rfl ?_
  refine z_iload B dL_set_9 5 rfl ?_
  refine z_cXi (As := [.int 5, .int w1, .int w2, .int w3, .int w4]) (rest := [.int 0, .ref (b + 431)]) B htab tc_set_11_IllegalArgumentException cw_L_7 cx_9 dL_set_11 (ci_X8_set_337 l hlt (σ := (ap b σ [] [] [])) (b := b) (lyA hK) w1 w2 w3 w4 q1_w1 q2_w1 q1_w2 q2_w2 q1_w3 q2_w3 q1_w4 q2_w4 (rR_at 0 0 hR_0_0) (rR_at 1 5 hR_1_5)) (lKA (hk_K hK 0 rfl rfl)) rfl (by decide) rfl (Nat.le_of_ble_eq_true rfl) (by decide) (fun z q => ?_)
  refine z_eqs (σ' := (ap b (wx_Z σ z) [] [] [])) rfl ?_
  show zx p l e _ s m _ below meth c g 8 _ _ _ _ 23 [(0, .ref (b + 0)), (1, .int 5), (2, .int w1), (3, .int w2), (4, .int w3), (5, .int w4), (6, .ref (b + 431))] _
  refine z_astore (lv' := [(7, .ref q), (0, .ref (b + 0)), (1, .int 5), (2, .int w1), (3, .int w2), (4, .int w3), (5, .int w4), (6, .ref (b + 431))]) B dL_set_23 (by decide) rfl ?_
  refine z_iconst (v := 2) B dL_set_25 (by decide) ?_
  exact z_iret B hr (by decide) (by decide) dL_set_26 ⟨rfl, _, rfl⟩
set_option maxRecDepth 100000 in
set_option maxHeartbeats 4000000 in
theorem ci_X9_set_339 (l : Launch) {g : gx_T} {σ : sx_T} {b : Nat} (hK : lay b σ) (w1 : Int32) (w2 : Int32) (w3 : Int32) (w4 : Int32) (q1_w1 : (0 : Int) ≤ w1.toInt) (q2_w1 : w1.toInt ≤ (19 : Int)) (q1_w2 : (0 : Int) ≤ w2.toInt) (q2_w2 : w2.toInt ≤ (17 : Int)) (q1_w3 : (0 : Int) ≤ w3.toInt) (q2_w3 : w3.toInt ≤ (99 : Int)) (q1_w4 : (-2147483648 : Int) ≤ w4.toInt) (q2_w4 : w4.toInt ≤ (-1 : Int))  : Met l yX9_set (.code yX9_set cX9_set 7 (some .int) :: lw_g) { frames := 2, cells := 0, slots := 0, locals := 44 } (va_Pc [.ref (b + 405), .int 5, .int w1, .int w2, .int w3, .int w4] (zx_w g σ)) (va_Qi (fun r u => r = 0 ∧ u = (ap b σ [(405, 0, 2)] [] [])) (zx_w g) (gx_Q g)) 0 0 (gx_Q g) := by
  refine z_met (by decide) (Nat.le_of_ble_eq_true rfl) (fun p e s m below meth c B hr hin => ?_)
  refine z_eqs (σ' := (ap b σ [] [] [])) rfl ?_
  show zx p l e _ s m _ below meth c g 7 0 0 _ _ 0 [(0, .ref (b + 405)), (1, .int 5), (2, .int w1), (3, .int w2), (4, .int w3), (5, .int w4)] []
  refine z_aload_n B dX9_set_0 rfl 0 rfl ?_
  refine z_iload_n B dX9_set_1 rfl 1 rfl ?_
  refine z_iload_n B dX9_set_2 rfl 2 rfl ?_
  refine z_cSi (As := [.int 5, .int w1]) (rest := [.ref (b + 405)]) B cw_X9_238 dX9_set_3 (ci_X9_isStep_332 l (σ := (ap b σ [] [] [])) (b := b) (lyA hK) w1 q1_w1 q2_w1) rfl (by decide) rfl (Nat.le_of_ble_eq_true rfl) (by decide) (fun r u hu => ?_)
  refine z_eqs (σ' := (ap b σ [] [] [])) hu.2 ?_
  show zx p l e _ s m _ below meth c g 7 0 0 _ _ 6 [(0, .ref (b + 405)), (1, .int 5), (2, .int w1), (3, .int w2), (4, .int w3), (5, .int w4)] _
  refine z_seti (y := 1) hu.1 ?_
  refine z_iload_n B dX9_set_6 rfl 3 rfl ?_
  refine z_iload B dX9_set_7 4 rfl ?_
  refine z_iload B dX9_set_9 5 rfl ?_
  refine z_cSi (As := [.int w2, .int w3, .int w4]) (rest := [.int 1, .ref (b + 405)]) B cw_X9_242 dX9_set_11 (ci_X9_isOperation_37 l (σ := (ap b σ [] [] [])) (b := b) (lyA hK) w2 w3 w4 q1_w2 q2_w2 q1_w3 q2_w3 q1_w4 q2_w4) rfl (by decide) rfl (Nat.le_of_ble_eq_true rfl) (by decide) (fun r u hu => ?_)
  refine z_eqs (σ' := (ap b σ [] [] [])) hu.2 ?_
  show zx p l e _ s m _ below meth c g 7 0 0 _ _ 14 [(0, .ref (b + 405)), (1, .int 5), (2, .int w1), (3, .int w2), (4, .int w3), (5, .int w4)] _
  refine z_seti (y := 0) hu.1 ?_
  refine z_cVi (As := [.int 1, .int 0]) (rest := []) B cw_X9_245 cx_10 dX9_set_14 (ci_X9_needs__71 l (σ := (ap b σ [] [] [])) (b := b) (lyA hK) ) (lKA (hk_K hK 405 rfl rfl)) rfl (by decide) rfl (Nat.le_of_ble_eq_true rfl) (by decide) (fun r u hu => ?_)
  refine z_eqs (σ' := (ap b σ [(405, 0, 2)] [] [])) (hu.2.trans ap_ap) ?_
  show zx p l e _ s m _ below meth c g 7 0 0 _ _ 17 [(0, .ref (b + 405)), (1, .int 5), (2, .int w1), (3, .int w2), (4, .int w3), (5, .int w4)] _
  refine z_seti (y := 0) hu.1 ?_
  refine z_if_ne (tgt := 22) B dX9_set_17 (by decide) (fun h => absurd (by decide) h) (fun _ => ?_)
  refine z_iconst (v := 0) B dX9_set_20 (by decide) ?_
  exact z_iret B hr (by decide) (by decide) dX9_set_21 ⟨rfl, rfl⟩
set_option maxRecDepth 100000 in
set_option maxHeartbeats 4000000 in
theorem ci_X4_put_340 (l : Launch) {g : gx_T} {σ : sx_T} {b : Nat} (hK : lay b σ) (w1 : Int32) (w2 : Int32) (w3 : Int32) (w4 : Int32) (q1_w1 : (0 : Int) ≤ w1.toInt) (q2_w1 : w1.toInt ≤ (19 : Int)) (hR_29_1 : sx_R σ (b + 29) 1 = (some (b + 30))) (hR_29_2 : sx_R σ (b + 29) 2 = (some (b + 31))) (hR_29_3 : sx_R σ (b + 29) 3 = (some (b + 32))) : Met l yX4_put (.code yX4_put cX4_put 5 none :: lw_g) { frames := 0, cells := 0, slots := 0, locals := 0 } (va_Pc [.ref (b + 29), .int w1, .int w2, .int w3, .int w4] (zx_w g σ)) (va_Qv (fun u => u = (ap b (wx_I (ap b (wx_I (ap b (wx_I (ap b σ [] [] []) (b + 30) w1.toNatClampNeg w2) [] [] []) (b + 31) w1.toNatClampNeg w3) [] [] []) (b + 32) w1.toNatClampNeg w4) [] [] [])) (zx_w g) (gx_Q g)) 0 0 (gx_Q g) := by
  refine z_met (by decide) (Nat.le_of_ble_eq_true rfl) (fun p e s m below meth c B hr hin => ?_)
  refine z_eqs (σ' := (ap b σ [] [] [])) rfl ?_
  show zx p l e _ s m _ below meth c g 5 0 0 _ _ 0 [(0, .ref (b + 29)), (1, .int w1), (2, .int w2), (3, .int w3), (4, .int w4)] []
  refine z_iload_n B dX4_put_0 rfl 1 rfl ?_
  refine z_if_lt (tgt := 53) B dX4_put_1 (by decide) (fun h => absurd h (iv_nlt q1_w1 (by decide))) (fun _ => ?_)
  refine z_iload_n B dX4_put_4 rfl 1 rfl ?_
  refine z_aload_n B dX4_put_5 rfl 0 rfl ?_
  refine gf_X4_9 (x := (some (b + 30))) B (lKA (hk_K hK 29 rfl rfl)) (rR_at 29 1 hR_29_1) dX4_put_6 ?_
  refine z_alen (kd := 13) (ti := 1) (v := 20) B (lKA (hk_K hK 30 rfl rfl)) (by decide) rfl (congrArg Int32.ofNat (lNA (hk_N hK 30 rfl rfl))) dX4_put_9 ?_
  refine z_icmp_ge (tgt := 53) B dX4_put_10 (by decide) (fun h => absurd h (iv_nge q2_w1 (by decide))) (fun _ => ?_)
  refine z_iload_n B dX4_put_13 rfl 1 rfl ?_
  refine z_aload_n B dX4_put_14 rfl 0 rfl ?_
  refine gf_X4_15 (x := (some (b + 31))) B (lKA (hk_K hK 29 rfl rfl)) (rR_at 29 2 hR_29_2) dX4_put_15 ?_
  refine z_alen (kd := 13) (ti := 1) (v := 20) B (lKA (hk_K hK 31 rfl rfl)) (by decide) rfl (congrArg Int32.ofNat (lNA (hk_N hK 31 rfl rfl))) dX4_put_18 ?_
  refine z_icmp_ge (tgt := 53) B dX4_put_19 (by decide) (fun h => absurd h (iv_nge q2_w1 (by decide))) (fun _ => ?_)
  refine z_iload_n B dX4_put_22 rfl 1 rfl ?_
  refine z_aload_n B dX4_put_23 rfl 0 rfl ?_
  refine gf_X4_18 (x := (some (b + 32))) B (lKA (hk_K hK 29 rfl rfl)) (rR_at 29 3 hR_29_3) dX4_put_24 ?_
  refine z_alen (kd := 13) (ti := 1) (v := 20) B (lKA (hk_K hK 32 rfl rfl)) (by decide) rfl (congrArg Int32.ofNat (lNA (hk_N hK 32 rfl rfl))) dX4_put_27 ?_
  refine z_icmp_ge (tgt := 53) B dX4_put_28 (by decide) (fun h => absurd h (iv_nge q2_w1 (by decide))) (fun _ => ?_)
  refine z_aload_n B dX4_put_31 rfl 0 rfl ?_
  refine gf_X4_9 (x := (some (b + 30))) B (lKA (hk_K hK 29 rfl rfl)) (rR_at 29 1 hR_29_1) dX4_put_32 ?_
  refine z_iload_n B dX4_put_35 rfl 1 rfl ?_
  refine z_iload_n B dX4_put_36 rfl 2 rfl ?_
  refine z_iast (j := w1.toNatClampNeg) (σ' := (wx_I (ap b σ [] [] []) (b + 30) w1.toNatClampNeg w2)) B (lKA (hk_K hK 30 rfl rfl)) rfl (in_of (lNA (hk_N hK 30 rfl rfl)) (iv_in q1_w1 q2_w1 (by decide) (by decide))) rfl dX4_put_37 ?_
  refine z_eqs (σ' := (ap b (wx_I (ap b σ [] [] []) (b + 30) w1.toNatClampNeg w2) [] [] [])) ap_nil ?_
  refine z_aload_n B dX4_put_38 rfl 0 rfl ?_
  refine gf_X4_15 (x := (some (b + 31))) B (lKA (lKW (lKA (hk_K hK 29 rfl rfl)))) (rR_at 29 2 (rR_w (rR_at 29 2 hR_29_2))) dX4_put_39 ?_
  refine z_iload_n B dX4_put_42 rfl 1 rfl ?_
  refine z_iload_n B dX4_put_43 rfl 3 rfl ?_
  refine z_iast (j := w1.toNatClampNeg) (σ' := (wx_I (ap b (wx_I (ap b σ [] [] []) (b + 30) w1.toNatClampNeg w2) [] [] []) (b + 31) w1.toNatClampNeg w3)) B (lKA (lKW (lKA (hk_K hK 31 rfl rfl)))) rfl (in_of (lNA (lNW (lNA (hk_N hK 31 rfl rfl)))) (iv_in q1_w1 q2_w1 (by decide) (by decide))) rfl dX4_put_44 ?_
  refine z_eqs (σ' := (ap b (wx_I (ap b (wx_I (ap b σ [] [] []) (b + 30) w1.toNatClampNeg w2) [] [] []) (b + 31) w1.toNatClampNeg w3) [] [] [])) ap_nil ?_
  refine z_aload_n B dX4_put_45 rfl 0 rfl ?_
  refine gf_X4_18 (x := (some (b + 32))) B (lKA (lKW (lKA (lKW (lKA (hk_K hK 29 rfl rfl)))))) (rR_at 29 3 (rR_w (rR_at 29 3 (rR_w (rR_at 29 3 hR_29_3))))) dX4_put_46 ?_
  refine z_iload_n B dX4_put_49 rfl 1 rfl ?_
  refine z_iload B dX4_put_50 4 rfl ?_
  refine z_iast (j := w1.toNatClampNeg) (σ' := (wx_I (ap b (wx_I (ap b (wx_I (ap b σ [] [] []) (b + 30) w1.toNatClampNeg w2) [] [] []) (b + 31) w1.toNatClampNeg w3) [] [] []) (b + 32) w1.toNatClampNeg w4)) B (lKA (lKW (lKA (lKW (lKA (hk_K hK 32 rfl rfl)))))) rfl (in_of (lNA (lNW (lNA (lNW (lNA (hk_N hK 32 rfl rfl)))))) (iv_in q1_w1 q2_w1 (by decide) (by decide))) rfl dX4_put_52 ?_
  refine z_eqs (σ' := (ap b (wx_I (ap b (wx_I (ap b (wx_I (ap b σ [] [] []) (b + 30) w1.toNatClampNeg w2) [] [] []) (b + 31) w1.toNatClampNeg w3) [] [] []) (b + 32) w1.toNatClampNeg w4) [] [] [])) ap_nil ?_
  exact z_vret B hr (by decide) (by decide) dX4_put_53 rfl
set_option maxRecDepth 100000 in
set_option maxHeartbeats 4000000 in
theorem ci_X8_findAgain_341 (l : Launch) {g : gx_T} {σ : sx_T} {b : Nat} (hK : lay b σ)   (hI_0_7 : sx_I σ (b + 0) 7 = 0) : Met l yX8_findAgain (.code yX8_findAgain cX8_findAgain 4 none :: lw_g) { frames := 0, cells := 0, slots := 0, locals := 0 } (va_Pc [.ref (b + 0), .ref (b + 29)] (zx_w g σ)) (va_Qv (fun u => u = σ) (zx_w g) (gx_Q g)) 0 0 (gx_Q g) := by
  refine z_met (by decide) (Nat.le_of_ble_eq_true rfl) (fun p e s m below meth c B hr hin => ?_)
  refine z_eqs (σ' := (ap b σ [] [] [])) rfl ?_
  show zx p l e _ s m _ below meth c g 4 0 0 _ _ 0 [(0, .ref (b + 0)), (1, .ref (b + 29))] []
  refine z_iconst (v := 0) B dX8_findAgain_0 (by decide) ?_
  refine z_istore_n (lv' := [(2, .int 0), (0, .ref (b + 0)), (1, .ref (b + 29))]) B dX8_findAgain_1 rfl (by decide) rfl ?_
  refine z_iload_n B dX8_findAgain_2 rfl 0 rfl ?_
  refine z_aload_n B dX8_findAgain_3 rfl 1 rfl ?_
  refine gf_X8_96 (x := 0) B (lKA (hk_K hK 0 rfl rfl)) (rI_at 0 7 hI_0_7) dX8_findAgain_4 ?_
  refine z_icmp_ge (tgt := 45) B dX8_findAgain_7 (by decide) (fun _ => ?_) (fun h => absurd (by decide) h)
  exact z_vret B hr (by decide) (by decide) dX8_findAgain_45 rfl
set_option maxRecDepth 100000 in
set_option maxHeartbeats 4000000 in
theorem ci_X8_countAstray_342 (l : Launch) {g : gx_T} {σ : sx_T} {b : Nat} (hK : lay b σ)   (hI_0_7 : sx_I σ (b + 0) 7 = 0) : Met l yX8_countAstray (.code yX8_countAstray cX8_countAstray 5 (some .int) :: lw_g) { frames := 0, cells := 0, slots := 0, locals := 0 } (va_Pc [.ref (b + 0), .ref (b + 29)] (zx_w g σ)) (va_Qi (fun r u => r = 0 ∧ u = σ) (zx_w g) (gx_Q g)) 0 0 (gx_Q g) := by
  refine z_met (by decide) (Nat.le_of_ble_eq_true rfl) (fun p e s m below meth c B hr hin => ?_)
  refine z_eqs (σ' := (ap b σ [] [] [])) rfl ?_
  show zx p l e _ s m _ below meth c g 5 0 0 _ _ 0 [(0, .ref (b + 0)), (1, .ref (b + 29))] []
  refine z_iconst (v := 0) B dX8_countAstray_0 (by decide) ?_
  refine z_istore_n (lv' := [(2, .int 0), (0, .ref (b + 0)), (1, .ref (b + 29))]) B dX8_countAstray_1 rfl (by decide) rfl ?_
  refine z_iconst (v := 0) B dX8_countAstray_2 (by decide) ?_
  refine z_istore_n (lv' := [(3, .int 0), (2, .int 0), (0, .ref (b + 0)), (1, .ref (b + 29))]) B dX8_countAstray_3 rfl (by decide) rfl ?_
  refine z_iload_n B dX8_countAstray_4 rfl 0 rfl ?_
  refine z_aload_n B dX8_countAstray_5 rfl 2 rfl ?_
  refine gf_X8_96 (x := 0) B (lKA (hk_K hK 0 rfl rfl)) (rI_at 0 7 hI_0_7) dX8_countAstray_6 ?_
  refine z_icmp_ge (tgt := 61) B dX8_countAstray_9 (by decide) (fun _ => ?_) (fun h => absurd (by decide) h)
  refine z_iload_n B dX8_countAstray_61 rfl 1 rfl ?_
  exact z_iret B hr (by decide) (by decide) dX8_countAstray_62 ⟨rfl, rfl⟩
set_option maxRecDepth 100000 in
set_option maxHeartbeats 4000000 in
theorem ci_X8_set_343 (l : Launch) {g : gx_T} {σ : sx_T} {b : Nat} (hK : lay b σ) (w1 : Int32) (w2 : Int32) (w3 : Int32) (w4 : Int32) (q1_w1 : (0 : Int) ≤ w1.toInt) (q2_w1 : w1.toInt ≤ (19 : Int)) (q1_w2 : (0 : Int) ≤ w2.toInt) (q2_w2 : w2.toInt ≤ (17 : Int)) (q1_w3 : (0 : Int) ≤ w3.toInt) (q2_w3 : w3.toInt ≤ (99 : Int)) (q1_w4 : (0 : Int) ≤ w4.toInt) (q2_w4 : w4.toInt ≤ (99 : Int)) (hI_0_7 : sx_I σ (b + 0) 7 = 0) (hR_0_0 : sx_R σ (b + 0) 0 = (some (b + 1))) (hR_1_5 : sx_R σ (b + 1) 5 = (some (b + 29))) (hR_29_1 : sx_R σ (b + 29) 1 = (some (b + 30))) (hR_29_2 : sx_R σ (b + 29) 2 = (some (b + 31))) (hR_29_3 : sx_R σ (b + 29) 3 = (some (b + 32))) : Met l yX8_set (.code yX8_set cX8_set 9 (some .int) :: lw_g) { frames := 2, cells := 0, slots := 0, locals := 43 } (va_Pc [.ref (b + 0), .int 5, .int w1, .int w2, .int w3, .int w4] (zx_w g σ)) (va_Qi (fun r u => r = 0 ∧ u = (ap b (wx_I (ap b (wx_I (ap b (wx_I (ap b (ap b σ [] [] []) [] [] []) (b + 30) w1.toNatClampNeg w2) [] [] []) (b + 31) w1.toNatClampNeg w3) [] [] []) (b + 32) w1.toNatClampNeg w4) [] [] [])) (zx_w g) (gx_Q g)) 0 0 (gx_Q g) := by
  refine z_met (by decide) (Nat.le_of_ble_eq_true rfl) (fun p e s m below meth c B hr hin => ?_)
  refine z_eqs (σ' := (ap b σ [] [] [])) rfl ?_
  show zx p l e _ s m _ below meth c g 9 0 0 _ _ 0 [(0, .ref (b + 0)), (1, .int 5), (2, .int w1), (3, .int w2), (4, .int w3), (5, .int w4)] []
  refine z_aload_n B dX8_set_0 rfl 0 rfl ?_
  refine z_iload_n B dX8_set_1 rfl 1 rfl ?_
  refine z_cVq (As := [.int 5]) (rest := []) B cw_X8_64 cx_9 dX8_set_2 (ci_X8_programAt_318 l (σ := (ap b σ [] [] [])) (b := b) (lyA hK) (rR_at 0 0 hR_0_0) (rR_at 1 5 hR_1_5)) (lKA (hk_K hK 0 rfl rfl)) rfl (by decide) rfl (Nat.le_of_ble_eq_true rfl) (by decide) (fun r u hu => ?_)
  refine z_eqs (σ' := (ap b σ [] [] [])) hu.2 ?_
  show zx p l e _ s m _ below meth c g 9 0 0 _ _ 5 [(0, .ref (b + 0)), (1, .int 5), (2, .int w1), (3, .int w2), (4, .int w3), (5, .int w4)] _
  refine z_setr (y := (some (b + 29))) hu.1 ?_
  refine z_astore (lv' := [(6, .ref (b + 29)), (0, .ref (b + 0)), (1, .int 5), (2, .int w1), (3, .int w2), (4, .int w3), (5, .int w4)]) B dX8_set_5 (by decide) rfl ?_
  refine z_aload B dX8_set_7 0 rfl ?_
  refine z_ifnull (r := (some (b + 29))) (tgt := 21) B dX8_set_9 (by decide) (fun h => nomatch h) (fun _ _ => ?_)
  refine z_iload_n B dX8_set_12 rfl 3 rfl ?_
  refine z_bipush (v := 20) B dX8_set_13 (by decide) ?_
  refine z_cSi (As := [.int w1, .int 20]) (rest := []) B cw_X8_68 dX8_set_15 (ci_X8_isBelow_64 l (σ := (ap b σ [] [] [])) (b := b) (lyA hK) w1 q1_w1 q2_w1) rfl (by decide) rfl (Nat.le_of_ble_eq_true rfl) (by decide) (fun r u hu => ?_)
  refine z_eqs (σ' := (ap b σ [] [] [])) hu.2 ?_
  show zx p l e _ s m _ below meth c g 9 0 0 _ _ 18 [(6, .ref (b + 29)), (0, .ref (b + 0)), (1, .int 5), (2, .int w1), (3, .int w2), (4, .int w3), (5, .int w4)] _
  refine z_seti (y := 1) hu.1 ?_
  refine z_if_ne (tgt := 31) B dX8_set_18 (by decide) (fun _ => ?_) (fun h => absurd h (by decide))
  refine z_iload_n B dX8_set_31 rfl 4 rfl ?_
  refine z_iload B dX8_set_32 5 rfl ?_
  refine z_iload B dX8_set_34 6 rfl ?_
  refine z_cSi (As := [.int w2, .int w3, .int w4]) (rest := []) B cw_X8_79 dX8_set_36 (ci_X8_isStep_85 l (σ := (ap b σ [] [] [])) (b := b) (lyA hK) w2 w3 w4 q1_w2 q2_w2 q1_w3 q2_w3 q1_w4 q2_w4) rfl (by decide) rfl (Nat.le_of_ble_eq_true rfl) (by decide) (fun r u hu => ?_)
  refine z_eqs (σ' := (ap b σ [] [] [])) hu.2 ?_
  show zx p l e _ s m _ below meth c g 9 0 0 _ _ 39 [(6, .ref (b + 29)), (0, .ref (b + 0)), (1, .int 5), (2, .int w1), (3, .int w2), (4, .int w3), (5, .int w4)] _
  refine z_seti (y := 1) hu.1 ?_
  refine z_if_ne (tgt := 52) B dX8_set_39 (by decide) (fun _ => ?_) (fun h => absurd h (by decide))
  refine z_aload B dX8_set_52 0 rfl ?_
  refine z_iload_n B dX8_set_54 rfl 3 rfl ?_
  refine z_iload_n B dX8_set_55 rfl 4 rfl ?_
  refine z_iload B dX8_set_56 5 rfl ?_
  refine z_iload B dX8_set_58 6 rfl ?_
  refine z_cVv (As := [.int w1, .int w2, .int w3, .int w4]) (rest := []) B cw_X8_88 cx_5 dX8_set_60 (ci_X4_put_340 l (σ := (ap b σ [] [] [])) (b := b) (lyA hK) w1 w2 w3 w4 q1_w1 q2_w1 (rR_at 29 1 hR_29_1) (rR_at 29 2 hR_29_2) (rR_at 29 3 hR_29_3)) (lKA (hk_K hK 29 rfl rfl)) rfl (by decide) rfl (Nat.le_of_ble_eq_true rfl) (by decide) (fun u hu => ?_)
  refine z_eqs (σ' := (ap b (wx_I (ap b (wx_I (ap b (wx_I (ap b (ap b σ [] [] []) [] [] []) (b + 30) w1.toNatClampNeg w2) [] [] []) (b + 31) w1.toNatClampNeg w3) [] [] []) (b + 32) w1.toNatClampNeg w4) [] [] [])) hu ?_
  show zx p l e _ s m _ below meth c g 9 0 0 _ _ 63 [(6, .ref (b + 29)), (0, .ref (b + 0)), (1, .int 5), (2, .int w1), (3, .int w2), (4, .int w3), (5, .int w4)] _
  refine z_aload_n B dX8_set_63 rfl 1 rfl ?_
  refine z_aload B dX8_set_64 0 rfl ?_
  refine z_cVv (As := [.ref (b + 29)]) (rest := []) B cw_X8_92 cx_9 dX8_set_66 (ci_X8_findAgain_341 l (σ := (ap b (wx_I (ap b (wx_I (ap b (wx_I (ap b (ap b σ [] [] []) [] [] []) (b + 30) w1.toNatClampNeg w2) [] [] []) (b + 31) w1.toNatClampNeg w3) [] [] []) (b + 32) w1.toNatClampNeg w4) [] [] [])) (b := b) (lyA (lyW (lyA (lyW (lyA (lyW (lyA (lyA hK)))))))) (rI_at 0 7 ((ux_a (by omega)).trans (rI_at 0 7 ((ux_a (by omega)).trans (rI_at 0 7 ((ux_a (by omega)).trans (rI_at 0 7 (rI_at 0 7 hI_0_7))))))))) (lKA (lKW (lKA (lKW (lKA (lKW (lKA (lKA (hk_K hK 0 rfl rfl))))))))) rfl (by decide) rfl (Nat.le_of_ble_eq_true rfl) (by decide) (fun u hu => ?_)
  refine z_eqs (σ' := (ap b (wx_I (ap b (wx_I (ap b (wx_I (ap b (ap b σ [] [] []) [] [] []) (b + 30) w1.toNatClampNeg w2) [] [] []) (b + 31) w1.toNatClampNeg w3) [] [] []) (b + 32) w1.toNatClampNeg w4) [] [] [])) hu ?_
  show zx p l e _ s m _ below meth c g 9 0 0 _ _ 69 [(6, .ref (b + 29)), (0, .ref (b + 0)), (1, .int 5), (2, .int w1), (3, .int w2), (4, .int w3), (5, .int w4)] _
  refine z_iconst (v := 0) B dX8_set_69 (by decide) ?_
  refine z_istore (lv' := [(7, .int 0), (6, .ref (b + 29)), (0, .ref (b + 0)), (1, .int 5), (2, .int w1), (3, .int w2), (4, .int w3), (5, .int w4)]) B dX8_set_70 (by decide) rfl ?_
  refine z_iload B dX8_set_72 0 rfl ?_
  refine z_aload_n B dX8_set_74 rfl 2 rfl ?_
  refine gf_X8_96 (x := 0) B (lKA (lKW (lKA (lKW (lKA (lKW (lKA (lKA (hk_K hK 0 rfl rfl))))))))) (rI_at 0 7 ((ux_a (by omega)).trans (rI_at 0 7 ((ux_a (by omega)).trans (rI_at 0 7 ((ux_a (by omega)).trans (rI_at 0 7 (rI_at 0 7 hI_0_7)))))))) dX8_set_75 ?_
  refine z_icmp_ge (tgt := 124) B dX8_set_78 (by decide) (fun _ => ?_) (fun h => absurd (by decide) h)
  refine z_aload_n B dX8_set_124 rfl 2 rfl ?_
  refine z_aload B dX8_set_125 1 rfl ?_
  refine z_cVi (As := [.ref (b + 29)]) (rest := []) B cw_X8_115 cx_9 dX8_set_127 (ci_X8_countAstray_342 l (σ := (ap b (wx_I (ap b (wx_I (ap b (wx_I (ap b (ap b σ [] [] []) [] [] []) (b + 30) w1.toNatClampNeg w2) [] [] []) (b + 31) w1.toNatClampNeg w3) [] [] []) (b + 32) w1.toNatClampNeg w4) [] [] [])) (b := b) (lyA (lyW (lyA (lyW (lyA (lyW (lyA (lyA hK)))))))) (rI_at 0 7 ((ux_a (by omega)).trans (rI_at 0 7 ((ux_a (by omega)).trans (rI_at 0 7 ((ux_a (by omega)).trans (rI_at 0 7 (rI_at 0 7 hI_0_7))))))))) (lKA (lKW (lKA (lKW (lKA (lKW (lKA (lKA (hk_K hK 0 rfl rfl))))))))) rfl (by decide) rfl (Nat.le_of_ble_eq_true rfl) (by decide) (fun r u hu => ?_)
  refine z_eqs (σ' := (ap b (wx_I (ap b (wx_I (ap b (wx_I (ap b (ap b σ [] [] []) [] [] []) (b + 30) w1.toNatClampNeg w2) [] [] []) (b + 31) w1.toNatClampNeg w3) [] [] []) (b + 32) w1.toNatClampNeg w4) [] [] [])) hu.2 ?_
  show zx p l e _ s m _ below meth c g 9 0 0 _ _ 130 [(7, .int 0), (6, .ref (b + 29)), (0, .ref (b + 0)), (1, .int 5), (2, .int w1), (3, .int w2), (4, .int w3), (5, .int w4)] _
  refine z_seti (y := 0) hu.1 ?_
  exact z_iret B hr (by decide) (by decide) dX8_set_130 ⟨rfl, rfl⟩
set_option maxRecDepth 100000 in
set_option maxHeartbeats 4000000 in
theorem ci_L_set_344 (l : Launch) {g : gx_T} {σ : sx_T} {b : Nat} (hK : lay b σ) (w1 : Int32) (w2 : Int32) (w3 : Int32) (w4 : Int32) (q1_w1 : (0 : Int) ≤ w1.toInt) (q2_w1 : w1.toInt ≤ (19 : Int)) (q1_w2 : (0 : Int) ≤ w2.toInt) (q2_w2 : w2.toInt ≤ (17 : Int)) (q1_w3 : (0 : Int) ≤ w3.toInt) (q2_w3 : w3.toInt ≤ (99 : Int)) (q1_w4 : (0 : Int) ≤ w4.toInt) (q2_w4 : w4.toInt ≤ (99 : Int)) (hI_0_7 : sx_I σ (b + 0) 7 = 0) (hR_0_0 : sx_R σ (b + 0) 0 = (some (b + 1))) (hR_1_5 : sx_R σ (b + 1) 5 = (some (b + 29))) (hR_29_1 : sx_R σ (b + 29) 1 = (some (b + 30))) (hR_29_2 : sx_R σ (b + 29) 2 = (some (b + 31))) (hR_29_3 : sx_R σ (b + 29) 3 = (some (b + 32))) : Met l yL_set (.codeWith yL_set cL_set 8 (some .int) [(0, 16, 19, 13), (0, 16, 23, 15)] :: lw_g) { frames := 3, cells := 0, slots := 0, locals := 71 } (va_Pc [.ref (b + 0), .int 5, .int w1, .int w2, .int w3, .int w4, .ref (b + 431)] (zx_w g σ)) (va_Qi (fun r u => r = 0 ∧ u = (ap b (wx_I (ap b (wx_I (ap b (wx_I (ap b (ap b (ap b σ [] [] []) [] [] []) [] [] []) (b + 30) w1.toNatClampNeg w2) [] [] []) (b + 31) w1.toNatClampNeg w3) [] [] []) (b + 32) w1.toNatClampNeg w4) [] [(431, 0, 0)] [])) (zx_w g) (gx_Q g)) 0 0 (gx_Q g) := by
  refine z_metW (by decide) (Nat.le_of_ble_eq_true rfl) (fun p e s m below meth c B hr htab => ?_)
  refine z_eqs (σ' := (ap b σ [] [] [])) rfl ?_
  show zx p l e _ s m _ below meth c g 8 0 0 _ _ 0 [(0, .ref (b + 0)), (1, .int 5), (2, .int w1), (3, .int w2), (4, .int w3), (5, .int w4), (6, .ref (b + 431))] []
  refine z_aload B dL_set_0 6 rfl ?_
  refine z_iconst (v := 0) B dL_set_2 (by decide) ?_
  refine z_aload_n B dL_set_3 rfl 0 rfl ?_
  refine z_iload_n B dL_set_4 rfl 1 rfl ?_
  refine z_iload_n B dL_set_5 rfl 2 rfl ?_
  refine z_iload_n B dL_set_6 rfl 3 rfl ?_
  refine z_iload B dL_set_7 4 rfl ?_
  refine z_iload B dL_set_9 5 rfl ?_
  refine z_cVi (As := [.int 5, .int w1, .int w2, .int w3, .int w4]) (rest := [.int 0, .ref (b + 431)]) B cw_L_7 cx_9 dL_set_11 (ci_X8_set_343 l (σ := (ap b σ [] [] [])) (b := b) (lyA hK) w1 w2 w3 w4 q1_w1 q2_w1 q1_w2 q2_w2 q1_w3 q2_w3 q1_w4 q2_w4 (rI_at 0 7 hI_0_7) (rR_at 0 0 hR_0_0) (rR_at 1 5 hR_1_5) (rR_at 29 1 hR_29_1) (rR_at 29 2 hR_29_2) (rR_at 29 3 hR_29_3)) (lKA (hk_K hK 0 rfl rfl)) rfl (by decide) rfl (Nat.le_of_ble_eq_true rfl) (by decide) (fun r u hu => ?_)
  refine z_eqs (σ' := (ap b (wx_I (ap b (wx_I (ap b (wx_I (ap b (ap b (ap b σ [] [] []) [] [] []) [] [] []) (b + 30) w1.toNatClampNeg w2) [] [] []) (b + 31) w1.toNatClampNeg w3) [] [] []) (b + 32) w1.toNatClampNeg w4) [] [] [])) hu.2 ?_
  show zx p l e _ s m _ below meth c g 8 0 0 _ _ 14 [(0, .ref (b + 0)), (1, .int 5), (2, .int w1), (3, .int w2), (4, .int w3), (5, .int w4), (6, .ref (b + 431))] _
  refine z_seti (y := 0) hu.1 ?_
  refine z_i2l (v := 0) B dL_set_14 (by decide) ?_
  refine z_last (j := 0) (σ' := (ap b (wx_I (ap b (wx_I (ap b (wx_I (ap b (ap b (ap b σ [] [] []) [] [] []) [] [] []) (b + 30) w1.toNatClampNeg w2) [] [] []) (b + 31) w1.toNatClampNeg w3) [] [] []) (b + 32) w1.toNatClampNeg w4) [] [(431, 0, 0)] [])) B (lKA (lKW (lKA (lKW (lKA (lKW (lKA (lKA (lKA (hk_K hK 431 rfl rfl)))))))))) (by decide) (in_of (lNA (lNW (lNA (lNW (lNA (lNW (lNA (lNA (lNA (hk_N hK 431 rfl rfl)))))))))) (show ¬ ((0 : Int32) < 0 ∨ 1 ≤ (0 : Int32).toNatClampNeg) by decide)) wJ_ap dL_set_15 ?_
  refine z_goto (tgt := 27) B dL_set_16 (by decide) ?_
  refine z_iconst (v := 0) B dL_set_27 (by decide) ?_
  exact z_iret B hr (by decide) (by decide) dL_set_28 ⟨rfl, rfl⟩
set_option maxRecDepth 100000 in
set_option maxHeartbeats 4000000 in
theorem ci_X9_lays_345 (l : Launch) {g : gx_T} {σ : sx_T} {b : Nat} (hK : lay b σ) (w1 : Int32) (w2 : Int32) (w3 : Int32) (w4 : Int32) (q1_w1 : (0 : Int) ≤ w1.toInt) (q2_w1 : w1.toInt ≤ (19 : Int)) (hR_405_3 : sx_R σ (b + 405) 3 = (some (b + 406))) (hR_405_4 : sx_R σ (b + 405) 4 = (some (b + 407))) (hR_405_5 : sx_R σ (b + 405) 5 = (some (b + 408))) : Met l yX9_lays (.code yX9_lays cX9_lays 6 none :: lw_g) { frames := 0, cells := 0, slots := 0, locals := 0 } (va_Pc [.ref (b + 405), .int 5, .int w1, .int w2, .int w3, .int w4] (zx_w g σ)) (va_Qv (fun u => u = (ap b (wx_I (ap b (wx_I (ap b (wx_I (ap b σ [] [] []) (b + 406) (100 + w1).toNatClampNeg w2) [] [] []) (b + 407) (100 + w1).toNatClampNeg w3) [] [] []) (b + 408) (100 + w1).toNatClampNeg w4) [] [] [])) (zx_w g) (gx_Q g)) 0 0 (gx_Q g) := by
  refine z_met (by decide) (Nat.le_of_ble_eq_true rfl) (fun p e s m below meth c B hr hin => ?_)
  refine z_eqs (σ' := (ap b σ [] [] [])) rfl ?_
  show zx p l e _ s m _ below meth c g 6 0 0 _ _ 0 [(0, .ref (b + 405)), (1, .int 5), (2, .int w1), (3, .int w2), (4, .int w3), (5, .int w4)] []
  refine z_aload_n B dX9_lays_0 rfl 0 rfl ?_
  refine gf_X9_13 (x := (some (b + 406))) B (lKA (hk_K hK 405 rfl rfl)) (rR_at 405 3 hR_405_3) dX9_lays_1 ?_
  refine z_bipush (v := 20) B dX9_lays_4 (by decide) ?_
  refine z_iload_n B dX9_lays_6 rfl 1 rfl ?_
  refine z_imul B dX9_lays_7 ?_
  refine z_seti (y := 100) (by decide) ?_
  refine z_iload_n B dX9_lays_8 rfl 2 rfl ?_
  refine z_iadd B dX9_lays_9 ?_
  refine z_iload_n B dX9_lays_10 rfl 3 rfl ?_
  refine z_iast (j := (100 + w1).toNatClampNeg) (σ' := (wx_I (ap b σ [] [] []) (b + 406) (100 + w1).toNatClampNeg w2)) B (lKA (hk_K hK 406 rfl rfl)) rfl (in_of (lNA (hk_N hK 406 rfl rfl)) (iv_inadd q1_w1 q2_w1 (by decide) (by decide))) rfl dX9_lays_11 ?_
  refine z_eqs (σ' := (ap b (wx_I (ap b σ [] [] []) (b + 406) (100 + w1).toNatClampNeg w2) [] [] [])) ap_nil ?_
  refine z_aload_n B dX9_lays_12 rfl 0 rfl ?_
  refine gf_X9_17 (x := (some (b + 407))) B (lKA (lKW (lKA (hk_K hK 405 rfl rfl)))) (rR_at 405 4 (rR_w (rR_at 405 4 hR_405_4))) dX9_lays_13 ?_
  refine z_bipush (v := 20) B dX9_lays_16 (by decide) ?_
  refine z_iload_n B dX9_lays_18 rfl 1 rfl ?_
  refine z_imul B dX9_lays_19 ?_
  refine z_seti (y := 100) (by decide) ?_
  refine z_iload_n B dX9_lays_20 rfl 2 rfl ?_
  refine z_iadd B dX9_lays_21 ?_
  refine z_iload B dX9_lays_22 4 rfl ?_
  refine z_iast (j := (100 + w1).toNatClampNeg) (σ' := (wx_I (ap b (wx_I (ap b σ [] [] []) (b + 406) (100 + w1).toNatClampNeg w2) [] [] []) (b + 407) (100 + w1).toNatClampNeg w3)) B (lKA (lKW (lKA (hk_K hK 407 rfl rfl)))) rfl (in_of (lNA (lNW (lNA (hk_N hK 407 rfl rfl)))) (iv_inadd q1_w1 q2_w1 (by decide) (by decide))) rfl dX9_lays_24 ?_
  refine z_eqs (σ' := (ap b (wx_I (ap b (wx_I (ap b σ [] [] []) (b + 406) (100 + w1).toNatClampNeg w2) [] [] []) (b + 407) (100 + w1).toNatClampNeg w3) [] [] [])) ap_nil ?_
  refine z_aload_n B dX9_lays_25 rfl 0 rfl ?_
  refine gf_X9_20 (x := (some (b + 408))) B (lKA (lKW (lKA (lKW (lKA (hk_K hK 405 rfl rfl)))))) (rR_at 405 5 (rR_w (rR_at 405 5 (rR_w (rR_at 405 5 hR_405_5))))) dX9_lays_26 ?_
  refine z_bipush (v := 20) B dX9_lays_29 (by decide) ?_
  refine z_iload_n B dX9_lays_31 rfl 1 rfl ?_
  refine z_imul B dX9_lays_32 ?_
  refine z_seti (y := 100) (by decide) ?_
  refine z_iload_n B dX9_lays_33 rfl 2 rfl ?_
  refine z_iadd B dX9_lays_34 ?_
  refine z_iload B dX9_lays_35 5 rfl ?_
  refine z_iast (j := (100 + w1).toNatClampNeg) (σ' := (wx_I (ap b (wx_I (ap b (wx_I (ap b σ [] [] []) (b + 406) (100 + w1).toNatClampNeg w2) [] [] []) (b + 407) (100 + w1).toNatClampNeg w3) [] [] []) (b + 408) (100 + w1).toNatClampNeg w4)) B (lKA (lKW (lKA (lKW (lKA (hk_K hK 408 rfl rfl)))))) rfl (in_of (lNA (lNW (lNA (lNW (lNA (hk_N hK 408 rfl rfl)))))) (iv_inadd q1_w1 q2_w1 (by decide) (by decide))) rfl dX9_lays_37 ?_
  refine z_eqs (σ' := (ap b (wx_I (ap b (wx_I (ap b (wx_I (ap b σ [] [] []) (b + 406) (100 + w1).toNatClampNeg w2) [] [] []) (b + 407) (100 + w1).toNatClampNeg w3) [] [] []) (b + 408) (100 + w1).toNatClampNeg w4) [] [] [])) ap_nil ?_
  exact z_vret B hr (by decide) (by decide) dX9_lays_38 rfl
set_option maxRecDepth 100000 in
set_option maxHeartbeats 4000000 in
theorem ci_X9_unfit_346 (l : Launch) {g : gx_T} {σ : sx_T} {b : Nat} (hK : lay b σ)   (hI_405_6 : sx_I σ (b + 405) 6 = 0) : Met l yX9_unfit (.code yX9_unfit cX9_unfit 4 (some .int) :: lw_g) { frames := 0, cells := 0, slots := 0, locals := 0 } (va_Pc [.ref (b + 405), .int 5] (zx_w g σ)) (va_Qi (fun r u => r = 0 ∧ u = σ) (zx_w g) (gx_Q g)) 0 0 (gx_Q g) := by
  refine z_met (by decide) (Nat.le_of_ble_eq_true rfl) (fun p e s m below meth c B hr hin => ?_)
  refine z_eqs (σ' := (ap b σ [] [] [])) rfl ?_
  show zx p l e _ s m _ below meth c g 4 0 0 _ _ 0 [(0, .ref (b + 405)), (1, .int 5)] []
  refine z_iconst (v := 0) B dX9_unfit_0 (by decide) ?_
  refine z_istore_n (lv' := [(2, .int 0), (0, .ref (b + 405)), (1, .int 5)]) B dX9_unfit_1 rfl (by decide) rfl ?_
  refine z_iconst (v := 0) B dX9_unfit_2 (by decide) ?_
  refine z_istore_n (lv' := [(3, .int 0), (2, .int 0), (0, .ref (b + 405)), (1, .int 5)]) B dX9_unfit_3 rfl (by decide) rfl ?_
  refine z_iload_n B dX9_unfit_4 rfl 0 rfl ?_
  refine z_aload_n B dX9_unfit_5 rfl 2 rfl ?_
  refine gf_X9_93 (x := 0) B (lKA (hk_K hK 405 rfl rfl)) (rI_at 405 6 hI_405_6) dX9_unfit_6 ?_
  refine z_icmp_ge (tgt := 53) B dX9_unfit_9 (by decide) (fun _ => ?_) (fun h => absurd (by decide) h)
  refine z_iload_n B dX9_unfit_53 rfl 1 rfl ?_
  exact z_iret B hr (by decide) (by decide) dX9_unfit_54 ⟨rfl, rfl⟩
set_option maxRecDepth 100000 in
set_option maxHeartbeats 4000000 in
theorem ci_X9_set_347 (l : Launch) {g : gx_T} {σ : sx_T} {b : Nat} (hK : lay b σ) (w1 : Int32) (w2 : Int32) (w3 : Int32) (w4 : Int32) (q1_w1 : (0 : Int) ≤ w1.toInt) (q2_w1 : w1.toInt ≤ (19 : Int)) (q1_w2 : (0 : Int) ≤ w2.toInt) (q2_w2 : w2.toInt ≤ (17 : Int)) (q1_w3 : (0 : Int) ≤ w3.toInt) (q2_w3 : w3.toInt ≤ (99 : Int)) (q1_w4 : (0 : Int) ≤ w4.toInt) (q2_w4 : w4.toInt ≤ (99 : Int)) (hI_405_6 : sx_I σ (b + 405) 6 = 0) (hR_405_3 : sx_R σ (b + 405) 3 = (some (b + 406))) (hR_405_4 : sx_R σ (b + 405) 4 = (some (b + 407))) (hR_405_5 : sx_R σ (b + 405) 5 = (some (b + 408))) : Met l yX9_set (.code yX9_set cX9_set 7 (some .int) :: lw_g) { frames := 2, cells := 0, slots := 0, locals := 44 } (va_Pc [.ref (b + 405), .int 5, .int w1, .int w2, .int w3, .int w4] (zx_w g σ)) (va_Qi (fun r u => r = 0 ∧ u = (ap b (wx_I (ap b (wx_I (ap b (wx_I (ap b (ap b σ [(405, 0, 0)] [] []) [] [] []) (b + 406) (100 + w1).toNatClampNeg w2) [] [] []) (b + 407) (100 + w1).toNatClampNeg w3) [] [] []) (b + 408) (100 + w1).toNatClampNeg w4) [] [] [])) (zx_w g) (gx_Q g)) 0 0 (gx_Q g) := by
  refine z_met (by decide) (Nat.le_of_ble_eq_true rfl) (fun p e s m below meth c B hr hin => ?_)
  refine z_eqs (σ' := (ap b σ [] [] [])) rfl ?_
  show zx p l e _ s m _ below meth c g 7 0 0 _ _ 0 [(0, .ref (b + 405)), (1, .int 5), (2, .int w1), (3, .int w2), (4, .int w3), (5, .int w4)] []
  refine z_aload_n B dX9_set_0 rfl 0 rfl ?_
  refine z_iload_n B dX9_set_1 rfl 1 rfl ?_
  refine z_iload_n B dX9_set_2 rfl 2 rfl ?_
  refine z_cSi (As := [.int 5, .int w1]) (rest := [.ref (b + 405)]) B cw_X9_238 dX9_set_3 (ci_X9_isStep_332 l (σ := (ap b σ [] [] [])) (b := b) (lyA hK) w1 q1_w1 q2_w1) rfl (by decide) rfl (Nat.le_of_ble_eq_true rfl) (by decide) (fun r u hu => ?_)
  refine z_eqs (σ' := (ap b σ [] [] [])) hu.2 ?_
  show zx p l e _ s m _ below meth c g 7 0 0 _ _ 6 [(0, .ref (b + 405)), (1, .int 5), (2, .int w1), (3, .int w2), (4, .int w3), (5, .int w4)] _
  refine z_seti (y := 1) hu.1 ?_
  refine z_iload_n B dX9_set_6 rfl 3 rfl ?_
  refine z_iload B dX9_set_7 4 rfl ?_
  refine z_iload B dX9_set_9 5 rfl ?_
  refine z_cSi (As := [.int w2, .int w3, .int w4]) (rest := [.int 1, .ref (b + 405)]) B cw_X9_242 dX9_set_11 (ci_X9_isOperation_39 l (σ := (ap b σ [] [] [])) (b := b) (lyA hK) w2 w3 w4 q1_w2 q2_w2 q1_w3 q2_w3 q1_w4 q2_w4) rfl (by decide) rfl (Nat.le_of_ble_eq_true rfl) (by decide) (fun r u hu => ?_)
  refine z_eqs (σ' := (ap b σ [] [] [])) hu.2 ?_
  show zx p l e _ s m _ below meth c g 7 0 0 _ _ 14 [(0, .ref (b + 405)), (1, .int 5), (2, .int w1), (3, .int w2), (4, .int w3), (5, .int w4)] _
  refine z_seti (y := 1) hu.1 ?_
  refine z_cVi (As := [.int 1, .int 1]) (rest := []) B cw_X9_245 cx_10 dX9_set_14 (ci_X9_needs__91 l (σ := (ap b σ [] [] [])) (b := b) (lyA hK) ) (lKA (hk_K hK 405 rfl rfl)) rfl (by decide) rfl (Nat.le_of_ble_eq_true rfl) (by decide) (fun r u hu => ?_)
  refine z_eqs (σ' := (ap b σ [(405, 0, 0)] [] [])) (hu.2.trans ap_ap) ?_
  show zx p l e _ s m _ below meth c g 7 0 0 _ _ 17 [(0, .ref (b + 405)), (1, .int 5), (2, .int w1), (3, .int w2), (4, .int w3), (5, .int w4)] _
  refine z_seti (y := 1) hu.1 ?_
  refine z_if_ne (tgt := 22) B dX9_set_17 (by decide) (fun _ => ?_) (fun h => absurd h (by decide))
  refine z_aload_n B dX9_set_22 rfl 0 rfl ?_
  refine z_iload_n B dX9_set_23 rfl 1 rfl ?_
  refine z_iload_n B dX9_set_24 rfl 2 rfl ?_
  refine z_iload_n B dX9_set_25 rfl 3 rfl ?_
  refine z_iload B dX9_set_26 4 rfl ?_
  refine z_iload B dX9_set_28 5 rfl ?_
  refine z_cVv (As := [.int 5, .int w1, .int w2, .int w3, .int w4]) (rest := []) B cw_X9_249 cx_10 dX9_set_30 (ci_X9_lays_345 l (σ := (ap b σ [(405, 0, 0)] [] [])) (b := b) (lyA hK) w1 w2 w3 w4 q1_w1 q2_w1 (rR_at 405 3 hR_405_3) (rR_at 405 4 hR_405_4) (rR_at 405 5 hR_405_5)) (lKA (hk_K hK 405 rfl rfl)) rfl (by decide) rfl (Nat.le_of_ble_eq_true rfl) (by decide) (fun u hu => ?_)
  refine z_eqs (σ' := (ap b (wx_I (ap b (wx_I (ap b (wx_I (ap b (ap b σ [(405, 0, 0)] [] []) [] [] []) (b + 406) (100 + w1).toNatClampNeg w2) [] [] []) (b + 407) (100 + w1).toNatClampNeg w3) [] [] []) (b + 408) (100 + w1).toNatClampNeg w4) [] [] [])) hu ?_
  show zx p l e _ s m _ below meth c g 7 0 0 _ _ 33 [(0, .ref (b + 405)), (1, .int 5), (2, .int w1), (3, .int w2), (4, .int w3), (5, .int w4)] _
  refine z_iconst (v := 0) B dX9_set_33 (by decide) ?_
  refine z_istore (lv' := [(6, .int 0), (0, .ref (b + 405)), (1, .int 5), (2, .int w1), (3, .int w2), (4, .int w3), (5, .int w4)]) B dX9_set_34 (by decide) rfl ?_
  refine z_iload B dX9_set_36 0 rfl ?_
  refine z_aload_n B dX9_set_38 rfl 1 rfl ?_
  refine gf_X9_93 (x := 0) B (lKA (lKW (lKA (lKW (lKA (lKW (lKA (lKA (hk_K hK 405 rfl rfl))))))))) (rI_at 405 6 ((ux_a (by omega)).trans (rI_at 405 6 ((ux_a (by omega)).trans (rI_at 405 6 ((ux_a (by omega)).trans (rI_at 405 6 (rI_at 405 6 hI_405_6)))))))) dX9_set_39 ?_
  refine z_icmp_ge (tgt := 87) B dX9_set_42 (by decide) (fun _ => ?_) (fun h => absurd (by decide) h)
  refine z_aload_n B dX9_set_87 rfl 1 rfl ?_
  refine z_iload_n B dX9_set_88 rfl 2 rfl ?_
  refine z_cVi (As := [.int 5]) (rest := []) B cw_X9_256 cx_10 dX9_set_89 (ci_X9_unfit_346 l (σ := (ap b (wx_I (ap b (wx_I (ap b (wx_I (ap b (ap b σ [(405, 0, 0)] [] []) [] [] []) (b + 406) (100 + w1).toNatClampNeg w2) [] [] []) (b + 407) (100 + w1).toNatClampNeg w3) [] [] []) (b + 408) (100 + w1).toNatClampNeg w4) [] [] [])) (b := b) (lyA (lyW (lyA (lyW (lyA (lyW (lyA (lyA hK)))))))) (rI_at 405 6 ((ux_a (by omega)).trans (rI_at 405 6 ((ux_a (by omega)).trans (rI_at 405 6 ((ux_a (by omega)).trans (rI_at 405 6 (rI_at 405 6 hI_405_6))))))))) (lKA (lKW (lKA (lKW (lKA (lKW (lKA (lKA (hk_K hK 405 rfl rfl))))))))) rfl (by decide) rfl (Nat.le_of_ble_eq_true rfl) (by decide) (fun r u hu => ?_)
  refine z_eqs (σ' := (ap b (wx_I (ap b (wx_I (ap b (wx_I (ap b (ap b σ [(405, 0, 0)] [] []) [] [] []) (b + 406) (100 + w1).toNatClampNeg w2) [] [] []) (b + 407) (100 + w1).toNatClampNeg w3) [] [] []) (b + 408) (100 + w1).toNatClampNeg w4) [] [] [])) hu.2 ?_
  show zx p l e _ s m _ below meth c g 7 0 0 _ _ 92 [(6, .int 0), (0, .ref (b + 405)), (1, .int 5), (2, .int w1), (3, .int w2), (4, .int w3), (5, .int w4)] _
  refine z_seti (y := 0) hu.1 ?_
  exact z_iret B hr (by decide) (by decide) dX9_set_92 ⟨rfl, rfl⟩
set_option maxRecDepth 100000 in
set_option maxHeartbeats 4000000 in
theorem ci_X8_set_348 (l : Launch) (hlt : l.stackTraces = false) {g : gx_T} {σ : sx_T} {b : Nat} (hK : lay b σ) (w1 : Int32) (w2 : Int32) (w3 : Int32) (w4 : Int32) (q1_w1 : (0 : Int) ≤ w1.toInt) (q2_w1 : w1.toInt ≤ (19 : Int)) (q1_w2 : (0 : Int) ≤ w2.toInt) (q2_w2 : w2.toInt ≤ (17 : Int)) (q1_w3 : (0 : Int) ≤ w3.toInt) (q2_w3 : w3.toInt ≤ (99 : Int)) (q1_w4 : (100 : Int) ≤ w4.toInt) (q2_w4 : w4.toInt ≤ (2147483647 : Int)) (hR_0_0 : sx_R σ (b + 0) 0 = (some (b + 1))) (hR_1_5 : sx_R σ (b + 1) 5 = (some (b + 29))) : vx_Met l yX8_set (.code yX8_set cX8_set 9 (some .int) :: lw_g) { frames := 7, cells := 1, slots := 6, locals := 136 } (va_Pc [.ref (b + 0), .int 5, .int w1, .int w2, .int w3, .int w4] (zx_w g σ)) (va_Qi (S := sx_T) (fun _ _ => False) (zx_w g) (gx_Q g)) (vx_X (fun u : sx_T => ∃ z, u = wx_Z σ z) (fun E u t => E = "java/lang/IllegalArgumentException" ∧ zx_h g u t.heap) (gx_Q g)) 1 6 (gx_Q g) := by
  refine z_metX (by decide) (Nat.le_of_ble_eq_true rfl) (fun p e s m below meth c B hr hin hout => ?_)
  refine z_eqs (σ' := (ap b σ [] [] [])) rfl ?_
  show zx p l e _ s m _ below meth c g 9 0 0 _ _ 0 [(0, .ref (b + 0)), (1, .int 5), (2, .int w1), (3, .int w2), (4, .int w3), (5, .int w4)] []
  refine z_aload_n B dX8_set_0 rfl 0 rfl ?_
  refine z_iload_n B dX8_set_1 rfl 1 rfl ?_
  refine z_cVq (As := [.int 5]) (rest := []) B cw_X8_64 cx_9 dX8_set_2 (ci_X8_programAt_318 l (σ := (ap b σ [] [] [])) (b := b) (lyA hK) (rR_at 0 0 hR_0_0) (rR_at 1 5 hR_1_5)) (lKA (hk_K hK 0 rfl rfl)) rfl (by decide) rfl (Nat.le_of_ble_eq_true rfl) (by decide) (fun r u hu => ?_)
  refine z_eqs (σ' := (ap b σ [] [] [])) hu.2 ?_
  show zx p l e _ s m _ below meth c g 9 0 0 _ _ 5 [(0, .ref (b + 0)), (1, .int 5), (2, .int w1), (3, .int w2), (4, .int w3), (5, .int w4)] _
  refine z_setr (y := (some (b + 29))) hu.1 ?_
  refine z_astore (lv' := [(6, .ref (b + 29)), (0, .ref (b + 0)), (1, .int 5), (2, .int w1), (3, .int w2), (4, .int w3), (5, .int w4)]) B dX8_set_5 (by decide) rfl ?_
  refine z_aload B dX8_set_7 0 rfl ?_
  refine z_ifnull (r := (some (b + 29))) (tgt := 21) B dX8_set_9 (by decide) (fun h => nomatch h) (fun _ _ => ?_)
  refine z_iload_n B dX8_set_12 rfl 3 rfl ?_
  refine z_bipush (v := 20) B dX8_set_13 (by decide) ?_
  refine z_cSi (As := [.int w1, .int 20]) (rest := []) B cw_X8_68 dX8_set_15 (ci_X8_isBelow_64 l (σ := (ap b σ [] [] [])) (b := b) (lyA hK) w1 q1_w1 q2_w1) rfl (by decide) rfl (Nat.le_of_ble_eq_true rfl) (by decide) (fun r u hu => ?_)
  refine z_eqs (σ' := (ap b σ [] [] [])) hu.2 ?_
  show zx p l e _ s m _ below meth c g 9 0 0 _ _ 18 [(6, .ref (b + 29)), (0, .ref (b + 0)), (1, .int 5), (2, .int w1), (3, .int w2), (4, .int w3), (5, .int w4)] _
  refine z_seti (y := 1) hu.1 ?_
  refine z_if_ne (tgt := 31) B dX8_set_18 (by decide) (fun _ => ?_) (fun h => absurd h (by decide))
  refine z_iload_n B dX8_set_31 rfl 4 rfl ?_
  refine z_iload B dX8_set_32 5 rfl ?_
  refine z_iload B dX8_set_34 6 rfl ?_
  refine z_cSi (As := [.int w2, .int w3, .int w4]) (rest := []) B cw_X8_79 dX8_set_36 (ci_X8_isStep_97 l (σ := (ap b σ [] [] [])) (b := b) (lyA hK) w2 w3 w4 q1_w2 q2_w2 q1_w3 q2_w3 q1_w4 q2_w4) rfl (by decide) rfl (Nat.le_of_ble_eq_true rfl) (by decide) (fun r u hu => ?_)
  refine z_eqs (σ' := (ap b σ [] [] [])) hu.2 ?_
  show zx p l e _ s m _ below meth c g 9 0 0 _ _ 39 [(6, .ref (b + 29)), (0, .ref (b + 0)), (1, .int 5), (2, .int w1), (3, .int w2), (4, .int w3), (5, .int w4)] _
  refine z_seti (y := 0) hu.1 ?_
  refine z_if_ne (tgt := 52) B dX8_set_39 (by decide) (fun h => absurd (by decide) h) (fun _ => ?_)
  exact z_throw B hlt hout (cls := "java/lang/IllegalArgumentException") (text := "no such operation") tw_X8_83_85_87 dX8_set_42 dX8_set_45 dX8_set_46 dX8_set_48 dX8_set_51 (by decide) (by decide) (by decide) (by decide) (by decide) (by decide) (fun z => ⟨z, rfl⟩)
set_option maxRecDepth 100000 in
set_option maxHeartbeats 4000000 in
theorem ci_L_set_349 (l : Launch) (hlt : l.stackTraces = false) {g : gx_T} {σ : sx_T} {b : Nat} (hK : lay b σ) (w1 : Int32) (w2 : Int32) (w3 : Int32) (w4 : Int32) (q1_w1 : (0 : Int) ≤ w1.toInt) (q2_w1 : w1.toInt ≤ (19 : Int)) (q1_w2 : (0 : Int) ≤ w2.toInt) (q2_w2 : w2.toInt ≤ (17 : Int)) (q1_w3 : (0 : Int) ≤ w3.toInt) (q2_w3 : w3.toInt ≤ (99 : Int)) (q1_w4 : (100 : Int) ≤ w4.toInt) (q2_w4 : w4.toInt ≤ (2147483647 : Int)) (hR_0_0 : sx_R σ (b + 0) 0 = (some (b + 1))) (hR_1_5 : sx_R σ (b + 1) 5 = (some (b + 29))) : Met l yL_set (.codeWith yL_set cL_set 8 (some .int) [(0, 16, 19, 13), (0, 16, 23, 15)] :: lw_g) { frames := 8, cells := 1, slots := 6, locals := 164 } (va_Pc [.ref (b + 0), .int 5, .int w1, .int w2, .int w3, .int w4, .ref (b + 431)] (zx_w g σ)) (va_Qi (fun r u => r = 2 ∧ ∃ z, u = (ap b (wx_Z σ z) [] [] [])) (zx_w g) (gx_Q g)) 1 6 (gx_Q g) := by
  refine z_metW (by decide) (Nat.le_of_ble_eq_true rfl) (fun p e s m below meth c B hr htab => ?_)
  refine z_eqs (σ' := (ap b σ [] [] [])) rfl ?_
  show zx p l e _ s m _ below meth c g 8 0 0 _ _ 0 [(0, .ref (b + 0)), (1, .int 5), (2, .int w1), (3, .int w2), (4, .int w3), (5, .int w4), (6, .ref (b + 431))] []
  refine z_aload B dL_set_0 6 rfl ?_
  refine z_iconst (v := 0) B dL_set_2 (by decide) ?_
  refine z_aload_n B dL_set_3 rfl 0 rfl ?_
  refine z_iload_n B dL_set_4 rfl 1 rfl ?_
  refine z_iload_n B dL_set_5 rfl 2 rfl ?_
  refine z_iload_n B dL_set_6 rfl 3 rfl ?_
  refine z_iload B dL_set_7 4 rfl ?_
  refine z_iload B dL_set_9 5 rfl ?_
  refine z_cXi (As := [.int 5, .int w1, .int w2, .int w3, .int w4]) (rest := [.int 0, .ref (b + 431)]) B htab tc_set_11_IllegalArgumentException cw_L_7 cx_9 dL_set_11 (ci_X8_set_348 l hlt (σ := (ap b σ [] [] [])) (b := b) (lyA hK) w1 w2 w3 w4 q1_w1 q2_w1 q1_w2 q2_w2 q1_w3 q2_w3 q1_w4 q2_w4 (rR_at 0 0 hR_0_0) (rR_at 1 5 hR_1_5)) (lKA (hk_K hK 0 rfl rfl)) rfl (by decide) rfl (Nat.le_of_ble_eq_true rfl) (by decide) (fun z q => ?_)
  refine z_eqs (σ' := (ap b (wx_Z σ z) [] [] [])) rfl ?_
  show zx p l e _ s m _ below meth c g 8 _ _ _ _ 23 [(0, .ref (b + 0)), (1, .int 5), (2, .int w1), (3, .int w2), (4, .int w3), (5, .int w4), (6, .ref (b + 431))] _
  refine z_astore (lv' := [(7, .ref q), (0, .ref (b + 0)), (1, .int 5), (2, .int w1), (3, .int w2), (4, .int w3), (5, .int w4), (6, .ref (b + 431))]) B dL_set_23 (by decide) rfl ?_
  refine z_iconst (v := 2) B dL_set_25 (by decide) ?_
  exact z_iret B hr (by decide) (by decide) dL_set_26 ⟨rfl, _, rfl⟩
set_option maxRecDepth 100000 in
set_option maxHeartbeats 4000000 in
theorem ci_X9_set_350 (l : Launch) {g : gx_T} {σ : sx_T} {b : Nat} (hK : lay b σ) (w1 : Int32) (w2 : Int32) (w3 : Int32) (w4 : Int32) (q1_w1 : (0 : Int) ≤ w1.toInt) (q2_w1 : w1.toInt ≤ (19 : Int)) (q1_w2 : (0 : Int) ≤ w2.toInt) (q2_w2 : w2.toInt ≤ (17 : Int)) (q1_w3 : (0 : Int) ≤ w3.toInt) (q2_w3 : w3.toInt ≤ (99 : Int)) (q1_w4 : (100 : Int) ≤ w4.toInt) (q2_w4 : w4.toInt ≤ (2147483647 : Int))  : Met l yX9_set (.code yX9_set cX9_set 7 (some .int) :: lw_g) { frames := 2, cells := 0, slots := 0, locals := 44 } (va_Pc [.ref (b + 405), .int 5, .int w1, .int w2, .int w3, .int w4] (zx_w g σ)) (va_Qi (fun r u => r = 0 ∧ u = (ap b σ [(405, 0, 2)] [] [])) (zx_w g) (gx_Q g)) 0 0 (gx_Q g) := by
  refine z_met (by decide) (Nat.le_of_ble_eq_true rfl) (fun p e s m below meth c B hr hin => ?_)
  refine z_eqs (σ' := (ap b σ [] [] [])) rfl ?_
  show zx p l e _ s m _ below meth c g 7 0 0 _ _ 0 [(0, .ref (b + 405)), (1, .int 5), (2, .int w1), (3, .int w2), (4, .int w3), (5, .int w4)] []
  refine z_aload_n B dX9_set_0 rfl 0 rfl ?_
  refine z_iload_n B dX9_set_1 rfl 1 rfl ?_
  refine z_iload_n B dX9_set_2 rfl 2 rfl ?_
  refine z_cSi (As := [.int 5, .int w1]) (rest := [.ref (b + 405)]) B cw_X9_238 dX9_set_3 (ci_X9_isStep_332 l (σ := (ap b σ [] [] [])) (b := b) (lyA hK) w1 q1_w1 q2_w1) rfl (by decide) rfl (Nat.le_of_ble_eq_true rfl) (by decide) (fun r u hu => ?_)
  refine z_eqs (σ' := (ap b σ [] [] [])) hu.2 ?_
  show zx p l e _ s m _ below meth c g 7 0 0 _ _ 6 [(0, .ref (b + 405)), (1, .int 5), (2, .int w1), (3, .int w2), (4, .int w3), (5, .int w4)] _
  refine z_seti (y := 1) hu.1 ?_
  refine z_iload_n B dX9_set_6 rfl 3 rfl ?_
  refine z_iload B dX9_set_7 4 rfl ?_
  refine z_iload B dX9_set_9 5 rfl ?_
  refine z_cSi (As := [.int w2, .int w3, .int w4]) (rest := [.int 1, .ref (b + 405)]) B cw_X9_242 dX9_set_11 (ci_X9_isOperation_43 l (σ := (ap b σ [] [] [])) (b := b) (lyA hK) w2 w3 w4 q1_w2 q2_w2 q1_w3 q2_w3 q1_w4 q2_w4) rfl (by decide) rfl (Nat.le_of_ble_eq_true rfl) (by decide) (fun r u hu => ?_)
  refine z_eqs (σ' := (ap b σ [] [] [])) hu.2 ?_
  show zx p l e _ s m _ below meth c g 7 0 0 _ _ 14 [(0, .ref (b + 405)), (1, .int 5), (2, .int w1), (3, .int w2), (4, .int w3), (5, .int w4)] _
  refine z_seti (y := 0) hu.1 ?_
  refine z_cVi (As := [.int 1, .int 0]) (rest := []) B cw_X9_245 cx_10 dX9_set_14 (ci_X9_needs__71 l (σ := (ap b σ [] [] [])) (b := b) (lyA hK) ) (lKA (hk_K hK 405 rfl rfl)) rfl (by decide) rfl (Nat.le_of_ble_eq_true rfl) (by decide) (fun r u hu => ?_)
  refine z_eqs (σ' := (ap b σ [(405, 0, 2)] [] [])) (hu.2.trans ap_ap) ?_
  show zx p l e _ s m _ below meth c g 7 0 0 _ _ 17 [(0, .ref (b + 405)), (1, .int 5), (2, .int w1), (3, .int w2), (4, .int w3), (5, .int w4)] _
  refine z_seti (y := 0) hu.1 ?_
  refine z_if_ne (tgt := 22) B dX9_set_17 (by decide) (fun h => absurd (by decide) h) (fun _ => ?_)
  refine z_iconst (v := 0) B dX9_set_20 (by decide) ?_
  exact z_iret B hr (by decide) (by decide) dX9_set_21 ⟨rfl, rfl⟩
set_option maxRecDepth 100000 in
set_option maxHeartbeats 4000000 in
theorem ci_X8_set_351 (l : Launch) (hlt : l.stackTraces = false) {g : gx_T} {σ : sx_T} {b : Nat} (hK : lay b σ) (w1 : Int32) (w2 : Int32) (w3 : Int32) (w4 : Int32) (q1_w1 : (0 : Int) ≤ w1.toInt) (q2_w1 : w1.toInt ≤ (19 : Int)) (q1_w2 : (0 : Int) ≤ w2.toInt) (q2_w2 : w2.toInt ≤ (17 : Int)) (q1_w3 : (100 : Int) ≤ w3.toInt) (q2_w3 : w3.toInt ≤ (2147483647 : Int)) (hR_0_0 : sx_R σ (b + 0) 0 = (some (b + 1))) (hR_1_5 : sx_R σ (b + 1) 5 = (some (b + 29))) : vx_Met l yX8_set (.code yX8_set cX8_set 9 (some .int) :: lw_g) { frames := 7, cells := 1, slots := 6, locals := 136 } (va_Pc [.ref (b + 0), .int 5, .int w1, .int w2, .int w3, .int w4] (zx_w g σ)) (va_Qi (S := sx_T) (fun _ _ => False) (zx_w g) (gx_Q g)) (vx_X (fun u : sx_T => ∃ z, u = wx_Z σ z) (fun E u t => E = "java/lang/IllegalArgumentException" ∧ zx_h g u t.heap) (gx_Q g)) 1 6 (gx_Q g) := by
  refine z_metX (by decide) (Nat.le_of_ble_eq_true rfl) (fun p e s m below meth c B hr hin hout => ?_)
  refine z_eqs (σ' := (ap b σ [] [] [])) rfl ?_
  show zx p l e _ s m _ below meth c g 9 0 0 _ _ 0 [(0, .ref (b + 0)), (1, .int 5), (2, .int w1), (3, .int w2), (4, .int w3), (5, .int w4)] []
  refine z_aload_n B dX8_set_0 rfl 0 rfl ?_
  refine z_iload_n B dX8_set_1 rfl 1 rfl ?_
  refine z_cVq (As := [.int 5]) (rest := []) B cw_X8_64 cx_9 dX8_set_2 (ci_X8_programAt_318 l (σ := (ap b σ [] [] [])) (b := b) (lyA hK) (rR_at 0 0 hR_0_0) (rR_at 1 5 hR_1_5)) (lKA (hk_K hK 0 rfl rfl)) rfl (by decide) rfl (Nat.le_of_ble_eq_true rfl) (by decide) (fun r u hu => ?_)
  refine z_eqs (σ' := (ap b σ [] [] [])) hu.2 ?_
  show zx p l e _ s m _ below meth c g 9 0 0 _ _ 5 [(0, .ref (b + 0)), (1, .int 5), (2, .int w1), (3, .int w2), (4, .int w3), (5, .int w4)] _
  refine z_setr (y := (some (b + 29))) hu.1 ?_
  refine z_astore (lv' := [(6, .ref (b + 29)), (0, .ref (b + 0)), (1, .int 5), (2, .int w1), (3, .int w2), (4, .int w3), (5, .int w4)]) B dX8_set_5 (by decide) rfl ?_
  refine z_aload B dX8_set_7 0 rfl ?_
  refine z_ifnull (r := (some (b + 29))) (tgt := 21) B dX8_set_9 (by decide) (fun h => nomatch h) (fun _ _ => ?_)
  refine z_iload_n B dX8_set_12 rfl 3 rfl ?_
  refine z_bipush (v := 20) B dX8_set_13 (by decide) ?_
  refine z_cSi (As := [.int w1, .int 20]) (rest := []) B cw_X8_68 dX8_set_15 (ci_X8_isBelow_64 l (σ := (ap b σ [] [] [])) (b := b) (lyA hK) w1 q1_w1 q2_w1) rfl (by decide) rfl (Nat.le_of_ble_eq_true rfl) (by decide) (fun r u hu => ?_)
  refine z_eqs (σ' := (ap b σ [] [] [])) hu.2 ?_
  show zx p l e _ s m _ below meth c g 9 0 0 _ _ 18 [(6, .ref (b + 29)), (0, .ref (b + 0)), (1, .int 5), (2, .int w1), (3, .int w2), (4, .int w3), (5, .int w4)] _
  refine z_seti (y := 1) hu.1 ?_
  refine z_if_ne (tgt := 31) B dX8_set_18 (by decide) (fun _ => ?_) (fun h => absurd h (by decide))
  refine z_iload_n B dX8_set_31 rfl 4 rfl ?_
  refine z_iload B dX8_set_32 5 rfl ?_
  refine z_iload B dX8_set_34 6 rfl ?_
  refine z_cSi (As := [.int w2, .int w3, .int w4]) (rest := []) B cw_X8_79 dX8_set_36 (ci_X8_isStep_101 l (σ := (ap b σ [] [] [])) (b := b) (lyA hK) w2 w3 w4 q1_w2 q2_w2 q1_w3 q2_w3) rfl (by decide) rfl (Nat.le_of_ble_eq_true rfl) (by decide) (fun r u hu => ?_)
  refine z_eqs (σ' := (ap b σ [] [] [])) hu.2 ?_
  show zx p l e _ s m _ below meth c g 9 0 0 _ _ 39 [(6, .ref (b + 29)), (0, .ref (b + 0)), (1, .int 5), (2, .int w1), (3, .int w2), (4, .int w3), (5, .int w4)] _
  refine z_seti (y := 0) hu.1 ?_
  refine z_if_ne (tgt := 52) B dX8_set_39 (by decide) (fun h => absurd (by decide) h) (fun _ => ?_)
  exact z_throw B hlt hout (cls := "java/lang/IllegalArgumentException") (text := "no such operation") tw_X8_83_85_87 dX8_set_42 dX8_set_45 dX8_set_46 dX8_set_48 dX8_set_51 (by decide) (by decide) (by decide) (by decide) (by decide) (by decide) (fun z => ⟨z, rfl⟩)
set_option maxRecDepth 100000 in
set_option maxHeartbeats 4000000 in
theorem ci_L_set_352 (l : Launch) (hlt : l.stackTraces = false) {g : gx_T} {σ : sx_T} {b : Nat} (hK : lay b σ) (w1 : Int32) (w2 : Int32) (w3 : Int32) (w4 : Int32) (q1_w1 : (0 : Int) ≤ w1.toInt) (q2_w1 : w1.toInt ≤ (19 : Int)) (q1_w2 : (0 : Int) ≤ w2.toInt) (q2_w2 : w2.toInt ≤ (17 : Int)) (q1_w3 : (100 : Int) ≤ w3.toInt) (q2_w3 : w3.toInt ≤ (2147483647 : Int)) (hR_0_0 : sx_R σ (b + 0) 0 = (some (b + 1))) (hR_1_5 : sx_R σ (b + 1) 5 = (some (b + 29))) : Met l yL_set (.codeWith yL_set cL_set 8 (some .int) [(0, 16, 19, 13), (0, 16, 23, 15)] :: lw_g) { frames := 8, cells := 1, slots := 6, locals := 164 } (va_Pc [.ref (b + 0), .int 5, .int w1, .int w2, .int w3, .int w4, .ref (b + 431)] (zx_w g σ)) (va_Qi (fun r u => r = 2 ∧ ∃ z, u = (ap b (wx_Z σ z) [] [] [])) (zx_w g) (gx_Q g)) 1 6 (gx_Q g) := by
  refine z_metW (by decide) (Nat.le_of_ble_eq_true rfl) (fun p e s m below meth c B hr htab => ?_)
  refine z_eqs (σ' := (ap b σ [] [] [])) rfl ?_
  show zx p l e _ s m _ below meth c g 8 0 0 _ _ 0 [(0, .ref (b + 0)), (1, .int 5), (2, .int w1), (3, .int w2), (4, .int w3), (5, .int w4), (6, .ref (b + 431))] []
  refine z_aload B dL_set_0 6 rfl ?_
  refine z_iconst (v := 0) B dL_set_2 (by decide) ?_
  refine z_aload_n B dL_set_3 rfl 0 rfl ?_
  refine z_iload_n B dL_set_4 rfl 1 rfl ?_
  refine z_iload_n B dL_set_5 rfl 2 rfl ?_
  refine z_iload_n B dL_set_6 rfl 3 rfl ?_
  refine z_iload B dL_set_7 4 rfl ?_
  refine z_iload B dL_set_9 5 rfl ?_
  refine z_cXi (As := [.int 5, .int w1, .int w2, .int w3, .int w4]) (rest := [.int 0, .ref (b + 431)]) B htab tc_set_11_IllegalArgumentException cw_L_7 cx_9 dL_set_11 (ci_X8_set_351 l hlt (σ := (ap b σ [] [] [])) (b := b) (lyA hK) w1 w2 w3 w4 q1_w1 q2_w1 q1_w2 q2_w2 q1_w3 q2_w3 (rR_at 0 0 hR_0_0) (rR_at 1 5 hR_1_5)) (lKA (hk_K hK 0 rfl rfl)) rfl (by decide) rfl (Nat.le_of_ble_eq_true rfl) (by decide) (fun z q => ?_)
  refine z_eqs (σ' := (ap b (wx_Z σ z) [] [] [])) rfl ?_
  show zx p l e _ s m _ below meth c g 8 _ _ _ _ 23 [(0, .ref (b + 0)), (1, .int 5), (2, .int w1), (3, .int w2), (4, .int w3), (5, .int w4), (6, .ref (b + 431))] _
  refine z_astore (lv' := [(7, .ref q), (0, .ref (b + 0)), (1, .int 5), (2, .int w1), (3, .int w2), (4, .int w3), (5, .int w4), (6, .ref (b + 431))]) B dL_set_23 (by decide) rfl ?_
  refine z_iconst (v := 2) B dL_set_25 (by decide) ?_
  exact z_iret B hr (by decide) (by decide) dL_set_26 ⟨rfl, _, rfl⟩
set_option maxRecDepth 100000 in
set_option maxHeartbeats 4000000 in
theorem ci_X9_set_353 (l : Launch) {g : gx_T} {σ : sx_T} {b : Nat} (hK : lay b σ) (w1 : Int32) (w2 : Int32) (w3 : Int32) (w4 : Int32) (q1_w1 : (0 : Int) ≤ w1.toInt) (q2_w1 : w1.toInt ≤ (19 : Int)) (q1_w2 : (0 : Int) ≤ w2.toInt) (q2_w2 : w2.toInt ≤ (17 : Int)) (q1_w3 : (100 : Int) ≤ w3.toInt) (q2_w3 : w3.toInt ≤ (2147483647 : Int))  : Met l yX9_set (.code yX9_set cX9_set 7 (some .int) :: lw_g) { frames := 2, cells := 0, slots := 0, locals := 44 } (va_Pc [.ref (b + 405), .int 5, .int w1, .int w2, .int w3, .int w4] (zx_w g σ)) (va_Qi (fun r u => r = 0 ∧ u = (ap b σ [(405, 0, 2)] [] [])) (zx_w g) (gx_Q g)) 0 0 (gx_Q g) := by
  refine z_met (by decide) (Nat.le_of_ble_eq_true rfl) (fun p e s m below meth c B hr hin => ?_)
  refine z_eqs (σ' := (ap b σ [] [] [])) rfl ?_
  show zx p l e _ s m _ below meth c g 7 0 0 _ _ 0 [(0, .ref (b + 405)), (1, .int 5), (2, .int w1), (3, .int w2), (4, .int w3), (5, .int w4)] []
  refine z_aload_n B dX9_set_0 rfl 0 rfl ?_
  refine z_iload_n B dX9_set_1 rfl 1 rfl ?_
  refine z_iload_n B dX9_set_2 rfl 2 rfl ?_
  refine z_cSi (As := [.int 5, .int w1]) (rest := [.ref (b + 405)]) B cw_X9_238 dX9_set_3 (ci_X9_isStep_332 l (σ := (ap b σ [] [] [])) (b := b) (lyA hK) w1 q1_w1 q2_w1) rfl (by decide) rfl (Nat.le_of_ble_eq_true rfl) (by decide) (fun r u hu => ?_)
  refine z_eqs (σ' := (ap b σ [] [] [])) hu.2 ?_
  show zx p l e _ s m _ below meth c g 7 0 0 _ _ 6 [(0, .ref (b + 405)), (1, .int 5), (2, .int w1), (3, .int w2), (4, .int w3), (5, .int w4)] _
  refine z_seti (y := 1) hu.1 ?_
  refine z_iload_n B dX9_set_6 rfl 3 rfl ?_
  refine z_iload B dX9_set_7 4 rfl ?_
  refine z_iload B dX9_set_9 5 rfl ?_
  refine z_cSi (As := [.int w2, .int w3, .int w4]) (rest := [.int 1, .ref (b + 405)]) B cw_X9_242 dX9_set_11 (ci_X9_isOperation_45 l (σ := (ap b σ [] [] [])) (b := b) (lyA hK) w2 w3 w4 q1_w2 q2_w2 q1_w3 q2_w3) rfl (by decide) rfl (Nat.le_of_ble_eq_true rfl) (by decide) (fun r u hu => ?_)
  refine z_eqs (σ' := (ap b σ [] [] [])) hu.2 ?_
  show zx p l e _ s m _ below meth c g 7 0 0 _ _ 14 [(0, .ref (b + 405)), (1, .int 5), (2, .int w1), (3, .int w2), (4, .int w3), (5, .int w4)] _
  refine z_seti (y := 0) hu.1 ?_
  refine z_cVi (As := [.int 1, .int 0]) (rest := []) B cw_X9_245 cx_10 dX9_set_14 (ci_X9_needs__71 l (σ := (ap b σ [] [] [])) (b := b) (lyA hK) ) (lKA (hk_K hK 405 rfl rfl)) rfl (by decide) rfl (Nat.le_of_ble_eq_true rfl) (by decide) (fun r u hu => ?_)
  refine z_eqs (σ' := (ap b σ [(405, 0, 2)] [] [])) (hu.2.trans ap_ap) ?_
  show zx p l e _ s m _ below meth c g 7 0 0 _ _ 17 [(0, .ref (b + 405)), (1, .int 5), (2, .int w1), (3, .int w2), (4, .int w3), (5, .int w4)] _
  refine z_seti (y := 0) hu.1 ?_
  refine z_if_ne (tgt := 22) B dX9_set_17 (by decide) (fun h => absurd (by decide) h) (fun _ => ?_)
  refine z_iconst (v := 0) B dX9_set_20 (by decide) ?_
  exact z_iret B hr (by decide) (by decide) dX9_set_21 ⟨rfl, rfl⟩
set_option maxRecDepth 100000 in
set_option maxHeartbeats 4000000 in
theorem ci_X8_set_354 (l : Launch) (hlt : l.stackTraces = false) {g : gx_T} {σ : sx_T} {b : Nat} (hK : lay b σ) (w1 : Int32) (w2 : Int32) (w3 : Int32) (w4 : Int32) (q1_w1 : (0 : Int) ≤ w1.toInt) (q2_w1 : w1.toInt ≤ (19 : Int)) (q1_w2 : (18 : Int) ≤ w2.toInt) (q2_w2 : w2.toInt ≤ (2147483647 : Int)) (hR_0_0 : sx_R σ (b + 0) 0 = (some (b + 1))) (hR_1_5 : sx_R σ (b + 1) 5 = (some (b + 29))) : vx_Met l yX8_set (.code yX8_set cX8_set 9 (some .int) :: lw_g) { frames := 7, cells := 1, slots := 6, locals := 136 } (va_Pc [.ref (b + 0), .int 5, .int w1, .int w2, .int w3, .int w4] (zx_w g σ)) (va_Qi (S := sx_T) (fun _ _ => False) (zx_w g) (gx_Q g)) (vx_X (fun u : sx_T => ∃ z, u = wx_Z σ z) (fun E u t => E = "java/lang/IllegalArgumentException" ∧ zx_h g u t.heap) (gx_Q g)) 1 6 (gx_Q g) := by
  refine z_metX (by decide) (Nat.le_of_ble_eq_true rfl) (fun p e s m below meth c B hr hin hout => ?_)
  refine z_eqs (σ' := (ap b σ [] [] [])) rfl ?_
  show zx p l e _ s m _ below meth c g 9 0 0 _ _ 0 [(0, .ref (b + 0)), (1, .int 5), (2, .int w1), (3, .int w2), (4, .int w3), (5, .int w4)] []
  refine z_aload_n B dX8_set_0 rfl 0 rfl ?_
  refine z_iload_n B dX8_set_1 rfl 1 rfl ?_
  refine z_cVq (As := [.int 5]) (rest := []) B cw_X8_64 cx_9 dX8_set_2 (ci_X8_programAt_318 l (σ := (ap b σ [] [] [])) (b := b) (lyA hK) (rR_at 0 0 hR_0_0) (rR_at 1 5 hR_1_5)) (lKA (hk_K hK 0 rfl rfl)) rfl (by decide) rfl (Nat.le_of_ble_eq_true rfl) (by decide) (fun r u hu => ?_)
  refine z_eqs (σ' := (ap b σ [] [] [])) hu.2 ?_
  show zx p l e _ s m _ below meth c g 9 0 0 _ _ 5 [(0, .ref (b + 0)), (1, .int 5), (2, .int w1), (3, .int w2), (4, .int w3), (5, .int w4)] _
  refine z_setr (y := (some (b + 29))) hu.1 ?_
  refine z_astore (lv' := [(6, .ref (b + 29)), (0, .ref (b + 0)), (1, .int 5), (2, .int w1), (3, .int w2), (4, .int w3), (5, .int w4)]) B dX8_set_5 (by decide) rfl ?_
  refine z_aload B dX8_set_7 0 rfl ?_
  refine z_ifnull (r := (some (b + 29))) (tgt := 21) B dX8_set_9 (by decide) (fun h => nomatch h) (fun _ _ => ?_)
  refine z_iload_n B dX8_set_12 rfl 3 rfl ?_
  refine z_bipush (v := 20) B dX8_set_13 (by decide) ?_
  refine z_cSi (As := [.int w1, .int 20]) (rest := []) B cw_X8_68 dX8_set_15 (ci_X8_isBelow_64 l (σ := (ap b σ [] [] [])) (b := b) (lyA hK) w1 q1_w1 q2_w1) rfl (by decide) rfl (Nat.le_of_ble_eq_true rfl) (by decide) (fun r u hu => ?_)
  refine z_eqs (σ' := (ap b σ [] [] [])) hu.2 ?_
  show zx p l e _ s m _ below meth c g 9 0 0 _ _ 18 [(6, .ref (b + 29)), (0, .ref (b + 0)), (1, .int 5), (2, .int w1), (3, .int w2), (4, .int w3), (5, .int w4)] _
  refine z_seti (y := 1) hu.1 ?_
  refine z_if_ne (tgt := 31) B dX8_set_18 (by decide) (fun _ => ?_) (fun h => absurd h (by decide))
  refine z_iload_n B dX8_set_31 rfl 4 rfl ?_
  refine z_iload B dX8_set_32 5 rfl ?_
  refine z_iload B dX8_set_34 6 rfl ?_
  refine z_cSi (As := [.int w2, .int w3, .int w4]) (rest := []) B cw_X8_79 dX8_set_36 (ci_X8_isStep_106 l (σ := (ap b σ [] [] [])) (b := b) (lyA hK) w2 w3 w4 q1_w2 q2_w2) rfl (by decide) rfl (Nat.le_of_ble_eq_true rfl) (by decide) (fun r u hu => ?_)
  refine z_eqs (σ' := (ap b σ [] [] [])) hu.2 ?_
  show zx p l e _ s m _ below meth c g 9 0 0 _ _ 39 [(6, .ref (b + 29)), (0, .ref (b + 0)), (1, .int 5), (2, .int w1), (3, .int w2), (4, .int w3), (5, .int w4)] _
  refine z_seti (y := 0) hu.1 ?_
  refine z_if_ne (tgt := 52) B dX8_set_39 (by decide) (fun h => absurd (by decide) h) (fun _ => ?_)
  exact z_throw B hlt hout (cls := "java/lang/IllegalArgumentException") (text := "no such operation") tw_X8_83_85_87 dX8_set_42 dX8_set_45 dX8_set_46 dX8_set_48 dX8_set_51 (by decide) (by decide) (by decide) (by decide) (by decide) (by decide) (fun z => ⟨z, rfl⟩)
set_option maxRecDepth 100000 in
set_option maxHeartbeats 4000000 in
theorem ci_L_set_355 (l : Launch) (hlt : l.stackTraces = false) {g : gx_T} {σ : sx_T} {b : Nat} (hK : lay b σ) (w1 : Int32) (w2 : Int32) (w3 : Int32) (w4 : Int32) (q1_w1 : (0 : Int) ≤ w1.toInt) (q2_w1 : w1.toInt ≤ (19 : Int)) (q1_w2 : (18 : Int) ≤ w2.toInt) (q2_w2 : w2.toInt ≤ (2147483647 : Int)) (hR_0_0 : sx_R σ (b + 0) 0 = (some (b + 1))) (hR_1_5 : sx_R σ (b + 1) 5 = (some (b + 29))) : Met l yL_set (.codeWith yL_set cL_set 8 (some .int) [(0, 16, 19, 13), (0, 16, 23, 15)] :: lw_g) { frames := 8, cells := 1, slots := 6, locals := 164 } (va_Pc [.ref (b + 0), .int 5, .int w1, .int w2, .int w3, .int w4, .ref (b + 431)] (zx_w g σ)) (va_Qi (fun r u => r = 2 ∧ ∃ z, u = (ap b (wx_Z σ z) [] [] [])) (zx_w g) (gx_Q g)) 1 6 (gx_Q g) := by
  refine z_metW (by decide) (Nat.le_of_ble_eq_true rfl) (fun p e s m below meth c B hr htab => ?_)
  refine z_eqs (σ' := (ap b σ [] [] [])) rfl ?_
  show zx p l e _ s m _ below meth c g 8 0 0 _ _ 0 [(0, .ref (b + 0)), (1, .int 5), (2, .int w1), (3, .int w2), (4, .int w3), (5, .int w4), (6, .ref (b + 431))] []
  refine z_aload B dL_set_0 6 rfl ?_
  refine z_iconst (v := 0) B dL_set_2 (by decide) ?_
  refine z_aload_n B dL_set_3 rfl 0 rfl ?_
  refine z_iload_n B dL_set_4 rfl 1 rfl ?_
  refine z_iload_n B dL_set_5 rfl 2 rfl ?_
  refine z_iload_n B dL_set_6 rfl 3 rfl ?_
  refine z_iload B dL_set_7 4 rfl ?_
  refine z_iload B dL_set_9 5 rfl ?_
  refine z_cXi (As := [.int 5, .int w1, .int w2, .int w3, .int w4]) (rest := [.int 0, .ref (b + 431)]) B htab tc_set_11_IllegalArgumentException cw_L_7 cx_9 dL_set_11 (ci_X8_set_354 l hlt (σ := (ap b σ [] [] [])) (b := b) (lyA hK) w1 w2 w3 w4 q1_w1 q2_w1 q1_w2 q2_w2 (rR_at 0 0 hR_0_0) (rR_at 1 5 hR_1_5)) (lKA (hk_K hK 0 rfl rfl)) rfl (by decide) rfl (Nat.le_of_ble_eq_true rfl) (by decide) (fun z q => ?_)
  refine z_eqs (σ' := (ap b (wx_Z σ z) [] [] [])) rfl ?_
  show zx p l e _ s m _ below meth c g 8 _ _ _ _ 23 [(0, .ref (b + 0)), (1, .int 5), (2, .int w1), (3, .int w2), (4, .int w3), (5, .int w4), (6, .ref (b + 431))] _
  refine z_astore (lv' := [(7, .ref q), (0, .ref (b + 0)), (1, .int 5), (2, .int w1), (3, .int w2), (4, .int w3), (5, .int w4), (6, .ref (b + 431))]) B dL_set_23 (by decide) rfl ?_
  refine z_iconst (v := 2) B dL_set_25 (by decide) ?_
  exact z_iret B hr (by decide) (by decide) dL_set_26 ⟨rfl, _, rfl⟩
set_option maxRecDepth 100000 in
set_option maxHeartbeats 4000000 in
theorem ci_X9_set_356 (l : Launch) {g : gx_T} {σ : sx_T} {b : Nat} (hK : lay b σ) (w1 : Int32) (w2 : Int32) (w3 : Int32) (w4 : Int32) (q1_w1 : (0 : Int) ≤ w1.toInt) (q2_w1 : w1.toInt ≤ (19 : Int)) (q1_w2 : (18 : Int) ≤ w2.toInt) (q2_w2 : w2.toInt ≤ (2147483647 : Int))  : Met l yX9_set (.code yX9_set cX9_set 7 (some .int) :: lw_g) { frames := 2, cells := 0, slots := 0, locals := 44 } (va_Pc [.ref (b + 405), .int 5, .int w1, .int w2, .int w3, .int w4] (zx_w g σ)) (va_Qi (fun r u => r = 0 ∧ u = (ap b σ [(405, 0, 2)] [] [])) (zx_w g) (gx_Q g)) 0 0 (gx_Q g) := by
  refine z_met (by decide) (Nat.le_of_ble_eq_true rfl) (fun p e s m below meth c B hr hin => ?_)
  refine z_eqs (σ' := (ap b σ [] [] [])) rfl ?_
  show zx p l e _ s m _ below meth c g 7 0 0 _ _ 0 [(0, .ref (b + 405)), (1, .int 5), (2, .int w1), (3, .int w2), (4, .int w3), (5, .int w4)] []
  refine z_aload_n B dX9_set_0 rfl 0 rfl ?_
  refine z_iload_n B dX9_set_1 rfl 1 rfl ?_
  refine z_iload_n B dX9_set_2 rfl 2 rfl ?_
  refine z_cSi (As := [.int 5, .int w1]) (rest := [.ref (b + 405)]) B cw_X9_238 dX9_set_3 (ci_X9_isStep_332 l (σ := (ap b σ [] [] [])) (b := b) (lyA hK) w1 q1_w1 q2_w1) rfl (by decide) rfl (Nat.le_of_ble_eq_true rfl) (by decide) (fun r u hu => ?_)
  refine z_eqs (σ' := (ap b σ [] [] [])) hu.2 ?_
  show zx p l e _ s m _ below meth c g 7 0 0 _ _ 6 [(0, .ref (b + 405)), (1, .int 5), (2, .int w1), (3, .int w2), (4, .int w3), (5, .int w4)] _
  refine z_seti (y := 1) hu.1 ?_
  refine z_iload_n B dX9_set_6 rfl 3 rfl ?_
  refine z_iload B dX9_set_7 4 rfl ?_
  refine z_iload B dX9_set_9 5 rfl ?_
  refine z_cSi (As := [.int w2, .int w3, .int w4]) (rest := [.int 1, .ref (b + 405)]) B cw_X9_242 dX9_set_11 (ci_X9_isOperation_48 l (σ := (ap b σ [] [] [])) (b := b) (lyA hK) w2 w3 w4 q1_w2 q2_w2) rfl (by decide) rfl (Nat.le_of_ble_eq_true rfl) (by decide) (fun r u hu => ?_)
  refine z_eqs (σ' := (ap b σ [] [] [])) hu.2 ?_
  show zx p l e _ s m _ below meth c g 7 0 0 _ _ 14 [(0, .ref (b + 405)), (1, .int 5), (2, .int w1), (3, .int w2), (4, .int w3), (5, .int w4)] _
  refine z_seti (y := 0) hu.1 ?_
  refine z_cVi (As := [.int 1, .int 0]) (rest := []) B cw_X9_245 cx_10 dX9_set_14 (ci_X9_needs__71 l (σ := (ap b σ [] [] [])) (b := b) (lyA hK) ) (lKA (hk_K hK 405 rfl rfl)) rfl (by decide) rfl (Nat.le_of_ble_eq_true rfl) (by decide) (fun r u hu => ?_)
  refine z_eqs (σ' := (ap b σ [(405, 0, 2)] [] [])) (hu.2.trans ap_ap) ?_
  show zx p l e _ s m _ below meth c g 7 0 0 _ _ 17 [(0, .ref (b + 405)), (1, .int 5), (2, .int w1), (3, .int w2), (4, .int w3), (5, .int w4)] _
  refine z_seti (y := 0) hu.1 ?_
  refine z_if_ne (tgt := 22) B dX9_set_17 (by decide) (fun h => absurd (by decide) h) (fun _ => ?_)
  refine z_iconst (v := 0) B dX9_set_20 (by decide) ?_
  exact z_iret B hr (by decide) (by decide) dX9_set_21 ⟨rfl, rfl⟩
set_option maxRecDepth 100000 in
set_option maxHeartbeats 4000000 in
theorem ci_X8_set_357 (l : Launch) (hlt : l.stackTraces = false) {g : gx_T} {σ : sx_T} {b : Nat} (hK : lay b σ) (w1 : Int32) (w2 : Int32) (w3 : Int32) (w4 : Int32) (q1_w1 : (20 : Int) ≤ w1.toInt) (q2_w1 : w1.toInt ≤ (2147483647 : Int)) (hR_0_0 : sx_R σ (b + 0) 0 = (some (b + 1))) (hR_1_5 : sx_R σ (b + 1) 5 = (some (b + 29))) : vx_Met l yX8_set (.code yX8_set cX8_set 9 (some .int) :: lw_g) { frames := 7, cells := 1, slots := 6, locals := 136 } (va_Pc [.ref (b + 0), .int 5, .int w1, .int w2, .int w3, .int w4] (zx_w g σ)) (va_Qi (S := sx_T) (fun _ _ => False) (zx_w g) (gx_Q g)) (vx_X (fun u : sx_T => ∃ z, u = wx_Z σ z) (fun E u t => E = "java/lang/IndexOutOfBoundsException" ∧ zx_h g u t.heap) (gx_Q g)) 1 6 (gx_Q g) := by
  refine z_metX (by decide) (Nat.le_of_ble_eq_true rfl) (fun p e s m below meth c B hr hin hout => ?_)
  refine z_eqs (σ' := (ap b σ [] [] [])) rfl ?_
  show zx p l e _ s m _ below meth c g 9 0 0 _ _ 0 [(0, .ref (b + 0)), (1, .int 5), (2, .int w1), (3, .int w2), (4, .int w3), (5, .int w4)] []
  refine z_aload_n B dX8_set_0 rfl 0 rfl ?_
  refine z_iload_n B dX8_set_1 rfl 1 rfl ?_
  refine z_cVq (As := [.int 5]) (rest := []) B cw_X8_64 cx_9 dX8_set_2 (ci_X8_programAt_318 l (σ := (ap b σ [] [] [])) (b := b) (lyA hK) (rR_at 0 0 hR_0_0) (rR_at 1 5 hR_1_5)) (lKA (hk_K hK 0 rfl rfl)) rfl (by decide) rfl (Nat.le_of_ble_eq_true rfl) (by decide) (fun r u hu => ?_)
  refine z_eqs (σ' := (ap b σ [] [] [])) hu.2 ?_
  show zx p l e _ s m _ below meth c g 9 0 0 _ _ 5 [(0, .ref (b + 0)), (1, .int 5), (2, .int w1), (3, .int w2), (4, .int w3), (5, .int w4)] _
  refine z_setr (y := (some (b + 29))) hu.1 ?_
  refine z_astore (lv' := [(6, .ref (b + 29)), (0, .ref (b + 0)), (1, .int 5), (2, .int w1), (3, .int w2), (4, .int w3), (5, .int w4)]) B dX8_set_5 (by decide) rfl ?_
  refine z_aload B dX8_set_7 0 rfl ?_
  refine z_ifnull (r := (some (b + 29))) (tgt := 21) B dX8_set_9 (by decide) (fun h => nomatch h) (fun _ _ => ?_)
  refine z_iload_n B dX8_set_12 rfl 3 rfl ?_
  refine z_bipush (v := 20) B dX8_set_13 (by decide) ?_
  refine z_cSi (As := [.int w1, .int 20]) (rest := []) B cw_X8_68 dX8_set_15 (ci_X8_isBelow_110 l (σ := (ap b σ [] [] [])) (b := b) (lyA hK) w1 q1_w1 q2_w1) rfl (by decide) rfl (Nat.le_of_ble_eq_true rfl) (by decide) (fun r u hu => ?_)
  refine z_eqs (σ' := (ap b σ [] [] [])) hu.2 ?_
  show zx p l e _ s m _ below meth c g 9 0 0 _ _ 18 [(6, .ref (b + 29)), (0, .ref (b + 0)), (1, .int 5), (2, .int w1), (3, .int w2), (4, .int w3), (5, .int w4)] _
  refine z_seti (y := 0) hu.1 ?_
  refine z_if_ne (tgt := 31) B dX8_set_18 (by decide) (fun h => absurd (by decide) h) (fun _ => ?_)
  exact z_throw B hlt hout (cls := "java/lang/IndexOutOfBoundsException") (text := "no such step") tw_X8_72_74_76 dX8_set_21 dX8_set_24 dX8_set_25 dX8_set_27 dX8_set_30 (by decide) (by decide) (by decide) (by decide) (by decide) (by decide) (fun z => ⟨z, rfl⟩)
set_option maxRecDepth 100000 in
set_option maxHeartbeats 4000000 in
theorem ci_L_set_358 (l : Launch) (hlt : l.stackTraces = false) {g : gx_T} {σ : sx_T} {b : Nat} (hK : lay b σ) (w1 : Int32) (w2 : Int32) (w3 : Int32) (w4 : Int32) (q1_w1 : (20 : Int) ≤ w1.toInt) (q2_w1 : w1.toInt ≤ (2147483647 : Int)) (hR_0_0 : sx_R σ (b + 0) 0 = (some (b + 1))) (hR_1_5 : sx_R σ (b + 1) 5 = (some (b + 29))) : Met l yL_set (.codeWith yL_set cL_set 8 (some .int) [(0, 16, 19, 13), (0, 16, 23, 15)] :: lw_g) { frames := 8, cells := 1, slots := 6, locals := 164 } (va_Pc [.ref (b + 0), .int 5, .int w1, .int w2, .int w3, .int w4, .ref (b + 431)] (zx_w g σ)) (va_Qi (fun r u => r = 1 ∧ ∃ z, u = (ap b (wx_Z σ z) [] [] [])) (zx_w g) (gx_Q g)) 1 6 (gx_Q g) := by
  refine z_metW (by decide) (Nat.le_of_ble_eq_true rfl) (fun p e s m below meth c B hr htab => ?_)
  refine z_eqs (σ' := (ap b σ [] [] [])) rfl ?_
  show zx p l e _ s m _ below meth c g 8 0 0 _ _ 0 [(0, .ref (b + 0)), (1, .int 5), (2, .int w1), (3, .int w2), (4, .int w3), (5, .int w4), (6, .ref (b + 431))] []
  refine z_aload B dL_set_0 6 rfl ?_
  refine z_iconst (v := 0) B dL_set_2 (by decide) ?_
  refine z_aload_n B dL_set_3 rfl 0 rfl ?_
  refine z_iload_n B dL_set_4 rfl 1 rfl ?_
  refine z_iload_n B dL_set_5 rfl 2 rfl ?_
  refine z_iload_n B dL_set_6 rfl 3 rfl ?_
  refine z_iload B dL_set_7 4 rfl ?_
  refine z_iload B dL_set_9 5 rfl ?_
  refine z_cXi (As := [.int 5, .int w1, .int w2, .int w3, .int w4]) (rest := [.int 0, .ref (b + 431)]) B htab tc_set_11_IndexOutOfBoundsException cw_L_7 cx_9 dL_set_11 (ci_X8_set_357 l hlt (σ := (ap b σ [] [] [])) (b := b) (lyA hK) w1 w2 w3 w4 q1_w1 q2_w1 (rR_at 0 0 hR_0_0) (rR_at 1 5 hR_1_5)) (lKA (hk_K hK 0 rfl rfl)) rfl (by decide) rfl (Nat.le_of_ble_eq_true rfl) (by decide) (fun z q => ?_)
  refine z_eqs (σ' := (ap b (wx_Z σ z) [] [] [])) rfl ?_
  show zx p l e _ s m _ below meth c g 8 _ _ _ _ 19 [(0, .ref (b + 0)), (1, .int 5), (2, .int w1), (3, .int w2), (4, .int w3), (5, .int w4), (6, .ref (b + 431))] _
  refine z_astore (lv' := [(7, .ref q), (0, .ref (b + 0)), (1, .int 5), (2, .int w1), (3, .int w2), (4, .int w3), (5, .int w4), (6, .ref (b + 431))]) B dL_set_19 (by decide) rfl ?_
  refine z_iconst (v := 1) B dL_set_21 (by decide) ?_
  exact z_iret B hr (by decide) (by decide) dL_set_22 ⟨rfl, _, rfl⟩
set_option maxRecDepth 100000 in
set_option maxHeartbeats 4000000 in
theorem ci_X9_isStep_359 (l : Launch) {g : gx_T} {σ : sx_T} {b : Nat} (hK : lay b σ) (w1 : Int32) (q1_w1 : (20 : Int) ≤ w1.toInt) (q2_w1 : w1.toInt ≤ (2147483647 : Int))  : Met l yX9_isStep (.code yX9_isStep cX9_isStep 2 (some .boolean) :: lw_g) { frames := 1, cells := 0, slots := 0, locals := 22 } (va_Pc [.int 5, .int w1] (zx_w g σ)) (va_Qi (fun r u => r = 0 ∧ u = σ) (zx_w g) (gx_Q g)) 0 0 (gx_Q g) := by
  refine z_met (by decide) (Nat.le_of_ble_eq_true rfl) (fun p e s m below meth c B hr hin => ?_)
  refine z_eqs (σ' := (ap b σ [] [] [])) rfl ?_
  show zx p l e _ s m _ below meth c g 2 0 0 _ _ 0 [(0, .int 5), (1, .int w1)] []
  refine z_iload_n B dX9_isStep_0 rfl 0 rfl ?_
  refine z_iconst (v := 0) B dX9_isStep_1 (by decide) ?_
  refine z_iconst (v := 5) B dX9_isStep_2 (by decide) ?_
  refine z_cSi (As := [.int 5, .int 0, .int 5]) (rest := []) B cw_X9_96 dX9_isStep_3 (ci_X9_in_321 l (σ := (ap b σ [] [] [])) (b := b) (lyA hK) ) rfl (by decide) rfl (Nat.le_of_ble_eq_true rfl) (by decide) (fun r u hu => ?_)
  refine z_eqs (σ' := (ap b σ [] [] [])) hu.2 ?_
  show zx p l e _ s m _ below meth c g 2 0 0 _ _ 6 [(0, .int 5), (1, .int w1)] _
  refine z_seti (y := 1) hu.1 ?_
  refine z_if_eq (tgt := 23) B dX9_isStep_6 (by decide) (fun h => absurd h (by decide)) (fun _ => ?_)
  refine z_iload_n B dX9_isStep_9 rfl 1 rfl ?_
  refine z_iconst (v := 0) B dX9_isStep_10 (by decide) ?_
  refine z_bipush (v := 19) B dX9_isStep_11 (by decide) ?_
  refine z_cSi (As := [.int w1, .int 0, .int 19]) (rest := []) B cw_X9_96 dX9_isStep_13 (ci_X9_in_113 l (σ := (ap b σ [] [] [])) (b := b) (lyA hK) w1 q1_w1 q2_w1) rfl (by decide) rfl (Nat.le_of_ble_eq_true rfl) (by decide) (fun r u hu => ?_)
  refine z_eqs (σ' := (ap b σ [] [] [])) hu.2 ?_
  show zx p l e _ s m _ below meth c g 2 0 0 _ _ 16 [(0, .int 5), (1, .int w1)] _
  refine z_seti (y := 0) hu.1 ?_
  refine z_if_eq (tgt := 23) B dX9_isStep_16 (by decide) (fun _ => ?_) (fun h => absurd (by decide) h)
  refine z_iconst (v := 0) B dX9_isStep_23 (by decide) ?_
  exact z_zret B hr (by decide) (by decide) (by decide) dX9_isStep_24 ⟨rfl, rfl⟩
set_option maxRecDepth 100000 in
set_option maxHeartbeats 4000000 in
theorem ci_X9_set_360 (l : Launch) {g : gx_T} {σ : sx_T} {b : Nat} (hK : lay b σ) (w1 : Int32) (w2 : Int32) (w3 : Int32) (w4 : Int32) (q1_w1 : (20 : Int) ≤ w1.toInt) (q2_w1 : w1.toInt ≤ (2147483647 : Int)) (q1_w2 : (-2147483648 : Int) ≤ w2.toInt) (q2_w2 : w2.toInt ≤ (-1 : Int))  : Met l yX9_set (.code yX9_set cX9_set 7 (some .int) :: lw_g) { frames := 2, cells := 0, slots := 0, locals := 44 } (va_Pc [.ref (b + 405), .int 5, .int w1, .int w2, .int w3, .int w4] (zx_w g σ)) (va_Qi (fun r u => r = 0 ∧ u = (ap b σ [(405, 0, 1)] [] [])) (zx_w g) (gx_Q g)) 0 0 (gx_Q g) := by
  refine z_met (by decide) (Nat.le_of_ble_eq_true rfl) (fun p e s m below meth c B hr hin => ?_)
  refine z_eqs (σ' := (ap b σ [] [] [])) rfl ?_
  show zx p l e _ s m _ below meth c g 7 0 0 _ _ 0 [(0, .ref (b + 405)), (1, .int 5), (2, .int w1), (3, .int w2), (4, .int w3), (5, .int w4)] []
  refine z_aload_n B dX9_set_0 rfl 0 rfl ?_
  refine z_iload_n B dX9_set_1 rfl 1 rfl ?_
  refine z_iload_n B dX9_set_2 rfl 2 rfl ?_
  refine z_cSi (As := [.int 5, .int w1]) (rest := [.ref (b + 405)]) B cw_X9_238 dX9_set_3 (ci_X9_isStep_359 l (σ := (ap b σ [] [] [])) (b := b) (lyA hK) w1 q1_w1 q2_w1) rfl (by decide) rfl (Nat.le_of_ble_eq_true rfl) (by decide) (fun r u hu => ?_)
  refine z_eqs (σ' := (ap b σ [] [] [])) hu.2 ?_
  show zx p l e _ s m _ below meth c g 7 0 0 _ _ 6 [(0, .ref (b + 405)), (1, .int 5), (2, .int w1), (3, .int w2), (4, .int w3), (5, .int w4)] _
  refine z_seti (y := 0) hu.1 ?_
  refine z_iload_n B dX9_set_6 rfl 3 rfl ?_
  refine z_iload B dX9_set_7 4 rfl ?_
  refine z_iload B dX9_set_9 5 rfl ?_
  refine z_cSi (As := [.int w2, .int w3, .int w4]) (rest := [.int 0, .ref (b + 405)]) B cw_X9_242 dX9_set_11 (ci_X9_isOperation_28 l (σ := (ap b σ [] [] [])) (b := b) (lyA hK) w2 w3 w4 q1_w2 q2_w2) rfl (by decide) rfl (Nat.le_of_ble_eq_true rfl) (by decide) (fun r u hu => ?_)
  refine z_eqs (σ' := (ap b σ [] [] [])) hu.2 ?_
  show zx p l e _ s m _ below meth c g 7 0 0 _ _ 14 [(0, .ref (b + 405)), (1, .int 5), (2, .int w1), (3, .int w2), (4, .int w3), (5, .int w4)] _
  refine z_seti (y := 0) hu.1 ?_
  refine z_cVi (As := [.int 0, .int 0]) (rest := []) B cw_X9_245 cx_10 dX9_set_14 (ci_X9_needs__29 l (σ := (ap b σ [] [] [])) (b := b) (lyA hK) ) (lKA (hk_K hK 405 rfl rfl)) rfl (by decide) rfl (Nat.le_of_ble_eq_true rfl) (by decide) (fun r u hu => ?_)
  refine z_eqs (σ' := (ap b σ [(405, 0, 1)] [] [])) (hu.2.trans ap_ap) ?_
  show zx p l e _ s m _ below meth c g 7 0 0 _ _ 17 [(0, .ref (b + 405)), (1, .int 5), (2, .int w1), (3, .int w2), (4, .int w3), (5, .int w4)] _
  refine z_seti (y := 0) hu.1 ?_
  refine z_if_ne (tgt := 22) B dX9_set_17 (by decide) (fun h => absurd (by decide) h) (fun _ => ?_)
  refine z_iconst (v := 0) B dX9_set_20 (by decide) ?_
  exact z_iret B hr (by decide) (by decide) dX9_set_21 ⟨rfl, rfl⟩
set_option maxRecDepth 100000 in
set_option maxHeartbeats 4000000 in
theorem ci_X9_set_361 (l : Launch) {g : gx_T} {σ : sx_T} {b : Nat} (hK : lay b σ) (w1 : Int32) (w2 : Int32) (w3 : Int32) (w4 : Int32) (q1_w1 : (20 : Int) ≤ w1.toInt) (q2_w1 : w1.toInt ≤ (2147483647 : Int)) (q1_w2 : (0 : Int) ≤ w2.toInt) (q2_w2 : w2.toInt ≤ (17 : Int)) (q1_w3 : (-2147483648 : Int) ≤ w3.toInt) (q2_w3 : w3.toInt ≤ (-1 : Int))  : Met l yX9_set (.code yX9_set cX9_set 7 (some .int) :: lw_g) { frames := 2, cells := 0, slots := 0, locals := 44 } (va_Pc [.ref (b + 405), .int 5, .int w1, .int w2, .int w3, .int w4] (zx_w g σ)) (va_Qi (fun r u => r = 0 ∧ u = (ap b σ [(405, 0, 1)] [] [])) (zx_w g) (gx_Q g)) 0 0 (gx_Q g) := by
  refine z_met (by decide) (Nat.le_of_ble_eq_true rfl) (fun p e s m below meth c B hr hin => ?_)
  refine z_eqs (σ' := (ap b σ [] [] [])) rfl ?_
  show zx p l e _ s m _ below meth c g 7 0 0 _ _ 0 [(0, .ref (b + 405)), (1, .int 5), (2, .int w1), (3, .int w2), (4, .int w3), (5, .int w4)] []
  refine z_aload_n B dX9_set_0 rfl 0 rfl ?_
  refine z_iload_n B dX9_set_1 rfl 1 rfl ?_
  refine z_iload_n B dX9_set_2 rfl 2 rfl ?_
  refine z_cSi (As := [.int 5, .int w1]) (rest := [.ref (b + 405)]) B cw_X9_238 dX9_set_3 (ci_X9_isStep_359 l (σ := (ap b σ [] [] [])) (b := b) (lyA hK) w1 q1_w1 q2_w1) rfl (by decide) rfl (Nat.le_of_ble_eq_true rfl) (by decide) (fun r u hu => ?_)
  refine z_eqs (σ' := (ap b σ [] [] [])) hu.2 ?_
  show zx p l e _ s m _ below meth c g 7 0 0 _ _ 6 [(0, .ref (b + 405)), (1, .int 5), (2, .int w1), (3, .int w2), (4, .int w3), (5, .int w4)] _
  refine z_seti (y := 0) hu.1 ?_
  refine z_iload_n B dX9_set_6 rfl 3 rfl ?_
  refine z_iload B dX9_set_7 4 rfl ?_
  refine z_iload B dX9_set_9 5 rfl ?_
  refine z_cSi (As := [.int w2, .int w3, .int w4]) (rest := [.int 0, .ref (b + 405)]) B cw_X9_242 dX9_set_11 (ci_X9_isOperation_34 l (σ := (ap b σ [] [] [])) (b := b) (lyA hK) w2 w3 w4 q1_w2 q2_w2 q1_w3 q2_w3) rfl (by decide) rfl (Nat.le_of_ble_eq_true rfl) (by decide) (fun r u hu => ?_)
  refine z_eqs (σ' := (ap b σ [] [] [])) hu.2 ?_
  show zx p l e _ s m _ below meth c g 7 0 0 _ _ 14 [(0, .ref (b + 405)), (1, .int 5), (2, .int w1), (3, .int w2), (4, .int w3), (5, .int w4)] _
  refine z_seti (y := 0) hu.1 ?_
  refine z_cVi (As := [.int 0, .int 0]) (rest := []) B cw_X9_245 cx_10 dX9_set_14 (ci_X9_needs__29 l (σ := (ap b σ [] [] [])) (b := b) (lyA hK) ) (lKA (hk_K hK 405 rfl rfl)) rfl (by decide) rfl (Nat.le_of_ble_eq_true rfl) (by decide) (fun r u hu => ?_)
  refine z_eqs (σ' := (ap b σ [(405, 0, 1)] [] [])) (hu.2.trans ap_ap) ?_
  show zx p l e _ s m _ below meth c g 7 0 0 _ _ 17 [(0, .ref (b + 405)), (1, .int 5), (2, .int w1), (3, .int w2), (4, .int w3), (5, .int w4)] _
  refine z_seti (y := 0) hu.1 ?_
  refine z_if_ne (tgt := 22) B dX9_set_17 (by decide) (fun h => absurd (by decide) h) (fun _ => ?_)
  refine z_iconst (v := 0) B dX9_set_20 (by decide) ?_
  exact z_iret B hr (by decide) (by decide) dX9_set_21 ⟨rfl, rfl⟩
set_option maxRecDepth 100000 in
set_option maxHeartbeats 4000000 in
theorem ci_X9_set_362 (l : Launch) {g : gx_T} {σ : sx_T} {b : Nat} (hK : lay b σ) (w1 : Int32) (w2 : Int32) (w3 : Int32) (w4 : Int32) (q1_w1 : (20 : Int) ≤ w1.toInt) (q2_w1 : w1.toInt ≤ (2147483647 : Int)) (q1_w2 : (0 : Int) ≤ w2.toInt) (q2_w2 : w2.toInt ≤ (17 : Int)) (q1_w3 : (0 : Int) ≤ w3.toInt) (q2_w3 : w3.toInt ≤ (99 : Int)) (q1_w4 : (-2147483648 : Int) ≤ w4.toInt) (q2_w4 : w4.toInt ≤ (-1 : Int))  : Met l yX9_set (.code yX9_set cX9_set 7 (some .int) :: lw_g) { frames := 2, cells := 0, slots := 0, locals := 44 } (va_Pc [.ref (b + 405), .int 5, .int w1, .int w2, .int w3, .int w4] (zx_w g σ)) (va_Qi (fun r u => r = 0 ∧ u = (ap b σ [(405, 0, 1)] [] [])) (zx_w g) (gx_Q g)) 0 0 (gx_Q g) := by
  refine z_met (by decide) (Nat.le_of_ble_eq_true rfl) (fun p e s m below meth c B hr hin => ?_)
  refine z_eqs (σ' := (ap b σ [] [] [])) rfl ?_
  show zx p l e _ s m _ below meth c g 7 0 0 _ _ 0 [(0, .ref (b + 405)), (1, .int 5), (2, .int w1), (3, .int w2), (4, .int w3), (5, .int w4)] []
  refine z_aload_n B dX9_set_0 rfl 0 rfl ?_
  refine z_iload_n B dX9_set_1 rfl 1 rfl ?_
  refine z_iload_n B dX9_set_2 rfl 2 rfl ?_
  refine z_cSi (As := [.int 5, .int w1]) (rest := [.ref (b + 405)]) B cw_X9_238 dX9_set_3 (ci_X9_isStep_359 l (σ := (ap b σ [] [] [])) (b := b) (lyA hK) w1 q1_w1 q2_w1) rfl (by decide) rfl (Nat.le_of_ble_eq_true rfl) (by decide) (fun r u hu => ?_)
  refine z_eqs (σ' := (ap b σ [] [] [])) hu.2 ?_
  show zx p l e _ s m _ below meth c g 7 0 0 _ _ 6 [(0, .ref (b + 405)), (1, .int 5), (2, .int w1), (3, .int w2), (4, .int w3), (5, .int w4)] _
  refine z_seti (y := 0) hu.1 ?_
  refine z_iload_n B dX9_set_6 rfl 3 rfl ?_
  refine z_iload B dX9_set_7 4 rfl ?_
  refine z_iload B dX9_set_9 5 rfl ?_
  refine z_cSi (As := [.int w2, .int w3, .int w4]) (rest := [.int 0, .ref (b + 405)]) B cw_X9_242 dX9_set_11 (ci_X9_isOperation_37 l (σ := (ap b σ [] [] [])) (b := b) (lyA hK) w2 w3 w4 q1_w2 q2_w2 q1_w3 q2_w3 q1_w4 q2_w4) rfl (by decide) rfl (Nat.le_of_ble_eq_true rfl) (by decide) (fun r u hu => ?_)
  refine z_eqs (σ' := (ap b σ [] [] [])) hu.2 ?_
  show zx p l e _ s m _ below meth c g 7 0 0 _ _ 14 [(0, .ref (b + 405)), (1, .int 5), (2, .int w1), (3, .int w2), (4, .int w3), (5, .int w4)] _
  refine z_seti (y := 0) hu.1 ?_
  refine z_cVi (As := [.int 0, .int 0]) (rest := []) B cw_X9_245 cx_10 dX9_set_14 (ci_X9_needs__29 l (σ := (ap b σ [] [] [])) (b := b) (lyA hK) ) (lKA (hk_K hK 405 rfl rfl)) rfl (by decide) rfl (Nat.le_of_ble_eq_true rfl) (by decide) (fun r u hu => ?_)
  refine z_eqs (σ' := (ap b σ [(405, 0, 1)] [] [])) (hu.2.trans ap_ap) ?_
  show zx p l e _ s m _ below meth c g 7 0 0 _ _ 17 [(0, .ref (b + 405)), (1, .int 5), (2, .int w1), (3, .int w2), (4, .int w3), (5, .int w4)] _
  refine z_seti (y := 0) hu.1 ?_
  refine z_if_ne (tgt := 22) B dX9_set_17 (by decide) (fun h => absurd (by decide) h) (fun _ => ?_)
  refine z_iconst (v := 0) B dX9_set_20 (by decide) ?_
  exact z_iret B hr (by decide) (by decide) dX9_set_21 ⟨rfl, rfl⟩
set_option maxRecDepth 100000 in
set_option maxHeartbeats 4000000 in
theorem ci_X9_set_363 (l : Launch) {g : gx_T} {σ : sx_T} {b : Nat} (hK : lay b σ) (w1 : Int32) (w2 : Int32) (w3 : Int32) (w4 : Int32) (q1_w1 : (20 : Int) ≤ w1.toInt) (q2_w1 : w1.toInt ≤ (2147483647 : Int)) (q1_w2 : (0 : Int) ≤ w2.toInt) (q2_w2 : w2.toInt ≤ (17 : Int)) (q1_w3 : (0 : Int) ≤ w3.toInt) (q2_w3 : w3.toInt ≤ (99 : Int)) (q1_w4 : (0 : Int) ≤ w4.toInt) (q2_w4 : w4.toInt ≤ (99 : Int))  : Met l yX9_set (.code yX9_set cX9_set 7 (some .int) :: lw_g) { frames := 2, cells := 0, slots := 0, locals := 44 } (va_Pc [.ref (b + 405), .int 5, .int w1, .int w2, .int w3, .int w4] (zx_w g σ)) (va_Qi (fun r u => r = 0 ∧ u = (ap b σ [(405, 0, 1)] [] [])) (zx_w g) (gx_Q g)) 0 0 (gx_Q g) := by
  refine z_met (by decide) (Nat.le_of_ble_eq_true rfl) (fun p e s m below meth c B hr hin => ?_)
  refine z_eqs (σ' := (ap b σ [] [] [])) rfl ?_
  show zx p l e _ s m _ below meth c g 7 0 0 _ _ 0 [(0, .ref (b + 405)), (1, .int 5), (2, .int w1), (3, .int w2), (4, .int w3), (5, .int w4)] []
  refine z_aload_n B dX9_set_0 rfl 0 rfl ?_
  refine z_iload_n B dX9_set_1 rfl 1 rfl ?_
  refine z_iload_n B dX9_set_2 rfl 2 rfl ?_
  refine z_cSi (As := [.int 5, .int w1]) (rest := [.ref (b + 405)]) B cw_X9_238 dX9_set_3 (ci_X9_isStep_359 l (σ := (ap b σ [] [] [])) (b := b) (lyA hK) w1 q1_w1 q2_w1) rfl (by decide) rfl (Nat.le_of_ble_eq_true rfl) (by decide) (fun r u hu => ?_)
  refine z_eqs (σ' := (ap b σ [] [] [])) hu.2 ?_
  show zx p l e _ s m _ below meth c g 7 0 0 _ _ 6 [(0, .ref (b + 405)), (1, .int 5), (2, .int w1), (3, .int w2), (4, .int w3), (5, .int w4)] _
  refine z_seti (y := 0) hu.1 ?_
  refine z_iload_n B dX9_set_6 rfl 3 rfl ?_
  refine z_iload B dX9_set_7 4 rfl ?_
  refine z_iload B dX9_set_9 5 rfl ?_
  refine z_cSi (As := [.int w2, .int w3, .int w4]) (rest := [.int 0, .ref (b + 405)]) B cw_X9_242 dX9_set_11 (ci_X9_isOperation_39 l (σ := (ap b σ [] [] [])) (b := b) (lyA hK) w2 w3 w4 q1_w2 q2_w2 q1_w3 q2_w3 q1_w4 q2_w4) rfl (by decide) rfl (Nat.le_of_ble_eq_true rfl) (by decide) (fun r u hu => ?_)
  refine z_eqs (σ' := (ap b σ [] [] [])) hu.2 ?_
  show zx p l e _ s m _ below meth c g 7 0 0 _ _ 14 [(0, .ref (b + 405)), (1, .int 5), (2, .int w1), (3, .int w2), (4, .int w3), (5, .int w4)] _
  refine z_seti (y := 1) hu.1 ?_
  refine z_cVi (As := [.int 0, .int 1]) (rest := []) B cw_X9_245 cx_10 dX9_set_14 (ci_X9_needs__40 l (σ := (ap b σ [] [] [])) (b := b) (lyA hK) ) (lKA (hk_K hK 405 rfl rfl)) rfl (by decide) rfl (Nat.le_of_ble_eq_true rfl) (by decide) (fun r u hu => ?_)
  refine z_eqs (σ' := (ap b σ [(405, 0, 1)] [] [])) (hu.2.trans ap_ap) ?_
  show zx p l e _ s m _ below meth c g 7 0 0 _ _ 17 [(0, .ref (b + 405)), (1, .int 5), (2, .int w1), (3, .int w2), (4, .int w3), (5, .int w4)] _
  refine z_seti (y := 0) hu.1 ?_
  refine z_if_ne (tgt := 22) B dX9_set_17 (by decide) (fun h => absurd (by decide) h) (fun _ => ?_)
  refine z_iconst (v := 0) B dX9_set_20 (by decide) ?_
  exact z_iret B hr (by decide) (by decide) dX9_set_21 ⟨rfl, rfl⟩
set_option maxRecDepth 100000 in
set_option maxHeartbeats 4000000 in
theorem ci_X9_set_364 (l : Launch) {g : gx_T} {σ : sx_T} {b : Nat} (hK : lay b σ) (w1 : Int32) (w2 : Int32) (w3 : Int32) (w4 : Int32) (q1_w1 : (20 : Int) ≤ w1.toInt) (q2_w1 : w1.toInt ≤ (2147483647 : Int)) (q1_w2 : (0 : Int) ≤ w2.toInt) (q2_w2 : w2.toInt ≤ (17 : Int)) (q1_w3 : (0 : Int) ≤ w3.toInt) (q2_w3 : w3.toInt ≤ (99 : Int)) (q1_w4 : (100 : Int) ≤ w4.toInt) (q2_w4 : w4.toInt ≤ (2147483647 : Int))  : Met l yX9_set (.code yX9_set cX9_set 7 (some .int) :: lw_g) { frames := 2, cells := 0, slots := 0, locals := 44 } (va_Pc [.ref (b + 405), .int 5, .int w1, .int w2, .int w3, .int w4] (zx_w g σ)) (va_Qi (fun r u => r = 0 ∧ u = (ap b σ [(405, 0, 1)] [] [])) (zx_w g) (gx_Q g)) 0 0 (gx_Q g) := by
  refine z_met (by decide) (Nat.le_of_ble_eq_true rfl) (fun p e s m below meth c B hr hin => ?_)
  refine z_eqs (σ' := (ap b σ [] [] [])) rfl ?_
  show zx p l e _ s m _ below meth c g 7 0 0 _ _ 0 [(0, .ref (b + 405)), (1, .int 5), (2, .int w1), (3, .int w2), (4, .int w3), (5, .int w4)] []
  refine z_aload_n B dX9_set_0 rfl 0 rfl ?_
  refine z_iload_n B dX9_set_1 rfl 1 rfl ?_
  refine z_iload_n B dX9_set_2 rfl 2 rfl ?_
  refine z_cSi (As := [.int 5, .int w1]) (rest := [.ref (b + 405)]) B cw_X9_238 dX9_set_3 (ci_X9_isStep_359 l (σ := (ap b σ [] [] [])) (b := b) (lyA hK) w1 q1_w1 q2_w1) rfl (by decide) rfl (Nat.le_of_ble_eq_true rfl) (by decide) (fun r u hu => ?_)
  refine z_eqs (σ' := (ap b σ [] [] [])) hu.2 ?_
  show zx p l e _ s m _ below meth c g 7 0 0 _ _ 6 [(0, .ref (b + 405)), (1, .int 5), (2, .int w1), (3, .int w2), (4, .int w3), (5, .int w4)] _
  refine z_seti (y := 0) hu.1 ?_
  refine z_iload_n B dX9_set_6 rfl 3 rfl ?_
  refine z_iload B dX9_set_7 4 rfl ?_
  refine z_iload B dX9_set_9 5 rfl ?_
  refine z_cSi (As := [.int w2, .int w3, .int w4]) (rest := [.int 0, .ref (b + 405)]) B cw_X9_242 dX9_set_11 (ci_X9_isOperation_43 l (σ := (ap b σ [] [] [])) (b := b) (lyA hK) w2 w3 w4 q1_w2 q2_w2 q1_w3 q2_w3 q1_w4 q2_w4) rfl (by decide) rfl (Nat.le_of_ble_eq_true rfl) (by decide) (fun r u hu => ?_)
  refine z_eqs (σ' := (ap b σ [] [] [])) hu.2 ?_
  show zx p l e _ s m _ below meth c g 7 0 0 _ _ 14 [(0, .ref (b + 405)), (1, .int 5), (2, .int w1), (3, .int w2), (4, .int w3), (5, .int w4)] _
  refine z_seti (y := 0) hu.1 ?_
  refine z_cVi (As := [.int 0, .int 0]) (rest := []) B cw_X9_245 cx_10 dX9_set_14 (ci_X9_needs__29 l (σ := (ap b σ [] [] [])) (b := b) (lyA hK) ) (lKA (hk_K hK 405 rfl rfl)) rfl (by decide) rfl (Nat.le_of_ble_eq_true rfl) (by decide) (fun r u hu => ?_)
  refine z_eqs (σ' := (ap b σ [(405, 0, 1)] [] [])) (hu.2.trans ap_ap) ?_
  show zx p l e _ s m _ below meth c g 7 0 0 _ _ 17 [(0, .ref (b + 405)), (1, .int 5), (2, .int w1), (3, .int w2), (4, .int w3), (5, .int w4)] _
  refine z_seti (y := 0) hu.1 ?_
  refine z_if_ne (tgt := 22) B dX9_set_17 (by decide) (fun h => absurd (by decide) h) (fun _ => ?_)
  refine z_iconst (v := 0) B dX9_set_20 (by decide) ?_
  exact z_iret B hr (by decide) (by decide) dX9_set_21 ⟨rfl, rfl⟩
set_option maxRecDepth 100000 in
set_option maxHeartbeats 4000000 in
theorem ci_X9_set_365 (l : Launch) {g : gx_T} {σ : sx_T} {b : Nat} (hK : lay b σ) (w1 : Int32) (w2 : Int32) (w3 : Int32) (w4 : Int32) (q1_w1 : (20 : Int) ≤ w1.toInt) (q2_w1 : w1.toInt ≤ (2147483647 : Int)) (q1_w2 : (0 : Int) ≤ w2.toInt) (q2_w2 : w2.toInt ≤ (17 : Int)) (q1_w3 : (100 : Int) ≤ w3.toInt) (q2_w3 : w3.toInt ≤ (2147483647 : Int))  : Met l yX9_set (.code yX9_set cX9_set 7 (some .int) :: lw_g) { frames := 2, cells := 0, slots := 0, locals := 44 } (va_Pc [.ref (b + 405), .int 5, .int w1, .int w2, .int w3, .int w4] (zx_w g σ)) (va_Qi (fun r u => r = 0 ∧ u = (ap b σ [(405, 0, 1)] [] [])) (zx_w g) (gx_Q g)) 0 0 (gx_Q g) := by
  refine z_met (by decide) (Nat.le_of_ble_eq_true rfl) (fun p e s m below meth c B hr hin => ?_)
  refine z_eqs (σ' := (ap b σ [] [] [])) rfl ?_
  show zx p l e _ s m _ below meth c g 7 0 0 _ _ 0 [(0, .ref (b + 405)), (1, .int 5), (2, .int w1), (3, .int w2), (4, .int w3), (5, .int w4)] []
  refine z_aload_n B dX9_set_0 rfl 0 rfl ?_
  refine z_iload_n B dX9_set_1 rfl 1 rfl ?_
  refine z_iload_n B dX9_set_2 rfl 2 rfl ?_
  refine z_cSi (As := [.int 5, .int w1]) (rest := [.ref (b + 405)]) B cw_X9_238 dX9_set_3 (ci_X9_isStep_359 l (σ := (ap b σ [] [] [])) (b := b) (lyA hK) w1 q1_w1 q2_w1) rfl (by decide) rfl (Nat.le_of_ble_eq_true rfl) (by decide) (fun r u hu => ?_)
  refine z_eqs (σ' := (ap b σ [] [] [])) hu.2 ?_
  show zx p l e _ s m _ below meth c g 7 0 0 _ _ 6 [(0, .ref (b + 405)), (1, .int 5), (2, .int w1), (3, .int w2), (4, .int w3), (5, .int w4)] _
  refine z_seti (y := 0) hu.1 ?_
  refine z_iload_n B dX9_set_6 rfl 3 rfl ?_
  refine z_iload B dX9_set_7 4 rfl ?_
  refine z_iload B dX9_set_9 5 rfl ?_
  refine z_cSi (As := [.int w2, .int w3, .int w4]) (rest := [.int 0, .ref (b + 405)]) B cw_X9_242 dX9_set_11 (ci_X9_isOperation_45 l (σ := (ap b σ [] [] [])) (b := b) (lyA hK) w2 w3 w4 q1_w2 q2_w2 q1_w3 q2_w3) rfl (by decide) rfl (Nat.le_of_ble_eq_true rfl) (by decide) (fun r u hu => ?_)
  refine z_eqs (σ' := (ap b σ [] [] [])) hu.2 ?_
  show zx p l e _ s m _ below meth c g 7 0 0 _ _ 14 [(0, .ref (b + 405)), (1, .int 5), (2, .int w1), (3, .int w2), (4, .int w3), (5, .int w4)] _
  refine z_seti (y := 0) hu.1 ?_
  refine z_cVi (As := [.int 0, .int 0]) (rest := []) B cw_X9_245 cx_10 dX9_set_14 (ci_X9_needs__29 l (σ := (ap b σ [] [] [])) (b := b) (lyA hK) ) (lKA (hk_K hK 405 rfl rfl)) rfl (by decide) rfl (Nat.le_of_ble_eq_true rfl) (by decide) (fun r u hu => ?_)
  refine z_eqs (σ' := (ap b σ [(405, 0, 1)] [] [])) (hu.2.trans ap_ap) ?_
  show zx p l e _ s m _ below meth c g 7 0 0 _ _ 17 [(0, .ref (b + 405)), (1, .int 5), (2, .int w1), (3, .int w2), (4, .int w3), (5, .int w4)] _
  refine z_seti (y := 0) hu.1 ?_
  refine z_if_ne (tgt := 22) B dX9_set_17 (by decide) (fun h => absurd (by decide) h) (fun _ => ?_)
  refine z_iconst (v := 0) B dX9_set_20 (by decide) ?_
  exact z_iret B hr (by decide) (by decide) dX9_set_21 ⟨rfl, rfl⟩
set_option maxRecDepth 100000 in
set_option maxHeartbeats 4000000 in
theorem ci_X9_set_366 (l : Launch) {g : gx_T} {σ : sx_T} {b : Nat} (hK : lay b σ) (w1 : Int32) (w2 : Int32) (w3 : Int32) (w4 : Int32) (q1_w1 : (20 : Int) ≤ w1.toInt) (q2_w1 : w1.toInt ≤ (2147483647 : Int)) (q1_w2 : (18 : Int) ≤ w2.toInt) (q2_w2 : w2.toInt ≤ (2147483647 : Int))  : Met l yX9_set (.code yX9_set cX9_set 7 (some .int) :: lw_g) { frames := 2, cells := 0, slots := 0, locals := 44 } (va_Pc [.ref (b + 405), .int 5, .int w1, .int w2, .int w3, .int w4] (zx_w g σ)) (va_Qi (fun r u => r = 0 ∧ u = (ap b σ [(405, 0, 1)] [] [])) (zx_w g) (gx_Q g)) 0 0 (gx_Q g) := by
  refine z_met (by decide) (Nat.le_of_ble_eq_true rfl) (fun p e s m below meth c B hr hin => ?_)
  refine z_eqs (σ' := (ap b σ [] [] [])) rfl ?_
  show zx p l e _ s m _ below meth c g 7 0 0 _ _ 0 [(0, .ref (b + 405)), (1, .int 5), (2, .int w1), (3, .int w2), (4, .int w3), (5, .int w4)] []
  refine z_aload_n B dX9_set_0 rfl 0 rfl ?_
  refine z_iload_n B dX9_set_1 rfl 1 rfl ?_
  refine z_iload_n B dX9_set_2 rfl 2 rfl ?_
  refine z_cSi (As := [.int 5, .int w1]) (rest := [.ref (b + 405)]) B cw_X9_238 dX9_set_3 (ci_X9_isStep_359 l (σ := (ap b σ [] [] [])) (b := b) (lyA hK) w1 q1_w1 q2_w1) rfl (by decide) rfl (Nat.le_of_ble_eq_true rfl) (by decide) (fun r u hu => ?_)
  refine z_eqs (σ' := (ap b σ [] [] [])) hu.2 ?_
  show zx p l e _ s m _ below meth c g 7 0 0 _ _ 6 [(0, .ref (b + 405)), (1, .int 5), (2, .int w1), (3, .int w2), (4, .int w3), (5, .int w4)] _
  refine z_seti (y := 0) hu.1 ?_
  refine z_iload_n B dX9_set_6 rfl 3 rfl ?_
  refine z_iload B dX9_set_7 4 rfl ?_
  refine z_iload B dX9_set_9 5 rfl ?_
  refine z_cSi (As := [.int w2, .int w3, .int w4]) (rest := [.int 0, .ref (b + 405)]) B cw_X9_242 dX9_set_11 (ci_X9_isOperation_48 l (σ := (ap b σ [] [] [])) (b := b) (lyA hK) w2 w3 w4 q1_w2 q2_w2) rfl (by decide) rfl (Nat.le_of_ble_eq_true rfl) (by decide) (fun r u hu => ?_)
  refine z_eqs (σ' := (ap b σ [] [] [])) hu.2 ?_
  show zx p l e _ s m _ below meth c g 7 0 0 _ _ 14 [(0, .ref (b + 405)), (1, .int 5), (2, .int w1), (3, .int w2), (4, .int w3), (5, .int w4)] _
  refine z_seti (y := 0) hu.1 ?_
  refine z_cVi (As := [.int 0, .int 0]) (rest := []) B cw_X9_245 cx_10 dX9_set_14 (ci_X9_needs__29 l (σ := (ap b σ [] [] [])) (b := b) (lyA hK) ) (lKA (hk_K hK 405 rfl rfl)) rfl (by decide) rfl (Nat.le_of_ble_eq_true rfl) (by decide) (fun r u hu => ?_)
  refine z_eqs (σ' := (ap b σ [(405, 0, 1)] [] [])) (hu.2.trans ap_ap) ?_
  show zx p l e _ s m _ below meth c g 7 0 0 _ _ 17 [(0, .ref (b + 405)), (1, .int 5), (2, .int w1), (3, .int w2), (4, .int w3), (5, .int w4)] _
  refine z_seti (y := 0) hu.1 ?_
  refine z_if_ne (tgt := 22) B dX9_set_17 (by decide) (fun h => absurd (by decide) h) (fun _ => ?_)
  refine z_iconst (v := 0) B dX9_set_20 (by decide) ?_
  exact z_iret B hr (by decide) (by decide) dX9_set_21 ⟨rfl, rfl⟩
set_option maxRecDepth 100000 in
set_option maxHeartbeats 4000000 in
theorem ci_X8_programAt_367 (l : Launch) {g : gx_T} {σ : sx_T} {b : Nat} (hK : lay b σ) (w1 : Int32) (q1_w1 : (6 : Int) ≤ w1.toInt) (q2_w1 : w1.toInt ≤ (2147483647 : Int)) (hR_0_0 : sx_R σ (b + 0) 0 = (some (b + 1))) : Met l yX8_programAt (.code yX8_programAt cX8_programAt 2 (some (.object "Loomkeeper$Program")) :: lw_g) { frames := 0, cells := 0, slots := 0, locals := 0 } (va_Pc [.ref (b + 0), .int w1] (zx_w g σ)) (va_Qq (fun r u => r = none ∧ u = σ) (zx_w g) (gx_Q g)) 0 0 (gx_Q g) := by
  refine z_met (by decide) (Nat.le_of_ble_eq_true rfl) (fun p e s m below meth c B hr hin => ?_)
  refine z_eqs (σ' := (ap b σ [] [] [])) rfl ?_
  show zx p l e _ s m _ below meth c g 2 0 0 _ _ 0 [(0, .ref (b + 0)), (1, .int w1)] []
  refine z_iload_n B dX8_programAt_0 rfl 1 rfl ?_
  refine z_if_lt (tgt := 22) B dX8_programAt_1 (by decide) (fun h => absurd h (iv_nlt q1_w1 (by decide))) (fun _ => ?_)
  refine z_iload_n B dX8_programAt_4 rfl 1 rfl ?_
  refine z_aload_n B dX8_programAt_5 rfl 0 rfl ?_
  refine gf_X8_11 (x := (some (b + 1))) B (lKA (hk_K hK 0 rfl rfl)) (rR_at 0 0 hR_0_0) dX8_programAt_6 ?_
  refine z_alen (kd := 16) (ti := 4) (v := 6) B (lKA (hk_K hK 1 rfl rfl)) (by decide) rfl (congrArg Int32.ofNat (lNA (hk_N hK 1 rfl rfl))) dX8_programAt_9 ?_
  refine z_icmp_ge (tgt := 22) B dX8_programAt_10 (by decide) (fun _ => ?_) (fun h => absurd (iv_ge q1_w1 (by decide)) h)
  refine z_null B dX8_programAt_22 ?_
  exact z_qret (r := none) B hr (by decide) (by decide) dX8_programAt_23 ⟨rfl, rfl⟩
set_option maxRecDepth 100000 in
set_option maxHeartbeats 4000000 in
theorem ci_X8_set_368 (l : Launch) (hlt : l.stackTraces = false) {g : gx_T} {σ : sx_T} {b : Nat} (hK : lay b σ) (w1 : Int32) (w2 : Int32) (w3 : Int32) (w4 : Int32) (w5 : Int32) (q1_w1 : (6 : Int) ≤ w1.toInt) (q2_w1 : w1.toInt ≤ (2147483647 : Int)) (hR_0_0 : sx_R σ (b + 0) 0 = (some (b + 1))) : vx_Met l yX8_set (.code yX8_set cX8_set 9 (some .int) :: lw_g) { frames := 7, cells := 1, slots := 6, locals := 136 } (va_Pc [.ref (b + 0), .int w1, .int w2, .int w3, .int w4, .int w5] (zx_w g σ)) (va_Qi (S := sx_T) (fun _ _ => False) (zx_w g) (gx_Q g)) (vx_X (fun u : sx_T => ∃ z, u = wx_Z σ z) (fun E u t => E = "java/lang/IndexOutOfBoundsException" ∧ zx_h g u t.heap) (gx_Q g)) 1 6 (gx_Q g) := by
  refine z_metX (by decide) (Nat.le_of_ble_eq_true rfl) (fun p e s m below meth c B hr hin hout => ?_)
  refine z_eqs (σ' := (ap b σ [] [] [])) rfl ?_
  show zx p l e _ s m _ below meth c g 9 0 0 _ _ 0 [(0, .ref (b + 0)), (1, .int w1), (2, .int w2), (3, .int w3), (4, .int w4), (5, .int w5)] []
  refine z_aload_n B dX8_set_0 rfl 0 rfl ?_
  refine z_iload_n B dX8_set_1 rfl 1 rfl ?_
  refine z_cVq (As := [.int w1]) (rest := []) B cw_X8_64 cx_9 dX8_set_2 (ci_X8_programAt_367 l (σ := (ap b σ [] [] [])) (b := b) (lyA hK) w1 q1_w1 q2_w1 (rR_at 0 0 hR_0_0)) (lKA (hk_K hK 0 rfl rfl)) rfl (by decide) rfl (Nat.le_of_ble_eq_true rfl) (by decide) (fun r u hu => ?_)
  refine z_eqs (σ' := (ap b σ [] [] [])) hu.2 ?_
  show zx p l e _ s m _ below meth c g 9 0 0 _ _ 5 [(0, .ref (b + 0)), (1, .int w1), (2, .int w2), (3, .int w3), (4, .int w4), (5, .int w5)] _
  refine z_setr (y := none) hu.1 ?_
  refine z_qstore (r := none) (lv' := [(6, .null), (0, .ref (b + 0)), (1, .int w1), (2, .int w2), (3, .int w3), (4, .int w4), (5, .int w5)]) B dX8_set_5 (by decide) rfl ?_
  refine z_qload (r := none) B dX8_set_7 0 rfl ?_
  refine z_ifnull (r := none) (tgt := 21) B dX8_set_9 (by decide) (fun _ => ?_) (fun a h => nomatch h)
  exact z_throw B hlt hout (cls := "java/lang/IndexOutOfBoundsException") (text := "no such step") tw_X8_72_74_76 dX8_set_21 dX8_set_24 dX8_set_25 dX8_set_27 dX8_set_30 (by decide) (by decide) (by decide) (by decide) (by decide) (by decide) (fun z => ⟨z, rfl⟩)
set_option maxRecDepth 100000 in
set_option maxHeartbeats 4000000 in
theorem ci_L_set_369 (l : Launch) (hlt : l.stackTraces = false) {g : gx_T} {σ : sx_T} {b : Nat} (hK : lay b σ) (w1 : Int32) (w2 : Int32) (w3 : Int32) (w4 : Int32) (w5 : Int32) (q1_w1 : (6 : Int) ≤ w1.toInt) (q2_w1 : w1.toInt ≤ (2147483647 : Int)) (hR_0_0 : sx_R σ (b + 0) 0 = (some (b + 1))) : Met l yL_set (.codeWith yL_set cL_set 8 (some .int) [(0, 16, 19, 13), (0, 16, 23, 15)] :: lw_g) { frames := 8, cells := 1, slots := 6, locals := 164 } (va_Pc [.ref (b + 0), .int w1, .int w2, .int w3, .int w4, .int w5, .ref (b + 431)] (zx_w g σ)) (va_Qi (fun r u => r = 1 ∧ ∃ z, u = (ap b (wx_Z σ z) [] [] [])) (zx_w g) (gx_Q g)) 1 6 (gx_Q g) := by
  refine z_metW (by decide) (Nat.le_of_ble_eq_true rfl) (fun p e s m below meth c B hr htab => ?_)
  refine z_eqs (σ' := (ap b σ [] [] [])) rfl ?_
  show zx p l e _ s m _ below meth c g 8 0 0 _ _ 0 [(0, .ref (b + 0)), (1, .int w1), (2, .int w2), (3, .int w3), (4, .int w4), (5, .int w5), (6, .ref (b + 431))] []
  refine z_aload B dL_set_0 6 rfl ?_
  refine z_iconst (v := 0) B dL_set_2 (by decide) ?_
  refine z_aload_n B dL_set_3 rfl 0 rfl ?_
  refine z_iload_n B dL_set_4 rfl 1 rfl ?_
  refine z_iload_n B dL_set_5 rfl 2 rfl ?_
  refine z_iload_n B dL_set_6 rfl 3 rfl ?_
  refine z_iload B dL_set_7 4 rfl ?_
  refine z_iload B dL_set_9 5 rfl ?_
  refine z_cXi (As := [.int w1, .int w2, .int w3, .int w4, .int w5]) (rest := [.int 0, .ref (b + 431)]) B htab tc_set_11_IndexOutOfBoundsException cw_L_7 cx_9 dL_set_11 (ci_X8_set_368 l hlt (σ := (ap b σ [] [] [])) (b := b) (lyA hK) w1 w2 w3 w4 w5 q1_w1 q2_w1 (rR_at 0 0 hR_0_0)) (lKA (hk_K hK 0 rfl rfl)) rfl (by decide) rfl (Nat.le_of_ble_eq_true rfl) (by decide) (fun z q => ?_)
  refine z_eqs (σ' := (ap b (wx_Z σ z) [] [] [])) rfl ?_
  show zx p l e _ s m _ below meth c g 8 _ _ _ _ 19 [(0, .ref (b + 0)), (1, .int w1), (2, .int w2), (3, .int w3), (4, .int w4), (5, .int w5), (6, .ref (b + 431))] _
  refine z_astore (lv' := [(7, .ref q), (0, .ref (b + 0)), (1, .int w1), (2, .int w2), (3, .int w3), (4, .int w4), (5, .int w5), (6, .ref (b + 431))]) B dL_set_19 (by decide) rfl ?_
  refine z_iconst (v := 1) B dL_set_21 (by decide) ?_
  exact z_iret B hr (by decide) (by decide) dL_set_22 ⟨rfl, _, rfl⟩
set_option maxRecDepth 100000 in
set_option maxHeartbeats 4000000 in
theorem ci_X9_in_370 (l : Launch) {g : gx_T} {σ : sx_T} {b : Nat} (hK : lay b σ) (w1 : Int32) (q1_w1 : (6 : Int) ≤ w1.toInt) (q2_w1 : w1.toInt ≤ (2147483647 : Int))  : Met l yX9_in (.code yX9_in cX9_in 3 (some .boolean) :: lw_g) { frames := 0, cells := 0, slots := 0, locals := 0 } (va_Pc [.int w1, .int 0, .int 5] (zx_w g σ)) (va_Qi (fun r u => r = 0 ∧ u = σ) (zx_w g) (gx_Q g)) 0 0 (gx_Q g) := by
  refine z_met (by decide) (Nat.le_of_ble_eq_true rfl) (fun p e s m below meth c B hr hin => ?_)
  refine z_eqs (σ' := (ap b σ [] [] [])) rfl ?_
  show zx p l e _ s m _ below meth c g 3 0 0 _ _ 0 [(0, .int w1), (1, .int 0), (2, .int 5)] []
  refine z_iload_n B dX9_in_0 rfl 0 rfl ?_
  refine z_iload_n B dX9_in_1 rfl 1 rfl ?_
  refine z_icmp_lt (tgt := 14) B dX9_in_2 (by decide) (fun h => absurd h (iv_nlt q1_w1 (by decide))) (fun _ => ?_)
  refine z_iload_n B dX9_in_5 rfl 0 rfl ?_
  refine z_iload_n B dX9_in_6 rfl 2 rfl ?_
  refine z_icmp_gt (tgt := 14) B dX9_in_7 (by decide) (fun _ => ?_) (fun h => absurd (iv_gt q1_w1 (by decide)) h)
  refine z_iconst (v := 0) B dX9_in_14 (by decide) ?_
  exact z_zret B hr (by decide) (by decide) (by decide) dX9_in_15 ⟨rfl, rfl⟩
set_option maxRecDepth 100000 in
set_option maxHeartbeats 4000000 in
theorem ci_X9_isStep_371 (l : Launch) {g : gx_T} {σ : sx_T} {b : Nat} (hK : lay b σ) (w1 : Int32) (w2 : Int32) (q1_w1 : (6 : Int) ≤ w1.toInt) (q2_w1 : w1.toInt ≤ (2147483647 : Int))  : Met l yX9_isStep (.code yX9_isStep cX9_isStep 2 (some .boolean) :: lw_g) { frames := 1, cells := 0, slots := 0, locals := 22 } (va_Pc [.int w1, .int w2] (zx_w g σ)) (va_Qi (fun r u => r = 0 ∧ u = σ) (zx_w g) (gx_Q g)) 0 0 (gx_Q g) := by
  refine z_met (by decide) (Nat.le_of_ble_eq_true rfl) (fun p e s m below meth c B hr hin => ?_)
  refine z_eqs (σ' := (ap b σ [] [] [])) rfl ?_
  show zx p l e _ s m _ below meth c g 2 0 0 _ _ 0 [(0, .int w1), (1, .int w2)] []
  refine z_iload_n B dX9_isStep_0 rfl 0 rfl ?_
  refine z_iconst (v := 0) B dX9_isStep_1 (by decide) ?_
  refine z_iconst (v := 5) B dX9_isStep_2 (by decide) ?_
  refine z_cSi (As := [.int w1, .int 0, .int 5]) (rest := []) B cw_X9_96 dX9_isStep_3 (ci_X9_in_370 l (σ := (ap b σ [] [] [])) (b := b) (lyA hK) w1 q1_w1 q2_w1) rfl (by decide) rfl (Nat.le_of_ble_eq_true rfl) (by decide) (fun r u hu => ?_)
  refine z_eqs (σ' := (ap b σ [] [] [])) hu.2 ?_
  show zx p l e _ s m _ below meth c g 2 0 0 _ _ 6 [(0, .int w1), (1, .int w2)] _
  refine z_seti (y := 0) hu.1 ?_
  refine z_if_eq (tgt := 23) B dX9_isStep_6 (by decide) (fun _ => ?_) (fun h => absurd (by decide) h)
  refine z_iconst (v := 0) B dX9_isStep_23 (by decide) ?_
  exact z_zret B hr (by decide) (by decide) (by decide) dX9_isStep_24 ⟨rfl, rfl⟩
set_option maxRecDepth 100000 in
set_option maxHeartbeats 4000000 in
theorem ci_X9_set_372 (l : Launch) {g : gx_T} {σ : sx_T} {b : Nat} (hK : lay b σ) (w1 : Int32) (w2 : Int32) (w3 : Int32) (w4 : Int32) (w5 : Int32) (q1_w1 : (6 : Int) ≤ w1.toInt) (q2_w1 : w1.toInt ≤ (2147483647 : Int)) (q1_w3 : (-2147483648 : Int) ≤ w3.toInt) (q2_w3 : w3.toInt ≤ (-1 : Int))  : Met l yX9_set (.code yX9_set cX9_set 7 (some .int) :: lw_g) { frames := 2, cells := 0, slots := 0, locals := 44 } (va_Pc [.ref (b + 405), .int w1, .int w2, .int w3, .int w4, .int w5] (zx_w g σ)) (va_Qi (fun r u => r = 0 ∧ u = (ap b σ [(405, 0, 1)] [] [])) (zx_w g) (gx_Q g)) 0 0 (gx_Q g) := by
  refine z_met (by decide) (Nat.le_of_ble_eq_true rfl) (fun p e s m below meth c B hr hin => ?_)
  refine z_eqs (σ' := (ap b σ [] [] [])) rfl ?_
  show zx p l e _ s m _ below meth c g 7 0 0 _ _ 0 [(0, .ref (b + 405)), (1, .int w1), (2, .int w2), (3, .int w3), (4, .int w4), (5, .int w5)] []
  refine z_aload_n B dX9_set_0 rfl 0 rfl ?_
  refine z_iload_n B dX9_set_1 rfl 1 rfl ?_
  refine z_iload_n B dX9_set_2 rfl 2 rfl ?_
  refine z_cSi (As := [.int w1, .int w2]) (rest := [.ref (b + 405)]) B cw_X9_238 dX9_set_3 (ci_X9_isStep_371 l (σ := (ap b σ [] [] [])) (b := b) (lyA hK) w1 w2 q1_w1 q2_w1) rfl (by decide) rfl (Nat.le_of_ble_eq_true rfl) (by decide) (fun r u hu => ?_)
  refine z_eqs (σ' := (ap b σ [] [] [])) hu.2 ?_
  show zx p l e _ s m _ below meth c g 7 0 0 _ _ 6 [(0, .ref (b + 405)), (1, .int w1), (2, .int w2), (3, .int w3), (4, .int w4), (5, .int w5)] _
  refine z_seti (y := 0) hu.1 ?_
  refine z_iload_n B dX9_set_6 rfl 3 rfl ?_
  refine z_iload B dX9_set_7 4 rfl ?_
  refine z_iload B dX9_set_9 5 rfl ?_
  refine z_cSi (As := [.int w3, .int w4, .int w5]) (rest := [.int 0, .ref (b + 405)]) B cw_X9_242 dX9_set_11 (ci_X9_isOperation_28 l (σ := (ap b σ [] [] [])) (b := b) (lyA hK) w3 w4 w5 q1_w3 q2_w3) rfl (by decide) rfl (Nat.le_of_ble_eq_true rfl) (by decide) (fun r u hu => ?_)
  refine z_eqs (σ' := (ap b σ [] [] [])) hu.2 ?_
  show zx p l e _ s m _ below meth c g 7 0 0 _ _ 14 [(0, .ref (b + 405)), (1, .int w1), (2, .int w2), (3, .int w3), (4, .int w4), (5, .int w5)] _
  refine z_seti (y := 0) hu.1 ?_
  refine z_cVi (As := [.int 0, .int 0]) (rest := []) B cw_X9_245 cx_10 dX9_set_14 (ci_X9_needs__29 l (σ := (ap b σ [] [] [])) (b := b) (lyA hK) ) (lKA (hk_K hK 405 rfl rfl)) rfl (by decide) rfl (Nat.le_of_ble_eq_true rfl) (by decide) (fun r u hu => ?_)
  refine z_eqs (σ' := (ap b σ [(405, 0, 1)] [] [])) (hu.2.trans ap_ap) ?_
  show zx p l e _ s m _ below meth c g 7 0 0 _ _ 17 [(0, .ref (b + 405)), (1, .int w1), (2, .int w2), (3, .int w3), (4, .int w4), (5, .int w5)] _
  refine z_seti (y := 0) hu.1 ?_
  refine z_if_ne (tgt := 22) B dX9_set_17 (by decide) (fun h => absurd (by decide) h) (fun _ => ?_)
  refine z_iconst (v := 0) B dX9_set_20 (by decide) ?_
  exact z_iret B hr (by decide) (by decide) dX9_set_21 ⟨rfl, rfl⟩
set_option maxRecDepth 100000 in
set_option maxHeartbeats 4000000 in
theorem ci_X9_set_373 (l : Launch) {g : gx_T} {σ : sx_T} {b : Nat} (hK : lay b σ) (w1 : Int32) (w2 : Int32) (w3 : Int32) (w4 : Int32) (w5 : Int32) (q1_w1 : (6 : Int) ≤ w1.toInt) (q2_w1 : w1.toInt ≤ (2147483647 : Int)) (q1_w3 : (0 : Int) ≤ w3.toInt) (q2_w3 : w3.toInt ≤ (17 : Int)) (q1_w4 : (-2147483648 : Int) ≤ w4.toInt) (q2_w4 : w4.toInt ≤ (-1 : Int))  : Met l yX9_set (.code yX9_set cX9_set 7 (some .int) :: lw_g) { frames := 2, cells := 0, slots := 0, locals := 44 } (va_Pc [.ref (b + 405), .int w1, .int w2, .int w3, .int w4, .int w5] (zx_w g σ)) (va_Qi (fun r u => r = 0 ∧ u = (ap b σ [(405, 0, 1)] [] [])) (zx_w g) (gx_Q g)) 0 0 (gx_Q g) := by
  refine z_met (by decide) (Nat.le_of_ble_eq_true rfl) (fun p e s m below meth c B hr hin => ?_)
  refine z_eqs (σ' := (ap b σ [] [] [])) rfl ?_
  show zx p l e _ s m _ below meth c g 7 0 0 _ _ 0 [(0, .ref (b + 405)), (1, .int w1), (2, .int w2), (3, .int w3), (4, .int w4), (5, .int w5)] []
  refine z_aload_n B dX9_set_0 rfl 0 rfl ?_
  refine z_iload_n B dX9_set_1 rfl 1 rfl ?_
  refine z_iload_n B dX9_set_2 rfl 2 rfl ?_
  refine z_cSi (As := [.int w1, .int w2]) (rest := [.ref (b + 405)]) B cw_X9_238 dX9_set_3 (ci_X9_isStep_371 l (σ := (ap b σ [] [] [])) (b := b) (lyA hK) w1 w2 q1_w1 q2_w1) rfl (by decide) rfl (Nat.le_of_ble_eq_true rfl) (by decide) (fun r u hu => ?_)
  refine z_eqs (σ' := (ap b σ [] [] [])) hu.2 ?_
  show zx p l e _ s m _ below meth c g 7 0 0 _ _ 6 [(0, .ref (b + 405)), (1, .int w1), (2, .int w2), (3, .int w3), (4, .int w4), (5, .int w5)] _
  refine z_seti (y := 0) hu.1 ?_
  refine z_iload_n B dX9_set_6 rfl 3 rfl ?_
  refine z_iload B dX9_set_7 4 rfl ?_
  refine z_iload B dX9_set_9 5 rfl ?_
  refine z_cSi (As := [.int w3, .int w4, .int w5]) (rest := [.int 0, .ref (b + 405)]) B cw_X9_242 dX9_set_11 (ci_X9_isOperation_34 l (σ := (ap b σ [] [] [])) (b := b) (lyA hK) w3 w4 w5 q1_w3 q2_w3 q1_w4 q2_w4) rfl (by decide) rfl (Nat.le_of_ble_eq_true rfl) (by decide) (fun r u hu => ?_)
  refine z_eqs (σ' := (ap b σ [] [] [])) hu.2 ?_
  show zx p l e _ s m _ below meth c g 7 0 0 _ _ 14 [(0, .ref (b + 405)), (1, .int w1), (2, .int w2), (3, .int w3), (4, .int w4), (5, .int w5)] _
  refine z_seti (y := 0) hu.1 ?_
  refine z_cVi (As := [.int 0, .int 0]) (rest := []) B cw_X9_245 cx_10 dX9_set_14 (ci_X9_needs__29 l (σ := (ap b σ [] [] [])) (b := b) (lyA hK) ) (lKA (hk_K hK 405 rfl rfl)) rfl (by decide) rfl (Nat.le_of_ble_eq_true rfl) (by decide) (fun r u hu => ?_)
  refine z_eqs (σ' := (ap b σ [(405, 0, 1)] [] [])) (hu.2.trans ap_ap) ?_
  show zx p l e _ s m _ below meth c g 7 0 0 _ _ 17 [(0, .ref (b + 405)), (1, .int w1), (2, .int w2), (3, .int w3), (4, .int w4), (5, .int w5)] _
  refine z_seti (y := 0) hu.1 ?_
  refine z_if_ne (tgt := 22) B dX9_set_17 (by decide) (fun h => absurd (by decide) h) (fun _ => ?_)
  refine z_iconst (v := 0) B dX9_set_20 (by decide) ?_
  exact z_iret B hr (by decide) (by decide) dX9_set_21 ⟨rfl, rfl⟩
set_option maxRecDepth 100000 in
set_option maxHeartbeats 4000000 in
theorem ci_X9_set_374 (l : Launch) {g : gx_T} {σ : sx_T} {b : Nat} (hK : lay b σ) (w1 : Int32) (w2 : Int32) (w3 : Int32) (w4 : Int32) (w5 : Int32) (q1_w1 : (6 : Int) ≤ w1.toInt) (q2_w1 : w1.toInt ≤ (2147483647 : Int)) (q1_w3 : (0 : Int) ≤ w3.toInt) (q2_w3 : w3.toInt ≤ (17 : Int)) (q1_w4 : (0 : Int) ≤ w4.toInt) (q2_w4 : w4.toInt ≤ (99 : Int)) (q1_w5 : (-2147483648 : Int) ≤ w5.toInt) (q2_w5 : w5.toInt ≤ (-1 : Int))  : Met l yX9_set (.code yX9_set cX9_set 7 (some .int) :: lw_g) { frames := 2, cells := 0, slots := 0, locals := 44 } (va_Pc [.ref (b + 405), .int w1, .int w2, .int w3, .int w4, .int w5] (zx_w g σ)) (va_Qi (fun r u => r = 0 ∧ u = (ap b σ [(405, 0, 1)] [] [])) (zx_w g) (gx_Q g)) 0 0 (gx_Q g) := by
  refine z_met (by decide) (Nat.le_of_ble_eq_true rfl) (fun p e s m below meth c B hr hin => ?_)
  refine z_eqs (σ' := (ap b σ [] [] [])) rfl ?_
  show zx p l e _ s m _ below meth c g 7 0 0 _ _ 0 [(0, .ref (b + 405)), (1, .int w1), (2, .int w2), (3, .int w3), (4, .int w4), (5, .int w5)] []
  refine z_aload_n B dX9_set_0 rfl 0 rfl ?_
  refine z_iload_n B dX9_set_1 rfl 1 rfl ?_
  refine z_iload_n B dX9_set_2 rfl 2 rfl ?_
  refine z_cSi (As := [.int w1, .int w2]) (rest := [.ref (b + 405)]) B cw_X9_238 dX9_set_3 (ci_X9_isStep_371 l (σ := (ap b σ [] [] [])) (b := b) (lyA hK) w1 w2 q1_w1 q2_w1) rfl (by decide) rfl (Nat.le_of_ble_eq_true rfl) (by decide) (fun r u hu => ?_)
  refine z_eqs (σ' := (ap b σ [] [] [])) hu.2 ?_
  show zx p l e _ s m _ below meth c g 7 0 0 _ _ 6 [(0, .ref (b + 405)), (1, .int w1), (2, .int w2), (3, .int w3), (4, .int w4), (5, .int w5)] _
  refine z_seti (y := 0) hu.1 ?_
  refine z_iload_n B dX9_set_6 rfl 3 rfl ?_
  refine z_iload B dX9_set_7 4 rfl ?_
  refine z_iload B dX9_set_9 5 rfl ?_
  refine z_cSi (As := [.int w3, .int w4, .int w5]) (rest := [.int 0, .ref (b + 405)]) B cw_X9_242 dX9_set_11 (ci_X9_isOperation_37 l (σ := (ap b σ [] [] [])) (b := b) (lyA hK) w3 w4 w5 q1_w3 q2_w3 q1_w4 q2_w4 q1_w5 q2_w5) rfl (by decide) rfl (Nat.le_of_ble_eq_true rfl) (by decide) (fun r u hu => ?_)
  refine z_eqs (σ' := (ap b σ [] [] [])) hu.2 ?_
  show zx p l e _ s m _ below meth c g 7 0 0 _ _ 14 [(0, .ref (b + 405)), (1, .int w1), (2, .int w2), (3, .int w3), (4, .int w4), (5, .int w5)] _
  refine z_seti (y := 0) hu.1 ?_
  refine z_cVi (As := [.int 0, .int 0]) (rest := []) B cw_X9_245 cx_10 dX9_set_14 (ci_X9_needs__29 l (σ := (ap b σ [] [] [])) (b := b) (lyA hK) ) (lKA (hk_K hK 405 rfl rfl)) rfl (by decide) rfl (Nat.le_of_ble_eq_true rfl) (by decide) (fun r u hu => ?_)
  refine z_eqs (σ' := (ap b σ [(405, 0, 1)] [] [])) (hu.2.trans ap_ap) ?_
  show zx p l e _ s m _ below meth c g 7 0 0 _ _ 17 [(0, .ref (b + 405)), (1, .int w1), (2, .int w2), (3, .int w3), (4, .int w4), (5, .int w5)] _
  refine z_seti (y := 0) hu.1 ?_
  refine z_if_ne (tgt := 22) B dX9_set_17 (by decide) (fun h => absurd (by decide) h) (fun _ => ?_)
  refine z_iconst (v := 0) B dX9_set_20 (by decide) ?_
  exact z_iret B hr (by decide) (by decide) dX9_set_21 ⟨rfl, rfl⟩
set_option maxRecDepth 100000 in
set_option maxHeartbeats 4000000 in
theorem ci_X9_set_375 (l : Launch) {g : gx_T} {σ : sx_T} {b : Nat} (hK : lay b σ) (w1 : Int32) (w2 : Int32) (w3 : Int32) (w4 : Int32) (w5 : Int32) (q1_w1 : (6 : Int) ≤ w1.toInt) (q2_w1 : w1.toInt ≤ (2147483647 : Int)) (q1_w3 : (0 : Int) ≤ w3.toInt) (q2_w3 : w3.toInt ≤ (17 : Int)) (q1_w4 : (0 : Int) ≤ w4.toInt) (q2_w4 : w4.toInt ≤ (99 : Int)) (q1_w5 : (0 : Int) ≤ w5.toInt) (q2_w5 : w5.toInt ≤ (99 : Int))  : Met l yX9_set (.code yX9_set cX9_set 7 (some .int) :: lw_g) { frames := 2, cells := 0, slots := 0, locals := 44 } (va_Pc [.ref (b + 405), .int w1, .int w2, .int w3, .int w4, .int w5] (zx_w g σ)) (va_Qi (fun r u => r = 0 ∧ u = (ap b σ [(405, 0, 1)] [] [])) (zx_w g) (gx_Q g)) 0 0 (gx_Q g) := by
  refine z_met (by decide) (Nat.le_of_ble_eq_true rfl) (fun p e s m below meth c B hr hin => ?_)
  refine z_eqs (σ' := (ap b σ [] [] [])) rfl ?_
  show zx p l e _ s m _ below meth c g 7 0 0 _ _ 0 [(0, .ref (b + 405)), (1, .int w1), (2, .int w2), (3, .int w3), (4, .int w4), (5, .int w5)] []
  refine z_aload_n B dX9_set_0 rfl 0 rfl ?_
  refine z_iload_n B dX9_set_1 rfl 1 rfl ?_
  refine z_iload_n B dX9_set_2 rfl 2 rfl ?_
  refine z_cSi (As := [.int w1, .int w2]) (rest := [.ref (b + 405)]) B cw_X9_238 dX9_set_3 (ci_X9_isStep_371 l (σ := (ap b σ [] [] [])) (b := b) (lyA hK) w1 w2 q1_w1 q2_w1) rfl (by decide) rfl (Nat.le_of_ble_eq_true rfl) (by decide) (fun r u hu => ?_)
  refine z_eqs (σ' := (ap b σ [] [] [])) hu.2 ?_
  show zx p l e _ s m _ below meth c g 7 0 0 _ _ 6 [(0, .ref (b + 405)), (1, .int w1), (2, .int w2), (3, .int w3), (4, .int w4), (5, .int w5)] _
  refine z_seti (y := 0) hu.1 ?_
  refine z_iload_n B dX9_set_6 rfl 3 rfl ?_
  refine z_iload B dX9_set_7 4 rfl ?_
  refine z_iload B dX9_set_9 5 rfl ?_
  refine z_cSi (As := [.int w3, .int w4, .int w5]) (rest := [.int 0, .ref (b + 405)]) B cw_X9_242 dX9_set_11 (ci_X9_isOperation_39 l (σ := (ap b σ [] [] [])) (b := b) (lyA hK) w3 w4 w5 q1_w3 q2_w3 q1_w4 q2_w4 q1_w5 q2_w5) rfl (by decide) rfl (Nat.le_of_ble_eq_true rfl) (by decide) (fun r u hu => ?_)
  refine z_eqs (σ' := (ap b σ [] [] [])) hu.2 ?_
  show zx p l e _ s m _ below meth c g 7 0 0 _ _ 14 [(0, .ref (b + 405)), (1, .int w1), (2, .int w2), (3, .int w3), (4, .int w4), (5, .int w5)] _
  refine z_seti (y := 1) hu.1 ?_
  refine z_cVi (As := [.int 0, .int 1]) (rest := []) B cw_X9_245 cx_10 dX9_set_14 (ci_X9_needs__40 l (σ := (ap b σ [] [] [])) (b := b) (lyA hK) ) (lKA (hk_K hK 405 rfl rfl)) rfl (by decide) rfl (Nat.le_of_ble_eq_true rfl) (by decide) (fun r u hu => ?_)
  refine z_eqs (σ' := (ap b σ [(405, 0, 1)] [] [])) (hu.2.trans ap_ap) ?_
  show zx p l e _ s m _ below meth c g 7 0 0 _ _ 17 [(0, .ref (b + 405)), (1, .int w1), (2, .int w2), (3, .int w3), (4, .int w4), (5, .int w5)] _
  refine z_seti (y := 0) hu.1 ?_
  refine z_if_ne (tgt := 22) B dX9_set_17 (by decide) (fun h => absurd (by decide) h) (fun _ => ?_)
  refine z_iconst (v := 0) B dX9_set_20 (by decide) ?_
  exact z_iret B hr (by decide) (by decide) dX9_set_21 ⟨rfl, rfl⟩
set_option maxRecDepth 100000 in
set_option maxHeartbeats 4000000 in
theorem ci_X9_set_376 (l : Launch) {g : gx_T} {σ : sx_T} {b : Nat} (hK : lay b σ) (w1 : Int32) (w2 : Int32) (w3 : Int32) (w4 : Int32) (w5 : Int32) (q1_w1 : (6 : Int) ≤ w1.toInt) (q2_w1 : w1.toInt ≤ (2147483647 : Int)) (q1_w3 : (0 : Int) ≤ w3.toInt) (q2_w3 : w3.toInt ≤ (17 : Int)) (q1_w4 : (0 : Int) ≤ w4.toInt) (q2_w4 : w4.toInt ≤ (99 : Int)) (q1_w5 : (100 : Int) ≤ w5.toInt) (q2_w5 : w5.toInt ≤ (2147483647 : Int))  : Met l yX9_set (.code yX9_set cX9_set 7 (some .int) :: lw_g) { frames := 2, cells := 0, slots := 0, locals := 44 } (va_Pc [.ref (b + 405), .int w1, .int w2, .int w3, .int w4, .int w5] (zx_w g σ)) (va_Qi (fun r u => r = 0 ∧ u = (ap b σ [(405, 0, 1)] [] [])) (zx_w g) (gx_Q g)) 0 0 (gx_Q g) := by
  refine z_met (by decide) (Nat.le_of_ble_eq_true rfl) (fun p e s m below meth c B hr hin => ?_)
  refine z_eqs (σ' := (ap b σ [] [] [])) rfl ?_
  show zx p l e _ s m _ below meth c g 7 0 0 _ _ 0 [(0, .ref (b + 405)), (1, .int w1), (2, .int w2), (3, .int w3), (4, .int w4), (5, .int w5)] []
  refine z_aload_n B dX9_set_0 rfl 0 rfl ?_
  refine z_iload_n B dX9_set_1 rfl 1 rfl ?_
  refine z_iload_n B dX9_set_2 rfl 2 rfl ?_
  refine z_cSi (As := [.int w1, .int w2]) (rest := [.ref (b + 405)]) B cw_X9_238 dX9_set_3 (ci_X9_isStep_371 l (σ := (ap b σ [] [] [])) (b := b) (lyA hK) w1 w2 q1_w1 q2_w1) rfl (by decide) rfl (Nat.le_of_ble_eq_true rfl) (by decide) (fun r u hu => ?_)
  refine z_eqs (σ' := (ap b σ [] [] [])) hu.2 ?_
  show zx p l e _ s m _ below meth c g 7 0 0 _ _ 6 [(0, .ref (b + 405)), (1, .int w1), (2, .int w2), (3, .int w3), (4, .int w4), (5, .int w5)] _
  refine z_seti (y := 0) hu.1 ?_
  refine z_iload_n B dX9_set_6 rfl 3 rfl ?_
  refine z_iload B dX9_set_7 4 rfl ?_
  refine z_iload B dX9_set_9 5 rfl ?_
  refine z_cSi (As := [.int w3, .int w4, .int w5]) (rest := [.int 0, .ref (b + 405)]) B cw_X9_242 dX9_set_11 (ci_X9_isOperation_43 l (σ := (ap b σ [] [] [])) (b := b) (lyA hK) w3 w4 w5 q1_w3 q2_w3 q1_w4 q2_w4 q1_w5 q2_w5) rfl (by decide) rfl (Nat.le_of_ble_eq_true rfl) (by decide) (fun r u hu => ?_)
  refine z_eqs (σ' := (ap b σ [] [] [])) hu.2 ?_
  show zx p l e _ s m _ below meth c g 7 0 0 _ _ 14 [(0, .ref (b + 405)), (1, .int w1), (2, .int w2), (3, .int w3), (4, .int w4), (5, .int w5)] _
  refine z_seti (y := 0) hu.1 ?_
  refine z_cVi (As := [.int 0, .int 0]) (rest := []) B cw_X9_245 cx_10 dX9_set_14 (ci_X9_needs__29 l (σ := (ap b σ [] [] [])) (b := b) (lyA hK) ) (lKA (hk_K hK 405 rfl rfl)) rfl (by decide) rfl (Nat.le_of_ble_eq_true rfl) (by decide) (fun r u hu => ?_)
  refine z_eqs (σ' := (ap b σ [(405, 0, 1)] [] [])) (hu.2.trans ap_ap) ?_
  show zx p l e _ s m _ below meth c g 7 0 0 _ _ 17 [(0, .ref (b + 405)), (1, .int w1), (2, .int w2), (3, .int w3), (4, .int w4), (5, .int w5)] _
  refine z_seti (y := 0) hu.1 ?_
  refine z_if_ne (tgt := 22) B dX9_set_17 (by decide) (fun h => absurd (by decide) h) (fun _ => ?_)
  refine z_iconst (v := 0) B dX9_set_20 (by decide) ?_
  exact z_iret B hr (by decide) (by decide) dX9_set_21 ⟨rfl, rfl⟩
set_option maxRecDepth 100000 in
set_option maxHeartbeats 4000000 in
theorem ci_X9_set_377 (l : Launch) {g : gx_T} {σ : sx_T} {b : Nat} (hK : lay b σ) (w1 : Int32) (w2 : Int32) (w3 : Int32) (w4 : Int32) (w5 : Int32) (q1_w1 : (6 : Int) ≤ w1.toInt) (q2_w1 : w1.toInt ≤ (2147483647 : Int)) (q1_w3 : (0 : Int) ≤ w3.toInt) (q2_w3 : w3.toInt ≤ (17 : Int)) (q1_w4 : (100 : Int) ≤ w4.toInt) (q2_w4 : w4.toInt ≤ (2147483647 : Int))  : Met l yX9_set (.code yX9_set cX9_set 7 (some .int) :: lw_g) { frames := 2, cells := 0, slots := 0, locals := 44 } (va_Pc [.ref (b + 405), .int w1, .int w2, .int w3, .int w4, .int w5] (zx_w g σ)) (va_Qi (fun r u => r = 0 ∧ u = (ap b σ [(405, 0, 1)] [] [])) (zx_w g) (gx_Q g)) 0 0 (gx_Q g) := by
  refine z_met (by decide) (Nat.le_of_ble_eq_true rfl) (fun p e s m below meth c B hr hin => ?_)
  refine z_eqs (σ' := (ap b σ [] [] [])) rfl ?_
  show zx p l e _ s m _ below meth c g 7 0 0 _ _ 0 [(0, .ref (b + 405)), (1, .int w1), (2, .int w2), (3, .int w3), (4, .int w4), (5, .int w5)] []
  refine z_aload_n B dX9_set_0 rfl 0 rfl ?_
  refine z_iload_n B dX9_set_1 rfl 1 rfl ?_
  refine z_iload_n B dX9_set_2 rfl 2 rfl ?_
  refine z_cSi (As := [.int w1, .int w2]) (rest := [.ref (b + 405)]) B cw_X9_238 dX9_set_3 (ci_X9_isStep_371 l (σ := (ap b σ [] [] [])) (b := b) (lyA hK) w1 w2 q1_w1 q2_w1) rfl (by decide) rfl (Nat.le_of_ble_eq_true rfl) (by decide) (fun r u hu => ?_)
  refine z_eqs (σ' := (ap b σ [] [] [])) hu.2 ?_
  show zx p l e _ s m _ below meth c g 7 0 0 _ _ 6 [(0, .ref (b + 405)), (1, .int w1), (2, .int w2), (3, .int w3), (4, .int w4), (5, .int w5)] _
  refine z_seti (y := 0) hu.1 ?_
  refine z_iload_n B dX9_set_6 rfl 3 rfl ?_
  refine z_iload B dX9_set_7 4 rfl ?_
  refine z_iload B dX9_set_9 5 rfl ?_
  refine z_cSi (As := [.int w3, .int w4, .int w5]) (rest := [.int 0, .ref (b + 405)]) B cw_X9_242 dX9_set_11 (ci_X9_isOperation_45 l (σ := (ap b σ [] [] [])) (b := b) (lyA hK) w3 w4 w5 q1_w3 q2_w3 q1_w4 q2_w4) rfl (by decide) rfl (Nat.le_of_ble_eq_true rfl) (by decide) (fun r u hu => ?_)
  refine z_eqs (σ' := (ap b σ [] [] [])) hu.2 ?_
  show zx p l e _ s m _ below meth c g 7 0 0 _ _ 14 [(0, .ref (b + 405)), (1, .int w1), (2, .int w2), (3, .int w3), (4, .int w4), (5, .int w5)] _
  refine z_seti (y := 0) hu.1 ?_
  refine z_cVi (As := [.int 0, .int 0]) (rest := []) B cw_X9_245 cx_10 dX9_set_14 (ci_X9_needs__29 l (σ := (ap b σ [] [] [])) (b := b) (lyA hK) ) (lKA (hk_K hK 405 rfl rfl)) rfl (by decide) rfl (Nat.le_of_ble_eq_true rfl) (by decide) (fun r u hu => ?_)
  refine z_eqs (σ' := (ap b σ [(405, 0, 1)] [] [])) (hu.2.trans ap_ap) ?_
  show zx p l e _ s m _ below meth c g 7 0 0 _ _ 17 [(0, .ref (b + 405)), (1, .int w1), (2, .int w2), (3, .int w3), (4, .int w4), (5, .int w5)] _
  refine z_seti (y := 0) hu.1 ?_
  refine z_if_ne (tgt := 22) B dX9_set_17 (by decide) (fun h => absurd (by decide) h) (fun _ => ?_)
  refine z_iconst (v := 0) B dX9_set_20 (by decide) ?_
  exact z_iret B hr (by decide) (by decide) dX9_set_21 ⟨rfl, rfl⟩
set_option maxRecDepth 100000 in
set_option maxHeartbeats 4000000 in
theorem ci_X9_set_378 (l : Launch) {g : gx_T} {σ : sx_T} {b : Nat} (hK : lay b σ) (w1 : Int32) (w2 : Int32) (w3 : Int32) (w4 : Int32) (w5 : Int32) (q1_w1 : (6 : Int) ≤ w1.toInt) (q2_w1 : w1.toInt ≤ (2147483647 : Int)) (q1_w3 : (18 : Int) ≤ w3.toInt) (q2_w3 : w3.toInt ≤ (2147483647 : Int))  : Met l yX9_set (.code yX9_set cX9_set 7 (some .int) :: lw_g) { frames := 2, cells := 0, slots := 0, locals := 44 } (va_Pc [.ref (b + 405), .int w1, .int w2, .int w3, .int w4, .int w5] (zx_w g σ)) (va_Qi (fun r u => r = 0 ∧ u = (ap b σ [(405, 0, 1)] [] [])) (zx_w g) (gx_Q g)) 0 0 (gx_Q g) := by
  refine z_met (by decide) (Nat.le_of_ble_eq_true rfl) (fun p e s m below meth c B hr hin => ?_)
  refine z_eqs (σ' := (ap b σ [] [] [])) rfl ?_
  show zx p l e _ s m _ below meth c g 7 0 0 _ _ 0 [(0, .ref (b + 405)), (1, .int w1), (2, .int w2), (3, .int w3), (4, .int w4), (5, .int w5)] []
  refine z_aload_n B dX9_set_0 rfl 0 rfl ?_
  refine z_iload_n B dX9_set_1 rfl 1 rfl ?_
  refine z_iload_n B dX9_set_2 rfl 2 rfl ?_
  refine z_cSi (As := [.int w1, .int w2]) (rest := [.ref (b + 405)]) B cw_X9_238 dX9_set_3 (ci_X9_isStep_371 l (σ := (ap b σ [] [] [])) (b := b) (lyA hK) w1 w2 q1_w1 q2_w1) rfl (by decide) rfl (Nat.le_of_ble_eq_true rfl) (by decide) (fun r u hu => ?_)
  refine z_eqs (σ' := (ap b σ [] [] [])) hu.2 ?_
  show zx p l e _ s m _ below meth c g 7 0 0 _ _ 6 [(0, .ref (b + 405)), (1, .int w1), (2, .int w2), (3, .int w3), (4, .int w4), (5, .int w5)] _
  refine z_seti (y := 0) hu.1 ?_
  refine z_iload_n B dX9_set_6 rfl 3 rfl ?_
  refine z_iload B dX9_set_7 4 rfl ?_
  refine z_iload B dX9_set_9 5 rfl ?_
  refine z_cSi (As := [.int w3, .int w4, .int w5]) (rest := [.int 0, .ref (b + 405)]) B cw_X9_242 dX9_set_11 (ci_X9_isOperation_48 l (σ := (ap b σ [] [] [])) (b := b) (lyA hK) w3 w4 w5 q1_w3 q2_w3) rfl (by decide) rfl (Nat.le_of_ble_eq_true rfl) (by decide) (fun r u hu => ?_)
  refine z_eqs (σ' := (ap b σ [] [] [])) hu.2 ?_
  show zx p l e _ s m _ below meth c g 7 0 0 _ _ 14 [(0, .ref (b + 405)), (1, .int w1), (2, .int w2), (3, .int w3), (4, .int w4), (5, .int w5)] _
  refine z_seti (y := 0) hu.1 ?_
  refine z_cVi (As := [.int 0, .int 0]) (rest := []) B cw_X9_245 cx_10 dX9_set_14 (ci_X9_needs__29 l (σ := (ap b σ [] [] [])) (b := b) (lyA hK) ) (lKA (hk_K hK 405 rfl rfl)) rfl (by decide) rfl (Nat.le_of_ble_eq_true rfl) (by decide) (fun r u hu => ?_)
  refine z_eqs (σ' := (ap b σ [(405, 0, 1)] [] [])) (hu.2.trans ap_ap) ?_
  show zx p l e _ s m _ below meth c g 7 0 0 _ _ 17 [(0, .ref (b + 405)), (1, .int w1), (2, .int w2), (3, .int w3), (4, .int w4), (5, .int w5)] _
  refine z_seti (y := 0) hu.1 ?_
  refine z_if_ne (tgt := 22) B dX9_set_17 (by decide) (fun h => absurd (by decide) h) (fun _ => ?_)
  refine z_iconst (v := 0) B dX9_set_20 (by decide) ?_
  exact z_iret B hr (by decide) (by decide) dX9_set_21 ⟨rfl, rfl⟩
set_option maxRecDepth 100000 in
set_option maxHeartbeats 4000000 in
theorem ci_X8_check_379 (l : Launch) (hlt : l.stackTraces = false) {g : gx_T} {σ : sx_T} {b : Nat} (hK : lay b σ) (w1 : Int32) (w2 : Int32) (w3 : Int32) (w4 : Int32) (w5 : Int32) (q1_w1 : (-2147483648 : Int) ≤ w1.toInt) (q2_w1 : w1.toInt ≤ (-1 : Int))  : vx_Met l yX8_check (.code yX8_check cX8_check 13 (some .int) :: lw_g) { frames := 7, cells := 1, slots := 6, locals := 136 } (va_Pc [.ref (b + 0), .int w1, .int w2, .int w3, .int w4, .int w5] (zx_w g σ)) (va_Qi (S := sx_T) (fun _ _ => False) (zx_w g) (gx_Q g)) (vx_X (fun u : sx_T => ∃ z, u = wx_Z σ z) (fun E u t => E = "java/lang/IndexOutOfBoundsException" ∧ zx_h g u t.heap) (gx_Q g)) 1 6 (gx_Q g) := by
  refine z_metX (by decide) (Nat.le_of_ble_eq_true rfl) (fun p e s m below meth c B hr hin hout => ?_)
  refine z_eqs (σ' := (ap b σ [] [] [])) rfl ?_
  show zx p l e _ s m _ below meth c g 13 0 0 _ _ 0 [(0, .ref (b + 0)), (1, .int w1), (2, .int w2), (3, .int w3), (4, .int w4), (5, .int w5)] []
  refine z_aload_n B dX8_check_0 rfl 0 rfl ?_
  refine z_iload_n B dX8_check_1 rfl 1 rfl ?_
  refine z_cVq (As := [.int w1]) (rest := []) B cw_X8_64 cx_9 dX8_check_2 (ci_X8_programAt_22 l (σ := (ap b σ [] [] [])) (b := b) (lyA hK) w1 q1_w1 q2_w1) (lKA (hk_K hK 0 rfl rfl)) rfl (by decide) rfl (Nat.le_of_ble_eq_true rfl) (by decide) (fun r u hu => ?_)
  refine z_eqs (σ' := (ap b σ [] [] [])) hu.2 ?_
  show zx p l e _ s m _ below meth c g 13 0 0 _ _ 5 [(0, .ref (b + 0)), (1, .int w1), (2, .int w2), (3, .int w3), (4, .int w4), (5, .int w5)] _
  refine z_setr (y := none) hu.1 ?_
  refine z_qstore (r := none) (lv' := [(6, .null), (0, .ref (b + 0)), (1, .int w1), (2, .int w2), (3, .int w3), (4, .int w4), (5, .int w5)]) B dX8_check_5 (by decide) rfl ?_
  refine z_qload (r := none) B dX8_check_7 0 rfl ?_
  refine z_ifnull (r := none) (tgt := 21) B dX8_check_9 (by decide) (fun _ => ?_) (fun a h => nomatch h)
  exact z_throw B hlt hout (cls := "java/lang/IndexOutOfBoundsException") (text := "no such step") tw_X8_72_74_76 dX8_check_21 dX8_check_24 dX8_check_25 dX8_check_27 dX8_check_30 (by decide) (by decide) (by decide) (by decide) (by decide) (by decide) (fun z => ⟨z, rfl⟩)
set_option maxRecDepth 100000 in
set_option maxHeartbeats 4000000 in
theorem ci_L_check_380 (l : Launch) (hlt : l.stackTraces = false) {g : gx_T} {σ : sx_T} {b : Nat} (hK : lay b σ) (w1 : Int32) (w2 : Int32) (w3 : Int32) (w4 : Int32) (w5 : Int32) (q1_w1 : (-2147483648 : Int) ≤ w1.toInt) (q2_w1 : w1.toInt ≤ (-1 : Int))  : Met l yL_check (.codeWith yL_check cL_check 8 (some .int) [(0, 16, 19, 13), (0, 16, 23, 15)] :: lw_g) { frames := 8, cells := 1, slots := 6, locals := 168 } (va_Pc [.ref (b + 0), .int w1, .int w2, .int w3, .int w4, .int w5, .ref (b + 431)] (zx_w g σ)) (va_Qi (fun r u => r = 1 ∧ ∃ z, u = (ap b (wx_Z σ z) [] [] [])) (zx_w g) (gx_Q g)) 1 6 (gx_Q g) := by
  refine z_metW (by decide) (Nat.le_of_ble_eq_true rfl) (fun p e s m below meth c B hr htab => ?_)
  refine z_eqs (σ' := (ap b σ [] [] [])) rfl ?_
  show zx p l e _ s m _ below meth c g 8 0 0 _ _ 0 [(0, .ref (b + 0)), (1, .int w1), (2, .int w2), (3, .int w3), (4, .int w4), (5, .int w5), (6, .ref (b + 431))] []
  refine z_aload B dL_check_0 6 rfl ?_
  refine z_iconst (v := 0) B dL_check_2 (by decide) ?_
  refine z_aload_n B dL_check_3 rfl 0 rfl ?_
  refine z_iload_n B dL_check_4 rfl 1 rfl ?_
  refine z_iload_n B dL_check_5 rfl 2 rfl ?_
  refine z_iload_n B dL_check_6 rfl 3 rfl ?_
  refine z_iload B dL_check_7 4 rfl ?_
  refine z_iload B dL_check_9 5 rfl ?_
  refine z_cXi (As := [.int w1, .int w2, .int w3, .int w4, .int w5]) (rest := [.int 0, .ref (b + 431)]) B htab tc_check_11_IndexOutOfBoundsException cw_L_17 cx_9 dL_check_11 (ci_X8_check_379 l hlt (σ := (ap b σ [] [] [])) (b := b) (lyA hK) w1 w2 w3 w4 w5 q1_w1 q2_w1) (lKA (hk_K hK 0 rfl rfl)) rfl (by decide) rfl (Nat.le_of_ble_eq_true rfl) (by decide) (fun z q => ?_)
  refine z_eqs (σ' := (ap b (wx_Z σ z) [] [] [])) rfl ?_
  show zx p l e _ s m _ below meth c g 8 _ _ _ _ 19 [(0, .ref (b + 0)), (1, .int w1), (2, .int w2), (3, .int w3), (4, .int w4), (5, .int w5), (6, .ref (b + 431))] _
  refine z_astore (lv' := [(7, .ref q), (0, .ref (b + 0)), (1, .int w1), (2, .int w2), (3, .int w3), (4, .int w4), (5, .int w5), (6, .ref (b + 431))]) B dL_check_19 (by decide) rfl ?_
  refine z_iconst (v := 1) B dL_check_21 (by decide) ?_
  exact z_iret B hr (by decide) (by decide) dL_check_22 ⟨rfl, _, rfl⟩
set_option maxRecDepth 100000 in
set_option maxHeartbeats 4000000 in
theorem ci_X9_check_381 (l : Launch) {g : gx_T} {σ : sx_T} {b : Nat} (hK : lay b σ) (w1 : Int32) (w2 : Int32) (w3 : Int32) (w4 : Int32) (w5 : Int32) (q1_w1 : (-2147483648 : Int) ≤ w1.toInt) (q2_w1 : w1.toInt ≤ (-1 : Int)) (q1_w3 : (-2147483648 : Int) ≤ w3.toInt) (q2_w3 : w3.toInt ≤ (-1 : Int))  : Met l yX9_check (.code yX9_check cX9_check 11 (some .int) :: lw_g) { frames := 2, cells := 0, slots := 0, locals := 44 } (va_Pc [.ref (b + 405), .int w1, .int w2, .int w3, .int w4, .int w5] (zx_w g σ)) (va_Qi (fun r u => r = 0 ∧ u = (ap b σ [(405, 0, 1)] [] [])) (zx_w g) (gx_Q g)) 0 0 (gx_Q g) := by
  refine z_met (by decide) (Nat.le_of_ble_eq_true rfl) (fun p e s m below meth c B hr hin => ?_)
  refine z_eqs (σ' := (ap b σ [] [] [])) rfl ?_
  show zx p l e _ s m _ below meth c g 11 0 0 _ _ 0 [(0, .ref (b + 405)), (1, .int w1), (2, .int w2), (3, .int w3), (4, .int w4), (5, .int w5)] []
  refine z_aload_n B dX9_check_0 rfl 0 rfl ?_
  refine z_iload_n B dX9_check_1 rfl 1 rfl ?_
  refine z_iload_n B dX9_check_2 rfl 2 rfl ?_
  refine z_cSi (As := [.int w1, .int w2]) (rest := [.ref (b + 405)]) B cw_X9_238 dX9_check_3 (ci_X9_isStep_26 l (σ := (ap b σ [] [] [])) (b := b) (lyA hK) w1 w2 q1_w1 q2_w1) rfl (by decide) rfl (Nat.le_of_ble_eq_true rfl) (by decide) (fun r u hu => ?_)
  refine z_eqs (σ' := (ap b σ [] [] [])) hu.2 ?_
  show zx p l e _ s m _ below meth c g 11 0 0 _ _ 6 [(0, .ref (b + 405)), (1, .int w1), (2, .int w2), (3, .int w3), (4, .int w4), (5, .int w5)] _
  refine z_seti (y := 0) hu.1 ?_
  refine z_iload_n B dX9_check_6 rfl 3 rfl ?_
  refine z_iload B dX9_check_7 4 rfl ?_
  refine z_iload B dX9_check_9 5 rfl ?_
  refine z_cSi (As := [.int w3, .int w4, .int w5]) (rest := [.int 0, .ref (b + 405)]) B cw_X9_242 dX9_check_11 (ci_X9_isOperation_28 l (σ := (ap b σ [] [] [])) (b := b) (lyA hK) w3 w4 w5 q1_w3 q2_w3) rfl (by decide) rfl (Nat.le_of_ble_eq_true rfl) (by decide) (fun r u hu => ?_)
  refine z_eqs (σ' := (ap b σ [] [] [])) hu.2 ?_
  show zx p l e _ s m _ below meth c g 11 0 0 _ _ 14 [(0, .ref (b + 405)), (1, .int w1), (2, .int w2), (3, .int w3), (4, .int w4), (5, .int w5)] _
  refine z_seti (y := 0) hu.1 ?_
  refine z_cVi (As := [.int 0, .int 0]) (rest := []) B cw_X9_245 cx_10 dX9_check_14 (ci_X9_needs__29 l (σ := (ap b σ [] [] [])) (b := b) (lyA hK) ) (lKA (hk_K hK 405 rfl rfl)) rfl (by decide) rfl (Nat.le_of_ble_eq_true rfl) (by decide) (fun r u hu => ?_)
  refine z_eqs (σ' := (ap b σ [(405, 0, 1)] [] [])) (hu.2.trans ap_ap) ?_
  show zx p l e _ s m _ below meth c g 11 0 0 _ _ 17 [(0, .ref (b + 405)), (1, .int w1), (2, .int w2), (3, .int w3), (4, .int w4), (5, .int w5)] _
  refine z_seti (y := 0) hu.1 ?_
  refine z_if_ne (tgt := 22) B dX9_check_17 (by decide) (fun h => absurd (by decide) h) (fun _ => ?_)
  refine z_iconst (v := 0) B dX9_check_20 (by decide) ?_
  exact z_iret B hr (by decide) (by decide) dX9_check_21 ⟨rfl, rfl⟩
set_option maxRecDepth 100000 in
set_option maxHeartbeats 4000000 in
theorem ci_X9_check_382 (l : Launch) {g : gx_T} {σ : sx_T} {b : Nat} (hK : lay b σ) (w1 : Int32) (w2 : Int32) (w3 : Int32) (w4 : Int32) (w5 : Int32) (q1_w1 : (-2147483648 : Int) ≤ w1.toInt) (q2_w1 : w1.toInt ≤ (-1 : Int)) (q1_w3 : (0 : Int) ≤ w3.toInt) (q2_w3 : w3.toInt ≤ (17 : Int)) (q1_w4 : (-2147483648 : Int) ≤ w4.toInt) (q2_w4 : w4.toInt ≤ (-1 : Int))  : Met l yX9_check (.code yX9_check cX9_check 11 (some .int) :: lw_g) { frames := 2, cells := 0, slots := 0, locals := 44 } (va_Pc [.ref (b + 405), .int w1, .int w2, .int w3, .int w4, .int w5] (zx_w g σ)) (va_Qi (fun r u => r = 0 ∧ u = (ap b σ [(405, 0, 1)] [] [])) (zx_w g) (gx_Q g)) 0 0 (gx_Q g) := by
  refine z_met (by decide) (Nat.le_of_ble_eq_true rfl) (fun p e s m below meth c B hr hin => ?_)
  refine z_eqs (σ' := (ap b σ [] [] [])) rfl ?_
  show zx p l e _ s m _ below meth c g 11 0 0 _ _ 0 [(0, .ref (b + 405)), (1, .int w1), (2, .int w2), (3, .int w3), (4, .int w4), (5, .int w5)] []
  refine z_aload_n B dX9_check_0 rfl 0 rfl ?_
  refine z_iload_n B dX9_check_1 rfl 1 rfl ?_
  refine z_iload_n B dX9_check_2 rfl 2 rfl ?_
  refine z_cSi (As := [.int w1, .int w2]) (rest := [.ref (b + 405)]) B cw_X9_238 dX9_check_3 (ci_X9_isStep_26 l (σ := (ap b σ [] [] [])) (b := b) (lyA hK) w1 w2 q1_w1 q2_w1) rfl (by decide) rfl (Nat.le_of_ble_eq_true rfl) (by decide) (fun r u hu => ?_)
  refine z_eqs (σ' := (ap b σ [] [] [])) hu.2 ?_
  show zx p l e _ s m _ below meth c g 11 0 0 _ _ 6 [(0, .ref (b + 405)), (1, .int w1), (2, .int w2), (3, .int w3), (4, .int w4), (5, .int w5)] _
  refine z_seti (y := 0) hu.1 ?_
  refine z_iload_n B dX9_check_6 rfl 3 rfl ?_
  refine z_iload B dX9_check_7 4 rfl ?_
  refine z_iload B dX9_check_9 5 rfl ?_
  refine z_cSi (As := [.int w3, .int w4, .int w5]) (rest := [.int 0, .ref (b + 405)]) B cw_X9_242 dX9_check_11 (ci_X9_isOperation_34 l (σ := (ap b σ [] [] [])) (b := b) (lyA hK) w3 w4 w5 q1_w3 q2_w3 q1_w4 q2_w4) rfl (by decide) rfl (Nat.le_of_ble_eq_true rfl) (by decide) (fun r u hu => ?_)
  refine z_eqs (σ' := (ap b σ [] [] [])) hu.2 ?_
  show zx p l e _ s m _ below meth c g 11 0 0 _ _ 14 [(0, .ref (b + 405)), (1, .int w1), (2, .int w2), (3, .int w3), (4, .int w4), (5, .int w5)] _
  refine z_seti (y := 0) hu.1 ?_
  refine z_cVi (As := [.int 0, .int 0]) (rest := []) B cw_X9_245 cx_10 dX9_check_14 (ci_X9_needs__29 l (σ := (ap b σ [] [] [])) (b := b) (lyA hK) ) (lKA (hk_K hK 405 rfl rfl)) rfl (by decide) rfl (Nat.le_of_ble_eq_true rfl) (by decide) (fun r u hu => ?_)
  refine z_eqs (σ' := (ap b σ [(405, 0, 1)] [] [])) (hu.2.trans ap_ap) ?_
  show zx p l e _ s m _ below meth c g 11 0 0 _ _ 17 [(0, .ref (b + 405)), (1, .int w1), (2, .int w2), (3, .int w3), (4, .int w4), (5, .int w5)] _
  refine z_seti (y := 0) hu.1 ?_
  refine z_if_ne (tgt := 22) B dX9_check_17 (by decide) (fun h => absurd (by decide) h) (fun _ => ?_)
  refine z_iconst (v := 0) B dX9_check_20 (by decide) ?_
  exact z_iret B hr (by decide) (by decide) dX9_check_21 ⟨rfl, rfl⟩
set_option maxRecDepth 100000 in
set_option maxHeartbeats 4000000 in
theorem ci_X9_check_383 (l : Launch) {g : gx_T} {σ : sx_T} {b : Nat} (hK : lay b σ) (w1 : Int32) (w2 : Int32) (w3 : Int32) (w4 : Int32) (w5 : Int32) (q1_w1 : (-2147483648 : Int) ≤ w1.toInt) (q2_w1 : w1.toInt ≤ (-1 : Int)) (q1_w3 : (0 : Int) ≤ w3.toInt) (q2_w3 : w3.toInt ≤ (17 : Int)) (q1_w4 : (0 : Int) ≤ w4.toInt) (q2_w4 : w4.toInt ≤ (99 : Int)) (q1_w5 : (-2147483648 : Int) ≤ w5.toInt) (q2_w5 : w5.toInt ≤ (-1 : Int))  : Met l yX9_check (.code yX9_check cX9_check 11 (some .int) :: lw_g) { frames := 2, cells := 0, slots := 0, locals := 44 } (va_Pc [.ref (b + 405), .int w1, .int w2, .int w3, .int w4, .int w5] (zx_w g σ)) (va_Qi (fun r u => r = 0 ∧ u = (ap b σ [(405, 0, 1)] [] [])) (zx_w g) (gx_Q g)) 0 0 (gx_Q g) := by
  refine z_met (by decide) (Nat.le_of_ble_eq_true rfl) (fun p e s m below meth c B hr hin => ?_)
  refine z_eqs (σ' := (ap b σ [] [] [])) rfl ?_
  show zx p l e _ s m _ below meth c g 11 0 0 _ _ 0 [(0, .ref (b + 405)), (1, .int w1), (2, .int w2), (3, .int w3), (4, .int w4), (5, .int w5)] []
  refine z_aload_n B dX9_check_0 rfl 0 rfl ?_
  refine z_iload_n B dX9_check_1 rfl 1 rfl ?_
  refine z_iload_n B dX9_check_2 rfl 2 rfl ?_
  refine z_cSi (As := [.int w1, .int w2]) (rest := [.ref (b + 405)]) B cw_X9_238 dX9_check_3 (ci_X9_isStep_26 l (σ := (ap b σ [] [] [])) (b := b) (lyA hK) w1 w2 q1_w1 q2_w1) rfl (by decide) rfl (Nat.le_of_ble_eq_true rfl) (by decide) (fun r u hu => ?_)
  refine z_eqs (σ' := (ap b σ [] [] [])) hu.2 ?_
  show zx p l e _ s m _ below meth c g 11 0 0 _ _ 6 [(0, .ref (b + 405)), (1, .int w1), (2, .int w2), (3, .int w3), (4, .int w4), (5, .int w5)] _
  refine z_seti (y := 0) hu.1 ?_
  refine z_iload_n B dX9_check_6 rfl 3 rfl ?_
  refine z_iload B dX9_check_7 4 rfl ?_
  refine z_iload B dX9_check_9 5 rfl ?_
  refine z_cSi (As := [.int w3, .int w4, .int w5]) (rest := [.int 0, .ref (b + 405)]) B cw_X9_242 dX9_check_11 (ci_X9_isOperation_37 l (σ := (ap b σ [] [] [])) (b := b) (lyA hK) w3 w4 w5 q1_w3 q2_w3 q1_w4 q2_w4 q1_w5 q2_w5) rfl (by decide) rfl (Nat.le_of_ble_eq_true rfl) (by decide) (fun r u hu => ?_)
  refine z_eqs (σ' := (ap b σ [] [] [])) hu.2 ?_
  show zx p l e _ s m _ below meth c g 11 0 0 _ _ 14 [(0, .ref (b + 405)), (1, .int w1), (2, .int w2), (3, .int w3), (4, .int w4), (5, .int w5)] _
  refine z_seti (y := 0) hu.1 ?_
  refine z_cVi (As := [.int 0, .int 0]) (rest := []) B cw_X9_245 cx_10 dX9_check_14 (ci_X9_needs__29 l (σ := (ap b σ [] [] [])) (b := b) (lyA hK) ) (lKA (hk_K hK 405 rfl rfl)) rfl (by decide) rfl (Nat.le_of_ble_eq_true rfl) (by decide) (fun r u hu => ?_)
  refine z_eqs (σ' := (ap b σ [(405, 0, 1)] [] [])) (hu.2.trans ap_ap) ?_
  show zx p l e _ s m _ below meth c g 11 0 0 _ _ 17 [(0, .ref (b + 405)), (1, .int w1), (2, .int w2), (3, .int w3), (4, .int w4), (5, .int w5)] _
  refine z_seti (y := 0) hu.1 ?_
  refine z_if_ne (tgt := 22) B dX9_check_17 (by decide) (fun h => absurd (by decide) h) (fun _ => ?_)
  refine z_iconst (v := 0) B dX9_check_20 (by decide) ?_
  exact z_iret B hr (by decide) (by decide) dX9_check_21 ⟨rfl, rfl⟩
set_option maxRecDepth 100000 in
set_option maxHeartbeats 4000000 in
theorem ci_X9_check_384 (l : Launch) {g : gx_T} {σ : sx_T} {b : Nat} (hK : lay b σ) (w1 : Int32) (w2 : Int32) (w3 : Int32) (w4 : Int32) (w5 : Int32) (q1_w1 : (-2147483648 : Int) ≤ w1.toInt) (q2_w1 : w1.toInt ≤ (-1 : Int)) (q1_w3 : (0 : Int) ≤ w3.toInt) (q2_w3 : w3.toInt ≤ (17 : Int)) (q1_w4 : (0 : Int) ≤ w4.toInt) (q2_w4 : w4.toInt ≤ (99 : Int)) (q1_w5 : (0 : Int) ≤ w5.toInt) (q2_w5 : w5.toInt ≤ (99 : Int))  : Met l yX9_check (.code yX9_check cX9_check 11 (some .int) :: lw_g) { frames := 2, cells := 0, slots := 0, locals := 44 } (va_Pc [.ref (b + 405), .int w1, .int w2, .int w3, .int w4, .int w5] (zx_w g σ)) (va_Qi (fun r u => r = 0 ∧ u = (ap b σ [(405, 0, 1)] [] [])) (zx_w g) (gx_Q g)) 0 0 (gx_Q g) := by
  refine z_met (by decide) (Nat.le_of_ble_eq_true rfl) (fun p e s m below meth c B hr hin => ?_)
  refine z_eqs (σ' := (ap b σ [] [] [])) rfl ?_
  show zx p l e _ s m _ below meth c g 11 0 0 _ _ 0 [(0, .ref (b + 405)), (1, .int w1), (2, .int w2), (3, .int w3), (4, .int w4), (5, .int w5)] []
  refine z_aload_n B dX9_check_0 rfl 0 rfl ?_
  refine z_iload_n B dX9_check_1 rfl 1 rfl ?_
  refine z_iload_n B dX9_check_2 rfl 2 rfl ?_
  refine z_cSi (As := [.int w1, .int w2]) (rest := [.ref (b + 405)]) B cw_X9_238 dX9_check_3 (ci_X9_isStep_26 l (σ := (ap b σ [] [] [])) (b := b) (lyA hK) w1 w2 q1_w1 q2_w1) rfl (by decide) rfl (Nat.le_of_ble_eq_true rfl) (by decide) (fun r u hu => ?_)
  refine z_eqs (σ' := (ap b σ [] [] [])) hu.2 ?_
  show zx p l e _ s m _ below meth c g 11 0 0 _ _ 6 [(0, .ref (b + 405)), (1, .int w1), (2, .int w2), (3, .int w3), (4, .int w4), (5, .int w5)] _
  refine z_seti (y := 0) hu.1 ?_
  refine z_iload_n B dX9_check_6 rfl 3 rfl ?_
  refine z_iload B dX9_check_7 4 rfl ?_
  refine z_iload B dX9_check_9 5 rfl ?_
  refine z_cSi (As := [.int w3, .int w4, .int w5]) (rest := [.int 0, .ref (b + 405)]) B cw_X9_242 dX9_check_11 (ci_X9_isOperation_39 l (σ := (ap b σ [] [] [])) (b := b) (lyA hK) w3 w4 w5 q1_w3 q2_w3 q1_w4 q2_w4 q1_w5 q2_w5) rfl (by decide) rfl (Nat.le_of_ble_eq_true rfl) (by decide) (fun r u hu => ?_)
  refine z_eqs (σ' := (ap b σ [] [] [])) hu.2 ?_
  show zx p l e _ s m _ below meth c g 11 0 0 _ _ 14 [(0, .ref (b + 405)), (1, .int w1), (2, .int w2), (3, .int w3), (4, .int w4), (5, .int w5)] _
  refine z_seti (y := 1) hu.1 ?_
  refine z_cVi (As := [.int 0, .int 1]) (rest := []) B cw_X9_245 cx_10 dX9_check_14 (ci_X9_needs__40 l (σ := (ap b σ [] [] [])) (b := b) (lyA hK) ) (lKA (hk_K hK 405 rfl rfl)) rfl (by decide) rfl (Nat.le_of_ble_eq_true rfl) (by decide) (fun r u hu => ?_)
  refine z_eqs (σ' := (ap b σ [(405, 0, 1)] [] [])) (hu.2.trans ap_ap) ?_
  show zx p l e _ s m _ below meth c g 11 0 0 _ _ 17 [(0, .ref (b + 405)), (1, .int w1), (2, .int w2), (3, .int w3), (4, .int w4), (5, .int w5)] _
  refine z_seti (y := 0) hu.1 ?_
  refine z_if_ne (tgt := 22) B dX9_check_17 (by decide) (fun h => absurd (by decide) h) (fun _ => ?_)
  refine z_iconst (v := 0) B dX9_check_20 (by decide) ?_
  exact z_iret B hr (by decide) (by decide) dX9_check_21 ⟨rfl, rfl⟩
set_option maxRecDepth 100000 in
set_option maxHeartbeats 4000000 in
theorem ci_X9_check_385 (l : Launch) {g : gx_T} {σ : sx_T} {b : Nat} (hK : lay b σ) (w1 : Int32) (w2 : Int32) (w3 : Int32) (w4 : Int32) (w5 : Int32) (q1_w1 : (-2147483648 : Int) ≤ w1.toInt) (q2_w1 : w1.toInt ≤ (-1 : Int)) (q1_w3 : (0 : Int) ≤ w3.toInt) (q2_w3 : w3.toInt ≤ (17 : Int)) (q1_w4 : (0 : Int) ≤ w4.toInt) (q2_w4 : w4.toInt ≤ (99 : Int)) (q1_w5 : (100 : Int) ≤ w5.toInt) (q2_w5 : w5.toInt ≤ (2147483647 : Int))  : Met l yX9_check (.code yX9_check cX9_check 11 (some .int) :: lw_g) { frames := 2, cells := 0, slots := 0, locals := 44 } (va_Pc [.ref (b + 405), .int w1, .int w2, .int w3, .int w4, .int w5] (zx_w g σ)) (va_Qi (fun r u => r = 0 ∧ u = (ap b σ [(405, 0, 1)] [] [])) (zx_w g) (gx_Q g)) 0 0 (gx_Q g) := by
  refine z_met (by decide) (Nat.le_of_ble_eq_true rfl) (fun p e s m below meth c B hr hin => ?_)
  refine z_eqs (σ' := (ap b σ [] [] [])) rfl ?_
  show zx p l e _ s m _ below meth c g 11 0 0 _ _ 0 [(0, .ref (b + 405)), (1, .int w1), (2, .int w2), (3, .int w3), (4, .int w4), (5, .int w5)] []
  refine z_aload_n B dX9_check_0 rfl 0 rfl ?_
  refine z_iload_n B dX9_check_1 rfl 1 rfl ?_
  refine z_iload_n B dX9_check_2 rfl 2 rfl ?_
  refine z_cSi (As := [.int w1, .int w2]) (rest := [.ref (b + 405)]) B cw_X9_238 dX9_check_3 (ci_X9_isStep_26 l (σ := (ap b σ [] [] [])) (b := b) (lyA hK) w1 w2 q1_w1 q2_w1) rfl (by decide) rfl (Nat.le_of_ble_eq_true rfl) (by decide) (fun r u hu => ?_)
  refine z_eqs (σ' := (ap b σ [] [] [])) hu.2 ?_
  show zx p l e _ s m _ below meth c g 11 0 0 _ _ 6 [(0, .ref (b + 405)), (1, .int w1), (2, .int w2), (3, .int w3), (4, .int w4), (5, .int w5)] _
  refine z_seti (y := 0) hu.1 ?_
  refine z_iload_n B dX9_check_6 rfl 3 rfl ?_
  refine z_iload B dX9_check_7 4 rfl ?_
  refine z_iload B dX9_check_9 5 rfl ?_
  refine z_cSi (As := [.int w3, .int w4, .int w5]) (rest := [.int 0, .ref (b + 405)]) B cw_X9_242 dX9_check_11 (ci_X9_isOperation_43 l (σ := (ap b σ [] [] [])) (b := b) (lyA hK) w3 w4 w5 q1_w3 q2_w3 q1_w4 q2_w4 q1_w5 q2_w5) rfl (by decide) rfl (Nat.le_of_ble_eq_true rfl) (by decide) (fun r u hu => ?_)
  refine z_eqs (σ' := (ap b σ [] [] [])) hu.2 ?_
  show zx p l e _ s m _ below meth c g 11 0 0 _ _ 14 [(0, .ref (b + 405)), (1, .int w1), (2, .int w2), (3, .int w3), (4, .int w4), (5, .int w5)] _
  refine z_seti (y := 0) hu.1 ?_
  refine z_cVi (As := [.int 0, .int 0]) (rest := []) B cw_X9_245 cx_10 dX9_check_14 (ci_X9_needs__29 l (σ := (ap b σ [] [] [])) (b := b) (lyA hK) ) (lKA (hk_K hK 405 rfl rfl)) rfl (by decide) rfl (Nat.le_of_ble_eq_true rfl) (by decide) (fun r u hu => ?_)
  refine z_eqs (σ' := (ap b σ [(405, 0, 1)] [] [])) (hu.2.trans ap_ap) ?_
  show zx p l e _ s m _ below meth c g 11 0 0 _ _ 17 [(0, .ref (b + 405)), (1, .int w1), (2, .int w2), (3, .int w3), (4, .int w4), (5, .int w5)] _
  refine z_seti (y := 0) hu.1 ?_
  refine z_if_ne (tgt := 22) B dX9_check_17 (by decide) (fun h => absurd (by decide) h) (fun _ => ?_)
  refine z_iconst (v := 0) B dX9_check_20 (by decide) ?_
  exact z_iret B hr (by decide) (by decide) dX9_check_21 ⟨rfl, rfl⟩
set_option maxRecDepth 100000 in
set_option maxHeartbeats 4000000 in
theorem ci_X9_check_386 (l : Launch) {g : gx_T} {σ : sx_T} {b : Nat} (hK : lay b σ) (w1 : Int32) (w2 : Int32) (w3 : Int32) (w4 : Int32) (w5 : Int32) (q1_w1 : (-2147483648 : Int) ≤ w1.toInt) (q2_w1 : w1.toInt ≤ (-1 : Int)) (q1_w3 : (0 : Int) ≤ w3.toInt) (q2_w3 : w3.toInt ≤ (17 : Int)) (q1_w4 : (100 : Int) ≤ w4.toInt) (q2_w4 : w4.toInt ≤ (2147483647 : Int))  : Met l yX9_check (.code yX9_check cX9_check 11 (some .int) :: lw_g) { frames := 2, cells := 0, slots := 0, locals := 44 } (va_Pc [.ref (b + 405), .int w1, .int w2, .int w3, .int w4, .int w5] (zx_w g σ)) (va_Qi (fun r u => r = 0 ∧ u = (ap b σ [(405, 0, 1)] [] [])) (zx_w g) (gx_Q g)) 0 0 (gx_Q g) := by
  refine z_met (by decide) (Nat.le_of_ble_eq_true rfl) (fun p e s m below meth c B hr hin => ?_)
  refine z_eqs (σ' := (ap b σ [] [] [])) rfl ?_
  show zx p l e _ s m _ below meth c g 11 0 0 _ _ 0 [(0, .ref (b + 405)), (1, .int w1), (2, .int w2), (3, .int w3), (4, .int w4), (5, .int w5)] []
  refine z_aload_n B dX9_check_0 rfl 0 rfl ?_
  refine z_iload_n B dX9_check_1 rfl 1 rfl ?_
  refine z_iload_n B dX9_check_2 rfl 2 rfl ?_
  refine z_cSi (As := [.int w1, .int w2]) (rest := [.ref (b + 405)]) B cw_X9_238 dX9_check_3 (ci_X9_isStep_26 l (σ := (ap b σ [] [] [])) (b := b) (lyA hK) w1 w2 q1_w1 q2_w1) rfl (by decide) rfl (Nat.le_of_ble_eq_true rfl) (by decide) (fun r u hu => ?_)
  refine z_eqs (σ' := (ap b σ [] [] [])) hu.2 ?_
  show zx p l e _ s m _ below meth c g 11 0 0 _ _ 6 [(0, .ref (b + 405)), (1, .int w1), (2, .int w2), (3, .int w3), (4, .int w4), (5, .int w5)] _
  refine z_seti (y := 0) hu.1 ?_
  refine z_iload_n B dX9_check_6 rfl 3 rfl ?_
  refine z_iload B dX9_check_7 4 rfl ?_
  refine z_iload B dX9_check_9 5 rfl ?_
  refine z_cSi (As := [.int w3, .int w4, .int w5]) (rest := [.int 0, .ref (b + 405)]) B cw_X9_242 dX9_check_11 (ci_X9_isOperation_45 l (σ := (ap b σ [] [] [])) (b := b) (lyA hK) w3 w4 w5 q1_w3 q2_w3 q1_w4 q2_w4) rfl (by decide) rfl (Nat.le_of_ble_eq_true rfl) (by decide) (fun r u hu => ?_)
  refine z_eqs (σ' := (ap b σ [] [] [])) hu.2 ?_
  show zx p l e _ s m _ below meth c g 11 0 0 _ _ 14 [(0, .ref (b + 405)), (1, .int w1), (2, .int w2), (3, .int w3), (4, .int w4), (5, .int w5)] _
  refine z_seti (y := 0) hu.1 ?_
  refine z_cVi (As := [.int 0, .int 0]) (rest := []) B cw_X9_245 cx_10 dX9_check_14 (ci_X9_needs__29 l (σ := (ap b σ [] [] [])) (b := b) (lyA hK) ) (lKA (hk_K hK 405 rfl rfl)) rfl (by decide) rfl (Nat.le_of_ble_eq_true rfl) (by decide) (fun r u hu => ?_)
  refine z_eqs (σ' := (ap b σ [(405, 0, 1)] [] [])) (hu.2.trans ap_ap) ?_
  show zx p l e _ s m _ below meth c g 11 0 0 _ _ 17 [(0, .ref (b + 405)), (1, .int w1), (2, .int w2), (3, .int w3), (4, .int w4), (5, .int w5)] _
  refine z_seti (y := 0) hu.1 ?_
  refine z_if_ne (tgt := 22) B dX9_check_17 (by decide) (fun h => absurd (by decide) h) (fun _ => ?_)
  refine z_iconst (v := 0) B dX9_check_20 (by decide) ?_
  exact z_iret B hr (by decide) (by decide) dX9_check_21 ⟨rfl, rfl⟩
set_option maxRecDepth 100000 in
set_option maxHeartbeats 4000000 in
theorem ci_X9_check_387 (l : Launch) {g : gx_T} {σ : sx_T} {b : Nat} (hK : lay b σ) (w1 : Int32) (w2 : Int32) (w3 : Int32) (w4 : Int32) (w5 : Int32) (q1_w1 : (-2147483648 : Int) ≤ w1.toInt) (q2_w1 : w1.toInt ≤ (-1 : Int)) (q1_w3 : (18 : Int) ≤ w3.toInt) (q2_w3 : w3.toInt ≤ (2147483647 : Int))  : Met l yX9_check (.code yX9_check cX9_check 11 (some .int) :: lw_g) { frames := 2, cells := 0, slots := 0, locals := 44 } (va_Pc [.ref (b + 405), .int w1, .int w2, .int w3, .int w4, .int w5] (zx_w g σ)) (va_Qi (fun r u => r = 0 ∧ u = (ap b σ [(405, 0, 1)] [] [])) (zx_w g) (gx_Q g)) 0 0 (gx_Q g) := by
  refine z_met (by decide) (Nat.le_of_ble_eq_true rfl) (fun p e s m below meth c B hr hin => ?_)
  refine z_eqs (σ' := (ap b σ [] [] [])) rfl ?_
  show zx p l e _ s m _ below meth c g 11 0 0 _ _ 0 [(0, .ref (b + 405)), (1, .int w1), (2, .int w2), (3, .int w3), (4, .int w4), (5, .int w5)] []
  refine z_aload_n B dX9_check_0 rfl 0 rfl ?_
  refine z_iload_n B dX9_check_1 rfl 1 rfl ?_
  refine z_iload_n B dX9_check_2 rfl 2 rfl ?_
  refine z_cSi (As := [.int w1, .int w2]) (rest := [.ref (b + 405)]) B cw_X9_238 dX9_check_3 (ci_X9_isStep_26 l (σ := (ap b σ [] [] [])) (b := b) (lyA hK) w1 w2 q1_w1 q2_w1) rfl (by decide) rfl (Nat.le_of_ble_eq_true rfl) (by decide) (fun r u hu => ?_)
  refine z_eqs (σ' := (ap b σ [] [] [])) hu.2 ?_
  show zx p l e _ s m _ below meth c g 11 0 0 _ _ 6 [(0, .ref (b + 405)), (1, .int w1), (2, .int w2), (3, .int w3), (4, .int w4), (5, .int w5)] _
  refine z_seti (y := 0) hu.1 ?_
  refine z_iload_n B dX9_check_6 rfl 3 rfl ?_
  refine z_iload B dX9_check_7 4 rfl ?_
  refine z_iload B dX9_check_9 5 rfl ?_
  refine z_cSi (As := [.int w3, .int w4, .int w5]) (rest := [.int 0, .ref (b + 405)]) B cw_X9_242 dX9_check_11 (ci_X9_isOperation_48 l (σ := (ap b σ [] [] [])) (b := b) (lyA hK) w3 w4 w5 q1_w3 q2_w3) rfl (by decide) rfl (Nat.le_of_ble_eq_true rfl) (by decide) (fun r u hu => ?_)
  refine z_eqs (σ' := (ap b σ [] [] [])) hu.2 ?_
  show zx p l e _ s m _ below meth c g 11 0 0 _ _ 14 [(0, .ref (b + 405)), (1, .int w1), (2, .int w2), (3, .int w3), (4, .int w4), (5, .int w5)] _
  refine z_seti (y := 0) hu.1 ?_
  refine z_cVi (As := [.int 0, .int 0]) (rest := []) B cw_X9_245 cx_10 dX9_check_14 (ci_X9_needs__29 l (σ := (ap b σ [] [] [])) (b := b) (lyA hK) ) (lKA (hk_K hK 405 rfl rfl)) rfl (by decide) rfl (Nat.le_of_ble_eq_true rfl) (by decide) (fun r u hu => ?_)
  refine z_eqs (σ' := (ap b σ [(405, 0, 1)] [] [])) (hu.2.trans ap_ap) ?_
  show zx p l e _ s m _ below meth c g 11 0 0 _ _ 17 [(0, .ref (b + 405)), (1, .int w1), (2, .int w2), (3, .int w3), (4, .int w4), (5, .int w5)] _
  refine z_seti (y := 0) hu.1 ?_
  refine z_if_ne (tgt := 22) B dX9_check_17 (by decide) (fun h => absurd (by decide) h) (fun _ => ?_)
  refine z_iconst (v := 0) B dX9_check_20 (by decide) ?_
  exact z_iret B hr (by decide) (by decide) dX9_check_21 ⟨rfl, rfl⟩
set_option maxRecDepth 100000 in
set_option maxHeartbeats 4000000 in
theorem ci_X8_check_388 (l : Launch) (hlt : l.stackTraces = false) {g : gx_T} {σ : sx_T} {b : Nat} (hK : lay b σ) (w1 : Int32) (w2 : Int32) (w3 : Int32) (w4 : Int32) (q1_w1 : (-2147483648 : Int) ≤ w1.toInt) (q2_w1 : w1.toInt ≤ (-1 : Int)) (hR_0_0 : sx_R σ (b + 0) 0 = (some (b + 1))) (hR_1_0 : sx_R σ (b + 1) 0 = (some (b + 9))) : vx_Met l yX8_check (.code yX8_check cX8_check 13 (some .int) :: lw_g) { frames := 7, cells := 1, slots := 6, locals := 136 } (va_Pc [.ref (b + 0), .int 0, .int w1, .int w2, .int w3, .int w4] (zx_w g σ)) (va_Qi (S := sx_T) (fun _ _ => False) (zx_w g) (gx_Q g)) (vx_X (fun u : sx_T => ∃ z, u = wx_Z σ z) (fun E u t => E = "java/lang/IndexOutOfBoundsException" ∧ zx_h g u t.heap) (gx_Q g)) 1 6 (gx_Q g) := by
  refine z_metX (by decide) (Nat.le_of_ble_eq_true rfl) (fun p e s m below meth c B hr hin hout => ?_)
  refine z_eqs (σ' := (ap b σ [] [] [])) rfl ?_
  show zx p l e _ s m _ below meth c g 13 0 0 _ _ 0 [(0, .ref (b + 0)), (1, .int 0), (2, .int w1), (3, .int w2), (4, .int w3), (5, .int w4)] []
  refine z_aload_n B dX8_check_0 rfl 0 rfl ?_
  refine z_iload_n B dX8_check_1 rfl 1 rfl ?_
  refine z_cVq (As := [.int 0]) (rest := []) B cw_X8_64 cx_9 dX8_check_2 (ci_X8_programAt_50 l (σ := (ap b σ [] [] [])) (b := b) (lyA hK) (rR_at 0 0 hR_0_0) (rR_at 1 0 hR_1_0)) (lKA (hk_K hK 0 rfl rfl)) rfl (by decide) rfl (Nat.le_of_ble_eq_true rfl) (by decide) (fun r u hu => ?_)
  refine z_eqs (σ' := (ap b σ [] [] [])) hu.2 ?_
  show zx p l e _ s m _ below meth c g 13 0 0 _ _ 5 [(0, .ref (b + 0)), (1, .int 0), (2, .int w1), (3, .int w2), (4, .int w3), (5, .int w4)] _
  refine z_setr (y := (some (b + 9))) hu.1 ?_
  refine z_astore (lv' := [(6, .ref (b + 9)), (0, .ref (b + 0)), (1, .int 0), (2, .int w1), (3, .int w2), (4, .int w3), (5, .int w4)]) B dX8_check_5 (by decide) rfl ?_
  refine z_aload B dX8_check_7 0 rfl ?_
  refine z_ifnull (r := (some (b + 9))) (tgt := 21) B dX8_check_9 (by decide) (fun h => nomatch h) (fun _ _ => ?_)
  refine z_iload_n B dX8_check_12 rfl 3 rfl ?_
  refine z_bipush (v := 20) B dX8_check_13 (by decide) ?_
  refine z_cSi (As := [.int w1, .int 20]) (rest := []) B cw_X8_68 dX8_check_15 (ci_X8_isBelow_51 l (σ := (ap b σ [] [] [])) (b := b) (lyA hK) w1 q1_w1 q2_w1) rfl (by decide) rfl (Nat.le_of_ble_eq_true rfl) (by decide) (fun r u hu => ?_)
  refine z_eqs (σ' := (ap b σ [] [] [])) hu.2 ?_
  show zx p l e _ s m _ below meth c g 13 0 0 _ _ 18 [(6, .ref (b + 9)), (0, .ref (b + 0)), (1, .int 0), (2, .int w1), (3, .int w2), (4, .int w3), (5, .int w4)] _
  refine z_seti (y := 0) hu.1 ?_
  refine z_if_ne (tgt := 31) B dX8_check_18 (by decide) (fun h => absurd (by decide) h) (fun _ => ?_)
  exact z_throw B hlt hout (cls := "java/lang/IndexOutOfBoundsException") (text := "no such step") tw_X8_72_74_76 dX8_check_21 dX8_check_24 dX8_check_25 dX8_check_27 dX8_check_30 (by decide) (by decide) (by decide) (by decide) (by decide) (by decide) (fun z => ⟨z, rfl⟩)
set_option maxRecDepth 100000 in
set_option maxHeartbeats 4000000 in
theorem ci_L_check_389 (l : Launch) (hlt : l.stackTraces = false) {g : gx_T} {σ : sx_T} {b : Nat} (hK : lay b σ) (w1 : Int32) (w2 : Int32) (w3 : Int32) (w4 : Int32) (q1_w1 : (-2147483648 : Int) ≤ w1.toInt) (q2_w1 : w1.toInt ≤ (-1 : Int)) (hR_0_0 : sx_R σ (b + 0) 0 = (some (b + 1))) (hR_1_0 : sx_R σ (b + 1) 0 = (some (b + 9))) : Met l yL_check (.codeWith yL_check cL_check 8 (some .int) [(0, 16, 19, 13), (0, 16, 23, 15)] :: lw_g) { frames := 8, cells := 1, slots := 6, locals := 168 } (va_Pc [.ref (b + 0), .int 0, .int w1, .int w2, .int w3, .int w4, .ref (b + 431)] (zx_w g σ)) (va_Qi (fun r u => r = 1 ∧ ∃ z, u = (ap b (wx_Z σ z) [] [] [])) (zx_w g) (gx_Q g)) 1 6 (gx_Q g) := by
  refine z_metW (by decide) (Nat.le_of_ble_eq_true rfl) (fun p e s m below meth c B hr htab => ?_)
  refine z_eqs (σ' := (ap b σ [] [] [])) rfl ?_
  show zx p l e _ s m _ below meth c g 8 0 0 _ _ 0 [(0, .ref (b + 0)), (1, .int 0), (2, .int w1), (3, .int w2), (4, .int w3), (5, .int w4), (6, .ref (b + 431))] []
  refine z_aload B dL_check_0 6 rfl ?_
  refine z_iconst (v := 0) B dL_check_2 (by decide) ?_
  refine z_aload_n B dL_check_3 rfl 0 rfl ?_
  refine z_iload_n B dL_check_4 rfl 1 rfl ?_
  refine z_iload_n B dL_check_5 rfl 2 rfl ?_
  refine z_iload_n B dL_check_6 rfl 3 rfl ?_
  refine z_iload B dL_check_7 4 rfl ?_
  refine z_iload B dL_check_9 5 rfl ?_
  refine z_cXi (As := [.int 0, .int w1, .int w2, .int w3, .int w4]) (rest := [.int 0, .ref (b + 431)]) B htab tc_check_11_IndexOutOfBoundsException cw_L_17 cx_9 dL_check_11 (ci_X8_check_388 l hlt (σ := (ap b σ [] [] [])) (b := b) (lyA hK) w1 w2 w3 w4 q1_w1 q2_w1 (rR_at 0 0 hR_0_0) (rR_at 1 0 hR_1_0)) (lKA (hk_K hK 0 rfl rfl)) rfl (by decide) rfl (Nat.le_of_ble_eq_true rfl) (by decide) (fun z q => ?_)
  refine z_eqs (σ' := (ap b (wx_Z σ z) [] [] [])) rfl ?_
  show zx p l e _ s m _ below meth c g 8 _ _ _ _ 19 [(0, .ref (b + 0)), (1, .int 0), (2, .int w1), (3, .int w2), (4, .int w3), (5, .int w4), (6, .ref (b + 431))] _
  refine z_astore (lv' := [(7, .ref q), (0, .ref (b + 0)), (1, .int 0), (2, .int w1), (3, .int w2), (4, .int w3), (5, .int w4), (6, .ref (b + 431))]) B dL_check_19 (by decide) rfl ?_
  refine z_iconst (v := 1) B dL_check_21 (by decide) ?_
  exact z_iret B hr (by decide) (by decide) dL_check_22 ⟨rfl, _, rfl⟩
set_option maxRecDepth 100000 in
set_option maxHeartbeats 4000000 in
theorem ci_X9_check_390 (l : Launch) {g : gx_T} {σ : sx_T} {b : Nat} (hK : lay b σ) (w1 : Int32) (w2 : Int32) (w3 : Int32) (w4 : Int32) (q1_w1 : (-2147483648 : Int) ≤ w1.toInt) (q2_w1 : w1.toInt ≤ (-1 : Int)) (q1_w2 : (-2147483648 : Int) ≤ w2.toInt) (q2_w2 : w2.toInt ≤ (-1 : Int))  : Met l yX9_check (.code yX9_check cX9_check 11 (some .int) :: lw_g) { frames := 2, cells := 0, slots := 0, locals := 44 } (va_Pc [.ref (b + 405), .int 0, .int w1, .int w2, .int w3, .int w4] (zx_w g σ)) (va_Qi (fun r u => r = 0 ∧ u = (ap b σ [(405, 0, 1)] [] [])) (zx_w g) (gx_Q g)) 0 0 (gx_Q g) := by
  refine z_met (by decide) (Nat.le_of_ble_eq_true rfl) (fun p e s m below meth c B hr hin => ?_)
  refine z_eqs (σ' := (ap b σ [] [] [])) rfl ?_
  show zx p l e _ s m _ below meth c g 11 0 0 _ _ 0 [(0, .ref (b + 405)), (1, .int 0), (2, .int w1), (3, .int w2), (4, .int w3), (5, .int w4)] []
  refine z_aload_n B dX9_check_0 rfl 0 rfl ?_
  refine z_iload_n B dX9_check_1 rfl 1 rfl ?_
  refine z_iload_n B dX9_check_2 rfl 2 rfl ?_
  refine z_cSi (As := [.int 0, .int w1]) (rest := [.ref (b + 405)]) B cw_X9_238 dX9_check_3 (ci_X9_isStep_56 l (σ := (ap b σ [] [] [])) (b := b) (lyA hK) w1 q1_w1 q2_w1) rfl (by decide) rfl (Nat.le_of_ble_eq_true rfl) (by decide) (fun r u hu => ?_)
  refine z_eqs (σ' := (ap b σ [] [] [])) hu.2 ?_
  show zx p l e _ s m _ below meth c g 11 0 0 _ _ 6 [(0, .ref (b + 405)), (1, .int 0), (2, .int w1), (3, .int w2), (4, .int w3), (5, .int w4)] _
  refine z_seti (y := 0) hu.1 ?_
  refine z_iload_n B dX9_check_6 rfl 3 rfl ?_
  refine z_iload B dX9_check_7 4 rfl ?_
  refine z_iload B dX9_check_9 5 rfl ?_
  refine z_cSi (As := [.int w2, .int w3, .int w4]) (rest := [.int 0, .ref (b + 405)]) B cw_X9_242 dX9_check_11 (ci_X9_isOperation_28 l (σ := (ap b σ [] [] [])) (b := b) (lyA hK) w2 w3 w4 q1_w2 q2_w2) rfl (by decide) rfl (Nat.le_of_ble_eq_true rfl) (by decide) (fun r u hu => ?_)
  refine z_eqs (σ' := (ap b σ [] [] [])) hu.2 ?_
  show zx p l e _ s m _ below meth c g 11 0 0 _ _ 14 [(0, .ref (b + 405)), (1, .int 0), (2, .int w1), (3, .int w2), (4, .int w3), (5, .int w4)] _
  refine z_seti (y := 0) hu.1 ?_
  refine z_cVi (As := [.int 0, .int 0]) (rest := []) B cw_X9_245 cx_10 dX9_check_14 (ci_X9_needs__29 l (σ := (ap b σ [] [] [])) (b := b) (lyA hK) ) (lKA (hk_K hK 405 rfl rfl)) rfl (by decide) rfl (Nat.le_of_ble_eq_true rfl) (by decide) (fun r u hu => ?_)
  refine z_eqs (σ' := (ap b σ [(405, 0, 1)] [] [])) (hu.2.trans ap_ap) ?_
  show zx p l e _ s m _ below meth c g 11 0 0 _ _ 17 [(0, .ref (b + 405)), (1, .int 0), (2, .int w1), (3, .int w2), (4, .int w3), (5, .int w4)] _
  refine z_seti (y := 0) hu.1 ?_
  refine z_if_ne (tgt := 22) B dX9_check_17 (by decide) (fun h => absurd (by decide) h) (fun _ => ?_)
  refine z_iconst (v := 0) B dX9_check_20 (by decide) ?_
  exact z_iret B hr (by decide) (by decide) dX9_check_21 ⟨rfl, rfl⟩
set_option maxRecDepth 100000 in
set_option maxHeartbeats 4000000 in
theorem ci_X9_check_391 (l : Launch) {g : gx_T} {σ : sx_T} {b : Nat} (hK : lay b σ) (w1 : Int32) (w2 : Int32) (w3 : Int32) (w4 : Int32) (q1_w1 : (-2147483648 : Int) ≤ w1.toInt) (q2_w1 : w1.toInt ≤ (-1 : Int)) (q1_w2 : (0 : Int) ≤ w2.toInt) (q2_w2 : w2.toInt ≤ (17 : Int)) (q1_w3 : (-2147483648 : Int) ≤ w3.toInt) (q2_w3 : w3.toInt ≤ (-1 : Int))  : Met l yX9_check (.code yX9_check cX9_check 11 (some .int) :: lw_g) { frames := 2, cells := 0, slots := 0, locals := 44 } (va_Pc [.ref (b + 405), .int 0, .int w1, .int w2, .int w3, .int w4] (zx_w g σ)) (va_Qi (fun r u => r = 0 ∧ u = (ap b σ [(405, 0, 1)] [] [])) (zx_w g) (gx_Q g)) 0 0 (gx_Q g) := by
  refine z_met (by decide) (Nat.le_of_ble_eq_true rfl) (fun p e s m below meth c B hr hin => ?_)
  refine z_eqs (σ' := (ap b σ [] [] [])) rfl ?_
  show zx p l e _ s m _ below meth c g 11 0 0 _ _ 0 [(0, .ref (b + 405)), (1, .int 0), (2, .int w1), (3, .int w2), (4, .int w3), (5, .int w4)] []
  refine z_aload_n B dX9_check_0 rfl 0 rfl ?_
  refine z_iload_n B dX9_check_1 rfl 1 rfl ?_
  refine z_iload_n B dX9_check_2 rfl 2 rfl ?_
  refine z_cSi (As := [.int 0, .int w1]) (rest := [.ref (b + 405)]) B cw_X9_238 dX9_check_3 (ci_X9_isStep_56 l (σ := (ap b σ [] [] [])) (b := b) (lyA hK) w1 q1_w1 q2_w1) rfl (by decide) rfl (Nat.le_of_ble_eq_true rfl) (by decide) (fun r u hu => ?_)
  refine z_eqs (σ' := (ap b σ [] [] [])) hu.2 ?_
  show zx p l e _ s m _ below meth c g 11 0 0 _ _ 6 [(0, .ref (b + 405)), (1, .int 0), (2, .int w1), (3, .int w2), (4, .int w3), (5, .int w4)] _
  refine z_seti (y := 0) hu.1 ?_
  refine z_iload_n B dX9_check_6 rfl 3 rfl ?_
  refine z_iload B dX9_check_7 4 rfl ?_
  refine z_iload B dX9_check_9 5 rfl ?_
  refine z_cSi (As := [.int w2, .int w3, .int w4]) (rest := [.int 0, .ref (b + 405)]) B cw_X9_242 dX9_check_11 (ci_X9_isOperation_34 l (σ := (ap b σ [] [] [])) (b := b) (lyA hK) w2 w3 w4 q1_w2 q2_w2 q1_w3 q2_w3) rfl (by decide) rfl (Nat.le_of_ble_eq_true rfl) (by decide) (fun r u hu => ?_)
  refine z_eqs (σ' := (ap b σ [] [] [])) hu.2 ?_
  show zx p l e _ s m _ below meth c g 11 0 0 _ _ 14 [(0, .ref (b + 405)), (1, .int 0), (2, .int w1), (3, .int w2), (4, .int w3), (5, .int w4)] _
  refine z_seti (y := 0) hu.1 ?_
  refine z_cVi (As := [.int 0, .int 0]) (rest := []) B cw_X9_245 cx_10 dX9_check_14 (ci_X9_needs__29 l (σ := (ap b σ [] [] [])) (b := b) (lyA hK) ) (lKA (hk_K hK 405 rfl rfl)) rfl (by decide) rfl (Nat.le_of_ble_eq_true rfl) (by decide) (fun r u hu => ?_)
  refine z_eqs (σ' := (ap b σ [(405, 0, 1)] [] [])) (hu.2.trans ap_ap) ?_
  show zx p l e _ s m _ below meth c g 11 0 0 _ _ 17 [(0, .ref (b + 405)), (1, .int 0), (2, .int w1), (3, .int w2), (4, .int w3), (5, .int w4)] _
  refine z_seti (y := 0) hu.1 ?_
  refine z_if_ne (tgt := 22) B dX9_check_17 (by decide) (fun h => absurd (by decide) h) (fun _ => ?_)
  refine z_iconst (v := 0) B dX9_check_20 (by decide) ?_
  exact z_iret B hr (by decide) (by decide) dX9_check_21 ⟨rfl, rfl⟩
set_option maxRecDepth 100000 in
set_option maxHeartbeats 4000000 in
theorem ci_X9_check_392 (l : Launch) {g : gx_T} {σ : sx_T} {b : Nat} (hK : lay b σ) (w1 : Int32) (w2 : Int32) (w3 : Int32) (w4 : Int32) (q1_w1 : (-2147483648 : Int) ≤ w1.toInt) (q2_w1 : w1.toInt ≤ (-1 : Int)) (q1_w2 : (0 : Int) ≤ w2.toInt) (q2_w2 : w2.toInt ≤ (17 : Int)) (q1_w3 : (0 : Int) ≤ w3.toInt) (q2_w3 : w3.toInt ≤ (99 : Int)) (q1_w4 : (-2147483648 : Int) ≤ w4.toInt) (q2_w4 : w4.toInt ≤ (-1 : Int))  : Met l yX9_check (.code yX9_check cX9_check 11 (some .int) :: lw_g) { frames := 2, cells := 0, slots := 0, locals := 44 } (va_Pc [.ref (b + 405), .int 0, .int w1, .int w2, .int w3, .int w4] (zx_w g σ)) (va_Qi (fun r u => r = 0 ∧ u = (ap b σ [(405, 0, 1)] [] [])) (zx_w g) (gx_Q g)) 0 0 (gx_Q g) := by
  refine z_met (by decide) (Nat.le_of_ble_eq_true rfl) (fun p e s m below meth c B hr hin => ?_)
  refine z_eqs (σ' := (ap b σ [] [] [])) rfl ?_
  show zx p l e _ s m _ below meth c g 11 0 0 _ _ 0 [(0, .ref (b + 405)), (1, .int 0), (2, .int w1), (3, .int w2), (4, .int w3), (5, .int w4)] []
  refine z_aload_n B dX9_check_0 rfl 0 rfl ?_
  refine z_iload_n B dX9_check_1 rfl 1 rfl ?_
  refine z_iload_n B dX9_check_2 rfl 2 rfl ?_
  refine z_cSi (As := [.int 0, .int w1]) (rest := [.ref (b + 405)]) B cw_X9_238 dX9_check_3 (ci_X9_isStep_56 l (σ := (ap b σ [] [] [])) (b := b) (lyA hK) w1 q1_w1 q2_w1) rfl (by decide) rfl (Nat.le_of_ble_eq_true rfl) (by decide) (fun r u hu => ?_)
  refine z_eqs (σ' := (ap b σ [] [] [])) hu.2 ?_
  show zx p l e _ s m _ below meth c g 11 0 0 _ _ 6 [(0, .ref (b + 405)), (1, .int 0), (2, .int w1), (3, .int w2), (4, .int w3), (5, .int w4)] _
  refine z_seti (y := 0) hu.1 ?_
  refine z_iload_n B dX9_check_6 rfl 3 rfl ?_
  refine z_iload B dX9_check_7 4 rfl ?_
  refine z_iload B dX9_check_9 5 rfl ?_
  refine z_cSi (As := [.int w2, .int w3, .int w4]) (rest := [.int 0, .ref (b + 405)]) B cw_X9_242 dX9_check_11 (ci_X9_isOperation_37 l (σ := (ap b σ [] [] [])) (b := b) (lyA hK) w2 w3 w4 q1_w2 q2_w2 q1_w3 q2_w3 q1_w4 q2_w4) rfl (by decide) rfl (Nat.le_of_ble_eq_true rfl) (by decide) (fun r u hu => ?_)
  refine z_eqs (σ' := (ap b σ [] [] [])) hu.2 ?_
  show zx p l e _ s m _ below meth c g 11 0 0 _ _ 14 [(0, .ref (b + 405)), (1, .int 0), (2, .int w1), (3, .int w2), (4, .int w3), (5, .int w4)] _
  refine z_seti (y := 0) hu.1 ?_
  refine z_cVi (As := [.int 0, .int 0]) (rest := []) B cw_X9_245 cx_10 dX9_check_14 (ci_X9_needs__29 l (σ := (ap b σ [] [] [])) (b := b) (lyA hK) ) (lKA (hk_K hK 405 rfl rfl)) rfl (by decide) rfl (Nat.le_of_ble_eq_true rfl) (by decide) (fun r u hu => ?_)
  refine z_eqs (σ' := (ap b σ [(405, 0, 1)] [] [])) (hu.2.trans ap_ap) ?_
  show zx p l e _ s m _ below meth c g 11 0 0 _ _ 17 [(0, .ref (b + 405)), (1, .int 0), (2, .int w1), (3, .int w2), (4, .int w3), (5, .int w4)] _
  refine z_seti (y := 0) hu.1 ?_
  refine z_if_ne (tgt := 22) B dX9_check_17 (by decide) (fun h => absurd (by decide) h) (fun _ => ?_)
  refine z_iconst (v := 0) B dX9_check_20 (by decide) ?_
  exact z_iret B hr (by decide) (by decide) dX9_check_21 ⟨rfl, rfl⟩
set_option maxRecDepth 100000 in
set_option maxHeartbeats 4000000 in
theorem ci_X9_check_393 (l : Launch) {g : gx_T} {σ : sx_T} {b : Nat} (hK : lay b σ) (w1 : Int32) (w2 : Int32) (w3 : Int32) (w4 : Int32) (q1_w1 : (-2147483648 : Int) ≤ w1.toInt) (q2_w1 : w1.toInt ≤ (-1 : Int)) (q1_w2 : (0 : Int) ≤ w2.toInt) (q2_w2 : w2.toInt ≤ (17 : Int)) (q1_w3 : (0 : Int) ≤ w3.toInt) (q2_w3 : w3.toInt ≤ (99 : Int)) (q1_w4 : (0 : Int) ≤ w4.toInt) (q2_w4 : w4.toInt ≤ (99 : Int))  : Met l yX9_check (.code yX9_check cX9_check 11 (some .int) :: lw_g) { frames := 2, cells := 0, slots := 0, locals := 44 } (va_Pc [.ref (b + 405), .int 0, .int w1, .int w2, .int w3, .int w4] (zx_w g σ)) (va_Qi (fun r u => r = 0 ∧ u = (ap b σ [(405, 0, 1)] [] [])) (zx_w g) (gx_Q g)) 0 0 (gx_Q g) := by
  refine z_met (by decide) (Nat.le_of_ble_eq_true rfl) (fun p e s m below meth c B hr hin => ?_)
  refine z_eqs (σ' := (ap b σ [] [] [])) rfl ?_
  show zx p l e _ s m _ below meth c g 11 0 0 _ _ 0 [(0, .ref (b + 405)), (1, .int 0), (2, .int w1), (3, .int w2), (4, .int w3), (5, .int w4)] []
  refine z_aload_n B dX9_check_0 rfl 0 rfl ?_
  refine z_iload_n B dX9_check_1 rfl 1 rfl ?_
  refine z_iload_n B dX9_check_2 rfl 2 rfl ?_
  refine z_cSi (As := [.int 0, .int w1]) (rest := [.ref (b + 405)]) B cw_X9_238 dX9_check_3 (ci_X9_isStep_56 l (σ := (ap b σ [] [] [])) (b := b) (lyA hK) w1 q1_w1 q2_w1) rfl (by decide) rfl (Nat.le_of_ble_eq_true rfl) (by decide) (fun r u hu => ?_)
  refine z_eqs (σ' := (ap b σ [] [] [])) hu.2 ?_
  show zx p l e _ s m _ below meth c g 11 0 0 _ _ 6 [(0, .ref (b + 405)), (1, .int 0), (2, .int w1), (3, .int w2), (4, .int w3), (5, .int w4)] _
  refine z_seti (y := 0) hu.1 ?_
  refine z_iload_n B dX9_check_6 rfl 3 rfl ?_
  refine z_iload B dX9_check_7 4 rfl ?_
  refine z_iload B dX9_check_9 5 rfl ?_
  refine z_cSi (As := [.int w2, .int w3, .int w4]) (rest := [.int 0, .ref (b + 405)]) B cw_X9_242 dX9_check_11 (ci_X9_isOperation_39 l (σ := (ap b σ [] [] [])) (b := b) (lyA hK) w2 w3 w4 q1_w2 q2_w2 q1_w3 q2_w3 q1_w4 q2_w4) rfl (by decide) rfl (Nat.le_of_ble_eq_true rfl) (by decide) (fun r u hu => ?_)
  refine z_eqs (σ' := (ap b σ [] [] [])) hu.2 ?_
  show zx p l e _ s m _ below meth c g 11 0 0 _ _ 14 [(0, .ref (b + 405)), (1, .int 0), (2, .int w1), (3, .int w2), (4, .int w3), (5, .int w4)] _
  refine z_seti (y := 1) hu.1 ?_
  refine z_cVi (As := [.int 0, .int 1]) (rest := []) B cw_X9_245 cx_10 dX9_check_14 (ci_X9_needs__40 l (σ := (ap b σ [] [] [])) (b := b) (lyA hK) ) (lKA (hk_K hK 405 rfl rfl)) rfl (by decide) rfl (Nat.le_of_ble_eq_true rfl) (by decide) (fun r u hu => ?_)
  refine z_eqs (σ' := (ap b σ [(405, 0, 1)] [] [])) (hu.2.trans ap_ap) ?_
  show zx p l e _ s m _ below meth c g 11 0 0 _ _ 17 [(0, .ref (b + 405)), (1, .int 0), (2, .int w1), (3, .int w2), (4, .int w3), (5, .int w4)] _
  refine z_seti (y := 0) hu.1 ?_
  refine z_if_ne (tgt := 22) B dX9_check_17 (by decide) (fun h => absurd (by decide) h) (fun _ => ?_)
  refine z_iconst (v := 0) B dX9_check_20 (by decide) ?_
  exact z_iret B hr (by decide) (by decide) dX9_check_21 ⟨rfl, rfl⟩
set_option maxRecDepth 100000 in
set_option maxHeartbeats 4000000 in
theorem ci_X9_check_394 (l : Launch) {g : gx_T} {σ : sx_T} {b : Nat} (hK : lay b σ) (w1 : Int32) (w2 : Int32) (w3 : Int32) (w4 : Int32) (q1_w1 : (-2147483648 : Int) ≤ w1.toInt) (q2_w1 : w1.toInt ≤ (-1 : Int)) (q1_w2 : (0 : Int) ≤ w2.toInt) (q2_w2 : w2.toInt ≤ (17 : Int)) (q1_w3 : (0 : Int) ≤ w3.toInt) (q2_w3 : w3.toInt ≤ (99 : Int)) (q1_w4 : (100 : Int) ≤ w4.toInt) (q2_w4 : w4.toInt ≤ (2147483647 : Int))  : Met l yX9_check (.code yX9_check cX9_check 11 (some .int) :: lw_g) { frames := 2, cells := 0, slots := 0, locals := 44 } (va_Pc [.ref (b + 405), .int 0, .int w1, .int w2, .int w3, .int w4] (zx_w g σ)) (va_Qi (fun r u => r = 0 ∧ u = (ap b σ [(405, 0, 1)] [] [])) (zx_w g) (gx_Q g)) 0 0 (gx_Q g) := by
  refine z_met (by decide) (Nat.le_of_ble_eq_true rfl) (fun p e s m below meth c B hr hin => ?_)
  refine z_eqs (σ' := (ap b σ [] [] [])) rfl ?_
  show zx p l e _ s m _ below meth c g 11 0 0 _ _ 0 [(0, .ref (b + 405)), (1, .int 0), (2, .int w1), (3, .int w2), (4, .int w3), (5, .int w4)] []
  refine z_aload_n B dX9_check_0 rfl 0 rfl ?_
  refine z_iload_n B dX9_check_1 rfl 1 rfl ?_
  refine z_iload_n B dX9_check_2 rfl 2 rfl ?_
  refine z_cSi (As := [.int 0, .int w1]) (rest := [.ref (b + 405)]) B cw_X9_238 dX9_check_3 (ci_X9_isStep_56 l (σ := (ap b σ [] [] [])) (b := b) (lyA hK) w1 q1_w1 q2_w1) rfl (by decide) rfl (Nat.le_of_ble_eq_true rfl) (by decide) (fun r u hu => ?_)
  refine z_eqs (σ' := (ap b σ [] [] [])) hu.2 ?_
  show zx p l e _ s m _ below meth c g 11 0 0 _ _ 6 [(0, .ref (b + 405)), (1, .int 0), (2, .int w1), (3, .int w2), (4, .int w3), (5, .int w4)] _
  refine z_seti (y := 0) hu.1 ?_
  refine z_iload_n B dX9_check_6 rfl 3 rfl ?_
  refine z_iload B dX9_check_7 4 rfl ?_
  refine z_iload B dX9_check_9 5 rfl ?_
  refine z_cSi (As := [.int w2, .int w3, .int w4]) (rest := [.int 0, .ref (b + 405)]) B cw_X9_242 dX9_check_11 (ci_X9_isOperation_43 l (σ := (ap b σ [] [] [])) (b := b) (lyA hK) w2 w3 w4 q1_w2 q2_w2 q1_w3 q2_w3 q1_w4 q2_w4) rfl (by decide) rfl (Nat.le_of_ble_eq_true rfl) (by decide) (fun r u hu => ?_)
  refine z_eqs (σ' := (ap b σ [] [] [])) hu.2 ?_
  show zx p l e _ s m _ below meth c g 11 0 0 _ _ 14 [(0, .ref (b + 405)), (1, .int 0), (2, .int w1), (3, .int w2), (4, .int w3), (5, .int w4)] _
  refine z_seti (y := 0) hu.1 ?_
  refine z_cVi (As := [.int 0, .int 0]) (rest := []) B cw_X9_245 cx_10 dX9_check_14 (ci_X9_needs__29 l (σ := (ap b σ [] [] [])) (b := b) (lyA hK) ) (lKA (hk_K hK 405 rfl rfl)) rfl (by decide) rfl (Nat.le_of_ble_eq_true rfl) (by decide) (fun r u hu => ?_)
  refine z_eqs (σ' := (ap b σ [(405, 0, 1)] [] [])) (hu.2.trans ap_ap) ?_
  show zx p l e _ s m _ below meth c g 11 0 0 _ _ 17 [(0, .ref (b + 405)), (1, .int 0), (2, .int w1), (3, .int w2), (4, .int w3), (5, .int w4)] _
  refine z_seti (y := 0) hu.1 ?_
  refine z_if_ne (tgt := 22) B dX9_check_17 (by decide) (fun h => absurd (by decide) h) (fun _ => ?_)
  refine z_iconst (v := 0) B dX9_check_20 (by decide) ?_
  exact z_iret B hr (by decide) (by decide) dX9_check_21 ⟨rfl, rfl⟩
set_option maxRecDepth 100000 in
set_option maxHeartbeats 4000000 in
theorem ci_X9_check_395 (l : Launch) {g : gx_T} {σ : sx_T} {b : Nat} (hK : lay b σ) (w1 : Int32) (w2 : Int32) (w3 : Int32) (w4 : Int32) (q1_w1 : (-2147483648 : Int) ≤ w1.toInt) (q2_w1 : w1.toInt ≤ (-1 : Int)) (q1_w2 : (0 : Int) ≤ w2.toInt) (q2_w2 : w2.toInt ≤ (17 : Int)) (q1_w3 : (100 : Int) ≤ w3.toInt) (q2_w3 : w3.toInt ≤ (2147483647 : Int))  : Met l yX9_check (.code yX9_check cX9_check 11 (some .int) :: lw_g) { frames := 2, cells := 0, slots := 0, locals := 44 } (va_Pc [.ref (b + 405), .int 0, .int w1, .int w2, .int w3, .int w4] (zx_w g σ)) (va_Qi (fun r u => r = 0 ∧ u = (ap b σ [(405, 0, 1)] [] [])) (zx_w g) (gx_Q g)) 0 0 (gx_Q g) := by
  refine z_met (by decide) (Nat.le_of_ble_eq_true rfl) (fun p e s m below meth c B hr hin => ?_)
  refine z_eqs (σ' := (ap b σ [] [] [])) rfl ?_
  show zx p l e _ s m _ below meth c g 11 0 0 _ _ 0 [(0, .ref (b + 405)), (1, .int 0), (2, .int w1), (3, .int w2), (4, .int w3), (5, .int w4)] []
  refine z_aload_n B dX9_check_0 rfl 0 rfl ?_
  refine z_iload_n B dX9_check_1 rfl 1 rfl ?_
  refine z_iload_n B dX9_check_2 rfl 2 rfl ?_
  refine z_cSi (As := [.int 0, .int w1]) (rest := [.ref (b + 405)]) B cw_X9_238 dX9_check_3 (ci_X9_isStep_56 l (σ := (ap b σ [] [] [])) (b := b) (lyA hK) w1 q1_w1 q2_w1) rfl (by decide) rfl (Nat.le_of_ble_eq_true rfl) (by decide) (fun r u hu => ?_)
  refine z_eqs (σ' := (ap b σ [] [] [])) hu.2 ?_
  show zx p l e _ s m _ below meth c g 11 0 0 _ _ 6 [(0, .ref (b + 405)), (1, .int 0), (2, .int w1), (3, .int w2), (4, .int w3), (5, .int w4)] _
  refine z_seti (y := 0) hu.1 ?_
  refine z_iload_n B dX9_check_6 rfl 3 rfl ?_
  refine z_iload B dX9_check_7 4 rfl ?_
  refine z_iload B dX9_check_9 5 rfl ?_
  refine z_cSi (As := [.int w2, .int w3, .int w4]) (rest := [.int 0, .ref (b + 405)]) B cw_X9_242 dX9_check_11 (ci_X9_isOperation_45 l (σ := (ap b σ [] [] [])) (b := b) (lyA hK) w2 w3 w4 q1_w2 q2_w2 q1_w3 q2_w3) rfl (by decide) rfl (Nat.le_of_ble_eq_true rfl) (by decide) (fun r u hu => ?_)
  refine z_eqs (σ' := (ap b σ [] [] [])) hu.2 ?_
  show zx p l e _ s m _ below meth c g 11 0 0 _ _ 14 [(0, .ref (b + 405)), (1, .int 0), (2, .int w1), (3, .int w2), (4, .int w3), (5, .int w4)] _
  refine z_seti (y := 0) hu.1 ?_
  refine z_cVi (As := [.int 0, .int 0]) (rest := []) B cw_X9_245 cx_10 dX9_check_14 (ci_X9_needs__29 l (σ := (ap b σ [] [] [])) (b := b) (lyA hK) ) (lKA (hk_K hK 405 rfl rfl)) rfl (by decide) rfl (Nat.le_of_ble_eq_true rfl) (by decide) (fun r u hu => ?_)
  refine z_eqs (σ' := (ap b σ [(405, 0, 1)] [] [])) (hu.2.trans ap_ap) ?_
  show zx p l e _ s m _ below meth c g 11 0 0 _ _ 17 [(0, .ref (b + 405)), (1, .int 0), (2, .int w1), (3, .int w2), (4, .int w3), (5, .int w4)] _
  refine z_seti (y := 0) hu.1 ?_
  refine z_if_ne (tgt := 22) B dX9_check_17 (by decide) (fun h => absurd (by decide) h) (fun _ => ?_)
  refine z_iconst (v := 0) B dX9_check_20 (by decide) ?_
  exact z_iret B hr (by decide) (by decide) dX9_check_21 ⟨rfl, rfl⟩
set_option maxRecDepth 100000 in
set_option maxHeartbeats 4000000 in
theorem ci_X9_check_396 (l : Launch) {g : gx_T} {σ : sx_T} {b : Nat} (hK : lay b σ) (w1 : Int32) (w2 : Int32) (w3 : Int32) (w4 : Int32) (q1_w1 : (-2147483648 : Int) ≤ w1.toInt) (q2_w1 : w1.toInt ≤ (-1 : Int)) (q1_w2 : (18 : Int) ≤ w2.toInt) (q2_w2 : w2.toInt ≤ (2147483647 : Int))  : Met l yX9_check (.code yX9_check cX9_check 11 (some .int) :: lw_g) { frames := 2, cells := 0, slots := 0, locals := 44 } (va_Pc [.ref (b + 405), .int 0, .int w1, .int w2, .int w3, .int w4] (zx_w g σ)) (va_Qi (fun r u => r = 0 ∧ u = (ap b σ [(405, 0, 1)] [] [])) (zx_w g) (gx_Q g)) 0 0 (gx_Q g) := by
  refine z_met (by decide) (Nat.le_of_ble_eq_true rfl) (fun p e s m below meth c B hr hin => ?_)
  refine z_eqs (σ' := (ap b σ [] [] [])) rfl ?_
  show zx p l e _ s m _ below meth c g 11 0 0 _ _ 0 [(0, .ref (b + 405)), (1, .int 0), (2, .int w1), (3, .int w2), (4, .int w3), (5, .int w4)] []
  refine z_aload_n B dX9_check_0 rfl 0 rfl ?_
  refine z_iload_n B dX9_check_1 rfl 1 rfl ?_
  refine z_iload_n B dX9_check_2 rfl 2 rfl ?_
  refine z_cSi (As := [.int 0, .int w1]) (rest := [.ref (b + 405)]) B cw_X9_238 dX9_check_3 (ci_X9_isStep_56 l (σ := (ap b σ [] [] [])) (b := b) (lyA hK) w1 q1_w1 q2_w1) rfl (by decide) rfl (Nat.le_of_ble_eq_true rfl) (by decide) (fun r u hu => ?_)
  refine z_eqs (σ' := (ap b σ [] [] [])) hu.2 ?_
  show zx p l e _ s m _ below meth c g 11 0 0 _ _ 6 [(0, .ref (b + 405)), (1, .int 0), (2, .int w1), (3, .int w2), (4, .int w3), (5, .int w4)] _
  refine z_seti (y := 0) hu.1 ?_
  refine z_iload_n B dX9_check_6 rfl 3 rfl ?_
  refine z_iload B dX9_check_7 4 rfl ?_
  refine z_iload B dX9_check_9 5 rfl ?_
  refine z_cSi (As := [.int w2, .int w3, .int w4]) (rest := [.int 0, .ref (b + 405)]) B cw_X9_242 dX9_check_11 (ci_X9_isOperation_48 l (σ := (ap b σ [] [] [])) (b := b) (lyA hK) w2 w3 w4 q1_w2 q2_w2) rfl (by decide) rfl (Nat.le_of_ble_eq_true rfl) (by decide) (fun r u hu => ?_)
  refine z_eqs (σ' := (ap b σ [] [] [])) hu.2 ?_
  show zx p l e _ s m _ below meth c g 11 0 0 _ _ 14 [(0, .ref (b + 405)), (1, .int 0), (2, .int w1), (3, .int w2), (4, .int w3), (5, .int w4)] _
  refine z_seti (y := 0) hu.1 ?_
  refine z_cVi (As := [.int 0, .int 0]) (rest := []) B cw_X9_245 cx_10 dX9_check_14 (ci_X9_needs__29 l (σ := (ap b σ [] [] [])) (b := b) (lyA hK) ) (lKA (hk_K hK 405 rfl rfl)) rfl (by decide) rfl (Nat.le_of_ble_eq_true rfl) (by decide) (fun r u hu => ?_)
  refine z_eqs (σ' := (ap b σ [(405, 0, 1)] [] [])) (hu.2.trans ap_ap) ?_
  show zx p l e _ s m _ below meth c g 11 0 0 _ _ 17 [(0, .ref (b + 405)), (1, .int 0), (2, .int w1), (3, .int w2), (4, .int w3), (5, .int w4)] _
  refine z_seti (y := 0) hu.1 ?_
  refine z_if_ne (tgt := 22) B dX9_check_17 (by decide) (fun h => absurd (by decide) h) (fun _ => ?_)
  refine z_iconst (v := 0) B dX9_check_20 (by decide) ?_
  exact z_iret B hr (by decide) (by decide) dX9_check_21 ⟨rfl, rfl⟩
set_option maxRecDepth 100000 in
set_option maxHeartbeats 4000000 in
theorem ci_X8_check_397 (l : Launch) (hlt : l.stackTraces = false) {g : gx_T} {σ : sx_T} {b : Nat} (hK : lay b σ) (w1 : Int32) (w2 : Int32) (w3 : Int32) (w4 : Int32) (q1_w1 : (0 : Int) ≤ w1.toInt) (q2_w1 : w1.toInt ≤ (19 : Int)) (q1_w2 : (-2147483648 : Int) ≤ w2.toInt) (q2_w2 : w2.toInt ≤ (-1 : Int)) (hR_0_0 : sx_R σ (b + 0) 0 = (some (b + 1))) (hR_1_0 : sx_R σ (b + 1) 0 = (some (b + 9))) : vx_Met l yX8_check (.code yX8_check cX8_check 13 (some .int) :: lw_g) { frames := 7, cells := 1, slots := 6, locals := 136 } (va_Pc [.ref (b + 0), .int 0, .int w1, .int w2, .int w3, .int w4] (zx_w g σ)) (va_Qi (S := sx_T) (fun _ _ => False) (zx_w g) (gx_Q g)) (vx_X (fun u : sx_T => ∃ z, u = wx_Z σ z) (fun E u t => E = "java/lang/IllegalArgumentException" ∧ zx_h g u t.heap) (gx_Q g)) 1 6 (gx_Q g) := by
  refine z_metX (by decide) (Nat.le_of_ble_eq_true rfl) (fun p e s m below meth c B hr hin hout => ?_)
  refine z_eqs (σ' := (ap b σ [] [] [])) rfl ?_
  show zx p l e _ s m _ below meth c g 13 0 0 _ _ 0 [(0, .ref (b + 0)), (1, .int 0), (2, .int w1), (3, .int w2), (4, .int w3), (5, .int w4)] []
  refine z_aload_n B dX8_check_0 rfl 0 rfl ?_
  refine z_iload_n B dX8_check_1 rfl 1 rfl ?_
  refine z_cVq (As := [.int 0]) (rest := []) B cw_X8_64 cx_9 dX8_check_2 (ci_X8_programAt_50 l (σ := (ap b σ [] [] [])) (b := b) (lyA hK) (rR_at 0 0 hR_0_0) (rR_at 1 0 hR_1_0)) (lKA (hk_K hK 0 rfl rfl)) rfl (by decide) rfl (Nat.le_of_ble_eq_true rfl) (by decide) (fun r u hu => ?_)
  refine z_eqs (σ' := (ap b σ [] [] [])) hu.2 ?_
  show zx p l e _ s m _ below meth c g 13 0 0 _ _ 5 [(0, .ref (b + 0)), (1, .int 0), (2, .int w1), (3, .int w2), (4, .int w3), (5, .int w4)] _
  refine z_setr (y := (some (b + 9))) hu.1 ?_
  refine z_astore (lv' := [(6, .ref (b + 9)), (0, .ref (b + 0)), (1, .int 0), (2, .int w1), (3, .int w2), (4, .int w3), (5, .int w4)]) B dX8_check_5 (by decide) rfl ?_
  refine z_aload B dX8_check_7 0 rfl ?_
  refine z_ifnull (r := (some (b + 9))) (tgt := 21) B dX8_check_9 (by decide) (fun h => nomatch h) (fun _ _ => ?_)
  refine z_iload_n B dX8_check_12 rfl 3 rfl ?_
  refine z_bipush (v := 20) B dX8_check_13 (by decide) ?_
  refine z_cSi (As := [.int w1, .int 20]) (rest := []) B cw_X8_68 dX8_check_15 (ci_X8_isBelow_64 l (σ := (ap b σ [] [] [])) (b := b) (lyA hK) w1 q1_w1 q2_w1) rfl (by decide) rfl (Nat.le_of_ble_eq_true rfl) (by decide) (fun r u hu => ?_)
  refine z_eqs (σ' := (ap b σ [] [] [])) hu.2 ?_
  show zx p l e _ s m _ below meth c g 13 0 0 _ _ 18 [(6, .ref (b + 9)), (0, .ref (b + 0)), (1, .int 0), (2, .int w1), (3, .int w2), (4, .int w3), (5, .int w4)] _
  refine z_seti (y := 1) hu.1 ?_
  refine z_if_ne (tgt := 31) B dX8_check_18 (by decide) (fun _ => ?_) (fun h => absurd h (by decide))
  refine z_iload_n B dX8_check_31 rfl 4 rfl ?_
  refine z_iload B dX8_check_32 5 rfl ?_
  refine z_iload B dX8_check_34 6 rfl ?_
  refine z_cSi (As := [.int w2, .int w3, .int w4]) (rest := []) B cw_X8_79 dX8_check_36 (ci_X8_isStep_66 l (σ := (ap b σ [] [] [])) (b := b) (lyA hK) w2 w3 w4 q1_w2 q2_w2) rfl (by decide) rfl (Nat.le_of_ble_eq_true rfl) (by decide) (fun r u hu => ?_)
  refine z_eqs (σ' := (ap b σ [] [] [])) hu.2 ?_
  show zx p l e _ s m _ below meth c g 13 0 0 _ _ 39 [(6, .ref (b + 9)), (0, .ref (b + 0)), (1, .int 0), (2, .int w1), (3, .int w2), (4, .int w3), (5, .int w4)] _
  refine z_seti (y := 0) hu.1 ?_
  refine z_if_ne (tgt := 52) B dX8_check_39 (by decide) (fun h => absurd (by decide) h) (fun _ => ?_)
  exact z_throw B hlt hout (cls := "java/lang/IllegalArgumentException") (text := "no such operation") tw_X8_83_85_87 dX8_check_42 dX8_check_45 dX8_check_46 dX8_check_48 dX8_check_51 (by decide) (by decide) (by decide) (by decide) (by decide) (by decide) (fun z => ⟨z, rfl⟩)
set_option maxRecDepth 100000 in
set_option maxHeartbeats 4000000 in
theorem ci_L_check_398 (l : Launch) (hlt : l.stackTraces = false) {g : gx_T} {σ : sx_T} {b : Nat} (hK : lay b σ) (w1 : Int32) (w2 : Int32) (w3 : Int32) (w4 : Int32) (q1_w1 : (0 : Int) ≤ w1.toInt) (q2_w1 : w1.toInt ≤ (19 : Int)) (q1_w2 : (-2147483648 : Int) ≤ w2.toInt) (q2_w2 : w2.toInt ≤ (-1 : Int)) (hR_0_0 : sx_R σ (b + 0) 0 = (some (b + 1))) (hR_1_0 : sx_R σ (b + 1) 0 = (some (b + 9))) : Met l yL_check (.codeWith yL_check cL_check 8 (some .int) [(0, 16, 19, 13), (0, 16, 23, 15)] :: lw_g) { frames := 8, cells := 1, slots := 6, locals := 168 } (va_Pc [.ref (b + 0), .int 0, .int w1, .int w2, .int w3, .int w4, .ref (b + 431)] (zx_w g σ)) (va_Qi (fun r u => r = 2 ∧ ∃ z, u = (ap b (wx_Z σ z) [] [] [])) (zx_w g) (gx_Q g)) 1 6 (gx_Q g) := by
  refine z_metW (by decide) (Nat.le_of_ble_eq_true rfl) (fun p e s m below meth c B hr htab => ?_)
  refine z_eqs (σ' := (ap b σ [] [] [])) rfl ?_
  show zx p l e _ s m _ below meth c g 8 0 0 _ _ 0 [(0, .ref (b + 0)), (1, .int 0), (2, .int w1), (3, .int w2), (4, .int w3), (5, .int w4), (6, .ref (b + 431))] []
  refine z_aload B dL_check_0 6 rfl ?_
  refine z_iconst (v := 0) B dL_check_2 (by decide) ?_
  refine z_aload_n B dL_check_3 rfl 0 rfl ?_
  refine z_iload_n B dL_check_4 rfl 1 rfl ?_
  refine z_iload_n B dL_check_5 rfl 2 rfl ?_
  refine z_iload_n B dL_check_6 rfl 3 rfl ?_
  refine z_iload B dL_check_7 4 rfl ?_
  refine z_iload B dL_check_9 5 rfl ?_
  refine z_cXi (As := [.int 0, .int w1, .int w2, .int w3, .int w4]) (rest := [.int 0, .ref (b + 431)]) B htab tc_check_11_IllegalArgumentException cw_L_17 cx_9 dL_check_11 (ci_X8_check_397 l hlt (σ := (ap b σ [] [] [])) (b := b) (lyA hK) w1 w2 w3 w4 q1_w1 q2_w1 q1_w2 q2_w2 (rR_at 0 0 hR_0_0) (rR_at 1 0 hR_1_0)) (lKA (hk_K hK 0 rfl rfl)) rfl (by decide) rfl (Nat.le_of_ble_eq_true rfl) (by decide) (fun z q => ?_)
  refine z_eqs (σ' := (ap b (wx_Z σ z) [] [] [])) rfl ?_
  show zx p l e _ s m _ below meth c g 8 _ _ _ _ 23 [(0, .ref (b + 0)), (1, .int 0), (2, .int w1), (3, .int w2), (4, .int w3), (5, .int w4), (6, .ref (b + 431))] _
  refine z_astore (lv' := [(7, .ref q), (0, .ref (b + 0)), (1, .int 0), (2, .int w1), (3, .int w2), (4, .int w3), (5, .int w4), (6, .ref (b + 431))]) B dL_check_23 (by decide) rfl ?_
  refine z_iconst (v := 2) B dL_check_25 (by decide) ?_
  exact z_iret B hr (by decide) (by decide) dL_check_26 ⟨rfl, _, rfl⟩
set_option maxRecDepth 100000 in
set_option maxHeartbeats 4000000 in
theorem ci_X9_check_399 (l : Launch) {g : gx_T} {σ : sx_T} {b : Nat} (hK : lay b σ) (w1 : Int32) (w2 : Int32) (w3 : Int32) (w4 : Int32) (q1_w1 : (0 : Int) ≤ w1.toInt) (q2_w1 : w1.toInt ≤ (19 : Int)) (q1_w2 : (-2147483648 : Int) ≤ w2.toInt) (q2_w2 : w2.toInt ≤ (-1 : Int))  : Met l yX9_check (.code yX9_check cX9_check 11 (some .int) :: lw_g) { frames := 2, cells := 0, slots := 0, locals := 44 } (va_Pc [.ref (b + 405), .int 0, .int w1, .int w2, .int w3, .int w4] (zx_w g σ)) (va_Qi (fun r u => r = 0 ∧ u = (ap b σ [(405, 0, 2)] [] [])) (zx_w g) (gx_Q g)) 0 0 (gx_Q g) := by
  refine z_met (by decide) (Nat.le_of_ble_eq_true rfl) (fun p e s m below meth c B hr hin => ?_)
  refine z_eqs (σ' := (ap b σ [] [] [])) rfl ?_
  show zx p l e _ s m _ below meth c g 11 0 0 _ _ 0 [(0, .ref (b + 405)), (1, .int 0), (2, .int w1), (3, .int w2), (4, .int w3), (5, .int w4)] []
  refine z_aload_n B dX9_check_0 rfl 0 rfl ?_
  refine z_iload_n B dX9_check_1 rfl 1 rfl ?_
  refine z_iload_n B dX9_check_2 rfl 2 rfl ?_
  refine z_cSi (As := [.int 0, .int w1]) (rest := [.ref (b + 405)]) B cw_X9_238 dX9_check_3 (ci_X9_isStep_70 l (σ := (ap b σ [] [] [])) (b := b) (lyA hK) w1 q1_w1 q2_w1) rfl (by decide) rfl (Nat.le_of_ble_eq_true rfl) (by decide) (fun r u hu => ?_)
  refine z_eqs (σ' := (ap b σ [] [] [])) hu.2 ?_
  show zx p l e _ s m _ below meth c g 11 0 0 _ _ 6 [(0, .ref (b + 405)), (1, .int 0), (2, .int w1), (3, .int w2), (4, .int w3), (5, .int w4)] _
  refine z_seti (y := 1) hu.1 ?_
  refine z_iload_n B dX9_check_6 rfl 3 rfl ?_
  refine z_iload B dX9_check_7 4 rfl ?_
  refine z_iload B dX9_check_9 5 rfl ?_
  refine z_cSi (As := [.int w2, .int w3, .int w4]) (rest := [.int 1, .ref (b + 405)]) B cw_X9_242 dX9_check_11 (ci_X9_isOperation_28 l (σ := (ap b σ [] [] [])) (b := b) (lyA hK) w2 w3 w4 q1_w2 q2_w2) rfl (by decide) rfl (Nat.le_of_ble_eq_true rfl) (by decide) (fun r u hu => ?_)
  refine z_eqs (σ' := (ap b σ [] [] [])) hu.2 ?_
  show zx p l e _ s m _ below meth c g 11 0 0 _ _ 14 [(0, .ref (b + 405)), (1, .int 0), (2, .int w1), (3, .int w2), (4, .int w3), (5, .int w4)] _
  refine z_seti (y := 0) hu.1 ?_
  refine z_cVi (As := [.int 1, .int 0]) (rest := []) B cw_X9_245 cx_10 dX9_check_14 (ci_X9_needs__71 l (σ := (ap b σ [] [] [])) (b := b) (lyA hK) ) (lKA (hk_K hK 405 rfl rfl)) rfl (by decide) rfl (Nat.le_of_ble_eq_true rfl) (by decide) (fun r u hu => ?_)
  refine z_eqs (σ' := (ap b σ [(405, 0, 2)] [] [])) (hu.2.trans ap_ap) ?_
  show zx p l e _ s m _ below meth c g 11 0 0 _ _ 17 [(0, .ref (b + 405)), (1, .int 0), (2, .int w1), (3, .int w2), (4, .int w3), (5, .int w4)] _
  refine z_seti (y := 0) hu.1 ?_
  refine z_if_ne (tgt := 22) B dX9_check_17 (by decide) (fun h => absurd (by decide) h) (fun _ => ?_)
  refine z_iconst (v := 0) B dX9_check_20 (by decide) ?_
  exact z_iret B hr (by decide) (by decide) dX9_check_21 ⟨rfl, rfl⟩
set_option maxRecDepth 100000 in
set_option maxHeartbeats 4000000 in
theorem ci_X8_check_400 (l : Launch) (hlt : l.stackTraces = false) {g : gx_T} {σ : sx_T} {b : Nat} (hK : lay b σ) (w1 : Int32) (w2 : Int32) (w3 : Int32) (w4 : Int32) (q1_w1 : (0 : Int) ≤ w1.toInt) (q2_w1 : w1.toInt ≤ (19 : Int)) (q1_w2 : (0 : Int) ≤ w2.toInt) (q2_w2 : w2.toInt ≤ (17 : Int)) (q1_w3 : (-2147483648 : Int) ≤ w3.toInt) (q2_w3 : w3.toInt ≤ (-1 : Int)) (hR_0_0 : sx_R σ (b + 0) 0 = (some (b + 1))) (hR_1_0 : sx_R σ (b + 1) 0 = (some (b + 9))) : vx_Met l yX8_check (.code yX8_check cX8_check 13 (some .int) :: lw_g) { frames := 7, cells := 1, slots := 6, locals := 136 } (va_Pc [.ref (b + 0), .int 0, .int w1, .int w2, .int w3, .int w4] (zx_w g σ)) (va_Qi (S := sx_T) (fun _ _ => False) (zx_w g) (gx_Q g)) (vx_X (fun u : sx_T => ∃ z, u = wx_Z σ z) (fun E u t => E = "java/lang/IllegalArgumentException" ∧ zx_h g u t.heap) (gx_Q g)) 1 6 (gx_Q g) := by
  refine z_metX (by decide) (Nat.le_of_ble_eq_true rfl) (fun p e s m below meth c B hr hin hout => ?_)
  refine z_eqs (σ' := (ap b σ [] [] [])) rfl ?_
  show zx p l e _ s m _ below meth c g 13 0 0 _ _ 0 [(0, .ref (b + 0)), (1, .int 0), (2, .int w1), (3, .int w2), (4, .int w3), (5, .int w4)] []
  refine z_aload_n B dX8_check_0 rfl 0 rfl ?_
  refine z_iload_n B dX8_check_1 rfl 1 rfl ?_
  refine z_cVq (As := [.int 0]) (rest := []) B cw_X8_64 cx_9 dX8_check_2 (ci_X8_programAt_50 l (σ := (ap b σ [] [] [])) (b := b) (lyA hK) (rR_at 0 0 hR_0_0) (rR_at 1 0 hR_1_0)) (lKA (hk_K hK 0 rfl rfl)) rfl (by decide) rfl (Nat.le_of_ble_eq_true rfl) (by decide) (fun r u hu => ?_)
  refine z_eqs (σ' := (ap b σ [] [] [])) hu.2 ?_
  show zx p l e _ s m _ below meth c g 13 0 0 _ _ 5 [(0, .ref (b + 0)), (1, .int 0), (2, .int w1), (3, .int w2), (4, .int w3), (5, .int w4)] _
  refine z_setr (y := (some (b + 9))) hu.1 ?_
  refine z_astore (lv' := [(6, .ref (b + 9)), (0, .ref (b + 0)), (1, .int 0), (2, .int w1), (3, .int w2), (4, .int w3), (5, .int w4)]) B dX8_check_5 (by decide) rfl ?_
  refine z_aload B dX8_check_7 0 rfl ?_
  refine z_ifnull (r := (some (b + 9))) (tgt := 21) B dX8_check_9 (by decide) (fun h => nomatch h) (fun _ _ => ?_)
  refine z_iload_n B dX8_check_12 rfl 3 rfl ?_
  refine z_bipush (v := 20) B dX8_check_13 (by decide) ?_
  refine z_cSi (As := [.int w1, .int 20]) (rest := []) B cw_X8_68 dX8_check_15 (ci_X8_isBelow_64 l (σ := (ap b σ [] [] [])) (b := b) (lyA hK) w1 q1_w1 q2_w1) rfl (by decide) rfl (Nat.le_of_ble_eq_true rfl) (by decide) (fun r u hu => ?_)
  refine z_eqs (σ' := (ap b σ [] [] [])) hu.2 ?_
  show zx p l e _ s m _ below meth c g 13 0 0 _ _ 18 [(6, .ref (b + 9)), (0, .ref (b + 0)), (1, .int 0), (2, .int w1), (3, .int w2), (4, .int w3), (5, .int w4)] _
  refine z_seti (y := 1) hu.1 ?_
  refine z_if_ne (tgt := 31) B dX8_check_18 (by decide) (fun _ => ?_) (fun h => absurd h (by decide))
  refine z_iload_n B dX8_check_31 rfl 4 rfl ?_
  refine z_iload B dX8_check_32 5 rfl ?_
  refine z_iload B dX8_check_34 6 rfl ?_
  refine z_cSi (As := [.int w2, .int w3, .int w4]) (rest := []) B cw_X8_79 dX8_check_36 (ci_X8_isStep_76 l (σ := (ap b σ [] [] [])) (b := b) (lyA hK) w2 w3 w4 q1_w2 q2_w2 q1_w3 q2_w3) rfl (by decide) rfl (Nat.le_of_ble_eq_true rfl) (by decide) (fun r u hu => ?_)
  refine z_eqs (σ' := (ap b σ [] [] [])) hu.2 ?_
  show zx p l e _ s m _ below meth c g 13 0 0 _ _ 39 [(6, .ref (b + 9)), (0, .ref (b + 0)), (1, .int 0), (2, .int w1), (3, .int w2), (4, .int w3), (5, .int w4)] _
  refine z_seti (y := 0) hu.1 ?_
  refine z_if_ne (tgt := 52) B dX8_check_39 (by decide) (fun h => absurd (by decide) h) (fun _ => ?_)
  exact z_throw B hlt hout (cls := "java/lang/IllegalArgumentException") (text := "no such operation") tw_X8_83_85_87 dX8_check_42 dX8_check_45 dX8_check_46 dX8_check_48 dX8_check_51 (by decide) (by decide) (by decide) (by decide) (by decide) (by decide) (fun z => ⟨z, rfl⟩)
set_option maxRecDepth 100000 in
set_option maxHeartbeats 4000000 in
theorem ci_L_check_401 (l : Launch) (hlt : l.stackTraces = false) {g : gx_T} {σ : sx_T} {b : Nat} (hK : lay b σ) (w1 : Int32) (w2 : Int32) (w3 : Int32) (w4 : Int32) (q1_w1 : (0 : Int) ≤ w1.toInt) (q2_w1 : w1.toInt ≤ (19 : Int)) (q1_w2 : (0 : Int) ≤ w2.toInt) (q2_w2 : w2.toInt ≤ (17 : Int)) (q1_w3 : (-2147483648 : Int) ≤ w3.toInt) (q2_w3 : w3.toInt ≤ (-1 : Int)) (hR_0_0 : sx_R σ (b + 0) 0 = (some (b + 1))) (hR_1_0 : sx_R σ (b + 1) 0 = (some (b + 9))) : Met l yL_check (.codeWith yL_check cL_check 8 (some .int) [(0, 16, 19, 13), (0, 16, 23, 15)] :: lw_g) { frames := 8, cells := 1, slots := 6, locals := 168 } (va_Pc [.ref (b + 0), .int 0, .int w1, .int w2, .int w3, .int w4, .ref (b + 431)] (zx_w g σ)) (va_Qi (fun r u => r = 2 ∧ ∃ z, u = (ap b (wx_Z σ z) [] [] [])) (zx_w g) (gx_Q g)) 1 6 (gx_Q g) := by
  refine z_metW (by decide) (Nat.le_of_ble_eq_true rfl) (fun p e s m below meth c B hr htab => ?_)
  refine z_eqs (σ' := (ap b σ [] [] [])) rfl ?_
  show zx p l e _ s m _ below meth c g 8 0 0 _ _ 0 [(0, .ref (b + 0)), (1, .int 0), (2, .int w1), (3, .int w2), (4, .int w3), (5, .int w4), (6, .ref (b + 431))] []
  refine z_aload B dL_check_0 6 rfl ?_
  refine z_iconst (v := 0) B dL_check_2 (by decide) ?_
  refine z_aload_n B dL_check_3 rfl 0 rfl ?_
  refine z_iload_n B dL_check_4 rfl 1 rfl ?_
  refine z_iload_n B dL_check_5 rfl 2 rfl ?_
  refine z_iload_n B dL_check_6 rfl 3 rfl ?_
  refine z_iload B dL_check_7 4 rfl ?_
  refine z_iload B dL_check_9 5 rfl ?_
  refine z_cXi (As := [.int 0, .int w1, .int w2, .int w3, .int w4]) (rest := [.int 0, .ref (b + 431)]) B htab tc_check_11_IllegalArgumentException cw_L_17 cx_9 dL_check_11 (ci_X8_check_400 l hlt (σ := (ap b σ [] [] [])) (b := b) (lyA hK) w1 w2 w3 w4 q1_w1 q2_w1 q1_w2 q2_w2 q1_w3 q2_w3 (rR_at 0 0 hR_0_0) (rR_at 1 0 hR_1_0)) (lKA (hk_K hK 0 rfl rfl)) rfl (by decide) rfl (Nat.le_of_ble_eq_true rfl) (by decide) (fun z q => ?_)
  refine z_eqs (σ' := (ap b (wx_Z σ z) [] [] [])) rfl ?_
  show zx p l e _ s m _ below meth c g 8 _ _ _ _ 23 [(0, .ref (b + 0)), (1, .int 0), (2, .int w1), (3, .int w2), (4, .int w3), (5, .int w4), (6, .ref (b + 431))] _
  refine z_astore (lv' := [(7, .ref q), (0, .ref (b + 0)), (1, .int 0), (2, .int w1), (3, .int w2), (4, .int w3), (5, .int w4), (6, .ref (b + 431))]) B dL_check_23 (by decide) rfl ?_
  refine z_iconst (v := 2) B dL_check_25 (by decide) ?_
  exact z_iret B hr (by decide) (by decide) dL_check_26 ⟨rfl, _, rfl⟩
set_option maxRecDepth 100000 in
set_option maxHeartbeats 4000000 in
theorem ci_X9_check_402 (l : Launch) {g : gx_T} {σ : sx_T} {b : Nat} (hK : lay b σ) (w1 : Int32) (w2 : Int32) (w3 : Int32) (w4 : Int32) (q1_w1 : (0 : Int) ≤ w1.toInt) (q2_w1 : w1.toInt ≤ (19 : Int)) (q1_w2 : (0 : Int) ≤ w2.toInt) (q2_w2 : w2.toInt ≤ (17 : Int)) (q1_w3 : (-2147483648 : Int) ≤ w3.toInt) (q2_w3 : w3.toInt ≤ (-1 : Int))  : Met l yX9_check (.code yX9_check cX9_check 11 (some .int) :: lw_g) { frames := 2, cells := 0, slots := 0, locals := 44 } (va_Pc [.ref (b + 405), .int 0, .int w1, .int w2, .int w3, .int w4] (zx_w g σ)) (va_Qi (fun r u => r = 0 ∧ u = (ap b σ [(405, 0, 2)] [] [])) (zx_w g) (gx_Q g)) 0 0 (gx_Q g) := by
  refine z_met (by decide) (Nat.le_of_ble_eq_true rfl) (fun p e s m below meth c B hr hin => ?_)
  refine z_eqs (σ' := (ap b σ [] [] [])) rfl ?_
  show zx p l e _ s m _ below meth c g 11 0 0 _ _ 0 [(0, .ref (b + 405)), (1, .int 0), (2, .int w1), (3, .int w2), (4, .int w3), (5, .int w4)] []
  refine z_aload_n B dX9_check_0 rfl 0 rfl ?_
  refine z_iload_n B dX9_check_1 rfl 1 rfl ?_
  refine z_iload_n B dX9_check_2 rfl 2 rfl ?_
  refine z_cSi (As := [.int 0, .int w1]) (rest := [.ref (b + 405)]) B cw_X9_238 dX9_check_3 (ci_X9_isStep_70 l (σ := (ap b σ [] [] [])) (b := b) (lyA hK) w1 q1_w1 q2_w1) rfl (by decide) rfl (Nat.le_of_ble_eq_true rfl) (by decide) (fun r u hu => ?_)
  refine z_eqs (σ' := (ap b σ [] [] [])) hu.2 ?_
  show zx p l e _ s m _ below meth c g 11 0 0 _ _ 6 [(0, .ref (b + 405)), (1, .int 0), (2, .int w1), (3, .int w2), (4, .int w3), (5, .int w4)] _
  refine z_seti (y := 1) hu.1 ?_
  refine z_iload_n B dX9_check_6 rfl 3 rfl ?_
  refine z_iload B dX9_check_7 4 rfl ?_
  refine z_iload B dX9_check_9 5 rfl ?_
  refine z_cSi (As := [.int w2, .int w3, .int w4]) (rest := [.int 1, .ref (b + 405)]) B cw_X9_242 dX9_check_11 (ci_X9_isOperation_34 l (σ := (ap b σ [] [] [])) (b := b) (lyA hK) w2 w3 w4 q1_w2 q2_w2 q1_w3 q2_w3) rfl (by decide) rfl (Nat.le_of_ble_eq_true rfl) (by decide) (fun r u hu => ?_)
  refine z_eqs (σ' := (ap b σ [] [] [])) hu.2 ?_
  show zx p l e _ s m _ below meth c g 11 0 0 _ _ 14 [(0, .ref (b + 405)), (1, .int 0), (2, .int w1), (3, .int w2), (4, .int w3), (5, .int w4)] _
  refine z_seti (y := 0) hu.1 ?_
  refine z_cVi (As := [.int 1, .int 0]) (rest := []) B cw_X9_245 cx_10 dX9_check_14 (ci_X9_needs__71 l (σ := (ap b σ [] [] [])) (b := b) (lyA hK) ) (lKA (hk_K hK 405 rfl rfl)) rfl (by decide) rfl (Nat.le_of_ble_eq_true rfl) (by decide) (fun r u hu => ?_)
  refine z_eqs (σ' := (ap b σ [(405, 0, 2)] [] [])) (hu.2.trans ap_ap) ?_
  show zx p l e _ s m _ below meth c g 11 0 0 _ _ 17 [(0, .ref (b + 405)), (1, .int 0), (2, .int w1), (3, .int w2), (4, .int w3), (5, .int w4)] _
  refine z_seti (y := 0) hu.1 ?_
  refine z_if_ne (tgt := 22) B dX9_check_17 (by decide) (fun h => absurd (by decide) h) (fun _ => ?_)
  refine z_iconst (v := 0) B dX9_check_20 (by decide) ?_
  exact z_iret B hr (by decide) (by decide) dX9_check_21 ⟨rfl, rfl⟩
set_option maxRecDepth 100000 in
set_option maxHeartbeats 4000000 in
theorem ci_X8_check_403 (l : Launch) (hlt : l.stackTraces = false) {g : gx_T} {σ : sx_T} {b : Nat} (hK : lay b σ) (w1 : Int32) (w2 : Int32) (w3 : Int32) (w4 : Int32) (q1_w1 : (0 : Int) ≤ w1.toInt) (q2_w1 : w1.toInt ≤ (19 : Int)) (q1_w2 : (0 : Int) ≤ w2.toInt) (q2_w2 : w2.toInt ≤ (17 : Int)) (q1_w3 : (0 : Int) ≤ w3.toInt) (q2_w3 : w3.toInt ≤ (99 : Int)) (q1_w4 : (-2147483648 : Int) ≤ w4.toInt) (q2_w4 : w4.toInt ≤ (-1 : Int)) (hR_0_0 : sx_R σ (b + 0) 0 = (some (b + 1))) (hR_1_0 : sx_R σ (b + 1) 0 = (some (b + 9))) : vx_Met l yX8_check (.code yX8_check cX8_check 13 (some .int) :: lw_g) { frames := 7, cells := 1, slots := 6, locals := 136 } (va_Pc [.ref (b + 0), .int 0, .int w1, .int w2, .int w3, .int w4] (zx_w g σ)) (va_Qi (S := sx_T) (fun _ _ => False) (zx_w g) (gx_Q g)) (vx_X (fun u : sx_T => ∃ z, u = wx_Z σ z) (fun E u t => E = "java/lang/IllegalArgumentException" ∧ zx_h g u t.heap) (gx_Q g)) 1 6 (gx_Q g) := by
  refine z_metX (by decide) (Nat.le_of_ble_eq_true rfl) (fun p e s m below meth c B hr hin hout => ?_)
  refine z_eqs (σ' := (ap b σ [] [] [])) rfl ?_
  show zx p l e _ s m _ below meth c g 13 0 0 _ _ 0 [(0, .ref (b + 0)), (1, .int 0), (2, .int w1), (3, .int w2), (4, .int w3), (5, .int w4)] []
  refine z_aload_n B dX8_check_0 rfl 0 rfl ?_
  refine z_iload_n B dX8_check_1 rfl 1 rfl ?_
  refine z_cVq (As := [.int 0]) (rest := []) B cw_X8_64 cx_9 dX8_check_2 (ci_X8_programAt_50 l (σ := (ap b σ [] [] [])) (b := b) (lyA hK) (rR_at 0 0 hR_0_0) (rR_at 1 0 hR_1_0)) (lKA (hk_K hK 0 rfl rfl)) rfl (by decide) rfl (Nat.le_of_ble_eq_true rfl) (by decide) (fun r u hu => ?_)
  refine z_eqs (σ' := (ap b σ [] [] [])) hu.2 ?_
  show zx p l e _ s m _ below meth c g 13 0 0 _ _ 5 [(0, .ref (b + 0)), (1, .int 0), (2, .int w1), (3, .int w2), (4, .int w3), (5, .int w4)] _
  refine z_setr (y := (some (b + 9))) hu.1 ?_
  refine z_astore (lv' := [(6, .ref (b + 9)), (0, .ref (b + 0)), (1, .int 0), (2, .int w1), (3, .int w2), (4, .int w3), (5, .int w4)]) B dX8_check_5 (by decide) rfl ?_
  refine z_aload B dX8_check_7 0 rfl ?_
  refine z_ifnull (r := (some (b + 9))) (tgt := 21) B dX8_check_9 (by decide) (fun h => nomatch h) (fun _ _ => ?_)
  refine z_iload_n B dX8_check_12 rfl 3 rfl ?_
  refine z_bipush (v := 20) B dX8_check_13 (by decide) ?_
  refine z_cSi (As := [.int w1, .int 20]) (rest := []) B cw_X8_68 dX8_check_15 (ci_X8_isBelow_64 l (σ := (ap b σ [] [] [])) (b := b) (lyA hK) w1 q1_w1 q2_w1) rfl (by decide) rfl (Nat.le_of_ble_eq_true rfl) (by decide) (fun r u hu => ?_)
  refine z_eqs (σ' := (ap b σ [] [] [])) hu.2 ?_
  show zx p l e _ s m _ below meth c g 13 0 0 _ _ 18 [(6, .ref (b + 9)), (0, .ref (b + 0)), (1, .int 0), (2, .int w1), (3, .int w2), (4, .int w3), (5, .int w4)] _
  refine z_seti (y := 1) hu.1 ?_
  refine z_if_ne (tgt := 31) B dX8_check_18 (by decide) (fun _ => ?_) (fun h => absurd h (by decide))
  refine z_iload_n B dX8_check_31 rfl 4 rfl ?_
  refine z_iload B dX8_check_32 5 rfl ?_
  refine z_iload B dX8_check_34 6 rfl ?_
  refine z_cSi (As := [.int w2, .int w3, .int w4]) (rest := []) B cw_X8_79 dX8_check_36 (ci_X8_isStep_81 l (σ := (ap b σ [] [] [])) (b := b) (lyA hK) w2 w3 w4 q1_w2 q2_w2 q1_w3 q2_w3 q1_w4 q2_w4) rfl (by decide) rfl (Nat.le_of_ble_eq_true rfl) (by decide) (fun r u hu => ?_)
  refine z_eqs (σ' := (ap b σ [] [] [])) hu.2 ?_
  show zx p l e _ s m _ below meth c g 13 0 0 _ _ 39 [(6, .ref (b + 9)), (0, .ref (b + 0)), (1, .int 0), (2, .int w1), (3, .int w2), (4, .int w3), (5, .int w4)] _
  refine z_seti (y := 0) hu.1 ?_
  refine z_if_ne (tgt := 52) B dX8_check_39 (by decide) (fun h => absurd (by decide) h) (fun _ => ?_)
  exact z_throw B hlt hout (cls := "java/lang/IllegalArgumentException") (text := "no such operation") tw_X8_83_85_87 dX8_check_42 dX8_check_45 dX8_check_46 dX8_check_48 dX8_check_51 (by decide) (by decide) (by decide) (by decide) (by decide) (by decide) (fun z => ⟨z, rfl⟩)
set_option maxRecDepth 100000 in
set_option maxHeartbeats 4000000 in
theorem ci_L_check_404 (l : Launch) (hlt : l.stackTraces = false) {g : gx_T} {σ : sx_T} {b : Nat} (hK : lay b σ) (w1 : Int32) (w2 : Int32) (w3 : Int32) (w4 : Int32) (q1_w1 : (0 : Int) ≤ w1.toInt) (q2_w1 : w1.toInt ≤ (19 : Int)) (q1_w2 : (0 : Int) ≤ w2.toInt) (q2_w2 : w2.toInt ≤ (17 : Int)) (q1_w3 : (0 : Int) ≤ w3.toInt) (q2_w3 : w3.toInt ≤ (99 : Int)) (q1_w4 : (-2147483648 : Int) ≤ w4.toInt) (q2_w4 : w4.toInt ≤ (-1 : Int)) (hR_0_0 : sx_R σ (b + 0) 0 = (some (b + 1))) (hR_1_0 : sx_R σ (b + 1) 0 = (some (b + 9))) : Met l yL_check (.codeWith yL_check cL_check 8 (some .int) [(0, 16, 19, 13), (0, 16, 23, 15)] :: lw_g) { frames := 8, cells := 1, slots := 6, locals := 168 } (va_Pc [.ref (b + 0), .int 0, .int w1, .int w2, .int w3, .int w4, .ref (b + 431)] (zx_w g σ)) (va_Qi (fun r u => r = 2 ∧ ∃ z, u = (ap b (wx_Z σ z) [] [] [])) (zx_w g) (gx_Q g)) 1 6 (gx_Q g) := by
  refine z_metW (by decide) (Nat.le_of_ble_eq_true rfl) (fun p e s m below meth c B hr htab => ?_)
  refine z_eqs (σ' := (ap b σ [] [] [])) rfl ?_
  show zx p l e _ s m _ below meth c g 8 0 0 _ _ 0 [(0, .ref (b + 0)), (1, .int 0), (2, .int w1), (3, .int w2), (4, .int w3), (5, .int w4), (6, .ref (b + 431))] []
  refine z_aload B dL_check_0 6 rfl ?_
  refine z_iconst (v := 0) B dL_check_2 (by decide) ?_
  refine z_aload_n B dL_check_3 rfl 0 rfl ?_
  refine z_iload_n B dL_check_4 rfl 1 rfl ?_
  refine z_iload_n B dL_check_5 rfl 2 rfl ?_
  refine z_iload_n B dL_check_6 rfl 3 rfl ?_
  refine z_iload B dL_check_7 4 rfl ?_
  refine z_iload B dL_check_9 5 rfl ?_
  refine z_cXi (As := [.int 0, .int w1, .int w2, .int w3, .int w4]) (rest := [.int 0, .ref (b + 431)]) B htab tc_check_11_IllegalArgumentException cw_L_17 cx_9 dL_check_11 (ci_X8_check_403 l hlt (σ := (ap b σ [] [] [])) (b := b) (lyA hK) w1 w2 w3 w4 q1_w1 q2_w1 q1_w2 q2_w2 q1_w3 q2_w3 q1_w4 q2_w4 (rR_at 0 0 hR_0_0) (rR_at 1 0 hR_1_0)) (lKA (hk_K hK 0 rfl rfl)) rfl (by decide) rfl (Nat.le_of_ble_eq_true rfl) (by decide) (fun z q => ?_)
  refine z_eqs (σ' := (ap b (wx_Z σ z) [] [] [])) rfl ?_
  show zx p l e _ s m _ below meth c g 8 _ _ _ _ 23 [(0, .ref (b + 0)), (1, .int 0), (2, .int w1), (3, .int w2), (4, .int w3), (5, .int w4), (6, .ref (b + 431))] _
  refine z_astore (lv' := [(7, .ref q), (0, .ref (b + 0)), (1, .int 0), (2, .int w1), (3, .int w2), (4, .int w3), (5, .int w4), (6, .ref (b + 431))]) B dL_check_23 (by decide) rfl ?_
  refine z_iconst (v := 2) B dL_check_25 (by decide) ?_
  exact z_iret B hr (by decide) (by decide) dL_check_26 ⟨rfl, _, rfl⟩
set_option maxRecDepth 100000 in
set_option maxHeartbeats 4000000 in
theorem ci_X9_check_405 (l : Launch) {g : gx_T} {σ : sx_T} {b : Nat} (hK : lay b σ) (w1 : Int32) (w2 : Int32) (w3 : Int32) (w4 : Int32) (q1_w1 : (0 : Int) ≤ w1.toInt) (q2_w1 : w1.toInt ≤ (19 : Int)) (q1_w2 : (0 : Int) ≤ w2.toInt) (q2_w2 : w2.toInt ≤ (17 : Int)) (q1_w3 : (0 : Int) ≤ w3.toInt) (q2_w3 : w3.toInt ≤ (99 : Int)) (q1_w4 : (-2147483648 : Int) ≤ w4.toInt) (q2_w4 : w4.toInt ≤ (-1 : Int))  : Met l yX9_check (.code yX9_check cX9_check 11 (some .int) :: lw_g) { frames := 2, cells := 0, slots := 0, locals := 44 } (va_Pc [.ref (b + 405), .int 0, .int w1, .int w2, .int w3, .int w4] (zx_w g σ)) (va_Qi (fun r u => r = 0 ∧ u = (ap b σ [(405, 0, 2)] [] [])) (zx_w g) (gx_Q g)) 0 0 (gx_Q g) := by
  refine z_met (by decide) (Nat.le_of_ble_eq_true rfl) (fun p e s m below meth c B hr hin => ?_)
  refine z_eqs (σ' := (ap b σ [] [] [])) rfl ?_
  show zx p l e _ s m _ below meth c g 11 0 0 _ _ 0 [(0, .ref (b + 405)), (1, .int 0), (2, .int w1), (3, .int w2), (4, .int w3), (5, .int w4)] []
  refine z_aload_n B dX9_check_0 rfl 0 rfl ?_
  refine z_iload_n B dX9_check_1 rfl 1 rfl ?_
  refine z_iload_n B dX9_check_2 rfl 2 rfl ?_
  refine z_cSi (As := [.int 0, .int w1]) (rest := [.ref (b + 405)]) B cw_X9_238 dX9_check_3 (ci_X9_isStep_70 l (σ := (ap b σ [] [] [])) (b := b) (lyA hK) w1 q1_w1 q2_w1) rfl (by decide) rfl (Nat.le_of_ble_eq_true rfl) (by decide) (fun r u hu => ?_)
  refine z_eqs (σ' := (ap b σ [] [] [])) hu.2 ?_
  show zx p l e _ s m _ below meth c g 11 0 0 _ _ 6 [(0, .ref (b + 405)), (1, .int 0), (2, .int w1), (3, .int w2), (4, .int w3), (5, .int w4)] _
  refine z_seti (y := 1) hu.1 ?_
  refine z_iload_n B dX9_check_6 rfl 3 rfl ?_
  refine z_iload B dX9_check_7 4 rfl ?_
  refine z_iload B dX9_check_9 5 rfl ?_
  refine z_cSi (As := [.int w2, .int w3, .int w4]) (rest := [.int 1, .ref (b + 405)]) B cw_X9_242 dX9_check_11 (ci_X9_isOperation_37 l (σ := (ap b σ [] [] [])) (b := b) (lyA hK) w2 w3 w4 q1_w2 q2_w2 q1_w3 q2_w3 q1_w4 q2_w4) rfl (by decide) rfl (Nat.le_of_ble_eq_true rfl) (by decide) (fun r u hu => ?_)
  refine z_eqs (σ' := (ap b σ [] [] [])) hu.2 ?_
  show zx p l e _ s m _ below meth c g 11 0 0 _ _ 14 [(0, .ref (b + 405)), (1, .int 0), (2, .int w1), (3, .int w2), (4, .int w3), (5, .int w4)] _
  refine z_seti (y := 0) hu.1 ?_
  refine z_cVi (As := [.int 1, .int 0]) (rest := []) B cw_X9_245 cx_10 dX9_check_14 (ci_X9_needs__71 l (σ := (ap b σ [] [] [])) (b := b) (lyA hK) ) (lKA (hk_K hK 405 rfl rfl)) rfl (by decide) rfl (Nat.le_of_ble_eq_true rfl) (by decide) (fun r u hu => ?_)
  refine z_eqs (σ' := (ap b σ [(405, 0, 2)] [] [])) (hu.2.trans ap_ap) ?_
  show zx p l e _ s m _ below meth c g 11 0 0 _ _ 17 [(0, .ref (b + 405)), (1, .int 0), (2, .int w1), (3, .int w2), (4, .int w3), (5, .int w4)] _
  refine z_seti (y := 0) hu.1 ?_
  refine z_if_ne (tgt := 22) B dX9_check_17 (by decide) (fun h => absurd (by decide) h) (fun _ => ?_)
  refine z_iconst (v := 0) B dX9_check_20 (by decide) ?_
  exact z_iret B hr (by decide) (by decide) dX9_check_21 ⟨rfl, rfl⟩
set_option maxRecDepth 100000 in
set_option maxHeartbeats 4000000 in
theorem ci_X4_operation_406 (l : Launch) {g : gx_T} {σ : sx_T} {b : Nat} (hK : lay b σ) (w1 : Int32) (q1_w1 : (0 : Int) ≤ w1.toInt) (q2_w1 : w1.toInt ≤ (19 : Int)) (hR_9_1 : sx_R σ (b + 9) 1 = (some (b + 10))) : Met l yX4_operation (.code yX4_operation cX4_operation 2 (some .int) :: lw_g) { frames := 0, cells := 0, slots := 0, locals := 0 } (va_Pc [.ref (b + 9), .int w1] (zx_w g σ)) (va_Qi (fun r u => ∃ y1 : Int32, r = y1 ∧ u = σ) (zx_w g) (gx_Q g)) 0 0 (gx_Q g) := by
  refine z_met (by decide) (Nat.le_of_ble_eq_true rfl) (fun p e s m below meth c B hr hin => ?_)
  refine z_eqs (σ' := (ap b σ [] [] [])) rfl ?_
  show zx p l e _ s m _ below meth c g 2 0 0 _ _ 0 [(0, .ref (b + 9)), (1, .int w1)] []
  refine z_iload_n B dX4_operation_0 rfl 1 rfl ?_
  refine z_if_lt (tgt := 22) B dX4_operation_1 (by decide) (fun h => absurd h (iv_nlt q1_w1 (by decide))) (fun _ => ?_)
  refine z_iload_n B dX4_operation_4 rfl 1 rfl ?_
  refine z_aload_n B dX4_operation_5 rfl 0 rfl ?_
  refine gf_X4_9 (x := (some (b + 10))) B (lKA (hk_K hK 9 rfl rfl)) (rR_at 9 1 hR_9_1) dX4_operation_6 ?_
  refine z_alen (kd := 13) (ti := 1) (v := 20) B (lKA (hk_K hK 10 rfl rfl)) (by decide) rfl (congrArg Int32.ofNat (lNA (hk_N hK 10 rfl rfl))) dX4_operation_9 ?_
  refine z_icmp_ge (tgt := 22) B dX4_operation_10 (by decide) (fun h => absurd h (iv_nge q2_w1 (by decide))) (fun _ => ?_)
  refine z_aload_n B dX4_operation_13 rfl 0 rfl ?_
  refine gf_X4_9 (x := (some (b + 10))) B (lKA (hk_K hK 9 rfl rfl)) (rR_at 9 1 hR_9_1) dX4_operation_14 ?_
  refine z_iload_n B dX4_operation_17 rfl 1 rfl ?_
  refine z_iald (j := w1.toNatClampNeg) B (lKA (hk_K hK 10 rfl rfl)) rfl (in_of (lNA (hk_N hK 10 rfl rfl)) (iv_in q1_w1 q2_w1 (by decide) (by decide))) rfl dX4_operation_18 ?_
  refine z_topi (fun y1 e_y1 => ?_)
  refine z_goto (tgt := 23) B dX4_operation_19 (by decide) ?_
  exact z_iret B hr (by decide) (by decide) dX4_operation_23 ⟨y1, rfl, rfl⟩
set_option maxRecDepth 100000 in
set_option maxHeartbeats 4000000 in
theorem ci_X4_first_407 (l : Launch) {g : gx_T} {σ : sx_T} {b : Nat} (hK : lay b σ) (w1 : Int32) (q1_w1 : (0 : Int) ≤ w1.toInt) (q2_w1 : w1.toInt ≤ (19 : Int)) (hR_9_2 : sx_R σ (b + 9) 2 = (some (b + 11))) : Met l yX4_first (.code yX4_first cX4_first 2 (some .int) :: lw_g) { frames := 0, cells := 0, slots := 0, locals := 0 } (va_Pc [.ref (b + 9), .int w1] (zx_w g σ)) (va_Qi (fun r u => ∃ y2 : Int32, r = y2 ∧ u = σ) (zx_w g) (gx_Q g)) 0 0 (gx_Q g) := by
  refine z_met (by decide) (Nat.le_of_ble_eq_true rfl) (fun p e s m below meth c B hr hin => ?_)
  refine z_eqs (σ' := (ap b σ [] [] [])) rfl ?_
  show zx p l e _ s m _ below meth c g 2 0 0 _ _ 0 [(0, .ref (b + 9)), (1, .int w1)] []
  refine z_iload_n B dX4_first_0 rfl 1 rfl ?_
  refine z_if_lt (tgt := 22) B dX4_first_1 (by decide) (fun h => absurd h (iv_nlt q1_w1 (by decide))) (fun _ => ?_)
  refine z_iload_n B dX4_first_4 rfl 1 rfl ?_
  refine z_aload_n B dX4_first_5 rfl 0 rfl ?_
  refine gf_X4_15 (x := (some (b + 11))) B (lKA (hk_K hK 9 rfl rfl)) (rR_at 9 2 hR_9_2) dX4_first_6 ?_
  refine z_alen (kd := 13) (ti := 1) (v := 20) B (lKA (hk_K hK 11 rfl rfl)) (by decide) rfl (congrArg Int32.ofNat (lNA (hk_N hK 11 rfl rfl))) dX4_first_9 ?_
  refine z_icmp_ge (tgt := 22) B dX4_first_10 (by decide) (fun h => absurd h (iv_nge q2_w1 (by decide))) (fun _ => ?_)
  refine z_aload_n B dX4_first_13 rfl 0 rfl ?_
  refine gf_X4_15 (x := (some (b + 11))) B (lKA (hk_K hK 9 rfl rfl)) (rR_at 9 2 hR_9_2) dX4_first_14 ?_
  refine z_iload_n B dX4_first_17 rfl 1 rfl ?_
  refine z_iald (j := w1.toNatClampNeg) B (lKA (hk_K hK 11 rfl rfl)) rfl (in_of (lNA (hk_N hK 11 rfl rfl)) (iv_in q1_w1 q2_w1 (by decide) (by decide))) rfl dX4_first_18 ?_
  refine z_topi (fun y2 e_y2 => ?_)
  refine z_goto (tgt := 23) B dX4_first_19 (by decide) ?_
  exact z_iret B hr (by decide) (by decide) dX4_first_23 ⟨y2, rfl, rfl⟩
set_option maxRecDepth 100000 in
set_option maxHeartbeats 4000000 in
theorem ci_X4_second_408 (l : Launch) {g : gx_T} {σ : sx_T} {b : Nat} (hK : lay b σ) (w1 : Int32) (q1_w1 : (0 : Int) ≤ w1.toInt) (q2_w1 : w1.toInt ≤ (19 : Int)) (hR_9_3 : sx_R σ (b + 9) 3 = (some (b + 12))) : Met l yX4_second (.code yX4_second cX4_second 2 (some .int) :: lw_g) { frames := 0, cells := 0, slots := 0, locals := 0 } (va_Pc [.ref (b + 9), .int w1] (zx_w g σ)) (va_Qi (fun r u => ∃ y3 : Int32, r = y3 ∧ u = σ) (zx_w g) (gx_Q g)) 0 0 (gx_Q g) := by
  refine z_met (by decide) (Nat.le_of_ble_eq_true rfl) (fun p e s m below meth c B hr hin => ?_)
  refine z_eqs (σ' := (ap b σ [] [] [])) rfl ?_
  show zx p l e _ s m _ below meth c g 2 0 0 _ _ 0 [(0, .ref (b + 9)), (1, .int w1)] []
  refine z_iload_n B dX4_second_0 rfl 1 rfl ?_
  refine z_if_lt (tgt := 22) B dX4_second_1 (by decide) (fun h => absurd h (iv_nlt q1_w1 (by decide))) (fun _ => ?_)
  refine z_iload_n B dX4_second_4 rfl 1 rfl ?_
  refine z_aload_n B dX4_second_5 rfl 0 rfl ?_
  refine gf_X4_18 (x := (some (b + 12))) B (lKA (hk_K hK 9 rfl rfl)) (rR_at 9 3 hR_9_3) dX4_second_6 ?_
  refine z_alen (kd := 13) (ti := 1) (v := 20) B (lKA (hk_K hK 12 rfl rfl)) (by decide) rfl (congrArg Int32.ofNat (lNA (hk_N hK 12 rfl rfl))) dX4_second_9 ?_
  refine z_icmp_ge (tgt := 22) B dX4_second_10 (by decide) (fun h => absurd h (iv_nge q2_w1 (by decide))) (fun _ => ?_)
  refine z_aload_n B dX4_second_13 rfl 0 rfl ?_
  refine gf_X4_18 (x := (some (b + 12))) B (lKA (hk_K hK 9 rfl rfl)) (rR_at 9 3 hR_9_3) dX4_second_14 ?_
  refine z_iload_n B dX4_second_17 rfl 1 rfl ?_
  refine z_iald (j := w1.toNatClampNeg) B (lKA (hk_K hK 12 rfl rfl)) rfl (in_of (lNA (hk_N hK 12 rfl rfl)) (iv_in q1_w1 q2_w1 (by decide) (by decide))) rfl dX4_second_18 ?_
  refine z_topi (fun y3 e_y3 => ?_)
  refine z_goto (tgt := 23) B dX4_second_19 (by decide) ?_
  exact z_iret B hr (by decide) (by decide) dX4_second_23 ⟨y3, rfl, rfl⟩
set_option maxRecDepth 100000 in
set_option maxHeartbeats 4000000 in
theorem ci_X8_check_409 (l : Launch) {g : gx_T} {σ : sx_T} {b : Nat} (hK : lay b σ) (w1 : Int32) (w2 : Int32) (w3 : Int32) (w4 : Int32) (q1_w1 : (0 : Int) ≤ w1.toInt) (q2_w1 : w1.toInt ≤ (19 : Int)) (q1_w2 : (0 : Int) ≤ w2.toInt) (q2_w2 : w2.toInt ≤ (17 : Int)) (q1_w3 : (0 : Int) ≤ w3.toInt) (q2_w3 : w3.toInt ≤ (99 : Int)) (q1_w4 : (0 : Int) ≤ w4.toInt) (q2_w4 : w4.toInt ≤ (99 : Int)) (hI_0_7 : sx_I σ (b + 0) 7 = 0) (hR_0_0 : sx_R σ (b + 0) 0 = (some (b + 1))) (hR_1_0 : sx_R σ (b + 1) 0 = (some (b + 9))) (hR_9_1 : sx_R σ (b + 9) 1 = (some (b + 10))) (hR_9_2 : sx_R σ (b + 9) 2 = (some (b + 11))) (hR_9_3 : sx_R σ (b + 9) 3 = (some (b + 12))) : Met l yX8_check (.code yX8_check cX8_check 13 (some .int) :: lw_g) { frames := 2, cells := 0, slots := 0, locals := 43 } (va_Pc [.ref (b + 0), .int 0, .int w1, .int w2, .int w3, .int w4] (zx_w g σ)) (va_Qi (fun r u => ∃ y1 y2 y3 : Int32, r = 0 ∧ u = (ap b (wx_I (ap b (wx_I (ap b (wx_I (ap b (ap b (wx_I (ap b (wx_I (ap b (wx_I (ap b (ap b σ [] [] []) [] [] []) (b + 10) w1.toNatClampNeg w2) [] [] []) (b + 11) w1.toNatClampNeg w3) [] [] []) (b + 12) w1.toNatClampNeg w4) [] [] []) [] [] []) (b + 10) w1.toNatClampNeg y1) [] [] []) (b + 11) w1.toNatClampNeg y2) [] [] []) (b + 12) w1.toNatClampNeg y3) [] [] [])) (zx_w g) (gx_Q g)) 0 0 (gx_Q g) := by
  refine z_met (by decide) (Nat.le_of_ble_eq_true rfl) (fun p e s m below meth c B hr hin => ?_)
  refine z_eqs (σ' := (ap b σ [] [] [])) rfl ?_
  show zx p l e _ s m _ below meth c g 13 0 0 _ _ 0 [(0, .ref (b + 0)), (1, .int 0), (2, .int w1), (3, .int w2), (4, .int w3), (5, .int w4)] []
  refine z_aload_n B dX8_check_0 rfl 0 rfl ?_
  refine z_iload_n B dX8_check_1 rfl 1 rfl ?_
  refine z_cVq (As := [.int 0]) (rest := []) B cw_X8_64 cx_9 dX8_check_2 (ci_X8_programAt_50 l (σ := (ap b σ [] [] [])) (b := b) (lyA hK) (rR_at 0 0 hR_0_0) (rR_at 1 0 hR_1_0)) (lKA (hk_K hK 0 rfl rfl)) rfl (by decide) rfl (Nat.le_of_ble_eq_true rfl) (by decide) (fun r u hu => ?_)
  refine z_eqs (σ' := (ap b σ [] [] [])) hu.2 ?_
  show zx p l e _ s m _ below meth c g 13 0 0 _ _ 5 [(0, .ref (b + 0)), (1, .int 0), (2, .int w1), (3, .int w2), (4, .int w3), (5, .int w4)] _
  refine z_setr (y := (some (b + 9))) hu.1 ?_
  refine z_astore (lv' := [(6, .ref (b + 9)), (0, .ref (b + 0)), (1, .int 0), (2, .int w1), (3, .int w2), (4, .int w3), (5, .int w4)]) B dX8_check_5 (by decide) rfl ?_
  refine z_aload B dX8_check_7 0 rfl ?_
  refine z_ifnull (r := (some (b + 9))) (tgt := 21) B dX8_check_9 (by decide) (fun h => nomatch h) (fun _ _ => ?_)
  refine z_iload_n B dX8_check_12 rfl 3 rfl ?_
  refine z_bipush (v := 20) B dX8_check_13 (by decide) ?_
  refine z_cSi (As := [.int w1, .int 20]) (rest := []) B cw_X8_68 dX8_check_15 (ci_X8_isBelow_64 l (σ := (ap b σ [] [] [])) (b := b) (lyA hK) w1 q1_w1 q2_w1) rfl (by decide) rfl (Nat.le_of_ble_eq_true rfl) (by decide) (fun r u hu => ?_)
  refine z_eqs (σ' := (ap b σ [] [] [])) hu.2 ?_
  show zx p l e _ s m _ below meth c g 13 0 0 _ _ 18 [(6, .ref (b + 9)), (0, .ref (b + 0)), (1, .int 0), (2, .int w1), (3, .int w2), (4, .int w3), (5, .int w4)] _
  refine z_seti (y := 1) hu.1 ?_
  refine z_if_ne (tgt := 31) B dX8_check_18 (by decide) (fun _ => ?_) (fun h => absurd h (by decide))
  refine z_iload_n B dX8_check_31 rfl 4 rfl ?_
  refine z_iload B dX8_check_32 5 rfl ?_
  refine z_iload B dX8_check_34 6 rfl ?_
  refine z_cSi (As := [.int w2, .int w3, .int w4]) (rest := []) B cw_X8_79 dX8_check_36 (ci_X8_isStep_85 l (σ := (ap b σ [] [] [])) (b := b) (lyA hK) w2 w3 w4 q1_w2 q2_w2 q1_w3 q2_w3 q1_w4 q2_w4) rfl (by decide) rfl (Nat.le_of_ble_eq_true rfl) (by decide) (fun r u hu => ?_)
  refine z_eqs (σ' := (ap b σ [] [] [])) hu.2 ?_
  show zx p l e _ s m _ below meth c g 13 0 0 _ _ 39 [(6, .ref (b + 9)), (0, .ref (b + 0)), (1, .int 0), (2, .int w1), (3, .int w2), (4, .int w3), (5, .int w4)] _
  refine z_seti (y := 1) hu.1 ?_
  refine z_if_ne (tgt := 52) B dX8_check_39 (by decide) (fun _ => ?_) (fun h => absurd h (by decide))
  refine z_aload B dX8_check_52 0 rfl ?_
  refine z_iload_n B dX8_check_54 rfl 3 rfl ?_
  refine z_cVi (As := [.int w1]) (rest := []) B cw_X8_119 cx_5 dX8_check_55 (ci_X4_operation_406 l (σ := (ap b σ [] [] [])) (b := b) (lyA hK) w1 q1_w1 q2_w1 (rR_at 9 1 hR_9_1)) (lKA (hk_K hK 9 rfl rfl)) rfl (by decide) rfl (Nat.le_of_ble_eq_true rfl) (by decide) (fun r u hu => ?_)
  obtain ⟨y1, hu⟩ := hu
  refine z_eqs (σ' := (ap b σ [] [] [])) hu.2 ?_
  show zx p l e _ s m _ below meth c g 13 0 0 _ _ 58 [(6, .ref (b + 9)), (0, .ref (b + 0)), (1, .int 0), (2, .int w1), (3, .int w2), (4, .int w3), (5, .int w4)] _
  refine z_seti (y := y1) hu.1 ?_
  refine z_istore (lv' := [(7, .int y1), (6, .ref (b + 9)), (0, .ref (b + 0)), (1, .int 0), (2, .int w1), (3, .int w2), (4, .int w3), (5, .int w4)]) B dX8_check_58 (by decide) rfl ?_
  refine z_aload B dX8_check_60 1 rfl ?_
  refine z_iload_n B dX8_check_62 rfl 4 rfl ?_
  refine z_cVi (As := [.int w1]) (rest := []) B cw_X8_123 cx_5 dX8_check_63 (ci_X4_first_407 l (σ := (ap b σ [] [] [])) (b := b) (lyA hK) w1 q1_w1 q2_w1 (rR_at 9 2 hR_9_2)) (lKA (hk_K hK 9 rfl rfl)) rfl (by decide) rfl (Nat.le_of_ble_eq_true rfl) (by decide) (fun r u hu => ?_)
  obtain ⟨y2, hu⟩ := hu
  refine z_eqs (σ' := (ap b σ [] [] [])) hu.2 ?_
  show zx p l e _ s m _ below meth c g 13 0 0 _ _ 66 [(7, .int y1), (6, .ref (b + 9)), (0, .ref (b + 0)), (1, .int 0), (2, .int w1), (3, .int w2), (4, .int w3), (5, .int w4)] _
  refine z_seti (y := y2) hu.1 ?_
  refine z_istore (lv' := [(8, .int y2), (7, .int y1), (6, .ref (b + 9)), (0, .ref (b + 0)), (1, .int 0), (2, .int w1), (3, .int w2), (4, .int w3), (5, .int w4)]) B dX8_check_66 (by decide) rfl ?_
  refine z_aload B dX8_check_68 2 rfl ?_
  refine z_iload_n B dX8_check_70 rfl 5 rfl ?_
  refine z_cVi (As := [.int w1]) (rest := []) B cw_X8_126 cx_5 dX8_check_71 (ci_X4_second_408 l (σ := (ap b σ [] [] [])) (b := b) (lyA hK) w1 q1_w1 q2_w1 (rR_at 9 3 hR_9_3)) (lKA (hk_K hK 9 rfl rfl)) rfl (by decide) rfl (Nat.le_of_ble_eq_true rfl) (by decide) (fun r u hu => ?_)
  obtain ⟨y3, hu⟩ := hu
  refine z_eqs (σ' := (ap b σ [] [] [])) hu.2 ?_
  show zx p l e _ s m _ below meth c g 13 0 0 _ _ 74 [(8, .int y2), (7, .int y1), (6, .ref (b + 9)), (0, .ref (b + 0)), (1, .int 0), (2, .int w1), (3, .int w2), (4, .int w3), (5, .int w4)] _
  refine z_seti (y := y3) hu.1 ?_
  refine z_istore (lv' := [(9, .int y3), (8, .int y2), (7, .int y1), (6, .ref (b + 9)), (0, .ref (b + 0)), (1, .int 0), (2, .int w1), (3, .int w2), (4, .int w3), (5, .int w4)]) B dX8_check_74 (by decide) rfl ?_
  refine z_aload B dX8_check_76 3 rfl ?_
  refine z_iload_n B dX8_check_78 rfl 6 rfl ?_
  refine z_iload_n B dX8_check_79 rfl 7 rfl ?_
  refine z_iload B dX8_check_80 8 rfl ?_
  refine z_iload B dX8_check_82 9 rfl ?_
  refine z_cVv (As := [.int w1, .int w2, .int w3, .int w4]) (rest := []) B cw_X8_88 cx_5 dX8_check_84 (ci_X4_put_86 l (σ := (ap b σ [] [] [])) (b := b) (lyA hK) w1 w2 w3 w4 q1_w1 q2_w1 (rR_at 9 1 hR_9_1) (rR_at 9 2 hR_9_2) (rR_at 9 3 hR_9_3)) (lKA (hk_K hK 9 rfl rfl)) rfl (by decide) rfl (Nat.le_of_ble_eq_true rfl) (by decide) (fun u hu => ?_)
  refine z_eqs (σ' := (ap b (wx_I (ap b (wx_I (ap b (wx_I (ap b (ap b σ [] [] []) [] [] []) (b + 10) w1.toNatClampNeg w2) [] [] []) (b + 11) w1.toNatClampNeg w3) [] [] []) (b + 12) w1.toNatClampNeg w4) [] [] [])) hu ?_
  show zx p l e _ s m _ below meth c g 13 0 0 _ _ 87 [(9, .int y3), (8, .int y2), (7, .int y1), (6, .ref (b + 9)), (0, .ref (b + 0)), (1, .int 0), (2, .int w1), (3, .int w2), (4, .int w3), (5, .int w4)] _
  refine z_iconst (v := 0) B dX8_check_87 (by decide) ?_
  refine z_istore (lv' := [(10, .int 0), (9, .int y3), (8, .int y2), (7, .int y1), (6, .ref (b + 9)), (0, .ref (b + 0)), (1, .int 0), (2, .int w1), (3, .int w2), (4, .int w3), (5, .int w4)]) B dX8_check_88 (by decide) rfl ?_
  refine z_iconst (v := 0) B dX8_check_90 (by decide) ?_
  refine z_istore (lv' := [(11, .int 0), (10, .int 0), (9, .int y3), (8, .int y2), (7, .int y1), (6, .ref (b + 9)), (0, .ref (b + 0)), (1, .int 0), (2, .int w1), (3, .int w2), (4, .int w3), (5, .int w4)]) B dX8_check_91 (by decide) rfl ?_
  refine z_iload B dX8_check_93 0 rfl ?_
  refine z_aload_n B dX8_check_95 rfl 6 rfl ?_
  refine gf_X8_96 (x := 0) B (lKA (lKW (lKA (lKW (lKA (lKW (lKA (lKA (hk_K hK 0 rfl rfl))))))))) (rI_at 0 7 ((ux_a (by omega)).trans (rI_at 0 7 ((ux_a (by omega)).trans (rI_at 0 7 ((ux_a (by omega)).trans (rI_at 0 7 (rI_at 0 7 hI_0_7)))))))) dX8_check_96 ?_
  refine z_icmp_ge (tgt := 154) B dX8_check_99 (by decide) (fun _ => ?_) (fun h => absurd (by decide) h)
  refine z_aload B dX8_check_154 5 rfl ?_
  refine z_iload_n B dX8_check_156 rfl 8 rfl ?_
  refine z_iload B dX8_check_157 4 rfl ?_
  refine z_iload B dX8_check_159 3 rfl ?_
  refine z_iload B dX8_check_161 2 rfl ?_
  refine z_cVv (As := [.int w1, .int y1, .int y2, .int y3]) (rest := []) B cw_X8_88 cx_5 dX8_check_163 (ci_X4_put_86 l (σ := (ap b (wx_I (ap b (wx_I (ap b (wx_I (ap b (ap b σ [] [] []) [] [] []) (b + 10) w1.toNatClampNeg w2) [] [] []) (b + 11) w1.toNatClampNeg w3) [] [] []) (b + 12) w1.toNatClampNeg w4) [] [] [])) (b := b) (lyA (lyW (lyA (lyW (lyA (lyW (lyA (lyA hK)))))))) w1 y1 y2 y3 q1_w1 q2_w1 (rR_at 9 1 (rR_w (rR_at 9 1 (rR_w (rR_at 9 1 (rR_w (rR_at 9 1 (rR_at 9 1 hR_9_1)))))))) (rR_at 9 2 (rR_w (rR_at 9 2 (rR_w (rR_at 9 2 (rR_w (rR_at 9 2 (rR_at 9 2 hR_9_2)))))))) (rR_at 9 3 (rR_w (rR_at 9 3 (rR_w (rR_at 9 3 (rR_w (rR_at 9 3 (rR_at 9 3 hR_9_3))))))))) (lKA (lKW (lKA (lKW (lKA (lKW (lKA (lKA (hk_K hK 9 rfl rfl))))))))) rfl (by decide) rfl (Nat.le_of_ble_eq_true rfl) (by decide) (fun u hu => ?_)
  refine z_eqs (σ' := (ap b (wx_I (ap b (wx_I (ap b (wx_I (ap b (ap b (wx_I (ap b (wx_I (ap b (wx_I (ap b (ap b σ [] [] []) [] [] []) (b + 10) w1.toNatClampNeg w2) [] [] []) (b + 11) w1.toNatClampNeg w3) [] [] []) (b + 12) w1.toNatClampNeg w4) [] [] []) [] [] []) (b + 10) w1.toNatClampNeg y1) [] [] []) (b + 11) w1.toNatClampNeg y2) [] [] []) (b + 12) w1.toNatClampNeg y3) [] [] [])) hu ?_
  show zx p l e _ s m _ below meth c g 13 0 0 _ _ 166 [(11, .int 0), (10, .int 0), (9, .int y3), (8, .int y2), (7, .int y1), (6, .ref (b + 9)), (0, .ref (b + 0)), (1, .int 0), (2, .int w1), (3, .int w2), (4, .int w3), (5, .int w4)] _
  refine z_iload B dX8_check_166 1 rfl ?_
  exact z_iret B hr (by decide) (by decide) dX8_check_168 ⟨y1, y2, y3, rfl, rfl⟩
set_option maxRecDepth 100000 in
set_option maxHeartbeats 4000000 in
theorem ci_L_check_410 (l : Launch) {g : gx_T} {σ : sx_T} {b : Nat} (hK : lay b σ) (w1 : Int32) (w2 : Int32) (w3 : Int32) (w4 : Int32) (q1_w1 : (0 : Int) ≤ w1.toInt) (q2_w1 : w1.toInt ≤ (19 : Int)) (q1_w2 : (0 : Int) ≤ w2.toInt) (q2_w2 : w2.toInt ≤ (17 : Int)) (q1_w3 : (0 : Int) ≤ w3.toInt) (q2_w3 : w3.toInt ≤ (99 : Int)) (q1_w4 : (0 : Int) ≤ w4.toInt) (q2_w4 : w4.toInt ≤ (99 : Int)) (hI_0_7 : sx_I σ (b + 0) 7 = 0) (hR_0_0 : sx_R σ (b + 0) 0 = (some (b + 1))) (hR_1_0 : sx_R σ (b + 1) 0 = (some (b + 9))) (hR_9_1 : sx_R σ (b + 9) 1 = (some (b + 10))) (hR_9_2 : sx_R σ (b + 9) 2 = (some (b + 11))) (hR_9_3 : sx_R σ (b + 9) 3 = (some (b + 12))) : Met l yL_check (.codeWith yL_check cL_check 8 (some .int) [(0, 16, 19, 13), (0, 16, 23, 15)] :: lw_g) { frames := 3, cells := 0, slots := 0, locals := 75 } (va_Pc [.ref (b + 0), .int 0, .int w1, .int w2, .int w3, .int w4, .ref (b + 431)] (zx_w g σ)) (va_Qi (fun r u => ∃ y1 y2 y3 : Int32, r = 0 ∧ u = (ap b (wx_I (ap b (wx_I (ap b (wx_I (ap b (ap b (wx_I (ap b (wx_I (ap b (wx_I (ap b (ap b (ap b σ [] [] []) [] [] []) [] [] []) (b + 10) w1.toNatClampNeg w2) [] [] []) (b + 11) w1.toNatClampNeg w3) [] [] []) (b + 12) w1.toNatClampNeg w4) [] [] []) [] [] []) (b + 10) w1.toNatClampNeg y1) [] [] []) (b + 11) w1.toNatClampNeg y2) [] [] []) (b + 12) w1.toNatClampNeg y3) [] [(431, 0, 0)] [])) (zx_w g) (gx_Q g)) 0 0 (gx_Q g) := by
  refine z_metW (by decide) (Nat.le_of_ble_eq_true rfl) (fun p e s m below meth c B hr htab => ?_)
  refine z_eqs (σ' := (ap b σ [] [] [])) rfl ?_
  show zx p l e _ s m _ below meth c g 8 0 0 _ _ 0 [(0, .ref (b + 0)), (1, .int 0), (2, .int w1), (3, .int w2), (4, .int w3), (5, .int w4), (6, .ref (b + 431))] []
  refine z_aload B dL_check_0 6 rfl ?_
  refine z_iconst (v := 0) B dL_check_2 (by decide) ?_
  refine z_aload_n B dL_check_3 rfl 0 rfl ?_
  refine z_iload_n B dL_check_4 rfl 1 rfl ?_
  refine z_iload_n B dL_check_5 rfl 2 rfl ?_
  refine z_iload_n B dL_check_6 rfl 3 rfl ?_
  refine z_iload B dL_check_7 4 rfl ?_
  refine z_iload B dL_check_9 5 rfl ?_
  refine z_cVi (As := [.int 0, .int w1, .int w2, .int w3, .int w4]) (rest := [.int 0, .ref (b + 431)]) B cw_L_17 cx_9 dL_check_11 (ci_X8_check_409 l (σ := (ap b σ [] [] [])) (b := b) (lyA hK) w1 w2 w3 w4 q1_w1 q2_w1 q1_w2 q2_w2 q1_w3 q2_w3 q1_w4 q2_w4 (rI_at 0 7 hI_0_7) (rR_at 0 0 hR_0_0) (rR_at 1 0 hR_1_0) (rR_at 9 1 hR_9_1) (rR_at 9 2 hR_9_2) (rR_at 9 3 hR_9_3)) (lKA (hk_K hK 0 rfl rfl)) rfl (by decide) rfl (Nat.le_of_ble_eq_true rfl) (by decide) (fun r u hu => ?_)
  obtain ⟨y1, y2, y3, hu⟩ := hu
  refine z_eqs (σ' := (ap b (wx_I (ap b (wx_I (ap b (wx_I (ap b (ap b (wx_I (ap b (wx_I (ap b (wx_I (ap b (ap b (ap b σ [] [] []) [] [] []) [] [] []) (b + 10) w1.toNatClampNeg w2) [] [] []) (b + 11) w1.toNatClampNeg w3) [] [] []) (b + 12) w1.toNatClampNeg w4) [] [] []) [] [] []) (b + 10) w1.toNatClampNeg y1) [] [] []) (b + 11) w1.toNatClampNeg y2) [] [] []) (b + 12) w1.toNatClampNeg y3) [] [] [])) hu.2 ?_
  show zx p l e _ s m _ below meth c g 8 0 0 _ _ 14 [(0, .ref (b + 0)), (1, .int 0), (2, .int w1), (3, .int w2), (4, .int w3), (5, .int w4), (6, .ref (b + 431))] _
  refine z_seti (y := 0) hu.1 ?_
  refine z_i2l (v := 0) B dL_check_14 (by decide) ?_
  refine z_last (j := 0) (σ' := (ap b (wx_I (ap b (wx_I (ap b (wx_I (ap b (ap b (wx_I (ap b (wx_I (ap b (wx_I (ap b (ap b (ap b σ [] [] []) [] [] []) [] [] []) (b + 10) w1.toNatClampNeg w2) [] [] []) (b + 11) w1.toNatClampNeg w3) [] [] []) (b + 12) w1.toNatClampNeg w4) [] [] []) [] [] []) (b + 10) w1.toNatClampNeg y1) [] [] []) (b + 11) w1.toNatClampNeg y2) [] [] []) (b + 12) w1.toNatClampNeg y3) [] [(431, 0, 0)] [])) B (lKA (lKW (lKA (lKW (lKA (lKW (lKA (lKA (lKW (lKA (lKW (lKA (lKW (lKA (lKA (lKA (hk_K hK 431 rfl rfl))))))))))))))))) (by decide) (in_of (lNA (lNW (lNA (lNW (lNA (lNW (lNA (lNA (lNW (lNA (lNW (lNA (lNW (lNA (lNA (lNA (hk_N hK 431 rfl rfl))))))))))))))))) (show ¬ ((0 : Int32) < 0 ∨ 1 ≤ (0 : Int32).toNatClampNeg) by decide)) wJ_ap dL_check_15 ?_
  refine z_goto (tgt := 27) B dL_check_16 (by decide) ?_
  refine z_iconst (v := 0) B dL_check_27 (by decide) ?_
  exact z_iret B hr (by decide) (by decide) dL_check_28 ⟨y1, y2, y3, rfl, rfl⟩
set_option maxRecDepth 100000 in
set_option maxHeartbeats 4000000 in
theorem ci_X9_check_411 (l : Launch) {g : gx_T} {σ : sx_T} {b : Nat} (hK : lay b σ) (w1 : Int32) (w2 : Int32) (w3 : Int32) (w4 : Int32) (q1_w1 : (0 : Int) ≤ w1.toInt) (q2_w1 : w1.toInt ≤ (19 : Int)) (q1_w2 : (0 : Int) ≤ w2.toInt) (q2_w2 : w2.toInt ≤ (17 : Int)) (q1_w3 : (0 : Int) ≤ w3.toInt) (q2_w3 : w3.toInt ≤ (99 : Int)) (q1_w4 : (0 : Int) ≤ w4.toInt) (q2_w4 : w4.toInt ≤ (99 : Int)) (hI_405_6 : sx_I σ (b + 405) 6 = 0) (hR_405_3 : sx_R σ (b + 405) 3 = (some (b + 406))) (hR_405_4 : sx_R σ (b + 405) 4 = (some (b + 407))) (hR_405_5 : sx_R σ (b + 405) 5 = (some (b + 408))) : Met l yX9_check (.code yX9_check cX9_check 11 (some .int) :: lw_g) { frames := 2, cells := 0, slots := 0, locals := 44 } (va_Pc [.ref (b + 405), .int 0, .int w1, .int w2, .int w3, .int w4] (zx_w g σ)) (va_Qi (fun r u => ∃ y4 y5 y6 : Int32, r = 0 ∧ u = (ap b (wx_I (ap b (wx_I (ap b (wx_I (ap b (ap b (wx_I (ap b (wx_I (ap b (wx_I (ap b (ap b σ [(405, 0, 0)] [] []) [] [] []) (b + 406) (0 + w1).toNatClampNeg w2) [] [] []) (b + 407) (0 + w1).toNatClampNeg w3) [] [] []) (b + 408) (0 + w1).toNatClampNeg w4) [] [] []) [] [] []) (b + 406) (0 + w1).toNatClampNeg y4) [] [] []) (b + 407) (0 + w1).toNatClampNeg y5) [] [] []) (b + 408) (0 + w1).toNatClampNeg y6) [] [] [])) (zx_w g) (gx_Q g)) 0 0 (gx_Q g) := by
  refine z_met (by decide) (Nat.le_of_ble_eq_true rfl) (fun p e s m below meth c B hr hin => ?_)
  refine z_eqs (σ' := (ap b σ [] [] [])) rfl ?_
  show zx p l e _ s m _ below meth c g 11 0 0 _ _ 0 [(0, .ref (b + 405)), (1, .int 0), (2, .int w1), (3, .int w2), (4, .int w3), (5, .int w4)] []
  refine z_aload_n B dX9_check_0 rfl 0 rfl ?_
  refine z_iload_n B dX9_check_1 rfl 1 rfl ?_
  refine z_iload_n B dX9_check_2 rfl 2 rfl ?_
  refine z_cSi (As := [.int 0, .int w1]) (rest := [.ref (b + 405)]) B cw_X9_238 dX9_check_3 (ci_X9_isStep_70 l (σ := (ap b σ [] [] [])) (b := b) (lyA hK) w1 q1_w1 q2_w1) rfl (by decide) rfl (Nat.le_of_ble_eq_true rfl) (by decide) (fun r u hu => ?_)
  refine z_eqs (σ' := (ap b σ [] [] [])) hu.2 ?_
  show zx p l e _ s m _ below meth c g 11 0 0 _ _ 6 [(0, .ref (b + 405)), (1, .int 0), (2, .int w1), (3, .int w2), (4, .int w3), (5, .int w4)] _
  refine z_seti (y := 1) hu.1 ?_
  refine z_iload_n B dX9_check_6 rfl 3 rfl ?_
  refine z_iload B dX9_check_7 4 rfl ?_
  refine z_iload B dX9_check_9 5 rfl ?_
  refine z_cSi (As := [.int w2, .int w3, .int w4]) (rest := [.int 1, .ref (b + 405)]) B cw_X9_242 dX9_check_11 (ci_X9_isOperation_39 l (σ := (ap b σ [] [] [])) (b := b) (lyA hK) w2 w3 w4 q1_w2 q2_w2 q1_w3 q2_w3 q1_w4 q2_w4) rfl (by decide) rfl (Nat.le_of_ble_eq_true rfl) (by decide) (fun r u hu => ?_)
  refine z_eqs (σ' := (ap b σ [] [] [])) hu.2 ?_
  show zx p l e _ s m _ below meth c g 11 0 0 _ _ 14 [(0, .ref (b + 405)), (1, .int 0), (2, .int w1), (3, .int w2), (4, .int w3), (5, .int w4)] _
  refine z_seti (y := 1) hu.1 ?_
  refine z_cVi (As := [.int 1, .int 1]) (rest := []) B cw_X9_245 cx_10 dX9_check_14 (ci_X9_needs__91 l (σ := (ap b σ [] [] [])) (b := b) (lyA hK) ) (lKA (hk_K hK 405 rfl rfl)) rfl (by decide) rfl (Nat.le_of_ble_eq_true rfl) (by decide) (fun r u hu => ?_)
  refine z_eqs (σ' := (ap b σ [(405, 0, 0)] [] [])) (hu.2.trans ap_ap) ?_
  show zx p l e _ s m _ below meth c g 11 0 0 _ _ 17 [(0, .ref (b + 405)), (1, .int 0), (2, .int w1), (3, .int w2), (4, .int w3), (5, .int w4)] _
  refine z_seti (y := 1) hu.1 ?_
  refine z_if_ne (tgt := 22) B dX9_check_17 (by decide) (fun _ => ?_) (fun h => absurd h (by decide))
  refine z_bipush (v := 20) B dX9_check_22 (by decide) ?_
  refine z_iload_n B dX9_check_24 rfl 1 rfl ?_
  refine z_imul B dX9_check_25 ?_
  refine z_seti (y := 0) (by decide) ?_
  refine z_iload_n B dX9_check_26 rfl 2 rfl ?_
  refine z_iadd B dX9_check_27 ?_
  refine z_istore (lv' := [(6, .int (0 + w1)), (0, .ref (b + 405)), (1, .int 0), (2, .int w1), (3, .int w2), (4, .int w3), (5, .int w4)]) B dX9_check_28 (by decide) rfl ?_
  refine z_aload_n B dX9_check_30 rfl 1 rfl ?_
  refine gf_X9_13 (x := (some (b + 406))) B (lKA (hk_K hK 405 rfl rfl)) (rR_at 405 3 hR_405_3) dX9_check_31 ?_
  refine z_iload B dX9_check_34 0 rfl ?_
  refine z_iald (j := (0 + w1).toNatClampNeg) B (lKA (hk_K hK 406 rfl rfl)) rfl (in_of (lNA (hk_N hK 406 rfl rfl)) (iv_inadd q1_w1 q2_w1 (by decide) (by decide))) rfl dX9_check_36 ?_
  refine z_topi (fun y4 e_y4 => ?_)
  refine z_istore (lv' := [(7, .int y4), (6, .int (0 + w1)), (0, .ref (b + 405)), (1, .int 0), (2, .int w1), (3, .int w2), (4, .int w3), (5, .int w4)]) B dX9_check_37 (by decide) rfl ?_
  refine z_aload_n B dX9_check_39 rfl 2 rfl ?_
  refine gf_X9_17 (x := (some (b + 407))) B (lKA (hk_K hK 405 rfl rfl)) (rR_at 405 4 hR_405_4) dX9_check_40 ?_
  refine z_iload B dX9_check_43 1 rfl ?_
  refine z_iald (j := (0 + w1).toNatClampNeg) B (lKA (hk_K hK 407 rfl rfl)) rfl (in_of (lNA (hk_N hK 407 rfl rfl)) (iv_inadd q1_w1 q2_w1 (by decide) (by decide))) rfl dX9_check_45 ?_
  refine z_topi (fun y5 e_y5 => ?_)
  refine z_istore (lv' := [(8, .int y5), (7, .int y4), (6, .int (0 + w1)), (0, .ref (b + 405)), (1, .int 0), (2, .int w1), (3, .int w2), (4, .int w3), (5, .int w4)]) B dX9_check_46 (by decide) rfl ?_
  refine z_aload_n B dX9_check_48 rfl 3 rfl ?_
  refine gf_X9_20 (x := (some (b + 408))) B (lKA (hk_K hK 405 rfl rfl)) (rR_at 405 5 hR_405_5) dX9_check_49 ?_
  refine z_iload B dX9_check_52 2 rfl ?_
  refine z_iald (j := (0 + w1).toNatClampNeg) B (lKA (hk_K hK 408 rfl rfl)) rfl (in_of (lNA (hk_N hK 408 rfl rfl)) (iv_inadd q1_w1 q2_w1 (by decide) (by decide))) rfl dX9_check_54 ?_
  refine z_topi (fun y6 e_y6 => ?_)
  refine z_istore (lv' := [(9, .int y6), (8, .int y5), (7, .int y4), (6, .int (0 + w1)), (0, .ref (b + 405)), (1, .int 0), (2, .int w1), (3, .int w2), (4, .int w3), (5, .int w4)]) B dX9_check_55 (by decide) rfl ?_
  refine z_aload_n B dX9_check_57 rfl 4 rfl ?_
  refine z_iload_n B dX9_check_58 rfl 5 rfl ?_
  refine z_iload_n B dX9_check_59 rfl 6 rfl ?_
  refine z_iload_n B dX9_check_60 rfl 7 rfl ?_
  refine z_iload B dX9_check_61 8 rfl ?_
  refine z_iload B dX9_check_63 9 rfl ?_
  refine z_cVv (As := [.int 0, .int w1, .int w2, .int w3, .int w4]) (rest := []) B cw_X9_249 cx_10 dX9_check_65 (ci_X9_lays_92 l (σ := (ap b σ [(405, 0, 0)] [] [])) (b := b) (lyA hK) w1 w2 w3 w4 q1_w1 q2_w1 (rR_at 405 3 hR_405_3) (rR_at 405 4 hR_405_4) (rR_at 405 5 hR_405_5)) (lKA (hk_K hK 405 rfl rfl)) rfl (by decide) rfl (Nat.le_of_ble_eq_true rfl) (by decide) (fun u hu => ?_)
  refine z_eqs (σ' := (ap b (wx_I (ap b (wx_I (ap b (wx_I (ap b (ap b σ [(405, 0, 0)] [] []) [] [] []) (b + 406) (0 + w1).toNatClampNeg w2) [] [] []) (b + 407) (0 + w1).toNatClampNeg w3) [] [] []) (b + 408) (0 + w1).toNatClampNeg w4) [] [] [])) hu ?_
  show zx p l e _ s m _ below meth c g 11 0 0 _ _ 68 [(9, .int y6), (8, .int y5), (7, .int y4), (6, .int (0 + w1)), (0, .ref (b + 405)), (1, .int 0), (2, .int w1), (3, .int w2), (4, .int w3), (5, .int w4)] _
  refine z_aload_n B dX9_check_68 rfl 4 rfl ?_
  refine z_iload_n B dX9_check_69 rfl 5 rfl ?_
  refine z_cVi (As := [.int 0]) (rest := []) B cw_X9_256 cx_10 dX9_check_70 (ci_X9_unfit_93 l (σ := (ap b (wx_I (ap b (wx_I (ap b (wx_I (ap b (ap b σ [(405, 0, 0)] [] []) [] [] []) (b + 406) (0 + w1).toNatClampNeg w2) [] [] []) (b + 407) (0 + w1).toNatClampNeg w3) [] [] []) (b + 408) (0 + w1).toNatClampNeg w4) [] [] [])) (b := b) (lyA (lyW (lyA (lyW (lyA (lyW (lyA (lyA hK)))))))) (rI_at 405 6 ((ux_a (by omega)).trans (rI_at 405 6 ((ux_a (by omega)).trans (rI_at 405 6 ((ux_a (by omega)).trans (rI_at 405 6 (rI_at 405 6 hI_405_6))))))))) (lKA (lKW (lKA (lKW (lKA (lKW (lKA (lKA (hk_K hK 405 rfl rfl))))))))) rfl (by decide) rfl (Nat.le_of_ble_eq_true rfl) (by decide) (fun r u hu => ?_)
  refine z_eqs (σ' := (ap b (wx_I (ap b (wx_I (ap b (wx_I (ap b (ap b σ [(405, 0, 0)] [] []) [] [] []) (b + 406) (0 + w1).toNatClampNeg w2) [] [] []) (b + 407) (0 + w1).toNatClampNeg w3) [] [] []) (b + 408) (0 + w1).toNatClampNeg w4) [] [] [])) hu.2 ?_
  show zx p l e _ s m _ below meth c g 11 0 0 _ _ 73 [(9, .int y6), (8, .int y5), (7, .int y4), (6, .int (0 + w1)), (0, .ref (b + 405)), (1, .int 0), (2, .int w1), (3, .int w2), (4, .int w3), (5, .int w4)] _
  refine z_seti (y := 0) hu.1 ?_
  refine z_istore (lv' := [(10, .int 0), (9, .int y6), (8, .int y5), (7, .int y4), (6, .int (0 + w1)), (0, .ref (b + 405)), (1, .int 0), (2, .int w1), (3, .int w2), (4, .int w3), (5, .int w4)]) B dX9_check_73 (by decide) rfl ?_
  refine z_aload_n B dX9_check_75 rfl 5 rfl ?_
  refine z_iload_n B dX9_check_76 rfl 6 rfl ?_
  refine z_iload_n B dX9_check_77 rfl 7 rfl ?_
  refine z_iload B dX9_check_78 3 rfl ?_
  refine z_iload B dX9_check_80 2 rfl ?_
  refine z_iload B dX9_check_82 1 rfl ?_
  refine z_cVv (As := [.int 0, .int w1, .int y4, .int y5, .int y6]) (rest := []) B cw_X9_249 cx_10 dX9_check_84 (ci_X9_lays_92 l (σ := (ap b (wx_I (ap b (wx_I (ap b (wx_I (ap b (ap b σ [(405, 0, 0)] [] []) [] [] []) (b + 406) (0 + w1).toNatClampNeg w2) [] [] []) (b + 407) (0 + w1).toNatClampNeg w3) [] [] []) (b + 408) (0 + w1).toNatClampNeg w4) [] [] [])) (b := b) (lyA (lyW (lyA (lyW (lyA (lyW (lyA (lyA hK)))))))) w1 y4 y5 y6 q1_w1 q2_w1 (rR_at 405 3 (rR_w (rR_at 405 3 (rR_w (rR_at 405 3 (rR_w (rR_at 405 3 (rR_at 405 3 hR_405_3)))))))) (rR_at 405 4 (rR_w (rR_at 405 4 (rR_w (rR_at 405 4 (rR_w (rR_at 405 4 (rR_at 405 4 hR_405_4)))))))) (rR_at 405 5 (rR_w (rR_at 405 5 (rR_w (rR_at 405 5 (rR_w (rR_at 405 5 (rR_at 405 5 hR_405_5))))))))) (lKA (lKW (lKA (lKW (lKA (lKW (lKA (lKA (hk_K hK 405 rfl rfl))))))))) rfl (by decide) rfl (Nat.le_of_ble_eq_true rfl) (by decide) (fun u hu => ?_)
  refine z_eqs (σ' := (ap b (wx_I (ap b (wx_I (ap b (wx_I (ap b (ap b (wx_I (ap b (wx_I (ap b (wx_I (ap b (ap b σ [(405, 0, 0)] [] []) [] [] []) (b + 406) (0 + w1).toNatClampNeg w2) [] [] []) (b + 407) (0 + w1).toNatClampNeg w3) [] [] []) (b + 408) (0 + w1).toNatClampNeg w4) [] [] []) [] [] []) (b + 406) (0 + w1).toNatClampNeg y4) [] [] []) (b + 407) (0 + w1).toNatClampNeg y5) [] [] []) (b + 408) (0 + w1).toNatClampNeg y6) [] [] [])) hu ?_
  show zx p l e _ s m _ below meth c g 11 0 0 _ _ 87 [(10, .int 0), (9, .int y6), (8, .int y5), (7, .int y4), (6, .int (0 + w1)), (0, .ref (b + 405)), (1, .int 0), (2, .int w1), (3, .int w2), (4, .int w3), (5, .int w4)] _
  refine z_iload B dX9_check_87 0 rfl ?_
  exact z_iret B hr (by decide) (by decide) dX9_check_89 ⟨y4, y5, y6, rfl, rfl⟩
set_option maxRecDepth 100000 in
set_option maxHeartbeats 4000000 in
theorem ci_X8_check_412 (l : Launch) (hlt : l.stackTraces = false) {g : gx_T} {σ : sx_T} {b : Nat} (hK : lay b σ) (w1 : Int32) (w2 : Int32) (w3 : Int32) (w4 : Int32) (q1_w1 : (0 : Int) ≤ w1.toInt) (q2_w1 : w1.toInt ≤ (19 : Int)) (q1_w2 : (0 : Int) ≤ w2.toInt) (q2_w2 : w2.toInt ≤ (17 : Int)) (q1_w3 : (0 : Int) ≤ w3.toInt) (q2_w3 : w3.toInt ≤ (99 : Int)) (q1_w4 : (100 : Int) ≤ w4.toInt) (q2_w4 : w4.toInt ≤ (2147483647 : Int)) (hR_0_0 : sx_R σ (b + 0) 0 = (some (b + 1))) (hR_1_0 : sx_R σ (b + 1) 0 = (some (b + 9))) : vx_Met l yX8_check (.code yX8_check cX8_check 13 (some .int) :: lw_g) { frames := 7, cells := 1, slots := 6, locals := 136 } (va_Pc [.ref (b + 0), .int 0, .int w1, .int w2, .int w3, .int w4] (zx_w g σ)) (va_Qi (S := sx_T) (fun _ _ => False) (zx_w g) (gx_Q g)) (vx_X (fun u : sx_T => ∃ z, u = wx_Z σ z) (fun E u t => E = "java/lang/IllegalArgumentException" ∧ zx_h g u t.heap) (gx_Q g)) 1 6 (gx_Q g) := by
  refine z_metX (by decide) (Nat.le_of_ble_eq_true rfl) (fun p e s m below meth c B hr hin hout => ?_)
  refine z_eqs (σ' := (ap b σ [] [] [])) rfl ?_
  show zx p l e _ s m _ below meth c g 13 0 0 _ _ 0 [(0, .ref (b + 0)), (1, .int 0), (2, .int w1), (3, .int w2), (4, .int w3), (5, .int w4)] []
  refine z_aload_n B dX8_check_0 rfl 0 rfl ?_
  refine z_iload_n B dX8_check_1 rfl 1 rfl ?_
  refine z_cVq (As := [.int 0]) (rest := []) B cw_X8_64 cx_9 dX8_check_2 (ci_X8_programAt_50 l (σ := (ap b σ [] [] [])) (b := b) (lyA hK) (rR_at 0 0 hR_0_0) (rR_at 1 0 hR_1_0)) (lKA (hk_K hK 0 rfl rfl)) rfl (by decide) rfl (Nat.le_of_ble_eq_true rfl) (by decide) (fun r u hu => ?_)
  refine z_eqs (σ' := (ap b σ [] [] [])) hu.2 ?_
  show zx p l e _ s m _ below meth c g 13 0 0 _ _ 5 [(0, .ref (b + 0)), (1, .int 0), (2, .int w1), (3, .int w2), (4, .int w3), (5, .int w4)] _
  refine z_setr (y := (some (b + 9))) hu.1 ?_
  refine z_astore (lv' := [(6, .ref (b + 9)), (0, .ref (b + 0)), (1, .int 0), (2, .int w1), (3, .int w2), (4, .int w3), (5, .int w4)]) B dX8_check_5 (by decide) rfl ?_
  refine z_aload B dX8_check_7 0 rfl ?_
  refine z_ifnull (r := (some (b + 9))) (tgt := 21) B dX8_check_9 (by decide) (fun h => nomatch h) (fun _ _ => ?_)
  refine z_iload_n B dX8_check_12 rfl 3 rfl ?_
  refine z_bipush (v := 20) B dX8_check_13 (by decide) ?_
  refine z_cSi (As := [.int w1, .int 20]) (rest := []) B cw_X8_68 dX8_check_15 (ci_X8_isBelow_64 l (σ := (ap b σ [] [] [])) (b := b) (lyA hK) w1 q1_w1 q2_w1) rfl (by decide) rfl (Nat.le_of_ble_eq_true rfl) (by decide) (fun r u hu => ?_)
  refine z_eqs (σ' := (ap b σ [] [] [])) hu.2 ?_
  show zx p l e _ s m _ below meth c g 13 0 0 _ _ 18 [(6, .ref (b + 9)), (0, .ref (b + 0)), (1, .int 0), (2, .int w1), (3, .int w2), (4, .int w3), (5, .int w4)] _
  refine z_seti (y := 1) hu.1 ?_
  refine z_if_ne (tgt := 31) B dX8_check_18 (by decide) (fun _ => ?_) (fun h => absurd h (by decide))
  refine z_iload_n B dX8_check_31 rfl 4 rfl ?_
  refine z_iload B dX8_check_32 5 rfl ?_
  refine z_iload B dX8_check_34 6 rfl ?_
  refine z_cSi (As := [.int w2, .int w3, .int w4]) (rest := []) B cw_X8_79 dX8_check_36 (ci_X8_isStep_97 l (σ := (ap b σ [] [] [])) (b := b) (lyA hK) w2 w3 w4 q1_w2 q2_w2 q1_w3 q2_w3 q1_w4 q2_w4) rfl (by decide) rfl (Nat.le_of_ble_eq_true rfl) (by decide) (fun r u hu => ?_)
  refine z_eqs (σ' := (ap b σ [] [] [])) hu.2 ?_
  show zx p l e _ s m _ below meth c g 13 0 0 _ _ 39 [(6, .ref (b + 9)), (0, .ref (b + 0)), (1, .int 0), (2, .int w1), (3, .int w2), (4, .int w3), (5, .int w4)] _
  refine z_seti (y := 0) hu.1 ?_
  refine z_if_ne (tgt := 52) B dX8_check_39 (by decide) (fun h => absurd (by decide) h) (fun _ => ?_)
  exact z_throw B hlt hout (cls := "java/lang/IllegalArgumentException") (text := "no such operation") tw_X8_83_85_87 dX8_check_42 dX8_check_45 dX8_check_46 dX8_check_48 dX8_check_51 (by decide) (by decide) (by decide) (by decide) (by decide) (by decide) (fun z => ⟨z, rfl⟩)
set_option maxRecDepth 100000 in
set_option maxHeartbeats 4000000 in
theorem ci_L_check_413 (l : Launch) (hlt : l.stackTraces = false) {g : gx_T} {σ : sx_T} {b : Nat} (hK : lay b σ) (w1 : Int32) (w2 : Int32) (w3 : Int32) (w4 : Int32) (q1_w1 : (0 : Int) ≤ w1.toInt) (q2_w1 : w1.toInt ≤ (19 : Int)) (q1_w2 : (0 : Int) ≤ w2.toInt) (q2_w2 : w2.toInt ≤ (17 : Int)) (q1_w3 : (0 : Int) ≤ w3.toInt) (q2_w3 : w3.toInt ≤ (99 : Int)) (q1_w4 : (100 : Int) ≤ w4.toInt) (q2_w4 : w4.toInt ≤ (2147483647 : Int)) (hR_0_0 : sx_R σ (b + 0) 0 = (some (b + 1))) (hR_1_0 : sx_R σ (b + 1) 0 = (some (b + 9))) : Met l yL_check (.codeWith yL_check cL_check 8 (some .int) [(0, 16, 19, 13), (0, 16, 23, 15)] :: lw_g) { frames := 8, cells := 1, slots := 6, locals := 168 } (va_Pc [.ref (b + 0), .int 0, .int w1, .int w2, .int w3, .int w4, .ref (b + 431)] (zx_w g σ)) (va_Qi (fun r u => r = 2 ∧ ∃ z, u = (ap b (wx_Z σ z) [] [] [])) (zx_w g) (gx_Q g)) 1 6 (gx_Q g) := by
  refine z_metW (by decide) (Nat.le_of_ble_eq_true rfl) (fun p e s m below meth c B hr htab => ?_)
  refine z_eqs (σ' := (ap b σ [] [] [])) rfl ?_
  show zx p l e _ s m _ below meth c g 8 0 0 _ _ 0 [(0, .ref (b + 0)), (1, .int 0), (2, .int w1), (3, .int w2), (4, .int w3), (5, .int w4), (6, .ref (b + 431))] []
  refine z_aload B dL_check_0 6 rfl ?_
  refine z_iconst (v := 0) B dL_check_2 (by decide) ?_
  refine z_aload_n B dL_check_3 rfl 0 rfl ?_
  refine z_iload_n B dL_check_4 rfl 1 rfl ?_
  refine z_iload_n B dL_check_5 rfl 2 rfl ?_
  refine z_iload_n B dL_check_6 rfl 3 rfl ?_
  refine z_iload B dL_check_7 4 rfl ?_
  refine z_iload B dL_check_9 5 rfl ?_
  refine z_cXi (As := [.int 0, .int w1, .int w2, .int w3, .int w4]) (rest := [.int 0, .ref (b + 431)]) B htab tc_check_11_IllegalArgumentException cw_L_17 cx_9 dL_check_11 (ci_X8_check_412 l hlt (σ := (ap b σ [] [] [])) (b := b) (lyA hK) w1 w2 w3 w4 q1_w1 q2_w1 q1_w2 q2_w2 q1_w3 q2_w3 q1_w4 q2_w4 (rR_at 0 0 hR_0_0) (rR_at 1 0 hR_1_0)) (lKA (hk_K hK 0 rfl rfl)) rfl (by decide) rfl (Nat.le_of_ble_eq_true rfl) (by decide) (fun z q => ?_)
  refine z_eqs (σ' := (ap b (wx_Z σ z) [] [] [])) rfl ?_
  show zx p l e _ s m _ below meth c g 8 _ _ _ _ 23 [(0, .ref (b + 0)), (1, .int 0), (2, .int w1), (3, .int w2), (4, .int w3), (5, .int w4), (6, .ref (b + 431))] _
  refine z_astore (lv' := [(7, .ref q), (0, .ref (b + 0)), (1, .int 0), (2, .int w1), (3, .int w2), (4, .int w3), (5, .int w4), (6, .ref (b + 431))]) B dL_check_23 (by decide) rfl ?_
  refine z_iconst (v := 2) B dL_check_25 (by decide) ?_
  exact z_iret B hr (by decide) (by decide) dL_check_26 ⟨rfl, _, rfl⟩
set_option maxRecDepth 100000 in
set_option maxHeartbeats 4000000 in
theorem ci_X9_check_414 (l : Launch) {g : gx_T} {σ : sx_T} {b : Nat} (hK : lay b σ) (w1 : Int32) (w2 : Int32) (w3 : Int32) (w4 : Int32) (q1_w1 : (0 : Int) ≤ w1.toInt) (q2_w1 : w1.toInt ≤ (19 : Int)) (q1_w2 : (0 : Int) ≤ w2.toInt) (q2_w2 : w2.toInt ≤ (17 : Int)) (q1_w3 : (0 : Int) ≤ w3.toInt) (q2_w3 : w3.toInt ≤ (99 : Int)) (q1_w4 : (100 : Int) ≤ w4.toInt) (q2_w4 : w4.toInt ≤ (2147483647 : Int))  : Met l yX9_check (.code yX9_check cX9_check 11 (some .int) :: lw_g) { frames := 2, cells := 0, slots := 0, locals := 44 } (va_Pc [.ref (b + 405), .int 0, .int w1, .int w2, .int w3, .int w4] (zx_w g σ)) (va_Qi (fun r u => r = 0 ∧ u = (ap b σ [(405, 0, 2)] [] [])) (zx_w g) (gx_Q g)) 0 0 (gx_Q g) := by
  refine z_met (by decide) (Nat.le_of_ble_eq_true rfl) (fun p e s m below meth c B hr hin => ?_)
  refine z_eqs (σ' := (ap b σ [] [] [])) rfl ?_
  show zx p l e _ s m _ below meth c g 11 0 0 _ _ 0 [(0, .ref (b + 405)), (1, .int 0), (2, .int w1), (3, .int w2), (4, .int w3), (5, .int w4)] []
  refine z_aload_n B dX9_check_0 rfl 0 rfl ?_
  refine z_iload_n B dX9_check_1 rfl 1 rfl ?_
  refine z_iload_n B dX9_check_2 rfl 2 rfl ?_
  refine z_cSi (As := [.int 0, .int w1]) (rest := [.ref (b + 405)]) B cw_X9_238 dX9_check_3 (ci_X9_isStep_70 l (σ := (ap b σ [] [] [])) (b := b) (lyA hK) w1 q1_w1 q2_w1) rfl (by decide) rfl (Nat.le_of_ble_eq_true rfl) (by decide) (fun r u hu => ?_)
  refine z_eqs (σ' := (ap b σ [] [] [])) hu.2 ?_
  show zx p l e _ s m _ below meth c g 11 0 0 _ _ 6 [(0, .ref (b + 405)), (1, .int 0), (2, .int w1), (3, .int w2), (4, .int w3), (5, .int w4)] _
  refine z_seti (y := 1) hu.1 ?_
  refine z_iload_n B dX9_check_6 rfl 3 rfl ?_
  refine z_iload B dX9_check_7 4 rfl ?_
  refine z_iload B dX9_check_9 5 rfl ?_
  refine z_cSi (As := [.int w2, .int w3, .int w4]) (rest := [.int 1, .ref (b + 405)]) B cw_X9_242 dX9_check_11 (ci_X9_isOperation_43 l (σ := (ap b σ [] [] [])) (b := b) (lyA hK) w2 w3 w4 q1_w2 q2_w2 q1_w3 q2_w3 q1_w4 q2_w4) rfl (by decide) rfl (Nat.le_of_ble_eq_true rfl) (by decide) (fun r u hu => ?_)
  refine z_eqs (σ' := (ap b σ [] [] [])) hu.2 ?_
  show zx p l e _ s m _ below meth c g 11 0 0 _ _ 14 [(0, .ref (b + 405)), (1, .int 0), (2, .int w1), (3, .int w2), (4, .int w3), (5, .int w4)] _
  refine z_seti (y := 0) hu.1 ?_
  refine z_cVi (As := [.int 1, .int 0]) (rest := []) B cw_X9_245 cx_10 dX9_check_14 (ci_X9_needs__71 l (σ := (ap b σ [] [] [])) (b := b) (lyA hK) ) (lKA (hk_K hK 405 rfl rfl)) rfl (by decide) rfl (Nat.le_of_ble_eq_true rfl) (by decide) (fun r u hu => ?_)
  refine z_eqs (σ' := (ap b σ [(405, 0, 2)] [] [])) (hu.2.trans ap_ap) ?_
  show zx p l e _ s m _ below meth c g 11 0 0 _ _ 17 [(0, .ref (b + 405)), (1, .int 0), (2, .int w1), (3, .int w2), (4, .int w3), (5, .int w4)] _
  refine z_seti (y := 0) hu.1 ?_
  refine z_if_ne (tgt := 22) B dX9_check_17 (by decide) (fun h => absurd (by decide) h) (fun _ => ?_)
  refine z_iconst (v := 0) B dX9_check_20 (by decide) ?_
  exact z_iret B hr (by decide) (by decide) dX9_check_21 ⟨rfl, rfl⟩
set_option maxRecDepth 100000 in
set_option maxHeartbeats 4000000 in
theorem ci_X8_check_415 (l : Launch) (hlt : l.stackTraces = false) {g : gx_T} {σ : sx_T} {b : Nat} (hK : lay b σ) (w1 : Int32) (w2 : Int32) (w3 : Int32) (w4 : Int32) (q1_w1 : (0 : Int) ≤ w1.toInt) (q2_w1 : w1.toInt ≤ (19 : Int)) (q1_w2 : (0 : Int) ≤ w2.toInt) (q2_w2 : w2.toInt ≤ (17 : Int)) (q1_w3 : (100 : Int) ≤ w3.toInt) (q2_w3 : w3.toInt ≤ (2147483647 : Int)) (hR_0_0 : sx_R σ (b + 0) 0 = (some (b + 1))) (hR_1_0 : sx_R σ (b + 1) 0 = (some (b + 9))) : vx_Met l yX8_check (.code yX8_check cX8_check 13 (some .int) :: lw_g) { frames := 7, cells := 1, slots := 6, locals := 136 } (va_Pc [.ref (b + 0), .int 0, .int w1, .int w2, .int w3, .int w4] (zx_w g σ)) (va_Qi (S := sx_T) (fun _ _ => False) (zx_w g) (gx_Q g)) (vx_X (fun u : sx_T => ∃ z, u = wx_Z σ z) (fun E u t => E = "java/lang/IllegalArgumentException" ∧ zx_h g u t.heap) (gx_Q g)) 1 6 (gx_Q g) := by
  refine z_metX (by decide) (Nat.le_of_ble_eq_true rfl) (fun p e s m below meth c B hr hin hout => ?_)
  refine z_eqs (σ' := (ap b σ [] [] [])) rfl ?_
  show zx p l e _ s m _ below meth c g 13 0 0 _ _ 0 [(0, .ref (b + 0)), (1, .int 0), (2, .int w1), (3, .int w2), (4, .int w3), (5, .int w4)] []
  refine z_aload_n B dX8_check_0 rfl 0 rfl ?_
  refine z_iload_n B dX8_check_1 rfl 1 rfl ?_
  refine z_cVq (As := [.int 0]) (rest := []) B cw_X8_64 cx_9 dX8_check_2 (ci_X8_programAt_50 l (σ := (ap b σ [] [] [])) (b := b) (lyA hK) (rR_at 0 0 hR_0_0) (rR_at 1 0 hR_1_0)) (lKA (hk_K hK 0 rfl rfl)) rfl (by decide) rfl (Nat.le_of_ble_eq_true rfl) (by decide) (fun r u hu => ?_)
  refine z_eqs (σ' := (ap b σ [] [] [])) hu.2 ?_
  show zx p l e _ s m _ below meth c g 13 0 0 _ _ 5 [(0, .ref (b + 0)), (1, .int 0), (2, .int w1), (3, .int w2), (4, .int w3), (5, .int w4)] _
  refine z_setr (y := (some (b + 9))) hu.1 ?_
  refine z_astore (lv' := [(6, .ref (b + 9)), (0, .ref (b + 0)), (1, .int 0), (2, .int w1), (3, .int w2), (4, .int w3), (5, .int w4)]) B dX8_check_5 (by decide) rfl ?_
  refine z_aload B dX8_check_7 0 rfl ?_
  refine z_ifnull (r := (some (b + 9))) (tgt := 21) B dX8_check_9 (by decide) (fun h => nomatch h) (fun _ _ => ?_)
  refine z_iload_n B dX8_check_12 rfl 3 rfl ?_
  refine z_bipush (v := 20) B dX8_check_13 (by decide) ?_
  refine z_cSi (As := [.int w1, .int 20]) (rest := []) B cw_X8_68 dX8_check_15 (ci_X8_isBelow_64 l (σ := (ap b σ [] [] [])) (b := b) (lyA hK) w1 q1_w1 q2_w1) rfl (by decide) rfl (Nat.le_of_ble_eq_true rfl) (by decide) (fun r u hu => ?_)
  refine z_eqs (σ' := (ap b σ [] [] [])) hu.2 ?_
  show zx p l e _ s m _ below meth c g 13 0 0 _ _ 18 [(6, .ref (b + 9)), (0, .ref (b + 0)), (1, .int 0), (2, .int w1), (3, .int w2), (4, .int w3), (5, .int w4)] _
  refine z_seti (y := 1) hu.1 ?_
  refine z_if_ne (tgt := 31) B dX8_check_18 (by decide) (fun _ => ?_) (fun h => absurd h (by decide))
  refine z_iload_n B dX8_check_31 rfl 4 rfl ?_
  refine z_iload B dX8_check_32 5 rfl ?_
  refine z_iload B dX8_check_34 6 rfl ?_
  refine z_cSi (As := [.int w2, .int w3, .int w4]) (rest := []) B cw_X8_79 dX8_check_36 (ci_X8_isStep_101 l (σ := (ap b σ [] [] [])) (b := b) (lyA hK) w2 w3 w4 q1_w2 q2_w2 q1_w3 q2_w3) rfl (by decide) rfl (Nat.le_of_ble_eq_true rfl) (by decide) (fun r u hu => ?_)
  refine z_eqs (σ' := (ap b σ [] [] [])) hu.2 ?_
  show zx p l e _ s m _ below meth c g 13 0 0 _ _ 39 [(6, .ref (b + 9)), (0, .ref (b + 0)), (1, .int 0), (2, .int w1), (3, .int w2), (4, .int w3), (5, .int w4)] _
  refine z_seti (y := 0) hu.1 ?_
  refine z_if_ne (tgt := 52) B dX8_check_39 (by decide) (fun h => absurd (by decide) h) (fun _ => ?_)
  exact z_throw B hlt hout (cls := "java/lang/IllegalArgumentException") (text := "no such operation") tw_X8_83_85_87 dX8_check_42 dX8_check_45 dX8_check_46 dX8_check_48 dX8_check_51 (by decide) (by decide) (by decide) (by decide) (by decide) (by decide) (fun z => ⟨z, rfl⟩)
set_option maxRecDepth 100000 in
set_option maxHeartbeats 4000000 in
theorem ci_L_check_416 (l : Launch) (hlt : l.stackTraces = false) {g : gx_T} {σ : sx_T} {b : Nat} (hK : lay b σ) (w1 : Int32) (w2 : Int32) (w3 : Int32) (w4 : Int32) (q1_w1 : (0 : Int) ≤ w1.toInt) (q2_w1 : w1.toInt ≤ (19 : Int)) (q1_w2 : (0 : Int) ≤ w2.toInt) (q2_w2 : w2.toInt ≤ (17 : Int)) (q1_w3 : (100 : Int) ≤ w3.toInt) (q2_w3 : w3.toInt ≤ (2147483647 : Int)) (hR_0_0 : sx_R σ (b + 0) 0 = (some (b + 1))) (hR_1_0 : sx_R σ (b + 1) 0 = (some (b + 9))) : Met l yL_check (.codeWith yL_check cL_check 8 (some .int) [(0, 16, 19, 13), (0, 16, 23, 15)] :: lw_g) { frames := 8, cells := 1, slots := 6, locals := 168 } (va_Pc [.ref (b + 0), .int 0, .int w1, .int w2, .int w3, .int w4, .ref (b + 431)] (zx_w g σ)) (va_Qi (fun r u => r = 2 ∧ ∃ z, u = (ap b (wx_Z σ z) [] [] [])) (zx_w g) (gx_Q g)) 1 6 (gx_Q g) := by
  refine z_metW (by decide) (Nat.le_of_ble_eq_true rfl) (fun p e s m below meth c B hr htab => ?_)
  refine z_eqs (σ' := (ap b σ [] [] [])) rfl ?_
  show zx p l e _ s m _ below meth c g 8 0 0 _ _ 0 [(0, .ref (b + 0)), (1, .int 0), (2, .int w1), (3, .int w2), (4, .int w3), (5, .int w4), (6, .ref (b + 431))] []
  refine z_aload B dL_check_0 6 rfl ?_
  refine z_iconst (v := 0) B dL_check_2 (by decide) ?_
  refine z_aload_n B dL_check_3 rfl 0 rfl ?_
  refine z_iload_n B dL_check_4 rfl 1 rfl ?_
  refine z_iload_n B dL_check_5 rfl 2 rfl ?_
  refine z_iload_n B dL_check_6 rfl 3 rfl ?_
  refine z_iload B dL_check_7 4 rfl ?_
  refine z_iload B dL_check_9 5 rfl ?_
  refine z_cXi (As := [.int 0, .int w1, .int w2, .int w3, .int w4]) (rest := [.int 0, .ref (b + 431)]) B htab tc_check_11_IllegalArgumentException cw_L_17 cx_9 dL_check_11 (ci_X8_check_415 l hlt (σ := (ap b σ [] [] [])) (b := b) (lyA hK) w1 w2 w3 w4 q1_w1 q2_w1 q1_w2 q2_w2 q1_w3 q2_w3 (rR_at 0 0 hR_0_0) (rR_at 1 0 hR_1_0)) (lKA (hk_K hK 0 rfl rfl)) rfl (by decide) rfl (Nat.le_of_ble_eq_true rfl) (by decide) (fun z q => ?_)
  refine z_eqs (σ' := (ap b (wx_Z σ z) [] [] [])) rfl ?_
  show zx p l e _ s m _ below meth c g 8 _ _ _ _ 23 [(0, .ref (b + 0)), (1, .int 0), (2, .int w1), (3, .int w2), (4, .int w3), (5, .int w4), (6, .ref (b + 431))] _
  refine z_astore (lv' := [(7, .ref q), (0, .ref (b + 0)), (1, .int 0), (2, .int w1), (3, .int w2), (4, .int w3), (5, .int w4), (6, .ref (b + 431))]) B dL_check_23 (by decide) rfl ?_
  refine z_iconst (v := 2) B dL_check_25 (by decide) ?_
  exact z_iret B hr (by decide) (by decide) dL_check_26 ⟨rfl, _, rfl⟩
set_option maxRecDepth 100000 in
set_option maxHeartbeats 4000000 in
theorem ci_X9_check_417 (l : Launch) {g : gx_T} {σ : sx_T} {b : Nat} (hK : lay b σ) (w1 : Int32) (w2 : Int32) (w3 : Int32) (w4 : Int32) (q1_w1 : (0 : Int) ≤ w1.toInt) (q2_w1 : w1.toInt ≤ (19 : Int)) (q1_w2 : (0 : Int) ≤ w2.toInt) (q2_w2 : w2.toInt ≤ (17 : Int)) (q1_w3 : (100 : Int) ≤ w3.toInt) (q2_w3 : w3.toInt ≤ (2147483647 : Int))  : Met l yX9_check (.code yX9_check cX9_check 11 (some .int) :: lw_g) { frames := 2, cells := 0, slots := 0, locals := 44 } (va_Pc [.ref (b + 405), .int 0, .int w1, .int w2, .int w3, .int w4] (zx_w g σ)) (va_Qi (fun r u => r = 0 ∧ u = (ap b σ [(405, 0, 2)] [] [])) (zx_w g) (gx_Q g)) 0 0 (gx_Q g) := by
  refine z_met (by decide) (Nat.le_of_ble_eq_true rfl) (fun p e s m below meth c B hr hin => ?_)
  refine z_eqs (σ' := (ap b σ [] [] [])) rfl ?_
  show zx p l e _ s m _ below meth c g 11 0 0 _ _ 0 [(0, .ref (b + 405)), (1, .int 0), (2, .int w1), (3, .int w2), (4, .int w3), (5, .int w4)] []
  refine z_aload_n B dX9_check_0 rfl 0 rfl ?_
  refine z_iload_n B dX9_check_1 rfl 1 rfl ?_
  refine z_iload_n B dX9_check_2 rfl 2 rfl ?_
  refine z_cSi (As := [.int 0, .int w1]) (rest := [.ref (b + 405)]) B cw_X9_238 dX9_check_3 (ci_X9_isStep_70 l (σ := (ap b σ [] [] [])) (b := b) (lyA hK) w1 q1_w1 q2_w1) rfl (by decide) rfl (Nat.le_of_ble_eq_true rfl) (by decide) (fun r u hu => ?_)
  refine z_eqs (σ' := (ap b σ [] [] [])) hu.2 ?_
  show zx p l e _ s m _ below meth c g 11 0 0 _ _ 6 [(0, .ref (b + 405)), (1, .int 0), (2, .int w1), (3, .int w2), (4, .int w3), (5, .int w4)] _
  refine z_seti (y := 1) hu.1 ?_
  refine z_iload_n B dX9_check_6 rfl 3 rfl ?_
  refine z_iload B dX9_check_7 4 rfl ?_
  refine z_iload B dX9_check_9 5 rfl ?_
  refine z_cSi (As := [.int w2, .int w3, .int w4]) (rest := [.int 1, .ref (b + 405)]) B cw_X9_242 dX9_check_11 (ci_X9_isOperation_45 l (σ := (ap b σ [] [] [])) (b := b) (lyA hK) w2 w3 w4 q1_w2 q2_w2 q1_w3 q2_w3) rfl (by decide) rfl (Nat.le_of_ble_eq_true rfl) (by decide) (fun r u hu => ?_)
  refine z_eqs (σ' := (ap b σ [] [] [])) hu.2 ?_
  show zx p l e _ s m _ below meth c g 11 0 0 _ _ 14 [(0, .ref (b + 405)), (1, .int 0), (2, .int w1), (3, .int w2), (4, .int w3), (5, .int w4)] _
  refine z_seti (y := 0) hu.1 ?_
  refine z_cVi (As := [.int 1, .int 0]) (rest := []) B cw_X9_245 cx_10 dX9_check_14 (ci_X9_needs__71 l (σ := (ap b σ [] [] [])) (b := b) (lyA hK) ) (lKA (hk_K hK 405 rfl rfl)) rfl (by decide) rfl (Nat.le_of_ble_eq_true rfl) (by decide) (fun r u hu => ?_)
  refine z_eqs (σ' := (ap b σ [(405, 0, 2)] [] [])) (hu.2.trans ap_ap) ?_
  show zx p l e _ s m _ below meth c g 11 0 0 _ _ 17 [(0, .ref (b + 405)), (1, .int 0), (2, .int w1), (3, .int w2), (4, .int w3), (5, .int w4)] _
  refine z_seti (y := 0) hu.1 ?_
  refine z_if_ne (tgt := 22) B dX9_check_17 (by decide) (fun h => absurd (by decide) h) (fun _ => ?_)
  refine z_iconst (v := 0) B dX9_check_20 (by decide) ?_
  exact z_iret B hr (by decide) (by decide) dX9_check_21 ⟨rfl, rfl⟩
set_option maxRecDepth 100000 in
set_option maxHeartbeats 4000000 in
theorem ci_X8_check_418 (l : Launch) (hlt : l.stackTraces = false) {g : gx_T} {σ : sx_T} {b : Nat} (hK : lay b σ) (w1 : Int32) (w2 : Int32) (w3 : Int32) (w4 : Int32) (q1_w1 : (0 : Int) ≤ w1.toInt) (q2_w1 : w1.toInt ≤ (19 : Int)) (q1_w2 : (18 : Int) ≤ w2.toInt) (q2_w2 : w2.toInt ≤ (2147483647 : Int)) (hR_0_0 : sx_R σ (b + 0) 0 = (some (b + 1))) (hR_1_0 : sx_R σ (b + 1) 0 = (some (b + 9))) : vx_Met l yX8_check (.code yX8_check cX8_check 13 (some .int) :: lw_g) { frames := 7, cells := 1, slots := 6, locals := 136 } (va_Pc [.ref (b + 0), .int 0, .int w1, .int w2, .int w3, .int w4] (zx_w g σ)) (va_Qi (S := sx_T) (fun _ _ => False) (zx_w g) (gx_Q g)) (vx_X (fun u : sx_T => ∃ z, u = wx_Z σ z) (fun E u t => E = "java/lang/IllegalArgumentException" ∧ zx_h g u t.heap) (gx_Q g)) 1 6 (gx_Q g) := by
  refine z_metX (by decide) (Nat.le_of_ble_eq_true rfl) (fun p e s m below meth c B hr hin hout => ?_)
  refine z_eqs (σ' := (ap b σ [] [] [])) rfl ?_
  show zx p l e _ s m _ below meth c g 13 0 0 _ _ 0 [(0, .ref (b + 0)), (1, .int 0), (2, .int w1), (3, .int w2), (4, .int w3), (5, .int w4)] []
  refine z_aload_n B dX8_check_0 rfl 0 rfl ?_
  refine z_iload_n B dX8_check_1 rfl 1 rfl ?_
  refine z_cVq (As := [.int 0]) (rest := []) B cw_X8_64 cx_9 dX8_check_2 (ci_X8_programAt_50 l (σ := (ap b σ [] [] [])) (b := b) (lyA hK) (rR_at 0 0 hR_0_0) (rR_at 1 0 hR_1_0)) (lKA (hk_K hK 0 rfl rfl)) rfl (by decide) rfl (Nat.le_of_ble_eq_true rfl) (by decide) (fun r u hu => ?_)
  refine z_eqs (σ' := (ap b σ [] [] [])) hu.2 ?_
  show zx p l e _ s m _ below meth c g 13 0 0 _ _ 5 [(0, .ref (b + 0)), (1, .int 0), (2, .int w1), (3, .int w2), (4, .int w3), (5, .int w4)] _
  refine z_setr (y := (some (b + 9))) hu.1 ?_
  refine z_astore (lv' := [(6, .ref (b + 9)), (0, .ref (b + 0)), (1, .int 0), (2, .int w1), (3, .int w2), (4, .int w3), (5, .int w4)]) B dX8_check_5 (by decide) rfl ?_
  refine z_aload B dX8_check_7 0 rfl ?_
  refine z_ifnull (r := (some (b + 9))) (tgt := 21) B dX8_check_9 (by decide) (fun h => nomatch h) (fun _ _ => ?_)
  refine z_iload_n B dX8_check_12 rfl 3 rfl ?_
  refine z_bipush (v := 20) B dX8_check_13 (by decide) ?_
  refine z_cSi (As := [.int w1, .int 20]) (rest := []) B cw_X8_68 dX8_check_15 (ci_X8_isBelow_64 l (σ := (ap b σ [] [] [])) (b := b) (lyA hK) w1 q1_w1 q2_w1) rfl (by decide) rfl (Nat.le_of_ble_eq_true rfl) (by decide) (fun r u hu => ?_)
  refine z_eqs (σ' := (ap b σ [] [] [])) hu.2 ?_
  show zx p l e _ s m _ below meth c g 13 0 0 _ _ 18 [(6, .ref (b + 9)), (0, .ref (b + 0)), (1, .int 0), (2, .int w1), (3, .int w2), (4, .int w3), (5, .int w4)] _
  refine z_seti (y := 1) hu.1 ?_
  refine z_if_ne (tgt := 31) B dX8_check_18 (by decide) (fun _ => ?_) (fun h => absurd h (by decide))
  refine z_iload_n B dX8_check_31 rfl 4 rfl ?_
  refine z_iload B dX8_check_32 5 rfl ?_
  refine z_iload B dX8_check_34 6 rfl ?_
  refine z_cSi (As := [.int w2, .int w3, .int w4]) (rest := []) B cw_X8_79 dX8_check_36 (ci_X8_isStep_106 l (σ := (ap b σ [] [] [])) (b := b) (lyA hK) w2 w3 w4 q1_w2 q2_w2) rfl (by decide) rfl (Nat.le_of_ble_eq_true rfl) (by decide) (fun r u hu => ?_)
  refine z_eqs (σ' := (ap b σ [] [] [])) hu.2 ?_
  show zx p l e _ s m _ below meth c g 13 0 0 _ _ 39 [(6, .ref (b + 9)), (0, .ref (b + 0)), (1, .int 0), (2, .int w1), (3, .int w2), (4, .int w3), (5, .int w4)] _
  refine z_seti (y := 0) hu.1 ?_
  refine z_if_ne (tgt := 52) B dX8_check_39 (by decide) (fun h => absurd (by decide) h) (fun _ => ?_)
  exact z_throw B hlt hout (cls := "java/lang/IllegalArgumentException") (text := "no such operation") tw_X8_83_85_87 dX8_check_42 dX8_check_45 dX8_check_46 dX8_check_48 dX8_check_51 (by decide) (by decide) (by decide) (by decide) (by decide) (by decide) (fun z => ⟨z, rfl⟩)
set_option maxRecDepth 100000 in
set_option maxHeartbeats 4000000 in
theorem ci_L_check_419 (l : Launch) (hlt : l.stackTraces = false) {g : gx_T} {σ : sx_T} {b : Nat} (hK : lay b σ) (w1 : Int32) (w2 : Int32) (w3 : Int32) (w4 : Int32) (q1_w1 : (0 : Int) ≤ w1.toInt) (q2_w1 : w1.toInt ≤ (19 : Int)) (q1_w2 : (18 : Int) ≤ w2.toInt) (q2_w2 : w2.toInt ≤ (2147483647 : Int)) (hR_0_0 : sx_R σ (b + 0) 0 = (some (b + 1))) (hR_1_0 : sx_R σ (b + 1) 0 = (some (b + 9))) : Met l yL_check (.codeWith yL_check cL_check 8 (some .int) [(0, 16, 19, 13), (0, 16, 23, 15)] :: lw_g) { frames := 8, cells := 1, slots := 6, locals := 168 } (va_Pc [.ref (b + 0), .int 0, .int w1, .int w2, .int w3, .int w4, .ref (b + 431)] (zx_w g σ)) (va_Qi (fun r u => r = 2 ∧ ∃ z, u = (ap b (wx_Z σ z) [] [] [])) (zx_w g) (gx_Q g)) 1 6 (gx_Q g) := by
  refine z_metW (by decide) (Nat.le_of_ble_eq_true rfl) (fun p e s m below meth c B hr htab => ?_)
  refine z_eqs (σ' := (ap b σ [] [] [])) rfl ?_
  show zx p l e _ s m _ below meth c g 8 0 0 _ _ 0 [(0, .ref (b + 0)), (1, .int 0), (2, .int w1), (3, .int w2), (4, .int w3), (5, .int w4), (6, .ref (b + 431))] []
  refine z_aload B dL_check_0 6 rfl ?_
  refine z_iconst (v := 0) B dL_check_2 (by decide) ?_
  refine z_aload_n B dL_check_3 rfl 0 rfl ?_
  refine z_iload_n B dL_check_4 rfl 1 rfl ?_
  refine z_iload_n B dL_check_5 rfl 2 rfl ?_
  refine z_iload_n B dL_check_6 rfl 3 rfl ?_
  refine z_iload B dL_check_7 4 rfl ?_
  refine z_iload B dL_check_9 5 rfl ?_
  refine z_cXi (As := [.int 0, .int w1, .int w2, .int w3, .int w4]) (rest := [.int 0, .ref (b + 431)]) B htab tc_check_11_IllegalArgumentException cw_L_17 cx_9 dL_check_11 (ci_X8_check_418 l hlt (σ := (ap b σ [] [] [])) (b := b) (lyA hK) w1 w2 w3 w4 q1_w1 q2_w1 q1_w2 q2_w2 (rR_at 0 0 hR_0_0) (rR_at 1 0 hR_1_0)) (lKA (hk_K hK 0 rfl rfl)) rfl (by decide) rfl (Nat.le_of_ble_eq_true rfl) (by decide) (fun z q => ?_)
  refine z_eqs (σ' := (ap b (wx_Z σ z) [] [] [])) rfl ?_
  show zx p l e _ s m _ below meth c g 8 _ _ _ _ 23 [(0, .ref (b + 0)), (1, .int 0), (2, .int w1), (3, .int w2), (4, .int w3), (5, .int w4), (6, .ref (b + 431))] _
  refine z_astore (lv' := [(7, .ref q), (0, .ref (b + 0)), (1, .int 0), (2, .int w1), (3, .int w2), (4, .int w3), (5, .int w4), (6, .ref (b + 431))]) B dL_check_23 (by decide) rfl ?_
  refine z_iconst (v := 2) B dL_check_25 (by decide) ?_
  exact z_iret B hr (by decide) (by decide) dL_check_26 ⟨rfl, _, rfl⟩
set_option maxRecDepth 100000 in
set_option maxHeartbeats 4000000 in
theorem ci_X9_check_420 (l : Launch) {g : gx_T} {σ : sx_T} {b : Nat} (hK : lay b σ) (w1 : Int32) (w2 : Int32) (w3 : Int32) (w4 : Int32) (q1_w1 : (0 : Int) ≤ w1.toInt) (q2_w1 : w1.toInt ≤ (19 : Int)) (q1_w2 : (18 : Int) ≤ w2.toInt) (q2_w2 : w2.toInt ≤ (2147483647 : Int))  : Met l yX9_check (.code yX9_check cX9_check 11 (some .int) :: lw_g) { frames := 2, cells := 0, slots := 0, locals := 44 } (va_Pc [.ref (b + 405), .int 0, .int w1, .int w2, .int w3, .int w4] (zx_w g σ)) (va_Qi (fun r u => r = 0 ∧ u = (ap b σ [(405, 0, 2)] [] [])) (zx_w g) (gx_Q g)) 0 0 (gx_Q g) := by
  refine z_met (by decide) (Nat.le_of_ble_eq_true rfl) (fun p e s m below meth c B hr hin => ?_)
  refine z_eqs (σ' := (ap b σ [] [] [])) rfl ?_
  show zx p l e _ s m _ below meth c g 11 0 0 _ _ 0 [(0, .ref (b + 405)), (1, .int 0), (2, .int w1), (3, .int w2), (4, .int w3), (5, .int w4)] []
  refine z_aload_n B dX9_check_0 rfl 0 rfl ?_
  refine z_iload_n B dX9_check_1 rfl 1 rfl ?_
  refine z_iload_n B dX9_check_2 rfl 2 rfl ?_
  refine z_cSi (As := [.int 0, .int w1]) (rest := [.ref (b + 405)]) B cw_X9_238 dX9_check_3 (ci_X9_isStep_70 l (σ := (ap b σ [] [] [])) (b := b) (lyA hK) w1 q1_w1 q2_w1) rfl (by decide) rfl (Nat.le_of_ble_eq_true rfl) (by decide) (fun r u hu => ?_)
  refine z_eqs (σ' := (ap b σ [] [] [])) hu.2 ?_
  show zx p l e _ s m _ below meth c g 11 0 0 _ _ 6 [(0, .ref (b + 405)), (1, .int 0), (2, .int w1), (3, .int w2), (4, .int w3), (5, .int w4)] _
  refine z_seti (y := 1) hu.1 ?_
  refine z_iload_n B dX9_check_6 rfl 3 rfl ?_
  refine z_iload B dX9_check_7 4 rfl ?_
  refine z_iload B dX9_check_9 5 rfl ?_
  refine z_cSi (As := [.int w2, .int w3, .int w4]) (rest := [.int 1, .ref (b + 405)]) B cw_X9_242 dX9_check_11 (ci_X9_isOperation_48 l (σ := (ap b σ [] [] [])) (b := b) (lyA hK) w2 w3 w4 q1_w2 q2_w2) rfl (by decide) rfl (Nat.le_of_ble_eq_true rfl) (by decide) (fun r u hu => ?_)
  refine z_eqs (σ' := (ap b σ [] [] [])) hu.2 ?_
  show zx p l e _ s m _ below meth c g 11 0 0 _ _ 14 [(0, .ref (b + 405)), (1, .int 0), (2, .int w1), (3, .int w2), (4, .int w3), (5, .int w4)] _
  refine z_seti (y := 0) hu.1 ?_
  refine z_cVi (As := [.int 1, .int 0]) (rest := []) B cw_X9_245 cx_10 dX9_check_14 (ci_X9_needs__71 l (σ := (ap b σ [] [] [])) (b := b) (lyA hK) ) (lKA (hk_K hK 405 rfl rfl)) rfl (by decide) rfl (Nat.le_of_ble_eq_true rfl) (by decide) (fun r u hu => ?_)
  refine z_eqs (σ' := (ap b σ [(405, 0, 2)] [] [])) (hu.2.trans ap_ap) ?_
  show zx p l e _ s m _ below meth c g 11 0 0 _ _ 17 [(0, .ref (b + 405)), (1, .int 0), (2, .int w1), (3, .int w2), (4, .int w3), (5, .int w4)] _
  refine z_seti (y := 0) hu.1 ?_
  refine z_if_ne (tgt := 22) B dX9_check_17 (by decide) (fun h => absurd (by decide) h) (fun _ => ?_)
  refine z_iconst (v := 0) B dX9_check_20 (by decide) ?_
  exact z_iret B hr (by decide) (by decide) dX9_check_21 ⟨rfl, rfl⟩
set_option maxRecDepth 100000 in
set_option maxHeartbeats 4000000 in
theorem ci_X8_check_421 (l : Launch) (hlt : l.stackTraces = false) {g : gx_T} {σ : sx_T} {b : Nat} (hK : lay b σ) (w1 : Int32) (w2 : Int32) (w3 : Int32) (w4 : Int32) (q1_w1 : (20 : Int) ≤ w1.toInt) (q2_w1 : w1.toInt ≤ (2147483647 : Int)) (hR_0_0 : sx_R σ (b + 0) 0 = (some (b + 1))) (hR_1_0 : sx_R σ (b + 1) 0 = (some (b + 9))) : vx_Met l yX8_check (.code yX8_check cX8_check 13 (some .int) :: lw_g) { frames := 7, cells := 1, slots := 6, locals := 136 } (va_Pc [.ref (b + 0), .int 0, .int w1, .int w2, .int w3, .int w4] (zx_w g σ)) (va_Qi (S := sx_T) (fun _ _ => False) (zx_w g) (gx_Q g)) (vx_X (fun u : sx_T => ∃ z, u = wx_Z σ z) (fun E u t => E = "java/lang/IndexOutOfBoundsException" ∧ zx_h g u t.heap) (gx_Q g)) 1 6 (gx_Q g) := by
  refine z_metX (by decide) (Nat.le_of_ble_eq_true rfl) (fun p e s m below meth c B hr hin hout => ?_)
  refine z_eqs (σ' := (ap b σ [] [] [])) rfl ?_
  show zx p l e _ s m _ below meth c g 13 0 0 _ _ 0 [(0, .ref (b + 0)), (1, .int 0), (2, .int w1), (3, .int w2), (4, .int w3), (5, .int w4)] []
  refine z_aload_n B dX8_check_0 rfl 0 rfl ?_
  refine z_iload_n B dX8_check_1 rfl 1 rfl ?_
  refine z_cVq (As := [.int 0]) (rest := []) B cw_X8_64 cx_9 dX8_check_2 (ci_X8_programAt_50 l (σ := (ap b σ [] [] [])) (b := b) (lyA hK) (rR_at 0 0 hR_0_0) (rR_at 1 0 hR_1_0)) (lKA (hk_K hK 0 rfl rfl)) rfl (by decide) rfl (Nat.le_of_ble_eq_true rfl) (by decide) (fun r u hu => ?_)
  refine z_eqs (σ' := (ap b σ [] [] [])) hu.2 ?_
  show zx p l e _ s m _ below meth c g 13 0 0 _ _ 5 [(0, .ref (b + 0)), (1, .int 0), (2, .int w1), (3, .int w2), (4, .int w3), (5, .int w4)] _
  refine z_setr (y := (some (b + 9))) hu.1 ?_
  refine z_astore (lv' := [(6, .ref (b + 9)), (0, .ref (b + 0)), (1, .int 0), (2, .int w1), (3, .int w2), (4, .int w3), (5, .int w4)]) B dX8_check_5 (by decide) rfl ?_
  refine z_aload B dX8_check_7 0 rfl ?_
  refine z_ifnull (r := (some (b + 9))) (tgt := 21) B dX8_check_9 (by decide) (fun h => nomatch h) (fun _ _ => ?_)
  refine z_iload_n B dX8_check_12 rfl 3 rfl ?_
  refine z_bipush (v := 20) B dX8_check_13 (by decide) ?_
  refine z_cSi (As := [.int w1, .int 20]) (rest := []) B cw_X8_68 dX8_check_15 (ci_X8_isBelow_110 l (σ := (ap b σ [] [] [])) (b := b) (lyA hK) w1 q1_w1 q2_w1) rfl (by decide) rfl (Nat.le_of_ble_eq_true rfl) (by decide) (fun r u hu => ?_)
  refine z_eqs (σ' := (ap b σ [] [] [])) hu.2 ?_
  show zx p l e _ s m _ below meth c g 13 0 0 _ _ 18 [(6, .ref (b + 9)), (0, .ref (b + 0)), (1, .int 0), (2, .int w1), (3, .int w2), (4, .int w3), (5, .int w4)] _
  refine z_seti (y := 0) hu.1 ?_
  refine z_if_ne (tgt := 31) B dX8_check_18 (by decide) (fun h => absurd (by decide) h) (fun _ => ?_)
  exact z_throw B hlt hout (cls := "java/lang/IndexOutOfBoundsException") (text := "no such step") tw_X8_72_74_76 dX8_check_21 dX8_check_24 dX8_check_25 dX8_check_27 dX8_check_30 (by decide) (by decide) (by decide) (by decide) (by decide) (by decide) (fun z => ⟨z, rfl⟩)
set_option maxRecDepth 100000 in
set_option maxHeartbeats 4000000 in
theorem ci_L_check_422 (l : Launch) (hlt : l.stackTraces = false) {g : gx_T} {σ : sx_T} {b : Nat} (hK : lay b σ) (w1 : Int32) (w2 : Int32) (w3 : Int32) (w4 : Int32) (q1_w1 : (20 : Int) ≤ w1.toInt) (q2_w1 : w1.toInt ≤ (2147483647 : Int)) (hR_0_0 : sx_R σ (b + 0) 0 = (some (b + 1))) (hR_1_0 : sx_R σ (b + 1) 0 = (some (b + 9))) : Met l yL_check (.codeWith yL_check cL_check 8 (some .int) [(0, 16, 19, 13), (0, 16, 23, 15)] :: lw_g) { frames := 8, cells := 1, slots := 6, locals := 168 } (va_Pc [.ref (b + 0), .int 0, .int w1, .int w2, .int w3, .int w4, .ref (b + 431)] (zx_w g σ)) (va_Qi (fun r u => r = 1 ∧ ∃ z, u = (ap b (wx_Z σ z) [] [] [])) (zx_w g) (gx_Q g)) 1 6 (gx_Q g) := by
  refine z_metW (by decide) (Nat.le_of_ble_eq_true rfl) (fun p e s m below meth c B hr htab => ?_)
  refine z_eqs (σ' := (ap b σ [] [] [])) rfl ?_
  show zx p l e _ s m _ below meth c g 8 0 0 _ _ 0 [(0, .ref (b + 0)), (1, .int 0), (2, .int w1), (3, .int w2), (4, .int w3), (5, .int w4), (6, .ref (b + 431))] []
  refine z_aload B dL_check_0 6 rfl ?_
  refine z_iconst (v := 0) B dL_check_2 (by decide) ?_
  refine z_aload_n B dL_check_3 rfl 0 rfl ?_
  refine z_iload_n B dL_check_4 rfl 1 rfl ?_
  refine z_iload_n B dL_check_5 rfl 2 rfl ?_
  refine z_iload_n B dL_check_6 rfl 3 rfl ?_
  refine z_iload B dL_check_7 4 rfl ?_
  refine z_iload B dL_check_9 5 rfl ?_
  refine z_cXi (As := [.int 0, .int w1, .int w2, .int w3, .int w4]) (rest := [.int 0, .ref (b + 431)]) B htab tc_check_11_IndexOutOfBoundsException cw_L_17 cx_9 dL_check_11 (ci_X8_check_421 l hlt (σ := (ap b σ [] [] [])) (b := b) (lyA hK) w1 w2 w3 w4 q1_w1 q2_w1 (rR_at 0 0 hR_0_0) (rR_at 1 0 hR_1_0)) (lKA (hk_K hK 0 rfl rfl)) rfl (by decide) rfl (Nat.le_of_ble_eq_true rfl) (by decide) (fun z q => ?_)
  refine z_eqs (σ' := (ap b (wx_Z σ z) [] [] [])) rfl ?_
  show zx p l e _ s m _ below meth c g 8 _ _ _ _ 19 [(0, .ref (b + 0)), (1, .int 0), (2, .int w1), (3, .int w2), (4, .int w3), (5, .int w4), (6, .ref (b + 431))] _
  refine z_astore (lv' := [(7, .ref q), (0, .ref (b + 0)), (1, .int 0), (2, .int w1), (3, .int w2), (4, .int w3), (5, .int w4), (6, .ref (b + 431))]) B dL_check_19 (by decide) rfl ?_
  refine z_iconst (v := 1) B dL_check_21 (by decide) ?_
  exact z_iret B hr (by decide) (by decide) dL_check_22 ⟨rfl, _, rfl⟩
set_option maxRecDepth 100000 in
set_option maxHeartbeats 4000000 in
theorem ci_X9_check_423 (l : Launch) {g : gx_T} {σ : sx_T} {b : Nat} (hK : lay b σ) (w1 : Int32) (w2 : Int32) (w3 : Int32) (w4 : Int32) (q1_w1 : (20 : Int) ≤ w1.toInt) (q2_w1 : w1.toInt ≤ (2147483647 : Int)) (q1_w2 : (-2147483648 : Int) ≤ w2.toInt) (q2_w2 : w2.toInt ≤ (-1 : Int))  : Met l yX9_check (.code yX9_check cX9_check 11 (some .int) :: lw_g) { frames := 2, cells := 0, slots := 0, locals := 44 } (va_Pc [.ref (b + 405), .int 0, .int w1, .int w2, .int w3, .int w4] (zx_w g σ)) (va_Qi (fun r u => r = 0 ∧ u = (ap b σ [(405, 0, 1)] [] [])) (zx_w g) (gx_Q g)) 0 0 (gx_Q g) := by
  refine z_met (by decide) (Nat.le_of_ble_eq_true rfl) (fun p e s m below meth c B hr hin => ?_)
  refine z_eqs (σ' := (ap b σ [] [] [])) rfl ?_
  show zx p l e _ s m _ below meth c g 11 0 0 _ _ 0 [(0, .ref (b + 405)), (1, .int 0), (2, .int w1), (3, .int w2), (4, .int w3), (5, .int w4)] []
  refine z_aload_n B dX9_check_0 rfl 0 rfl ?_
  refine z_iload_n B dX9_check_1 rfl 1 rfl ?_
  refine z_iload_n B dX9_check_2 rfl 2 rfl ?_
  refine z_cSi (As := [.int 0, .int w1]) (rest := [.ref (b + 405)]) B cw_X9_238 dX9_check_3 (ci_X9_isStep_114 l (σ := (ap b σ [] [] [])) (b := b) (lyA hK) w1 q1_w1 q2_w1) rfl (by decide) rfl (Nat.le_of_ble_eq_true rfl) (by decide) (fun r u hu => ?_)
  refine z_eqs (σ' := (ap b σ [] [] [])) hu.2 ?_
  show zx p l e _ s m _ below meth c g 11 0 0 _ _ 6 [(0, .ref (b + 405)), (1, .int 0), (2, .int w1), (3, .int w2), (4, .int w3), (5, .int w4)] _
  refine z_seti (y := 0) hu.1 ?_
  refine z_iload_n B dX9_check_6 rfl 3 rfl ?_
  refine z_iload B dX9_check_7 4 rfl ?_
  refine z_iload B dX9_check_9 5 rfl ?_
  refine z_cSi (As := [.int w2, .int w3, .int w4]) (rest := [.int 0, .ref (b + 405)]) B cw_X9_242 dX9_check_11 (ci_X9_isOperation_28 l (σ := (ap b σ [] [] [])) (b := b) (lyA hK) w2 w3 w4 q1_w2 q2_w2) rfl (by decide) rfl (Nat.le_of_ble_eq_true rfl) (by decide) (fun r u hu => ?_)
  refine z_eqs (σ' := (ap b σ [] [] [])) hu.2 ?_
  show zx p l e _ s m _ below meth c g 11 0 0 _ _ 14 [(0, .ref (b + 405)), (1, .int 0), (2, .int w1), (3, .int w2), (4, .int w3), (5, .int w4)] _
  refine z_seti (y := 0) hu.1 ?_
  refine z_cVi (As := [.int 0, .int 0]) (rest := []) B cw_X9_245 cx_10 dX9_check_14 (ci_X9_needs__29 l (σ := (ap b σ [] [] [])) (b := b) (lyA hK) ) (lKA (hk_K hK 405 rfl rfl)) rfl (by decide) rfl (Nat.le_of_ble_eq_true rfl) (by decide) (fun r u hu => ?_)
  refine z_eqs (σ' := (ap b σ [(405, 0, 1)] [] [])) (hu.2.trans ap_ap) ?_
  show zx p l e _ s m _ below meth c g 11 0 0 _ _ 17 [(0, .ref (b + 405)), (1, .int 0), (2, .int w1), (3, .int w2), (4, .int w3), (5, .int w4)] _
  refine z_seti (y := 0) hu.1 ?_
  refine z_if_ne (tgt := 22) B dX9_check_17 (by decide) (fun h => absurd (by decide) h) (fun _ => ?_)
  refine z_iconst (v := 0) B dX9_check_20 (by decide) ?_
  exact z_iret B hr (by decide) (by decide) dX9_check_21 ⟨rfl, rfl⟩
set_option maxRecDepth 100000 in
set_option maxHeartbeats 4000000 in
theorem ci_X9_check_424 (l : Launch) {g : gx_T} {σ : sx_T} {b : Nat} (hK : lay b σ) (w1 : Int32) (w2 : Int32) (w3 : Int32) (w4 : Int32) (q1_w1 : (20 : Int) ≤ w1.toInt) (q2_w1 : w1.toInt ≤ (2147483647 : Int)) (q1_w2 : (0 : Int) ≤ w2.toInt) (q2_w2 : w2.toInt ≤ (17 : Int)) (q1_w3 : (-2147483648 : Int) ≤ w3.toInt) (q2_w3 : w3.toInt ≤ (-1 : Int))  : Met l yX9_check (.code yX9_check cX9_check 11 (some .int) :: lw_g) { frames := 2, cells := 0, slots := 0, locals := 44 } (va_Pc [.ref (b + 405), .int 0, .int w1, .int w2, .int w3, .int w4] (zx_w g σ)) (va_Qi (fun r u => r = 0 ∧ u = (ap b σ [(405, 0, 1)] [] [])) (zx_w g) (gx_Q g)) 0 0 (gx_Q g) := by
  refine z_met (by decide) (Nat.le_of_ble_eq_true rfl) (fun p e s m below meth c B hr hin => ?_)
  refine z_eqs (σ' := (ap b σ [] [] [])) rfl ?_
  show zx p l e _ s m _ below meth c g 11 0 0 _ _ 0 [(0, .ref (b + 405)), (1, .int 0), (2, .int w1), (3, .int w2), (4, .int w3), (5, .int w4)] []
  refine z_aload_n B dX9_check_0 rfl 0 rfl ?_
  refine z_iload_n B dX9_check_1 rfl 1 rfl ?_
  refine z_iload_n B dX9_check_2 rfl 2 rfl ?_
  refine z_cSi (As := [.int 0, .int w1]) (rest := [.ref (b + 405)]) B cw_X9_238 dX9_check_3 (ci_X9_isStep_114 l (σ := (ap b σ [] [] [])) (b := b) (lyA hK) w1 q1_w1 q2_w1) rfl (by decide) rfl (Nat.le_of_ble_eq_true rfl) (by decide) (fun r u hu => ?_)
  refine z_eqs (σ' := (ap b σ [] [] [])) hu.2 ?_
  show zx p l e _ s m _ below meth c g 11 0 0 _ _ 6 [(0, .ref (b + 405)), (1, .int 0), (2, .int w1), (3, .int w2), (4, .int w3), (5, .int w4)] _
  refine z_seti (y := 0) hu.1 ?_
  refine z_iload_n B dX9_check_6 rfl 3 rfl ?_
  refine z_iload B dX9_check_7 4 rfl ?_
  refine z_iload B dX9_check_9 5 rfl ?_
  refine z_cSi (As := [.int w2, .int w3, .int w4]) (rest := [.int 0, .ref (b + 405)]) B cw_X9_242 dX9_check_11 (ci_X9_isOperation_34 l (σ := (ap b σ [] [] [])) (b := b) (lyA hK) w2 w3 w4 q1_w2 q2_w2 q1_w3 q2_w3) rfl (by decide) rfl (Nat.le_of_ble_eq_true rfl) (by decide) (fun r u hu => ?_)
  refine z_eqs (σ' := (ap b σ [] [] [])) hu.2 ?_
  show zx p l e _ s m _ below meth c g 11 0 0 _ _ 14 [(0, .ref (b + 405)), (1, .int 0), (2, .int w1), (3, .int w2), (4, .int w3), (5, .int w4)] _
  refine z_seti (y := 0) hu.1 ?_
  refine z_cVi (As := [.int 0, .int 0]) (rest := []) B cw_X9_245 cx_10 dX9_check_14 (ci_X9_needs__29 l (σ := (ap b σ [] [] [])) (b := b) (lyA hK) ) (lKA (hk_K hK 405 rfl rfl)) rfl (by decide) rfl (Nat.le_of_ble_eq_true rfl) (by decide) (fun r u hu => ?_)
  refine z_eqs (σ' := (ap b σ [(405, 0, 1)] [] [])) (hu.2.trans ap_ap) ?_
  show zx p l e _ s m _ below meth c g 11 0 0 _ _ 17 [(0, .ref (b + 405)), (1, .int 0), (2, .int w1), (3, .int w2), (4, .int w3), (5, .int w4)] _
  refine z_seti (y := 0) hu.1 ?_
  refine z_if_ne (tgt := 22) B dX9_check_17 (by decide) (fun h => absurd (by decide) h) (fun _ => ?_)
  refine z_iconst (v := 0) B dX9_check_20 (by decide) ?_
  exact z_iret B hr (by decide) (by decide) dX9_check_21 ⟨rfl, rfl⟩
set_option maxRecDepth 100000 in
set_option maxHeartbeats 4000000 in
theorem ci_X9_check_425 (l : Launch) {g : gx_T} {σ : sx_T} {b : Nat} (hK : lay b σ) (w1 : Int32) (w2 : Int32) (w3 : Int32) (w4 : Int32) (q1_w1 : (20 : Int) ≤ w1.toInt) (q2_w1 : w1.toInt ≤ (2147483647 : Int)) (q1_w2 : (0 : Int) ≤ w2.toInt) (q2_w2 : w2.toInt ≤ (17 : Int)) (q1_w3 : (0 : Int) ≤ w3.toInt) (q2_w3 : w3.toInt ≤ (99 : Int)) (q1_w4 : (-2147483648 : Int) ≤ w4.toInt) (q2_w4 : w4.toInt ≤ (-1 : Int))  : Met l yX9_check (.code yX9_check cX9_check 11 (some .int) :: lw_g) { frames := 2, cells := 0, slots := 0, locals := 44 } (va_Pc [.ref (b + 405), .int 0, .int w1, .int w2, .int w3, .int w4] (zx_w g σ)) (va_Qi (fun r u => r = 0 ∧ u = (ap b σ [(405, 0, 1)] [] [])) (zx_w g) (gx_Q g)) 0 0 (gx_Q g) := by
  refine z_met (by decide) (Nat.le_of_ble_eq_true rfl) (fun p e s m below meth c B hr hin => ?_)
  refine z_eqs (σ' := (ap b σ [] [] [])) rfl ?_
  show zx p l e _ s m _ below meth c g 11 0 0 _ _ 0 [(0, .ref (b + 405)), (1, .int 0), (2, .int w1), (3, .int w2), (4, .int w3), (5, .int w4)] []
  refine z_aload_n B dX9_check_0 rfl 0 rfl ?_
  refine z_iload_n B dX9_check_1 rfl 1 rfl ?_
  refine z_iload_n B dX9_check_2 rfl 2 rfl ?_
  refine z_cSi (As := [.int 0, .int w1]) (rest := [.ref (b + 405)]) B cw_X9_238 dX9_check_3 (ci_X9_isStep_114 l (σ := (ap b σ [] [] [])) (b := b) (lyA hK) w1 q1_w1 q2_w1) rfl (by decide) rfl (Nat.le_of_ble_eq_true rfl) (by decide) (fun r u hu => ?_)
  refine z_eqs (σ' := (ap b σ [] [] [])) hu.2 ?_
  show zx p l e _ s m _ below meth c g 11 0 0 _ _ 6 [(0, .ref (b + 405)), (1, .int 0), (2, .int w1), (3, .int w2), (4, .int w3), (5, .int w4)] _
  refine z_seti (y := 0) hu.1 ?_
  refine z_iload_n B dX9_check_6 rfl 3 rfl ?_
  refine z_iload B dX9_check_7 4 rfl ?_
  refine z_iload B dX9_check_9 5 rfl ?_
  refine z_cSi (As := [.int w2, .int w3, .int w4]) (rest := [.int 0, .ref (b + 405)]) B cw_X9_242 dX9_check_11 (ci_X9_isOperation_37 l (σ := (ap b σ [] [] [])) (b := b) (lyA hK) w2 w3 w4 q1_w2 q2_w2 q1_w3 q2_w3 q1_w4 q2_w4) rfl (by decide) rfl (Nat.le_of_ble_eq_true rfl) (by decide) (fun r u hu => ?_)
  refine z_eqs (σ' := (ap b σ [] [] [])) hu.2 ?_
  show zx p l e _ s m _ below meth c g 11 0 0 _ _ 14 [(0, .ref (b + 405)), (1, .int 0), (2, .int w1), (3, .int w2), (4, .int w3), (5, .int w4)] _
  refine z_seti (y := 0) hu.1 ?_
  refine z_cVi (As := [.int 0, .int 0]) (rest := []) B cw_X9_245 cx_10 dX9_check_14 (ci_X9_needs__29 l (σ := (ap b σ [] [] [])) (b := b) (lyA hK) ) (lKA (hk_K hK 405 rfl rfl)) rfl (by decide) rfl (Nat.le_of_ble_eq_true rfl) (by decide) (fun r u hu => ?_)
  refine z_eqs (σ' := (ap b σ [(405, 0, 1)] [] [])) (hu.2.trans ap_ap) ?_
  show zx p l e _ s m _ below meth c g 11 0 0 _ _ 17 [(0, .ref (b + 405)), (1, .int 0), (2, .int w1), (3, .int w2), (4, .int w3), (5, .int w4)] _
  refine z_seti (y := 0) hu.1 ?_
  refine z_if_ne (tgt := 22) B dX9_check_17 (by decide) (fun h => absurd (by decide) h) (fun _ => ?_)
  refine z_iconst (v := 0) B dX9_check_20 (by decide) ?_
  exact z_iret B hr (by decide) (by decide) dX9_check_21 ⟨rfl, rfl⟩
set_option maxRecDepth 100000 in
set_option maxHeartbeats 4000000 in
theorem ci_X9_check_426 (l : Launch) {g : gx_T} {σ : sx_T} {b : Nat} (hK : lay b σ) (w1 : Int32) (w2 : Int32) (w3 : Int32) (w4 : Int32) (q1_w1 : (20 : Int) ≤ w1.toInt) (q2_w1 : w1.toInt ≤ (2147483647 : Int)) (q1_w2 : (0 : Int) ≤ w2.toInt) (q2_w2 : w2.toInt ≤ (17 : Int)) (q1_w3 : (0 : Int) ≤ w3.toInt) (q2_w3 : w3.toInt ≤ (99 : Int)) (q1_w4 : (0 : Int) ≤ w4.toInt) (q2_w4 : w4.toInt ≤ (99 : Int))  : Met l yX9_check (.code yX9_check cX9_check 11 (some .int) :: lw_g) { frames := 2, cells := 0, slots := 0, locals := 44 } (va_Pc [.ref (b + 405), .int 0, .int w1, .int w2, .int w3, .int w4] (zx_w g σ)) (va_Qi (fun r u => r = 0 ∧ u = (ap b σ [(405, 0, 1)] [] [])) (zx_w g) (gx_Q g)) 0 0 (gx_Q g) := by
  refine z_met (by decide) (Nat.le_of_ble_eq_true rfl) (fun p e s m below meth c B hr hin => ?_)
  refine z_eqs (σ' := (ap b σ [] [] [])) rfl ?_
  show zx p l e _ s m _ below meth c g 11 0 0 _ _ 0 [(0, .ref (b + 405)), (1, .int 0), (2, .int w1), (3, .int w2), (4, .int w3), (5, .int w4)] []
  refine z_aload_n B dX9_check_0 rfl 0 rfl ?_
  refine z_iload_n B dX9_check_1 rfl 1 rfl ?_
  refine z_iload_n B dX9_check_2 rfl 2 rfl ?_
  refine z_cSi (As := [.int 0, .int w1]) (rest := [.ref (b + 405)]) B cw_X9_238 dX9_check_3 (ci_X9_isStep_114 l (σ := (ap b σ [] [] [])) (b := b) (lyA hK) w1 q1_w1 q2_w1) rfl (by decide) rfl (Nat.le_of_ble_eq_true rfl) (by decide) (fun r u hu => ?_)
  refine z_eqs (σ' := (ap b σ [] [] [])) hu.2 ?_
  show zx p l e _ s m _ below meth c g 11 0 0 _ _ 6 [(0, .ref (b + 405)), (1, .int 0), (2, .int w1), (3, .int w2), (4, .int w3), (5, .int w4)] _
  refine z_seti (y := 0) hu.1 ?_
  refine z_iload_n B dX9_check_6 rfl 3 rfl ?_
  refine z_iload B dX9_check_7 4 rfl ?_
  refine z_iload B dX9_check_9 5 rfl ?_
  refine z_cSi (As := [.int w2, .int w3, .int w4]) (rest := [.int 0, .ref (b + 405)]) B cw_X9_242 dX9_check_11 (ci_X9_isOperation_39 l (σ := (ap b σ [] [] [])) (b := b) (lyA hK) w2 w3 w4 q1_w2 q2_w2 q1_w3 q2_w3 q1_w4 q2_w4) rfl (by decide) rfl (Nat.le_of_ble_eq_true rfl) (by decide) (fun r u hu => ?_)
  refine z_eqs (σ' := (ap b σ [] [] [])) hu.2 ?_
  show zx p l e _ s m _ below meth c g 11 0 0 _ _ 14 [(0, .ref (b + 405)), (1, .int 0), (2, .int w1), (3, .int w2), (4, .int w3), (5, .int w4)] _
  refine z_seti (y := 1) hu.1 ?_
  refine z_cVi (As := [.int 0, .int 1]) (rest := []) B cw_X9_245 cx_10 dX9_check_14 (ci_X9_needs__40 l (σ := (ap b σ [] [] [])) (b := b) (lyA hK) ) (lKA (hk_K hK 405 rfl rfl)) rfl (by decide) rfl (Nat.le_of_ble_eq_true rfl) (by decide) (fun r u hu => ?_)
  refine z_eqs (σ' := (ap b σ [(405, 0, 1)] [] [])) (hu.2.trans ap_ap) ?_
  show zx p l e _ s m _ below meth c g 11 0 0 _ _ 17 [(0, .ref (b + 405)), (1, .int 0), (2, .int w1), (3, .int w2), (4, .int w3), (5, .int w4)] _
  refine z_seti (y := 0) hu.1 ?_
  refine z_if_ne (tgt := 22) B dX9_check_17 (by decide) (fun h => absurd (by decide) h) (fun _ => ?_)
  refine z_iconst (v := 0) B dX9_check_20 (by decide) ?_
  exact z_iret B hr (by decide) (by decide) dX9_check_21 ⟨rfl, rfl⟩
set_option maxRecDepth 100000 in
set_option maxHeartbeats 4000000 in
theorem ci_X9_check_427 (l : Launch) {g : gx_T} {σ : sx_T} {b : Nat} (hK : lay b σ) (w1 : Int32) (w2 : Int32) (w3 : Int32) (w4 : Int32) (q1_w1 : (20 : Int) ≤ w1.toInt) (q2_w1 : w1.toInt ≤ (2147483647 : Int)) (q1_w2 : (0 : Int) ≤ w2.toInt) (q2_w2 : w2.toInt ≤ (17 : Int)) (q1_w3 : (0 : Int) ≤ w3.toInt) (q2_w3 : w3.toInt ≤ (99 : Int)) (q1_w4 : (100 : Int) ≤ w4.toInt) (q2_w4 : w4.toInt ≤ (2147483647 : Int))  : Met l yX9_check (.code yX9_check cX9_check 11 (some .int) :: lw_g) { frames := 2, cells := 0, slots := 0, locals := 44 } (va_Pc [.ref (b + 405), .int 0, .int w1, .int w2, .int w3, .int w4] (zx_w g σ)) (va_Qi (fun r u => r = 0 ∧ u = (ap b σ [(405, 0, 1)] [] [])) (zx_w g) (gx_Q g)) 0 0 (gx_Q g) := by
  refine z_met (by decide) (Nat.le_of_ble_eq_true rfl) (fun p e s m below meth c B hr hin => ?_)
  refine z_eqs (σ' := (ap b σ [] [] [])) rfl ?_
  show zx p l e _ s m _ below meth c g 11 0 0 _ _ 0 [(0, .ref (b + 405)), (1, .int 0), (2, .int w1), (3, .int w2), (4, .int w3), (5, .int w4)] []
  refine z_aload_n B dX9_check_0 rfl 0 rfl ?_
  refine z_iload_n B dX9_check_1 rfl 1 rfl ?_
  refine z_iload_n B dX9_check_2 rfl 2 rfl ?_
  refine z_cSi (As := [.int 0, .int w1]) (rest := [.ref (b + 405)]) B cw_X9_238 dX9_check_3 (ci_X9_isStep_114 l (σ := (ap b σ [] [] [])) (b := b) (lyA hK) w1 q1_w1 q2_w1) rfl (by decide) rfl (Nat.le_of_ble_eq_true rfl) (by decide) (fun r u hu => ?_)
  refine z_eqs (σ' := (ap b σ [] [] [])) hu.2 ?_
  show zx p l e _ s m _ below meth c g 11 0 0 _ _ 6 [(0, .ref (b + 405)), (1, .int 0), (2, .int w1), (3, .int w2), (4, .int w3), (5, .int w4)] _
  refine z_seti (y := 0) hu.1 ?_
  refine z_iload_n B dX9_check_6 rfl 3 rfl ?_
  refine z_iload B dX9_check_7 4 rfl ?_
  refine z_iload B dX9_check_9 5 rfl ?_
  refine z_cSi (As := [.int w2, .int w3, .int w4]) (rest := [.int 0, .ref (b + 405)]) B cw_X9_242 dX9_check_11 (ci_X9_isOperation_43 l (σ := (ap b σ [] [] [])) (b := b) (lyA hK) w2 w3 w4 q1_w2 q2_w2 q1_w3 q2_w3 q1_w4 q2_w4) rfl (by decide) rfl (Nat.le_of_ble_eq_true rfl) (by decide) (fun r u hu => ?_)
  refine z_eqs (σ' := (ap b σ [] [] [])) hu.2 ?_
  show zx p l e _ s m _ below meth c g 11 0 0 _ _ 14 [(0, .ref (b + 405)), (1, .int 0), (2, .int w1), (3, .int w2), (4, .int w3), (5, .int w4)] _
  refine z_seti (y := 0) hu.1 ?_
  refine z_cVi (As := [.int 0, .int 0]) (rest := []) B cw_X9_245 cx_10 dX9_check_14 (ci_X9_needs__29 l (σ := (ap b σ [] [] [])) (b := b) (lyA hK) ) (lKA (hk_K hK 405 rfl rfl)) rfl (by decide) rfl (Nat.le_of_ble_eq_true rfl) (by decide) (fun r u hu => ?_)
  refine z_eqs (σ' := (ap b σ [(405, 0, 1)] [] [])) (hu.2.trans ap_ap) ?_
  show zx p l e _ s m _ below meth c g 11 0 0 _ _ 17 [(0, .ref (b + 405)), (1, .int 0), (2, .int w1), (3, .int w2), (4, .int w3), (5, .int w4)] _
  refine z_seti (y := 0) hu.1 ?_
  refine z_if_ne (tgt := 22) B dX9_check_17 (by decide) (fun h => absurd (by decide) h) (fun _ => ?_)
  refine z_iconst (v := 0) B dX9_check_20 (by decide) ?_
  exact z_iret B hr (by decide) (by decide) dX9_check_21 ⟨rfl, rfl⟩
set_option maxRecDepth 100000 in
set_option maxHeartbeats 4000000 in
theorem ci_X9_check_428 (l : Launch) {g : gx_T} {σ : sx_T} {b : Nat} (hK : lay b σ) (w1 : Int32) (w2 : Int32) (w3 : Int32) (w4 : Int32) (q1_w1 : (20 : Int) ≤ w1.toInt) (q2_w1 : w1.toInt ≤ (2147483647 : Int)) (q1_w2 : (0 : Int) ≤ w2.toInt) (q2_w2 : w2.toInt ≤ (17 : Int)) (q1_w3 : (100 : Int) ≤ w3.toInt) (q2_w3 : w3.toInt ≤ (2147483647 : Int))  : Met l yX9_check (.code yX9_check cX9_check 11 (some .int) :: lw_g) { frames := 2, cells := 0, slots := 0, locals := 44 } (va_Pc [.ref (b + 405), .int 0, .int w1, .int w2, .int w3, .int w4] (zx_w g σ)) (va_Qi (fun r u => r = 0 ∧ u = (ap b σ [(405, 0, 1)] [] [])) (zx_w g) (gx_Q g)) 0 0 (gx_Q g) := by
  refine z_met (by decide) (Nat.le_of_ble_eq_true rfl) (fun p e s m below meth c B hr hin => ?_)
  refine z_eqs (σ' := (ap b σ [] [] [])) rfl ?_
  show zx p l e _ s m _ below meth c g 11 0 0 _ _ 0 [(0, .ref (b + 405)), (1, .int 0), (2, .int w1), (3, .int w2), (4, .int w3), (5, .int w4)] []
  refine z_aload_n B dX9_check_0 rfl 0 rfl ?_
  refine z_iload_n B dX9_check_1 rfl 1 rfl ?_
  refine z_iload_n B dX9_check_2 rfl 2 rfl ?_
  refine z_cSi (As := [.int 0, .int w1]) (rest := [.ref (b + 405)]) B cw_X9_238 dX9_check_3 (ci_X9_isStep_114 l (σ := (ap b σ [] [] [])) (b := b) (lyA hK) w1 q1_w1 q2_w1) rfl (by decide) rfl (Nat.le_of_ble_eq_true rfl) (by decide) (fun r u hu => ?_)
  refine z_eqs (σ' := (ap b σ [] [] [])) hu.2 ?_
  show zx p l e _ s m _ below meth c g 11 0 0 _ _ 6 [(0, .ref (b + 405)), (1, .int 0), (2, .int w1), (3, .int w2), (4, .int w3), (5, .int w4)] _
  refine z_seti (y := 0) hu.1 ?_
  refine z_iload_n B dX9_check_6 rfl 3 rfl ?_
  refine z_iload B dX9_check_7 4 rfl ?_
  refine z_iload B dX9_check_9 5 rfl ?_
  refine z_cSi (As := [.int w2, .int w3, .int w4]) (rest := [.int 0, .ref (b + 405)]) B cw_X9_242 dX9_check_11 (ci_X9_isOperation_45 l (σ := (ap b σ [] [] [])) (b := b) (lyA hK) w2 w3 w4 q1_w2 q2_w2 q1_w3 q2_w3) rfl (by decide) rfl (Nat.le_of_ble_eq_true rfl) (by decide) (fun r u hu => ?_)
  refine z_eqs (σ' := (ap b σ [] [] [])) hu.2 ?_
  show zx p l e _ s m _ below meth c g 11 0 0 _ _ 14 [(0, .ref (b + 405)), (1, .int 0), (2, .int w1), (3, .int w2), (4, .int w3), (5, .int w4)] _
  refine z_seti (y := 0) hu.1 ?_
  refine z_cVi (As := [.int 0, .int 0]) (rest := []) B cw_X9_245 cx_10 dX9_check_14 (ci_X9_needs__29 l (σ := (ap b σ [] [] [])) (b := b) (lyA hK) ) (lKA (hk_K hK 405 rfl rfl)) rfl (by decide) rfl (Nat.le_of_ble_eq_true rfl) (by decide) (fun r u hu => ?_)
  refine z_eqs (σ' := (ap b σ [(405, 0, 1)] [] [])) (hu.2.trans ap_ap) ?_
  show zx p l e _ s m _ below meth c g 11 0 0 _ _ 17 [(0, .ref (b + 405)), (1, .int 0), (2, .int w1), (3, .int w2), (4, .int w3), (5, .int w4)] _
  refine z_seti (y := 0) hu.1 ?_
  refine z_if_ne (tgt := 22) B dX9_check_17 (by decide) (fun h => absurd (by decide) h) (fun _ => ?_)
  refine z_iconst (v := 0) B dX9_check_20 (by decide) ?_
  exact z_iret B hr (by decide) (by decide) dX9_check_21 ⟨rfl, rfl⟩
set_option maxRecDepth 100000 in
set_option maxHeartbeats 4000000 in
theorem ci_X9_check_429 (l : Launch) {g : gx_T} {σ : sx_T} {b : Nat} (hK : lay b σ) (w1 : Int32) (w2 : Int32) (w3 : Int32) (w4 : Int32) (q1_w1 : (20 : Int) ≤ w1.toInt) (q2_w1 : w1.toInt ≤ (2147483647 : Int)) (q1_w2 : (18 : Int) ≤ w2.toInt) (q2_w2 : w2.toInt ≤ (2147483647 : Int))  : Met l yX9_check (.code yX9_check cX9_check 11 (some .int) :: lw_g) { frames := 2, cells := 0, slots := 0, locals := 44 } (va_Pc [.ref (b + 405), .int 0, .int w1, .int w2, .int w3, .int w4] (zx_w g σ)) (va_Qi (fun r u => r = 0 ∧ u = (ap b σ [(405, 0, 1)] [] [])) (zx_w g) (gx_Q g)) 0 0 (gx_Q g) := by
  refine z_met (by decide) (Nat.le_of_ble_eq_true rfl) (fun p e s m below meth c B hr hin => ?_)
  refine z_eqs (σ' := (ap b σ [] [] [])) rfl ?_
  show zx p l e _ s m _ below meth c g 11 0 0 _ _ 0 [(0, .ref (b + 405)), (1, .int 0), (2, .int w1), (3, .int w2), (4, .int w3), (5, .int w4)] []
  refine z_aload_n B dX9_check_0 rfl 0 rfl ?_
  refine z_iload_n B dX9_check_1 rfl 1 rfl ?_
  refine z_iload_n B dX9_check_2 rfl 2 rfl ?_
  refine z_cSi (As := [.int 0, .int w1]) (rest := [.ref (b + 405)]) B cw_X9_238 dX9_check_3 (ci_X9_isStep_114 l (σ := (ap b σ [] [] [])) (b := b) (lyA hK) w1 q1_w1 q2_w1) rfl (by decide) rfl (Nat.le_of_ble_eq_true rfl) (by decide) (fun r u hu => ?_)
  refine z_eqs (σ' := (ap b σ [] [] [])) hu.2 ?_
  show zx p l e _ s m _ below meth c g 11 0 0 _ _ 6 [(0, .ref (b + 405)), (1, .int 0), (2, .int w1), (3, .int w2), (4, .int w3), (5, .int w4)] _
  refine z_seti (y := 0) hu.1 ?_
  refine z_iload_n B dX9_check_6 rfl 3 rfl ?_
  refine z_iload B dX9_check_7 4 rfl ?_
  refine z_iload B dX9_check_9 5 rfl ?_
  refine z_cSi (As := [.int w2, .int w3, .int w4]) (rest := [.int 0, .ref (b + 405)]) B cw_X9_242 dX9_check_11 (ci_X9_isOperation_48 l (σ := (ap b σ [] [] [])) (b := b) (lyA hK) w2 w3 w4 q1_w2 q2_w2) rfl (by decide) rfl (Nat.le_of_ble_eq_true rfl) (by decide) (fun r u hu => ?_)
  refine z_eqs (σ' := (ap b σ [] [] [])) hu.2 ?_
  show zx p l e _ s m _ below meth c g 11 0 0 _ _ 14 [(0, .ref (b + 405)), (1, .int 0), (2, .int w1), (3, .int w2), (4, .int w3), (5, .int w4)] _
  refine z_seti (y := 0) hu.1 ?_
  refine z_cVi (As := [.int 0, .int 0]) (rest := []) B cw_X9_245 cx_10 dX9_check_14 (ci_X9_needs__29 l (σ := (ap b σ [] [] [])) (b := b) (lyA hK) ) (lKA (hk_K hK 405 rfl rfl)) rfl (by decide) rfl (Nat.le_of_ble_eq_true rfl) (by decide) (fun r u hu => ?_)
  refine z_eqs (σ' := (ap b σ [(405, 0, 1)] [] [])) (hu.2.trans ap_ap) ?_
  show zx p l e _ s m _ below meth c g 11 0 0 _ _ 17 [(0, .ref (b + 405)), (1, .int 0), (2, .int w1), (3, .int w2), (4, .int w3), (5, .int w4)] _
  refine z_seti (y := 0) hu.1 ?_
  refine z_if_ne (tgt := 22) B dX9_check_17 (by decide) (fun h => absurd (by decide) h) (fun _ => ?_)
  refine z_iconst (v := 0) B dX9_check_20 (by decide) ?_
  exact z_iret B hr (by decide) (by decide) dX9_check_21 ⟨rfl, rfl⟩
set_option maxRecDepth 100000 in
set_option maxHeartbeats 4000000 in
theorem ci_X8_check_430 (l : Launch) (hlt : l.stackTraces = false) {g : gx_T} {σ : sx_T} {b : Nat} (hK : lay b σ) (w1 : Int32) (w2 : Int32) (w3 : Int32) (w4 : Int32) (q1_w1 : (-2147483648 : Int) ≤ w1.toInt) (q2_w1 : w1.toInt ≤ (-1 : Int)) (hR_0_0 : sx_R σ (b + 0) 0 = (some (b + 1))) (hR_1_1 : sx_R σ (b + 1) 1 = (some (b + 13))) : vx_Met l yX8_check (.code yX8_check cX8_check 13 (some .int) :: lw_g) { frames := 7, cells := 1, slots := 6, locals := 136 } (va_Pc [.ref (b + 0), .int 1, .int w1, .int w2, .int w3, .int w4] (zx_w g σ)) (va_Qi (S := sx_T) (fun _ _ => False) (zx_w g) (gx_Q g)) (vx_X (fun u : sx_T => ∃ z, u = wx_Z σ z) (fun E u t => E = "java/lang/IndexOutOfBoundsException" ∧ zx_h g u t.heap) (gx_Q g)) 1 6 (gx_Q g) := by
  refine z_metX (by decide) (Nat.le_of_ble_eq_true rfl) (fun p e s m below meth c B hr hin hout => ?_)
  refine z_eqs (σ' := (ap b σ [] [] [])) rfl ?_
  show zx p l e _ s m _ below meth c g 13 0 0 _ _ 0 [(0, .ref (b + 0)), (1, .int 1), (2, .int w1), (3, .int w2), (4, .int w3), (5, .int w4)] []
  refine z_aload_n B dX8_check_0 rfl 0 rfl ?_
  refine z_iload_n B dX8_check_1 rfl 1 rfl ?_
  refine z_cVq (As := [.int 1]) (rest := []) B cw_X8_64 cx_9 dX8_check_2 (ci_X8_programAt_122 l (σ := (ap b σ [] [] [])) (b := b) (lyA hK) (rR_at 0 0 hR_0_0) (rR_at 1 1 hR_1_1)) (lKA (hk_K hK 0 rfl rfl)) rfl (by decide) rfl (Nat.le_of_ble_eq_true rfl) (by decide) (fun r u hu => ?_)
  refine z_eqs (σ' := (ap b σ [] [] [])) hu.2 ?_
  show zx p l e _ s m _ below meth c g 13 0 0 _ _ 5 [(0, .ref (b + 0)), (1, .int 1), (2, .int w1), (3, .int w2), (4, .int w3), (5, .int w4)] _
  refine z_setr (y := (some (b + 13))) hu.1 ?_
  refine z_astore (lv' := [(6, .ref (b + 13)), (0, .ref (b + 0)), (1, .int 1), (2, .int w1), (3, .int w2), (4, .int w3), (5, .int w4)]) B dX8_check_5 (by decide) rfl ?_
  refine z_aload B dX8_check_7 0 rfl ?_
  refine z_ifnull (r := (some (b + 13))) (tgt := 21) B dX8_check_9 (by decide) (fun h => nomatch h) (fun _ _ => ?_)
  refine z_iload_n B dX8_check_12 rfl 3 rfl ?_
  refine z_bipush (v := 20) B dX8_check_13 (by decide) ?_
  refine z_cSi (As := [.int w1, .int 20]) (rest := []) B cw_X8_68 dX8_check_15 (ci_X8_isBelow_51 l (σ := (ap b σ [] [] [])) (b := b) (lyA hK) w1 q1_w1 q2_w1) rfl (by decide) rfl (Nat.le_of_ble_eq_true rfl) (by decide) (fun r u hu => ?_)
  refine z_eqs (σ' := (ap b σ [] [] [])) hu.2 ?_
  show zx p l e _ s m _ below meth c g 13 0 0 _ _ 18 [(6, .ref (b + 13)), (0, .ref (b + 0)), (1, .int 1), (2, .int w1), (3, .int w2), (4, .int w3), (5, .int w4)] _
  refine z_seti (y := 0) hu.1 ?_
  refine z_if_ne (tgt := 31) B dX8_check_18 (by decide) (fun h => absurd (by decide) h) (fun _ => ?_)
  exact z_throw B hlt hout (cls := "java/lang/IndexOutOfBoundsException") (text := "no such step") tw_X8_72_74_76 dX8_check_21 dX8_check_24 dX8_check_25 dX8_check_27 dX8_check_30 (by decide) (by decide) (by decide) (by decide) (by decide) (by decide) (fun z => ⟨z, rfl⟩)
set_option maxRecDepth 100000 in
set_option maxHeartbeats 4000000 in
theorem ci_L_check_431 (l : Launch) (hlt : l.stackTraces = false) {g : gx_T} {σ : sx_T} {b : Nat} (hK : lay b σ) (w1 : Int32) (w2 : Int32) (w3 : Int32) (w4 : Int32) (q1_w1 : (-2147483648 : Int) ≤ w1.toInt) (q2_w1 : w1.toInt ≤ (-1 : Int)) (hR_0_0 : sx_R σ (b + 0) 0 = (some (b + 1))) (hR_1_1 : sx_R σ (b + 1) 1 = (some (b + 13))) : Met l yL_check (.codeWith yL_check cL_check 8 (some .int) [(0, 16, 19, 13), (0, 16, 23, 15)] :: lw_g) { frames := 8, cells := 1, slots := 6, locals := 168 } (va_Pc [.ref (b + 0), .int 1, .int w1, .int w2, .int w3, .int w4, .ref (b + 431)] (zx_w g σ)) (va_Qi (fun r u => r = 1 ∧ ∃ z, u = (ap b (wx_Z σ z) [] [] [])) (zx_w g) (gx_Q g)) 1 6 (gx_Q g) := by
  refine z_metW (by decide) (Nat.le_of_ble_eq_true rfl) (fun p e s m below meth c B hr htab => ?_)
  refine z_eqs (σ' := (ap b σ [] [] [])) rfl ?_
  show zx p l e _ s m _ below meth c g 8 0 0 _ _ 0 [(0, .ref (b + 0)), (1, .int 1), (2, .int w1), (3, .int w2), (4, .int w3), (5, .int w4), (6, .ref (b + 431))] []
  refine z_aload B dL_check_0 6 rfl ?_
  refine z_iconst (v := 0) B dL_check_2 (by decide) ?_
  refine z_aload_n B dL_check_3 rfl 0 rfl ?_
  refine z_iload_n B dL_check_4 rfl 1 rfl ?_
  refine z_iload_n B dL_check_5 rfl 2 rfl ?_
  refine z_iload_n B dL_check_6 rfl 3 rfl ?_
  refine z_iload B dL_check_7 4 rfl ?_
  refine z_iload B dL_check_9 5 rfl ?_
  refine z_cXi (As := [.int 1, .int w1, .int w2, .int w3, .int w4]) (rest := [.int 0, .ref (b + 431)]) B htab tc_check_11_IndexOutOfBoundsException cw_L_17 cx_9 dL_check_11 (ci_X8_check_430 l hlt (σ := (ap b σ [] [] [])) (b := b) (lyA hK) w1 w2 w3 w4 q1_w1 q2_w1 (rR_at 0 0 hR_0_0) (rR_at 1 1 hR_1_1)) (lKA (hk_K hK 0 rfl rfl)) rfl (by decide) rfl (Nat.le_of_ble_eq_true rfl) (by decide) (fun z q => ?_)
  refine z_eqs (σ' := (ap b (wx_Z σ z) [] [] [])) rfl ?_
  show zx p l e _ s m _ below meth c g 8 _ _ _ _ 19 [(0, .ref (b + 0)), (1, .int 1), (2, .int w1), (3, .int w2), (4, .int w3), (5, .int w4), (6, .ref (b + 431))] _
  refine z_astore (lv' := [(7, .ref q), (0, .ref (b + 0)), (1, .int 1), (2, .int w1), (3, .int w2), (4, .int w3), (5, .int w4), (6, .ref (b + 431))]) B dL_check_19 (by decide) rfl ?_
  refine z_iconst (v := 1) B dL_check_21 (by decide) ?_
  exact z_iret B hr (by decide) (by decide) dL_check_22 ⟨rfl, _, rfl⟩
set_option maxRecDepth 100000 in
set_option maxHeartbeats 4000000 in
theorem ci_X9_check_432 (l : Launch) {g : gx_T} {σ : sx_T} {b : Nat} (hK : lay b σ) (w1 : Int32) (w2 : Int32) (w3 : Int32) (w4 : Int32) (q1_w1 : (-2147483648 : Int) ≤ w1.toInt) (q2_w1 : w1.toInt ≤ (-1 : Int)) (q1_w2 : (-2147483648 : Int) ≤ w2.toInt) (q2_w2 : w2.toInt ≤ (-1 : Int))  : Met l yX9_check (.code yX9_check cX9_check 11 (some .int) :: lw_g) { frames := 2, cells := 0, slots := 0, locals := 44 } (va_Pc [.ref (b + 405), .int 1, .int w1, .int w2, .int w3, .int w4] (zx_w g σ)) (va_Qi (fun r u => r = 0 ∧ u = (ap b σ [(405, 0, 1)] [] [])) (zx_w g) (gx_Q g)) 0 0 (gx_Q g) := by
  refine z_met (by decide) (Nat.le_of_ble_eq_true rfl) (fun p e s m below meth c B hr hin => ?_)
  refine z_eqs (σ' := (ap b σ [] [] [])) rfl ?_
  show zx p l e _ s m _ below meth c g 11 0 0 _ _ 0 [(0, .ref (b + 405)), (1, .int 1), (2, .int w1), (3, .int w2), (4, .int w3), (5, .int w4)] []
  refine z_aload_n B dX9_check_0 rfl 0 rfl ?_
  refine z_iload_n B dX9_check_1 rfl 1 rfl ?_
  refine z_iload_n B dX9_check_2 rfl 2 rfl ?_
  refine z_cSi (As := [.int 1, .int w1]) (rest := [.ref (b + 405)]) B cw_X9_238 dX9_check_3 (ci_X9_isStep_126 l (σ := (ap b σ [] [] [])) (b := b) (lyA hK) w1 q1_w1 q2_w1) rfl (by decide) rfl (Nat.le_of_ble_eq_true rfl) (by decide) (fun r u hu => ?_)
  refine z_eqs (σ' := (ap b σ [] [] [])) hu.2 ?_
  show zx p l e _ s m _ below meth c g 11 0 0 _ _ 6 [(0, .ref (b + 405)), (1, .int 1), (2, .int w1), (3, .int w2), (4, .int w3), (5, .int w4)] _
  refine z_seti (y := 0) hu.1 ?_
  refine z_iload_n B dX9_check_6 rfl 3 rfl ?_
  refine z_iload B dX9_check_7 4 rfl ?_
  refine z_iload B dX9_check_9 5 rfl ?_
  refine z_cSi (As := [.int w2, .int w3, .int w4]) (rest := [.int 0, .ref (b + 405)]) B cw_X9_242 dX9_check_11 (ci_X9_isOperation_28 l (σ := (ap b σ [] [] [])) (b := b) (lyA hK) w2 w3 w4 q1_w2 q2_w2) rfl (by decide) rfl (Nat.le_of_ble_eq_true rfl) (by decide) (fun r u hu => ?_)
  refine z_eqs (σ' := (ap b σ [] [] [])) hu.2 ?_
  show zx p l e _ s m _ below meth c g 11 0 0 _ _ 14 [(0, .ref (b + 405)), (1, .int 1), (2, .int w1), (3, .int w2), (4, .int w3), (5, .int w4)] _
  refine z_seti (y := 0) hu.1 ?_
  refine z_cVi (As := [.int 0, .int 0]) (rest := []) B cw_X9_245 cx_10 dX9_check_14 (ci_X9_needs__29 l (σ := (ap b σ [] [] [])) (b := b) (lyA hK) ) (lKA (hk_K hK 405 rfl rfl)) rfl (by decide) rfl (Nat.le_of_ble_eq_true rfl) (by decide) (fun r u hu => ?_)
  refine z_eqs (σ' := (ap b σ [(405, 0, 1)] [] [])) (hu.2.trans ap_ap) ?_
  show zx p l e _ s m _ below meth c g 11 0 0 _ _ 17 [(0, .ref (b + 405)), (1, .int 1), (2, .int w1), (3, .int w2), (4, .int w3), (5, .int w4)] _
  refine z_seti (y := 0) hu.1 ?_
  refine z_if_ne (tgt := 22) B dX9_check_17 (by decide) (fun h => absurd (by decide) h) (fun _ => ?_)
  refine z_iconst (v := 0) B dX9_check_20 (by decide) ?_
  exact z_iret B hr (by decide) (by decide) dX9_check_21 ⟨rfl, rfl⟩
set_option maxRecDepth 100000 in
set_option maxHeartbeats 4000000 in
theorem ci_X9_check_433 (l : Launch) {g : gx_T} {σ : sx_T} {b : Nat} (hK : lay b σ) (w1 : Int32) (w2 : Int32) (w3 : Int32) (w4 : Int32) (q1_w1 : (-2147483648 : Int) ≤ w1.toInt) (q2_w1 : w1.toInt ≤ (-1 : Int)) (q1_w2 : (0 : Int) ≤ w2.toInt) (q2_w2 : w2.toInt ≤ (17 : Int)) (q1_w3 : (-2147483648 : Int) ≤ w3.toInt) (q2_w3 : w3.toInt ≤ (-1 : Int))  : Met l yX9_check (.code yX9_check cX9_check 11 (some .int) :: lw_g) { frames := 2, cells := 0, slots := 0, locals := 44 } (va_Pc [.ref (b + 405), .int 1, .int w1, .int w2, .int w3, .int w4] (zx_w g σ)) (va_Qi (fun r u => r = 0 ∧ u = (ap b σ [(405, 0, 1)] [] [])) (zx_w g) (gx_Q g)) 0 0 (gx_Q g) := by
  refine z_met (by decide) (Nat.le_of_ble_eq_true rfl) (fun p e s m below meth c B hr hin => ?_)
  refine z_eqs (σ' := (ap b σ [] [] [])) rfl ?_
  show zx p l e _ s m _ below meth c g 11 0 0 _ _ 0 [(0, .ref (b + 405)), (1, .int 1), (2, .int w1), (3, .int w2), (4, .int w3), (5, .int w4)] []
  refine z_aload_n B dX9_check_0 rfl 0 rfl ?_
  refine z_iload_n B dX9_check_1 rfl 1 rfl ?_
  refine z_iload_n B dX9_check_2 rfl 2 rfl ?_
  refine z_cSi (As := [.int 1, .int w1]) (rest := [.ref (b + 405)]) B cw_X9_238 dX9_check_3 (ci_X9_isStep_126 l (σ := (ap b σ [] [] [])) (b := b) (lyA hK) w1 q1_w1 q2_w1) rfl (by decide) rfl (Nat.le_of_ble_eq_true rfl) (by decide) (fun r u hu => ?_)
  refine z_eqs (σ' := (ap b σ [] [] [])) hu.2 ?_
  show zx p l e _ s m _ below meth c g 11 0 0 _ _ 6 [(0, .ref (b + 405)), (1, .int 1), (2, .int w1), (3, .int w2), (4, .int w3), (5, .int w4)] _
  refine z_seti (y := 0) hu.1 ?_
  refine z_iload_n B dX9_check_6 rfl 3 rfl ?_
  refine z_iload B dX9_check_7 4 rfl ?_
  refine z_iload B dX9_check_9 5 rfl ?_
  refine z_cSi (As := [.int w2, .int w3, .int w4]) (rest := [.int 0, .ref (b + 405)]) B cw_X9_242 dX9_check_11 (ci_X9_isOperation_34 l (σ := (ap b σ [] [] [])) (b := b) (lyA hK) w2 w3 w4 q1_w2 q2_w2 q1_w3 q2_w3) rfl (by decide) rfl (Nat.le_of_ble_eq_true rfl) (by decide) (fun r u hu => ?_)
  refine z_eqs (σ' := (ap b σ [] [] [])) hu.2 ?_
  show zx p l e _ s m _ below meth c g 11 0 0 _ _ 14 [(0, .ref (b + 405)), (1, .int 1), (2, .int w1), (3, .int w2), (4, .int w3), (5, .int w4)] _
  refine z_seti (y := 0) hu.1 ?_
  refine z_cVi (As := [.int 0, .int 0]) (rest := []) B cw_X9_245 cx_10 dX9_check_14 (ci_X9_needs__29 l (σ := (ap b σ [] [] [])) (b := b) (lyA hK) ) (lKA (hk_K hK 405 rfl rfl)) rfl (by decide) rfl (Nat.le_of_ble_eq_true rfl) (by decide) (fun r u hu => ?_)
  refine z_eqs (σ' := (ap b σ [(405, 0, 1)] [] [])) (hu.2.trans ap_ap) ?_
  show zx p l e _ s m _ below meth c g 11 0 0 _ _ 17 [(0, .ref (b + 405)), (1, .int 1), (2, .int w1), (3, .int w2), (4, .int w3), (5, .int w4)] _
  refine z_seti (y := 0) hu.1 ?_
  refine z_if_ne (tgt := 22) B dX9_check_17 (by decide) (fun h => absurd (by decide) h) (fun _ => ?_)
  refine z_iconst (v := 0) B dX9_check_20 (by decide) ?_
  exact z_iret B hr (by decide) (by decide) dX9_check_21 ⟨rfl, rfl⟩
set_option maxRecDepth 100000 in
set_option maxHeartbeats 4000000 in
theorem ci_X9_check_434 (l : Launch) {g : gx_T} {σ : sx_T} {b : Nat} (hK : lay b σ) (w1 : Int32) (w2 : Int32) (w3 : Int32) (w4 : Int32) (q1_w1 : (-2147483648 : Int) ≤ w1.toInt) (q2_w1 : w1.toInt ≤ (-1 : Int)) (q1_w2 : (0 : Int) ≤ w2.toInt) (q2_w2 : w2.toInt ≤ (17 : Int)) (q1_w3 : (0 : Int) ≤ w3.toInt) (q2_w3 : w3.toInt ≤ (99 : Int)) (q1_w4 : (-2147483648 : Int) ≤ w4.toInt) (q2_w4 : w4.toInt ≤ (-1 : Int))  : Met l yX9_check (.code yX9_check cX9_check 11 (some .int) :: lw_g) { frames := 2, cells := 0, slots := 0, locals := 44 } (va_Pc [.ref (b + 405), .int 1, .int w1, .int w2, .int w3, .int w4] (zx_w g σ)) (va_Qi (fun r u => r = 0 ∧ u = (ap b σ [(405, 0, 1)] [] [])) (zx_w g) (gx_Q g)) 0 0 (gx_Q g) := by
  refine z_met (by decide) (Nat.le_of_ble_eq_true rfl) (fun p e s m below meth c B hr hin => ?_)
  refine z_eqs (σ' := (ap b σ [] [] [])) rfl ?_
  show zx p l e _ s m _ below meth c g 11 0 0 _ _ 0 [(0, .ref (b + 405)), (1, .int 1), (2, .int w1), (3, .int w2), (4, .int w3), (5, .int w4)] []
  refine z_aload_n B dX9_check_0 rfl 0 rfl ?_
  refine z_iload_n B dX9_check_1 rfl 1 rfl ?_
  refine z_iload_n B dX9_check_2 rfl 2 rfl ?_
  refine z_cSi (As := [.int 1, .int w1]) (rest := [.ref (b + 405)]) B cw_X9_238 dX9_check_3 (ci_X9_isStep_126 l (σ := (ap b σ [] [] [])) (b := b) (lyA hK) w1 q1_w1 q2_w1) rfl (by decide) rfl (Nat.le_of_ble_eq_true rfl) (by decide) (fun r u hu => ?_)
  refine z_eqs (σ' := (ap b σ [] [] [])) hu.2 ?_
  show zx p l e _ s m _ below meth c g 11 0 0 _ _ 6 [(0, .ref (b + 405)), (1, .int 1), (2, .int w1), (3, .int w2), (4, .int w3), (5, .int w4)] _
  refine z_seti (y := 0) hu.1 ?_
  refine z_iload_n B dX9_check_6 rfl 3 rfl ?_
  refine z_iload B dX9_check_7 4 rfl ?_
  refine z_iload B dX9_check_9 5 rfl ?_
  refine z_cSi (As := [.int w2, .int w3, .int w4]) (rest := [.int 0, .ref (b + 405)]) B cw_X9_242 dX9_check_11 (ci_X9_isOperation_37 l (σ := (ap b σ [] [] [])) (b := b) (lyA hK) w2 w3 w4 q1_w2 q2_w2 q1_w3 q2_w3 q1_w4 q2_w4) rfl (by decide) rfl (Nat.le_of_ble_eq_true rfl) (by decide) (fun r u hu => ?_)
  refine z_eqs (σ' := (ap b σ [] [] [])) hu.2 ?_
  show zx p l e _ s m _ below meth c g 11 0 0 _ _ 14 [(0, .ref (b + 405)), (1, .int 1), (2, .int w1), (3, .int w2), (4, .int w3), (5, .int w4)] _
  refine z_seti (y := 0) hu.1 ?_
  refine z_cVi (As := [.int 0, .int 0]) (rest := []) B cw_X9_245 cx_10 dX9_check_14 (ci_X9_needs__29 l (σ := (ap b σ [] [] [])) (b := b) (lyA hK) ) (lKA (hk_K hK 405 rfl rfl)) rfl (by decide) rfl (Nat.le_of_ble_eq_true rfl) (by decide) (fun r u hu => ?_)
  refine z_eqs (σ' := (ap b σ [(405, 0, 1)] [] [])) (hu.2.trans ap_ap) ?_
  show zx p l e _ s m _ below meth c g 11 0 0 _ _ 17 [(0, .ref (b + 405)), (1, .int 1), (2, .int w1), (3, .int w2), (4, .int w3), (5, .int w4)] _
  refine z_seti (y := 0) hu.1 ?_
  refine z_if_ne (tgt := 22) B dX9_check_17 (by decide) (fun h => absurd (by decide) h) (fun _ => ?_)
  refine z_iconst (v := 0) B dX9_check_20 (by decide) ?_
  exact z_iret B hr (by decide) (by decide) dX9_check_21 ⟨rfl, rfl⟩
set_option maxRecDepth 100000 in
set_option maxHeartbeats 4000000 in
theorem ci_X9_check_435 (l : Launch) {g : gx_T} {σ : sx_T} {b : Nat} (hK : lay b σ) (w1 : Int32) (w2 : Int32) (w3 : Int32) (w4 : Int32) (q1_w1 : (-2147483648 : Int) ≤ w1.toInt) (q2_w1 : w1.toInt ≤ (-1 : Int)) (q1_w2 : (0 : Int) ≤ w2.toInt) (q2_w2 : w2.toInt ≤ (17 : Int)) (q1_w3 : (0 : Int) ≤ w3.toInt) (q2_w3 : w3.toInt ≤ (99 : Int)) (q1_w4 : (0 : Int) ≤ w4.toInt) (q2_w4 : w4.toInt ≤ (99 : Int))  : Met l yX9_check (.code yX9_check cX9_check 11 (some .int) :: lw_g) { frames := 2, cells := 0, slots := 0, locals := 44 } (va_Pc [.ref (b + 405), .int 1, .int w1, .int w2, .int w3, .int w4] (zx_w g σ)) (va_Qi (fun r u => r = 0 ∧ u = (ap b σ [(405, 0, 1)] [] [])) (zx_w g) (gx_Q g)) 0 0 (gx_Q g) := by
  refine z_met (by decide) (Nat.le_of_ble_eq_true rfl) (fun p e s m below meth c B hr hin => ?_)
  refine z_eqs (σ' := (ap b σ [] [] [])) rfl ?_
  show zx p l e _ s m _ below meth c g 11 0 0 _ _ 0 [(0, .ref (b + 405)), (1, .int 1), (2, .int w1), (3, .int w2), (4, .int w3), (5, .int w4)] []
  refine z_aload_n B dX9_check_0 rfl 0 rfl ?_
  refine z_iload_n B dX9_check_1 rfl 1 rfl ?_
  refine z_iload_n B dX9_check_2 rfl 2 rfl ?_
  refine z_cSi (As := [.int 1, .int w1]) (rest := [.ref (b + 405)]) B cw_X9_238 dX9_check_3 (ci_X9_isStep_126 l (σ := (ap b σ [] [] [])) (b := b) (lyA hK) w1 q1_w1 q2_w1) rfl (by decide) rfl (Nat.le_of_ble_eq_true rfl) (by decide) (fun r u hu => ?_)
  refine z_eqs (σ' := (ap b σ [] [] [])) hu.2 ?_
  show zx p l e _ s m _ below meth c g 11 0 0 _ _ 6 [(0, .ref (b + 405)), (1, .int 1), (2, .int w1), (3, .int w2), (4, .int w3), (5, .int w4)] _
  refine z_seti (y := 0) hu.1 ?_
  refine z_iload_n B dX9_check_6 rfl 3 rfl ?_
  refine z_iload B dX9_check_7 4 rfl ?_
  refine z_iload B dX9_check_9 5 rfl ?_
  refine z_cSi (As := [.int w2, .int w3, .int w4]) (rest := [.int 0, .ref (b + 405)]) B cw_X9_242 dX9_check_11 (ci_X9_isOperation_39 l (σ := (ap b σ [] [] [])) (b := b) (lyA hK) w2 w3 w4 q1_w2 q2_w2 q1_w3 q2_w3 q1_w4 q2_w4) rfl (by decide) rfl (Nat.le_of_ble_eq_true rfl) (by decide) (fun r u hu => ?_)
  refine z_eqs (σ' := (ap b σ [] [] [])) hu.2 ?_
  show zx p l e _ s m _ below meth c g 11 0 0 _ _ 14 [(0, .ref (b + 405)), (1, .int 1), (2, .int w1), (3, .int w2), (4, .int w3), (5, .int w4)] _
  refine z_seti (y := 1) hu.1 ?_
  refine z_cVi (As := [.int 0, .int 1]) (rest := []) B cw_X9_245 cx_10 dX9_check_14 (ci_X9_needs__40 l (σ := (ap b σ [] [] [])) (b := b) (lyA hK) ) (lKA (hk_K hK 405 rfl rfl)) rfl (by decide) rfl (Nat.le_of_ble_eq_true rfl) (by decide) (fun r u hu => ?_)
  refine z_eqs (σ' := (ap b σ [(405, 0, 1)] [] [])) (hu.2.trans ap_ap) ?_
  show zx p l e _ s m _ below meth c g 11 0 0 _ _ 17 [(0, .ref (b + 405)), (1, .int 1), (2, .int w1), (3, .int w2), (4, .int w3), (5, .int w4)] _
  refine z_seti (y := 0) hu.1 ?_
  refine z_if_ne (tgt := 22) B dX9_check_17 (by decide) (fun h => absurd (by decide) h) (fun _ => ?_)
  refine z_iconst (v := 0) B dX9_check_20 (by decide) ?_
  exact z_iret B hr (by decide) (by decide) dX9_check_21 ⟨rfl, rfl⟩
set_option maxRecDepth 100000 in
set_option maxHeartbeats 4000000 in
theorem ci_X9_check_436 (l : Launch) {g : gx_T} {σ : sx_T} {b : Nat} (hK : lay b σ) (w1 : Int32) (w2 : Int32) (w3 : Int32) (w4 : Int32) (q1_w1 : (-2147483648 : Int) ≤ w1.toInt) (q2_w1 : w1.toInt ≤ (-1 : Int)) (q1_w2 : (0 : Int) ≤ w2.toInt) (q2_w2 : w2.toInt ≤ (17 : Int)) (q1_w3 : (0 : Int) ≤ w3.toInt) (q2_w3 : w3.toInt ≤ (99 : Int)) (q1_w4 : (100 : Int) ≤ w4.toInt) (q2_w4 : w4.toInt ≤ (2147483647 : Int))  : Met l yX9_check (.code yX9_check cX9_check 11 (some .int) :: lw_g) { frames := 2, cells := 0, slots := 0, locals := 44 } (va_Pc [.ref (b + 405), .int 1, .int w1, .int w2, .int w3, .int w4] (zx_w g σ)) (va_Qi (fun r u => r = 0 ∧ u = (ap b σ [(405, 0, 1)] [] [])) (zx_w g) (gx_Q g)) 0 0 (gx_Q g) := by
  refine z_met (by decide) (Nat.le_of_ble_eq_true rfl) (fun p e s m below meth c B hr hin => ?_)
  refine z_eqs (σ' := (ap b σ [] [] [])) rfl ?_
  show zx p l e _ s m _ below meth c g 11 0 0 _ _ 0 [(0, .ref (b + 405)), (1, .int 1), (2, .int w1), (3, .int w2), (4, .int w3), (5, .int w4)] []
  refine z_aload_n B dX9_check_0 rfl 0 rfl ?_
  refine z_iload_n B dX9_check_1 rfl 1 rfl ?_
  refine z_iload_n B dX9_check_2 rfl 2 rfl ?_
  refine z_cSi (As := [.int 1, .int w1]) (rest := [.ref (b + 405)]) B cw_X9_238 dX9_check_3 (ci_X9_isStep_126 l (σ := (ap b σ [] [] [])) (b := b) (lyA hK) w1 q1_w1 q2_w1) rfl (by decide) rfl (Nat.le_of_ble_eq_true rfl) (by decide) (fun r u hu => ?_)
  refine z_eqs (σ' := (ap b σ [] [] [])) hu.2 ?_
  show zx p l e _ s m _ below meth c g 11 0 0 _ _ 6 [(0, .ref (b + 405)), (1, .int 1), (2, .int w1), (3, .int w2), (4, .int w3), (5, .int w4)] _
  refine z_seti (y := 0) hu.1 ?_
  refine z_iload_n B dX9_check_6 rfl 3 rfl ?_
  refine z_iload B dX9_check_7 4 rfl ?_
  refine z_iload B dX9_check_9 5 rfl ?_
  refine z_cSi (As := [.int w2, .int w3, .int w4]) (rest := [.int 0, .ref (b + 405)]) B cw_X9_242 dX9_check_11 (ci_X9_isOperation_43 l (σ := (ap b σ [] [] [])) (b := b) (lyA hK) w2 w3 w4 q1_w2 q2_w2 q1_w3 q2_w3 q1_w4 q2_w4) rfl (by decide) rfl (Nat.le_of_ble_eq_true rfl) (by decide) (fun r u hu => ?_)
  refine z_eqs (σ' := (ap b σ [] [] [])) hu.2 ?_
  show zx p l e _ s m _ below meth c g 11 0 0 _ _ 14 [(0, .ref (b + 405)), (1, .int 1), (2, .int w1), (3, .int w2), (4, .int w3), (5, .int w4)] _
  refine z_seti (y := 0) hu.1 ?_
  refine z_cVi (As := [.int 0, .int 0]) (rest := []) B cw_X9_245 cx_10 dX9_check_14 (ci_X9_needs__29 l (σ := (ap b σ [] [] [])) (b := b) (lyA hK) ) (lKA (hk_K hK 405 rfl rfl)) rfl (by decide) rfl (Nat.le_of_ble_eq_true rfl) (by decide) (fun r u hu => ?_)
  refine z_eqs (σ' := (ap b σ [(405, 0, 1)] [] [])) (hu.2.trans ap_ap) ?_
  show zx p l e _ s m _ below meth c g 11 0 0 _ _ 17 [(0, .ref (b + 405)), (1, .int 1), (2, .int w1), (3, .int w2), (4, .int w3), (5, .int w4)] _
  refine z_seti (y := 0) hu.1 ?_
  refine z_if_ne (tgt := 22) B dX9_check_17 (by decide) (fun h => absurd (by decide) h) (fun _ => ?_)
  refine z_iconst (v := 0) B dX9_check_20 (by decide) ?_
  exact z_iret B hr (by decide) (by decide) dX9_check_21 ⟨rfl, rfl⟩
set_option maxRecDepth 100000 in
set_option maxHeartbeats 4000000 in
theorem ci_X9_check_437 (l : Launch) {g : gx_T} {σ : sx_T} {b : Nat} (hK : lay b σ) (w1 : Int32) (w2 : Int32) (w3 : Int32) (w4 : Int32) (q1_w1 : (-2147483648 : Int) ≤ w1.toInt) (q2_w1 : w1.toInt ≤ (-1 : Int)) (q1_w2 : (0 : Int) ≤ w2.toInt) (q2_w2 : w2.toInt ≤ (17 : Int)) (q1_w3 : (100 : Int) ≤ w3.toInt) (q2_w3 : w3.toInt ≤ (2147483647 : Int))  : Met l yX9_check (.code yX9_check cX9_check 11 (some .int) :: lw_g) { frames := 2, cells := 0, slots := 0, locals := 44 } (va_Pc [.ref (b + 405), .int 1, .int w1, .int w2, .int w3, .int w4] (zx_w g σ)) (va_Qi (fun r u => r = 0 ∧ u = (ap b σ [(405, 0, 1)] [] [])) (zx_w g) (gx_Q g)) 0 0 (gx_Q g) := by
  refine z_met (by decide) (Nat.le_of_ble_eq_true rfl) (fun p e s m below meth c B hr hin => ?_)
  refine z_eqs (σ' := (ap b σ [] [] [])) rfl ?_
  show zx p l e _ s m _ below meth c g 11 0 0 _ _ 0 [(0, .ref (b + 405)), (1, .int 1), (2, .int w1), (3, .int w2), (4, .int w3), (5, .int w4)] []
  refine z_aload_n B dX9_check_0 rfl 0 rfl ?_
  refine z_iload_n B dX9_check_1 rfl 1 rfl ?_
  refine z_iload_n B dX9_check_2 rfl 2 rfl ?_
  refine z_cSi (As := [.int 1, .int w1]) (rest := [.ref (b + 405)]) B cw_X9_238 dX9_check_3 (ci_X9_isStep_126 l (σ := (ap b σ [] [] [])) (b := b) (lyA hK) w1 q1_w1 q2_w1) rfl (by decide) rfl (Nat.le_of_ble_eq_true rfl) (by decide) (fun r u hu => ?_)
  refine z_eqs (σ' := (ap b σ [] [] [])) hu.2 ?_
  show zx p l e _ s m _ below meth c g 11 0 0 _ _ 6 [(0, .ref (b + 405)), (1, .int 1), (2, .int w1), (3, .int w2), (4, .int w3), (5, .int w4)] _
  refine z_seti (y := 0) hu.1 ?_
  refine z_iload_n B dX9_check_6 rfl 3 rfl ?_
  refine z_iload B dX9_check_7 4 rfl ?_
  refine z_iload B dX9_check_9 5 rfl ?_
  refine z_cSi (As := [.int w2, .int w3, .int w4]) (rest := [.int 0, .ref (b + 405)]) B cw_X9_242 dX9_check_11 (ci_X9_isOperation_45 l (σ := (ap b σ [] [] [])) (b := b) (lyA hK) w2 w3 w4 q1_w2 q2_w2 q1_w3 q2_w3) rfl (by decide) rfl (Nat.le_of_ble_eq_true rfl) (by decide) (fun r u hu => ?_)
  refine z_eqs (σ' := (ap b σ [] [] [])) hu.2 ?_
  show zx p l e _ s m _ below meth c g 11 0 0 _ _ 14 [(0, .ref (b + 405)), (1, .int 1), (2, .int w1), (3, .int w2), (4, .int w3), (5, .int w4)] _
  refine z_seti (y := 0) hu.1 ?_
  refine z_cVi (As := [.int 0, .int 0]) (rest := []) B cw_X9_245 cx_10 dX9_check_14 (ci_X9_needs__29 l (σ := (ap b σ [] [] [])) (b := b) (lyA hK) ) (lKA (hk_K hK 405 rfl rfl)) rfl (by decide) rfl (Nat.le_of_ble_eq_true rfl) (by decide) (fun r u hu => ?_)
  refine z_eqs (σ' := (ap b σ [(405, 0, 1)] [] [])) (hu.2.trans ap_ap) ?_
  show zx p l e _ s m _ below meth c g 11 0 0 _ _ 17 [(0, .ref (b + 405)), (1, .int 1), (2, .int w1), (3, .int w2), (4, .int w3), (5, .int w4)] _
  refine z_seti (y := 0) hu.1 ?_
  refine z_if_ne (tgt := 22) B dX9_check_17 (by decide) (fun h => absurd (by decide) h) (fun _ => ?_)
  refine z_iconst (v := 0) B dX9_check_20 (by decide) ?_
  exact z_iret B hr (by decide) (by decide) dX9_check_21 ⟨rfl, rfl⟩
set_option maxRecDepth 100000 in
set_option maxHeartbeats 4000000 in
theorem ci_X9_check_438 (l : Launch) {g : gx_T} {σ : sx_T} {b : Nat} (hK : lay b σ) (w1 : Int32) (w2 : Int32) (w3 : Int32) (w4 : Int32) (q1_w1 : (-2147483648 : Int) ≤ w1.toInt) (q2_w1 : w1.toInt ≤ (-1 : Int)) (q1_w2 : (18 : Int) ≤ w2.toInt) (q2_w2 : w2.toInt ≤ (2147483647 : Int))  : Met l yX9_check (.code yX9_check cX9_check 11 (some .int) :: lw_g) { frames := 2, cells := 0, slots := 0, locals := 44 } (va_Pc [.ref (b + 405), .int 1, .int w1, .int w2, .int w3, .int w4] (zx_w g σ)) (va_Qi (fun r u => r = 0 ∧ u = (ap b σ [(405, 0, 1)] [] [])) (zx_w g) (gx_Q g)) 0 0 (gx_Q g) := by
  refine z_met (by decide) (Nat.le_of_ble_eq_true rfl) (fun p e s m below meth c B hr hin => ?_)
  refine z_eqs (σ' := (ap b σ [] [] [])) rfl ?_
  show zx p l e _ s m _ below meth c g 11 0 0 _ _ 0 [(0, .ref (b + 405)), (1, .int 1), (2, .int w1), (3, .int w2), (4, .int w3), (5, .int w4)] []
  refine z_aload_n B dX9_check_0 rfl 0 rfl ?_
  refine z_iload_n B dX9_check_1 rfl 1 rfl ?_
  refine z_iload_n B dX9_check_2 rfl 2 rfl ?_
  refine z_cSi (As := [.int 1, .int w1]) (rest := [.ref (b + 405)]) B cw_X9_238 dX9_check_3 (ci_X9_isStep_126 l (σ := (ap b σ [] [] [])) (b := b) (lyA hK) w1 q1_w1 q2_w1) rfl (by decide) rfl (Nat.le_of_ble_eq_true rfl) (by decide) (fun r u hu => ?_)
  refine z_eqs (σ' := (ap b σ [] [] [])) hu.2 ?_
  show zx p l e _ s m _ below meth c g 11 0 0 _ _ 6 [(0, .ref (b + 405)), (1, .int 1), (2, .int w1), (3, .int w2), (4, .int w3), (5, .int w4)] _
  refine z_seti (y := 0) hu.1 ?_
  refine z_iload_n B dX9_check_6 rfl 3 rfl ?_
  refine z_iload B dX9_check_7 4 rfl ?_
  refine z_iload B dX9_check_9 5 rfl ?_
  refine z_cSi (As := [.int w2, .int w3, .int w4]) (rest := [.int 0, .ref (b + 405)]) B cw_X9_242 dX9_check_11 (ci_X9_isOperation_48 l (σ := (ap b σ [] [] [])) (b := b) (lyA hK) w2 w3 w4 q1_w2 q2_w2) rfl (by decide) rfl (Nat.le_of_ble_eq_true rfl) (by decide) (fun r u hu => ?_)
  refine z_eqs (σ' := (ap b σ [] [] [])) hu.2 ?_
  show zx p l e _ s m _ below meth c g 11 0 0 _ _ 14 [(0, .ref (b + 405)), (1, .int 1), (2, .int w1), (3, .int w2), (4, .int w3), (5, .int w4)] _
  refine z_seti (y := 0) hu.1 ?_
  refine z_cVi (As := [.int 0, .int 0]) (rest := []) B cw_X9_245 cx_10 dX9_check_14 (ci_X9_needs__29 l (σ := (ap b σ [] [] [])) (b := b) (lyA hK) ) (lKA (hk_K hK 405 rfl rfl)) rfl (by decide) rfl (Nat.le_of_ble_eq_true rfl) (by decide) (fun r u hu => ?_)
  refine z_eqs (σ' := (ap b σ [(405, 0, 1)] [] [])) (hu.2.trans ap_ap) ?_
  show zx p l e _ s m _ below meth c g 11 0 0 _ _ 17 [(0, .ref (b + 405)), (1, .int 1), (2, .int w1), (3, .int w2), (4, .int w3), (5, .int w4)] _
  refine z_seti (y := 0) hu.1 ?_
  refine z_if_ne (tgt := 22) B dX9_check_17 (by decide) (fun h => absurd (by decide) h) (fun _ => ?_)
  refine z_iconst (v := 0) B dX9_check_20 (by decide) ?_
  exact z_iret B hr (by decide) (by decide) dX9_check_21 ⟨rfl, rfl⟩
set_option maxRecDepth 100000 in
set_option maxHeartbeats 4000000 in
theorem ci_X8_check_439 (l : Launch) (hlt : l.stackTraces = false) {g : gx_T} {σ : sx_T} {b : Nat} (hK : lay b σ) (w1 : Int32) (w2 : Int32) (w3 : Int32) (w4 : Int32) (q1_w1 : (0 : Int) ≤ w1.toInt) (q2_w1 : w1.toInt ≤ (19 : Int)) (q1_w2 : (-2147483648 : Int) ≤ w2.toInt) (q2_w2 : w2.toInt ≤ (-1 : Int)) (hR_0_0 : sx_R σ (b + 0) 0 = (some (b + 1))) (hR_1_1 : sx_R σ (b + 1) 1 = (some (b + 13))) : vx_Met l yX8_check (.code yX8_check cX8_check 13 (some .int) :: lw_g) { frames := 7, cells := 1, slots := 6, locals := 136 } (va_Pc [.ref (b + 0), .int 1, .int w1, .int w2, .int w3, .int w4] (zx_w g σ)) (va_Qi (S := sx_T) (fun _ _ => False) (zx_w g) (gx_Q g)) (vx_X (fun u : sx_T => ∃ z, u = wx_Z σ z) (fun E u t => E = "java/lang/IllegalArgumentException" ∧ zx_h g u t.heap) (gx_Q g)) 1 6 (gx_Q g) := by
  refine z_metX (by decide) (Nat.le_of_ble_eq_true rfl) (fun p e s m below meth c B hr hin hout => ?_)
  refine z_eqs (σ' := (ap b σ [] [] [])) rfl ?_
  show zx p l e _ s m _ below meth c g 13 0 0 _ _ 0 [(0, .ref (b + 0)), (1, .int 1), (2, .int w1), (3, .int w2), (4, .int w3), (5, .int w4)] []
  refine z_aload_n B dX8_check_0 rfl 0 rfl ?_
  refine z_iload_n B dX8_check_1 rfl 1 rfl ?_
  refine z_cVq (As := [.int 1]) (rest := []) B cw_X8_64 cx_9 dX8_check_2 (ci_X8_programAt_122 l (σ := (ap b σ [] [] [])) (b := b) (lyA hK) (rR_at 0 0 hR_0_0) (rR_at 1 1 hR_1_1)) (lKA (hk_K hK 0 rfl rfl)) rfl (by decide) rfl (Nat.le_of_ble_eq_true rfl) (by decide) (fun r u hu => ?_)
  refine z_eqs (σ' := (ap b σ [] [] [])) hu.2 ?_
  show zx p l e _ s m _ below meth c g 13 0 0 _ _ 5 [(0, .ref (b + 0)), (1, .int 1), (2, .int w1), (3, .int w2), (4, .int w3), (5, .int w4)] _
  refine z_setr (y := (some (b + 13))) hu.1 ?_
  refine z_astore (lv' := [(6, .ref (b + 13)), (0, .ref (b + 0)), (1, .int 1), (2, .int w1), (3, .int w2), (4, .int w3), (5, .int w4)]) B dX8_check_5 (by decide) rfl ?_
  refine z_aload B dX8_check_7 0 rfl ?_
  refine z_ifnull (r := (some (b + 13))) (tgt := 21) B dX8_check_9 (by decide) (fun h => nomatch h) (fun _ _ => ?_)
  refine z_iload_n B dX8_check_12 rfl 3 rfl ?_
  refine z_bipush (v := 20) B dX8_check_13 (by decide) ?_
  refine z_cSi (As := [.int w1, .int 20]) (rest := []) B cw_X8_68 dX8_check_15 (ci_X8_isBelow_64 l (σ := (ap b σ [] [] [])) (b := b) (lyA hK) w1 q1_w1 q2_w1) rfl (by decide) rfl (Nat.le_of_ble_eq_true rfl) (by decide) (fun r u hu => ?_)
  refine z_eqs (σ' := (ap b σ [] [] [])) hu.2 ?_
  show zx p l e _ s m _ below meth c g 13 0 0 _ _ 18 [(6, .ref (b + 13)), (0, .ref (b + 0)), (1, .int 1), (2, .int w1), (3, .int w2), (4, .int w3), (5, .int w4)] _
  refine z_seti (y := 1) hu.1 ?_
  refine z_if_ne (tgt := 31) B dX8_check_18 (by decide) (fun _ => ?_) (fun h => absurd h (by decide))
  refine z_iload_n B dX8_check_31 rfl 4 rfl ?_
  refine z_iload B dX8_check_32 5 rfl ?_
  refine z_iload B dX8_check_34 6 rfl ?_
  refine z_cSi (As := [.int w2, .int w3, .int w4]) (rest := []) B cw_X8_79 dX8_check_36 (ci_X8_isStep_66 l (σ := (ap b σ [] [] [])) (b := b) (lyA hK) w2 w3 w4 q1_w2 q2_w2) rfl (by decide) rfl (Nat.le_of_ble_eq_true rfl) (by decide) (fun r u hu => ?_)
  refine z_eqs (σ' := (ap b σ [] [] [])) hu.2 ?_
  show zx p l e _ s m _ below meth c g 13 0 0 _ _ 39 [(6, .ref (b + 13)), (0, .ref (b + 0)), (1, .int 1), (2, .int w1), (3, .int w2), (4, .int w3), (5, .int w4)] _
  refine z_seti (y := 0) hu.1 ?_
  refine z_if_ne (tgt := 52) B dX8_check_39 (by decide) (fun h => absurd (by decide) h) (fun _ => ?_)
  exact z_throw B hlt hout (cls := "java/lang/IllegalArgumentException") (text := "no such operation") tw_X8_83_85_87 dX8_check_42 dX8_check_45 dX8_check_46 dX8_check_48 dX8_check_51 (by decide) (by decide) (by decide) (by decide) (by decide) (by decide) (fun z => ⟨z, rfl⟩)
set_option maxRecDepth 100000 in
set_option maxHeartbeats 4000000 in
theorem ci_L_check_440 (l : Launch) (hlt : l.stackTraces = false) {g : gx_T} {σ : sx_T} {b : Nat} (hK : lay b σ) (w1 : Int32) (w2 : Int32) (w3 : Int32) (w4 : Int32) (q1_w1 : (0 : Int) ≤ w1.toInt) (q2_w1 : w1.toInt ≤ (19 : Int)) (q1_w2 : (-2147483648 : Int) ≤ w2.toInt) (q2_w2 : w2.toInt ≤ (-1 : Int)) (hR_0_0 : sx_R σ (b + 0) 0 = (some (b + 1))) (hR_1_1 : sx_R σ (b + 1) 1 = (some (b + 13))) : Met l yL_check (.codeWith yL_check cL_check 8 (some .int) [(0, 16, 19, 13), (0, 16, 23, 15)] :: lw_g) { frames := 8, cells := 1, slots := 6, locals := 168 } (va_Pc [.ref (b + 0), .int 1, .int w1, .int w2, .int w3, .int w4, .ref (b + 431)] (zx_w g σ)) (va_Qi (fun r u => r = 2 ∧ ∃ z, u = (ap b (wx_Z σ z) [] [] [])) (zx_w g) (gx_Q g)) 1 6 (gx_Q g) := by
  refine z_metW (by decide) (Nat.le_of_ble_eq_true rfl) (fun p e s m below meth c B hr htab => ?_)
  refine z_eqs (σ' := (ap b σ [] [] [])) rfl ?_
  show zx p l e _ s m _ below meth c g 8 0 0 _ _ 0 [(0, .ref (b + 0)), (1, .int 1), (2, .int w1), (3, .int w2), (4, .int w3), (5, .int w4), (6, .ref (b + 431))] []
  refine z_aload B dL_check_0 6 rfl ?_
  refine z_iconst (v := 0) B dL_check_2 (by decide) ?_
  refine z_aload_n B dL_check_3 rfl 0 rfl ?_
  refine z_iload_n B dL_check_4 rfl 1 rfl ?_
  refine z_iload_n B dL_check_5 rfl 2 rfl ?_
  refine z_iload_n B dL_check_6 rfl 3 rfl ?_
  refine z_iload B dL_check_7 4 rfl ?_
  refine z_iload B dL_check_9 5 rfl ?_
  refine z_cXi (As := [.int 1, .int w1, .int w2, .int w3, .int w4]) (rest := [.int 0, .ref (b + 431)]) B htab tc_check_11_IllegalArgumentException cw_L_17 cx_9 dL_check_11 (ci_X8_check_439 l hlt (σ := (ap b σ [] [] [])) (b := b) (lyA hK) w1 w2 w3 w4 q1_w1 q2_w1 q1_w2 q2_w2 (rR_at 0 0 hR_0_0) (rR_at 1 1 hR_1_1)) (lKA (hk_K hK 0 rfl rfl)) rfl (by decide) rfl (Nat.le_of_ble_eq_true rfl) (by decide) (fun z q => ?_)
  refine z_eqs (σ' := (ap b (wx_Z σ z) [] [] [])) rfl ?_
  show zx p l e _ s m _ below meth c g 8 _ _ _ _ 23 [(0, .ref (b + 0)), (1, .int 1), (2, .int w1), (3, .int w2), (4, .int w3), (5, .int w4), (6, .ref (b + 431))] _
  refine z_astore (lv' := [(7, .ref q), (0, .ref (b + 0)), (1, .int 1), (2, .int w1), (3, .int w2), (4, .int w3), (5, .int w4), (6, .ref (b + 431))]) B dL_check_23 (by decide) rfl ?_
  refine z_iconst (v := 2) B dL_check_25 (by decide) ?_
  exact z_iret B hr (by decide) (by decide) dL_check_26 ⟨rfl, _, rfl⟩
set_option maxRecDepth 100000 in
set_option maxHeartbeats 4000000 in
theorem ci_X9_check_441 (l : Launch) {g : gx_T} {σ : sx_T} {b : Nat} (hK : lay b σ) (w1 : Int32) (w2 : Int32) (w3 : Int32) (w4 : Int32) (q1_w1 : (0 : Int) ≤ w1.toInt) (q2_w1 : w1.toInt ≤ (19 : Int)) (q1_w2 : (-2147483648 : Int) ≤ w2.toInt) (q2_w2 : w2.toInt ≤ (-1 : Int))  : Met l yX9_check (.code yX9_check cX9_check 11 (some .int) :: lw_g) { frames := 2, cells := 0, slots := 0, locals := 44 } (va_Pc [.ref (b + 405), .int 1, .int w1, .int w2, .int w3, .int w4] (zx_w g σ)) (va_Qi (fun r u => r = 0 ∧ u = (ap b σ [(405, 0, 2)] [] [])) (zx_w g) (gx_Q g)) 0 0 (gx_Q g) := by
  refine z_met (by decide) (Nat.le_of_ble_eq_true rfl) (fun p e s m below meth c B hr hin => ?_)
  refine z_eqs (σ' := (ap b σ [] [] [])) rfl ?_
  show zx p l e _ s m _ below meth c g 11 0 0 _ _ 0 [(0, .ref (b + 405)), (1, .int 1), (2, .int w1), (3, .int w2), (4, .int w3), (5, .int w4)] []
  refine z_aload_n B dX9_check_0 rfl 0 rfl ?_
  refine z_iload_n B dX9_check_1 rfl 1 rfl ?_
  refine z_iload_n B dX9_check_2 rfl 2 rfl ?_
  refine z_cSi (As := [.int 1, .int w1]) (rest := [.ref (b + 405)]) B cw_X9_238 dX9_check_3 (ci_X9_isStep_136 l (σ := (ap b σ [] [] [])) (b := b) (lyA hK) w1 q1_w1 q2_w1) rfl (by decide) rfl (Nat.le_of_ble_eq_true rfl) (by decide) (fun r u hu => ?_)
  refine z_eqs (σ' := (ap b σ [] [] [])) hu.2 ?_
  show zx p l e _ s m _ below meth c g 11 0 0 _ _ 6 [(0, .ref (b + 405)), (1, .int 1), (2, .int w1), (3, .int w2), (4, .int w3), (5, .int w4)] _
  refine z_seti (y := 1) hu.1 ?_
  refine z_iload_n B dX9_check_6 rfl 3 rfl ?_
  refine z_iload B dX9_check_7 4 rfl ?_
  refine z_iload B dX9_check_9 5 rfl ?_
  refine z_cSi (As := [.int w2, .int w3, .int w4]) (rest := [.int 1, .ref (b + 405)]) B cw_X9_242 dX9_check_11 (ci_X9_isOperation_28 l (σ := (ap b σ [] [] [])) (b := b) (lyA hK) w2 w3 w4 q1_w2 q2_w2) rfl (by decide) rfl (Nat.le_of_ble_eq_true rfl) (by decide) (fun r u hu => ?_)
  refine z_eqs (σ' := (ap b σ [] [] [])) hu.2 ?_
  show zx p l e _ s m _ below meth c g 11 0 0 _ _ 14 [(0, .ref (b + 405)), (1, .int 1), (2, .int w1), (3, .int w2), (4, .int w3), (5, .int w4)] _
  refine z_seti (y := 0) hu.1 ?_
  refine z_cVi (As := [.int 1, .int 0]) (rest := []) B cw_X9_245 cx_10 dX9_check_14 (ci_X9_needs__71 l (σ := (ap b σ [] [] [])) (b := b) (lyA hK) ) (lKA (hk_K hK 405 rfl rfl)) rfl (by decide) rfl (Nat.le_of_ble_eq_true rfl) (by decide) (fun r u hu => ?_)
  refine z_eqs (σ' := (ap b σ [(405, 0, 2)] [] [])) (hu.2.trans ap_ap) ?_
  show zx p l e _ s m _ below meth c g 11 0 0 _ _ 17 [(0, .ref (b + 405)), (1, .int 1), (2, .int w1), (3, .int w2), (4, .int w3), (5, .int w4)] _
  refine z_seti (y := 0) hu.1 ?_
  refine z_if_ne (tgt := 22) B dX9_check_17 (by decide) (fun h => absurd (by decide) h) (fun _ => ?_)
  refine z_iconst (v := 0) B dX9_check_20 (by decide) ?_
  exact z_iret B hr (by decide) (by decide) dX9_check_21 ⟨rfl, rfl⟩
set_option maxRecDepth 100000 in
set_option maxHeartbeats 4000000 in
theorem ci_X8_check_442 (l : Launch) (hlt : l.stackTraces = false) {g : gx_T} {σ : sx_T} {b : Nat} (hK : lay b σ) (w1 : Int32) (w2 : Int32) (w3 : Int32) (w4 : Int32) (q1_w1 : (0 : Int) ≤ w1.toInt) (q2_w1 : w1.toInt ≤ (19 : Int)) (q1_w2 : (0 : Int) ≤ w2.toInt) (q2_w2 : w2.toInt ≤ (17 : Int)) (q1_w3 : (-2147483648 : Int) ≤ w3.toInt) (q2_w3 : w3.toInt ≤ (-1 : Int)) (hR_0_0 : sx_R σ (b + 0) 0 = (some (b + 1))) (hR_1_1 : sx_R σ (b + 1) 1 = (some (b + 13))) : vx_Met l yX8_check (.code yX8_check cX8_check 13 (some .int) :: lw_g) { frames := 7, cells := 1, slots := 6, locals := 136 } (va_Pc [.ref (b + 0), .int 1, .int w1, .int w2, .int w3, .int w4] (zx_w g σ)) (va_Qi (S := sx_T) (fun _ _ => False) (zx_w g) (gx_Q g)) (vx_X (fun u : sx_T => ∃ z, u = wx_Z σ z) (fun E u t => E = "java/lang/IllegalArgumentException" ∧ zx_h g u t.heap) (gx_Q g)) 1 6 (gx_Q g) := by
  refine z_metX (by decide) (Nat.le_of_ble_eq_true rfl) (fun p e s m below meth c B hr hin hout => ?_)
  refine z_eqs (σ' := (ap b σ [] [] [])) rfl ?_
  show zx p l e _ s m _ below meth c g 13 0 0 _ _ 0 [(0, .ref (b + 0)), (1, .int 1), (2, .int w1), (3, .int w2), (4, .int w3), (5, .int w4)] []
  refine z_aload_n B dX8_check_0 rfl 0 rfl ?_
  refine z_iload_n B dX8_check_1 rfl 1 rfl ?_
  refine z_cVq (As := [.int 1]) (rest := []) B cw_X8_64 cx_9 dX8_check_2 (ci_X8_programAt_122 l (σ := (ap b σ [] [] [])) (b := b) (lyA hK) (rR_at 0 0 hR_0_0) (rR_at 1 1 hR_1_1)) (lKA (hk_K hK 0 rfl rfl)) rfl (by decide) rfl (Nat.le_of_ble_eq_true rfl) (by decide) (fun r u hu => ?_)
  refine z_eqs (σ' := (ap b σ [] [] [])) hu.2 ?_
  show zx p l e _ s m _ below meth c g 13 0 0 _ _ 5 [(0, .ref (b + 0)), (1, .int 1), (2, .int w1), (3, .int w2), (4, .int w3), (5, .int w4)] _
  refine z_setr (y := (some (b + 13))) hu.1 ?_
  refine z_astore (lv' := [(6, .ref (b + 13)), (0, .ref (b + 0)), (1, .int 1), (2, .int w1), (3, .int w2), (4, .int w3), (5, .int w4)]) B dX8_check_5 (by decide) rfl ?_
  refine z_aload B dX8_check_7 0 rfl ?_
  refine z_ifnull (r := (some (b + 13))) (tgt := 21) B dX8_check_9 (by decide) (fun h => nomatch h) (fun _ _ => ?_)
  refine z_iload_n B dX8_check_12 rfl 3 rfl ?_
  refine z_bipush (v := 20) B dX8_check_13 (by decide) ?_
  refine z_cSi (As := [.int w1, .int 20]) (rest := []) B cw_X8_68 dX8_check_15 (ci_X8_isBelow_64 l (σ := (ap b σ [] [] [])) (b := b) (lyA hK) w1 q1_w1 q2_w1) rfl (by decide) rfl (Nat.le_of_ble_eq_true rfl) (by decide) (fun r u hu => ?_)
  refine z_eqs (σ' := (ap b σ [] [] [])) hu.2 ?_
  show zx p l e _ s m _ below meth c g 13 0 0 _ _ 18 [(6, .ref (b + 13)), (0, .ref (b + 0)), (1, .int 1), (2, .int w1), (3, .int w2), (4, .int w3), (5, .int w4)] _
  refine z_seti (y := 1) hu.1 ?_
  refine z_if_ne (tgt := 31) B dX8_check_18 (by decide) (fun _ => ?_) (fun h => absurd h (by decide))
  refine z_iload_n B dX8_check_31 rfl 4 rfl ?_
  refine z_iload B dX8_check_32 5 rfl ?_
  refine z_iload B dX8_check_34 6 rfl ?_
  refine z_cSi (As := [.int w2, .int w3, .int w4]) (rest := []) B cw_X8_79 dX8_check_36 (ci_X8_isStep_76 l (σ := (ap b σ [] [] [])) (b := b) (lyA hK) w2 w3 w4 q1_w2 q2_w2 q1_w3 q2_w3) rfl (by decide) rfl (Nat.le_of_ble_eq_true rfl) (by decide) (fun r u hu => ?_)
  refine z_eqs (σ' := (ap b σ [] [] [])) hu.2 ?_
  show zx p l e _ s m _ below meth c g 13 0 0 _ _ 39 [(6, .ref (b + 13)), (0, .ref (b + 0)), (1, .int 1), (2, .int w1), (3, .int w2), (4, .int w3), (5, .int w4)] _
  refine z_seti (y := 0) hu.1 ?_
  refine z_if_ne (tgt := 52) B dX8_check_39 (by decide) (fun h => absurd (by decide) h) (fun _ => ?_)
  exact z_throw B hlt hout (cls := "java/lang/IllegalArgumentException") (text := "no such operation") tw_X8_83_85_87 dX8_check_42 dX8_check_45 dX8_check_46 dX8_check_48 dX8_check_51 (by decide) (by decide) (by decide) (by decide) (by decide) (by decide) (fun z => ⟨z, rfl⟩)
set_option maxRecDepth 100000 in
set_option maxHeartbeats 4000000 in
theorem ci_L_check_443 (l : Launch) (hlt : l.stackTraces = false) {g : gx_T} {σ : sx_T} {b : Nat} (hK : lay b σ) (w1 : Int32) (w2 : Int32) (w3 : Int32) (w4 : Int32) (q1_w1 : (0 : Int) ≤ w1.toInt) (q2_w1 : w1.toInt ≤ (19 : Int)) (q1_w2 : (0 : Int) ≤ w2.toInt) (q2_w2 : w2.toInt ≤ (17 : Int)) (q1_w3 : (-2147483648 : Int) ≤ w3.toInt) (q2_w3 : w3.toInt ≤ (-1 : Int)) (hR_0_0 : sx_R σ (b + 0) 0 = (some (b + 1))) (hR_1_1 : sx_R σ (b + 1) 1 = (some (b + 13))) : Met l yL_check (.codeWith yL_check cL_check 8 (some .int) [(0, 16, 19, 13), (0, 16, 23, 15)] :: lw_g) { frames := 8, cells := 1, slots := 6, locals := 168 } (va_Pc [.ref (b + 0), .int 1, .int w1, .int w2, .int w3, .int w4, .ref (b + 431)] (zx_w g σ)) (va_Qi (fun r u => r = 2 ∧ ∃ z, u = (ap b (wx_Z σ z) [] [] [])) (zx_w g) (gx_Q g)) 1 6 (gx_Q g) := by
  refine z_metW (by decide) (Nat.le_of_ble_eq_true rfl) (fun p e s m below meth c B hr htab => ?_)
  refine z_eqs (σ' := (ap b σ [] [] [])) rfl ?_
  show zx p l e _ s m _ below meth c g 8 0 0 _ _ 0 [(0, .ref (b + 0)), (1, .int 1), (2, .int w1), (3, .int w2), (4, .int w3), (5, .int w4), (6, .ref (b + 431))] []
  refine z_aload B dL_check_0 6 rfl ?_
  refine z_iconst (v := 0) B dL_check_2 (by decide) ?_
  refine z_aload_n B dL_check_3 rfl 0 rfl ?_
  refine z_iload_n B dL_check_4 rfl 1 rfl ?_
  refine z_iload_n B dL_check_5 rfl 2 rfl ?_
  refine z_iload_n B dL_check_6 rfl 3 rfl ?_
  refine z_iload B dL_check_7 4 rfl ?_
  refine z_iload B dL_check_9 5 rfl ?_
  refine z_cXi (As := [.int 1, .int w1, .int w2, .int w3, .int w4]) (rest := [.int 0, .ref (b + 431)]) B htab tc_check_11_IllegalArgumentException cw_L_17 cx_9 dL_check_11 (ci_X8_check_442 l hlt (σ := (ap b σ [] [] [])) (b := b) (lyA hK) w1 w2 w3 w4 q1_w1 q2_w1 q1_w2 q2_w2 q1_w3 q2_w3 (rR_at 0 0 hR_0_0) (rR_at 1 1 hR_1_1)) (lKA (hk_K hK 0 rfl rfl)) rfl (by decide) rfl (Nat.le_of_ble_eq_true rfl) (by decide) (fun z q => ?_)
  refine z_eqs (σ' := (ap b (wx_Z σ z) [] [] [])) rfl ?_
  show zx p l e _ s m _ below meth c g 8 _ _ _ _ 23 [(0, .ref (b + 0)), (1, .int 1), (2, .int w1), (3, .int w2), (4, .int w3), (5, .int w4), (6, .ref (b + 431))] _
  refine z_astore (lv' := [(7, .ref q), (0, .ref (b + 0)), (1, .int 1), (2, .int w1), (3, .int w2), (4, .int w3), (5, .int w4), (6, .ref (b + 431))]) B dL_check_23 (by decide) rfl ?_
  refine z_iconst (v := 2) B dL_check_25 (by decide) ?_
  exact z_iret B hr (by decide) (by decide) dL_check_26 ⟨rfl, _, rfl⟩
set_option maxRecDepth 100000 in
set_option maxHeartbeats 4000000 in
theorem ci_X9_check_444 (l : Launch) {g : gx_T} {σ : sx_T} {b : Nat} (hK : lay b σ) (w1 : Int32) (w2 : Int32) (w3 : Int32) (w4 : Int32) (q1_w1 : (0 : Int) ≤ w1.toInt) (q2_w1 : w1.toInt ≤ (19 : Int)) (q1_w2 : (0 : Int) ≤ w2.toInt) (q2_w2 : w2.toInt ≤ (17 : Int)) (q1_w3 : (-2147483648 : Int) ≤ w3.toInt) (q2_w3 : w3.toInt ≤ (-1 : Int))  : Met l yX9_check (.code yX9_check cX9_check 11 (some .int) :: lw_g) { frames := 2, cells := 0, slots := 0, locals := 44 } (va_Pc [.ref (b + 405), .int 1, .int w1, .int w2, .int w3, .int w4] (zx_w g σ)) (va_Qi (fun r u => r = 0 ∧ u = (ap b σ [(405, 0, 2)] [] [])) (zx_w g) (gx_Q g)) 0 0 (gx_Q g) := by
  refine z_met (by decide) (Nat.le_of_ble_eq_true rfl) (fun p e s m below meth c B hr hin => ?_)
  refine z_eqs (σ' := (ap b σ [] [] [])) rfl ?_
  show zx p l e _ s m _ below meth c g 11 0 0 _ _ 0 [(0, .ref (b + 405)), (1, .int 1), (2, .int w1), (3, .int w2), (4, .int w3), (5, .int w4)] []
  refine z_aload_n B dX9_check_0 rfl 0 rfl ?_
  refine z_iload_n B dX9_check_1 rfl 1 rfl ?_
  refine z_iload_n B dX9_check_2 rfl 2 rfl ?_
  refine z_cSi (As := [.int 1, .int w1]) (rest := [.ref (b + 405)]) B cw_X9_238 dX9_check_3 (ci_X9_isStep_136 l (σ := (ap b σ [] [] [])) (b := b) (lyA hK) w1 q1_w1 q2_w1) rfl (by decide) rfl (Nat.le_of_ble_eq_true rfl) (by decide) (fun r u hu => ?_)
  refine z_eqs (σ' := (ap b σ [] [] [])) hu.2 ?_
  show zx p l e _ s m _ below meth c g 11 0 0 _ _ 6 [(0, .ref (b + 405)), (1, .int 1), (2, .int w1), (3, .int w2), (4, .int w3), (5, .int w4)] _
  refine z_seti (y := 1) hu.1 ?_
  refine z_iload_n B dX9_check_6 rfl 3 rfl ?_
  refine z_iload B dX9_check_7 4 rfl ?_
  refine z_iload B dX9_check_9 5 rfl ?_
  refine z_cSi (As := [.int w2, .int w3, .int w4]) (rest := [.int 1, .ref (b + 405)]) B cw_X9_242 dX9_check_11 (ci_X9_isOperation_34 l (σ := (ap b σ [] [] [])) (b := b) (lyA hK) w2 w3 w4 q1_w2 q2_w2 q1_w3 q2_w3) rfl (by decide) rfl (Nat.le_of_ble_eq_true rfl) (by decide) (fun r u hu => ?_)
  refine z_eqs (σ' := (ap b σ [] [] [])) hu.2 ?_
  show zx p l e _ s m _ below meth c g 11 0 0 _ _ 14 [(0, .ref (b + 405)), (1, .int 1), (2, .int w1), (3, .int w2), (4, .int w3), (5, .int w4)] _
  refine z_seti (y := 0) hu.1 ?_
  refine z_cVi (As := [.int 1, .int 0]) (rest := []) B cw_X9_245 cx_10 dX9_check_14 (ci_X9_needs__71 l (σ := (ap b σ [] [] [])) (b := b) (lyA hK) ) (lKA (hk_K hK 405 rfl rfl)) rfl (by decide) rfl (Nat.le_of_ble_eq_true rfl) (by decide) (fun r u hu => ?_)
  refine z_eqs (σ' := (ap b σ [(405, 0, 2)] [] [])) (hu.2.trans ap_ap) ?_
  show zx p l e _ s m _ below meth c g 11 0 0 _ _ 17 [(0, .ref (b + 405)), (1, .int 1), (2, .int w1), (3, .int w2), (4, .int w3), (5, .int w4)] _
  refine z_seti (y := 0) hu.1 ?_
  refine z_if_ne (tgt := 22) B dX9_check_17 (by decide) (fun h => absurd (by decide) h) (fun _ => ?_)
  refine z_iconst (v := 0) B dX9_check_20 (by decide) ?_
  exact z_iret B hr (by decide) (by decide) dX9_check_21 ⟨rfl, rfl⟩
set_option maxRecDepth 100000 in
set_option maxHeartbeats 4000000 in
theorem ci_X8_check_445 (l : Launch) (hlt : l.stackTraces = false) {g : gx_T} {σ : sx_T} {b : Nat} (hK : lay b σ) (w1 : Int32) (w2 : Int32) (w3 : Int32) (w4 : Int32) (q1_w1 : (0 : Int) ≤ w1.toInt) (q2_w1 : w1.toInt ≤ (19 : Int)) (q1_w2 : (0 : Int) ≤ w2.toInt) (q2_w2 : w2.toInt ≤ (17 : Int)) (q1_w3 : (0 : Int) ≤ w3.toInt) (q2_w3 : w3.toInt ≤ (99 : Int)) (q1_w4 : (-2147483648 : Int) ≤ w4.toInt) (q2_w4 : w4.toInt ≤ (-1 : Int)) (hR_0_0 : sx_R σ (b + 0) 0 = (some (b + 1))) (hR_1_1 : sx_R σ (b + 1) 1 = (some (b + 13))) : vx_Met l yX8_check (.code yX8_check cX8_check 13 (some .int) :: lw_g) { frames := 7, cells := 1, slots := 6, locals := 136 } (va_Pc [.ref (b + 0), .int 1, .int w1, .int w2, .int w3, .int w4] (zx_w g σ)) (va_Qi (S := sx_T) (fun _ _ => False) (zx_w g) (gx_Q g)) (vx_X (fun u : sx_T => ∃ z, u = wx_Z σ z) (fun E u t => E = "java/lang/IllegalArgumentException" ∧ zx_h g u t.heap) (gx_Q g)) 1 6 (gx_Q g) := by
  refine z_metX (by decide) (Nat.le_of_ble_eq_true rfl) (fun p e s m below meth c B hr hin hout => ?_)
  refine z_eqs (σ' := (ap b σ [] [] [])) rfl ?_
  show zx p l e _ s m _ below meth c g 13 0 0 _ _ 0 [(0, .ref (b + 0)), (1, .int 1), (2, .int w1), (3, .int w2), (4, .int w3), (5, .int w4)] []
  refine z_aload_n B dX8_check_0 rfl 0 rfl ?_
  refine z_iload_n B dX8_check_1 rfl 1 rfl ?_
  refine z_cVq (As := [.int 1]) (rest := []) B cw_X8_64 cx_9 dX8_check_2 (ci_X8_programAt_122 l (σ := (ap b σ [] [] [])) (b := b) (lyA hK) (rR_at 0 0 hR_0_0) (rR_at 1 1 hR_1_1)) (lKA (hk_K hK 0 rfl rfl)) rfl (by decide) rfl (Nat.le_of_ble_eq_true rfl) (by decide) (fun r u hu => ?_)
  refine z_eqs (σ' := (ap b σ [] [] [])) hu.2 ?_
  show zx p l e _ s m _ below meth c g 13 0 0 _ _ 5 [(0, .ref (b + 0)), (1, .int 1), (2, .int w1), (3, .int w2), (4, .int w3), (5, .int w4)] _
  refine z_setr (y := (some (b + 13))) hu.1 ?_
  refine z_astore (lv' := [(6, .ref (b + 13)), (0, .ref (b + 0)), (1, .int 1), (2, .int w1), (3, .int w2), (4, .int w3), (5, .int w4)]) B dX8_check_5 (by decide) rfl ?_
  refine z_aload B dX8_check_7 0 rfl ?_
  refine z_ifnull (r := (some (b + 13))) (tgt := 21) B dX8_check_9 (by decide) (fun h => nomatch h) (fun _ _ => ?_)
  refine z_iload_n B dX8_check_12 rfl 3 rfl ?_
  refine z_bipush (v := 20) B dX8_check_13 (by decide) ?_
  refine z_cSi (As := [.int w1, .int 20]) (rest := []) B cw_X8_68 dX8_check_15 (ci_X8_isBelow_64 l (σ := (ap b σ [] [] [])) (b := b) (lyA hK) w1 q1_w1 q2_w1) rfl (by decide) rfl (Nat.le_of_ble_eq_true rfl) (by decide) (fun r u hu => ?_)
  refine z_eqs (σ' := (ap b σ [] [] [])) hu.2 ?_
  show zx p l e _ s m _ below meth c g 13 0 0 _ _ 18 [(6, .ref (b + 13)), (0, .ref (b + 0)), (1, .int 1), (2, .int w1), (3, .int w2), (4, .int w3), (5, .int w4)] _
  refine z_seti (y := 1) hu.1 ?_
  refine z_if_ne (tgt := 31) B dX8_check_18 (by decide) (fun _ => ?_) (fun h => absurd h (by decide))
  refine z_iload_n B dX8_check_31 rfl 4 rfl ?_
  refine z_iload B dX8_check_32 5 rfl ?_
  refine z_iload B dX8_check_34 6 rfl ?_
  refine z_cSi (As := [.int w2, .int w3, .int w4]) (rest := []) B cw_X8_79 dX8_check_36 (ci_X8_isStep_81 l (σ := (ap b σ [] [] [])) (b := b) (lyA hK) w2 w3 w4 q1_w2 q2_w2 q1_w3 q2_w3 q1_w4 q2_w4) rfl (by decide) rfl (Nat.le_of_ble_eq_true rfl) (by decide) (fun r u hu => ?_)
  refine z_eqs (σ' := (ap b σ [] [] [])) hu.2 ?_
  show zx p l e _ s m _ below meth c g 13 0 0 _ _ 39 [(6, .ref (b + 13)), (0, .ref (b + 0)), (1, .int 1), (2, .int w1), (3, .int w2), (4, .int w3), (5, .int w4)] _
  refine z_seti (y := 0) hu.1 ?_
  refine z_if_ne (tgt := 52) B dX8_check_39 (by decide) (fun h => absurd (by decide) h) (fun _ => ?_)
  exact z_throw B hlt hout (cls := "java/lang/IllegalArgumentException") (text := "no such operation") tw_X8_83_85_87 dX8_check_42 dX8_check_45 dX8_check_46 dX8_check_48 dX8_check_51 (by decide) (by decide) (by decide) (by decide) (by decide) (by decide) (fun z => ⟨z, rfl⟩)
set_option maxRecDepth 100000 in
set_option maxHeartbeats 4000000 in
theorem ci_L_check_446 (l : Launch) (hlt : l.stackTraces = false) {g : gx_T} {σ : sx_T} {b : Nat} (hK : lay b σ) (w1 : Int32) (w2 : Int32) (w3 : Int32) (w4 : Int32) (q1_w1 : (0 : Int) ≤ w1.toInt) (q2_w1 : w1.toInt ≤ (19 : Int)) (q1_w2 : (0 : Int) ≤ w2.toInt) (q2_w2 : w2.toInt ≤ (17 : Int)) (q1_w3 : (0 : Int) ≤ w3.toInt) (q2_w3 : w3.toInt ≤ (99 : Int)) (q1_w4 : (-2147483648 : Int) ≤ w4.toInt) (q2_w4 : w4.toInt ≤ (-1 : Int)) (hR_0_0 : sx_R σ (b + 0) 0 = (some (b + 1))) (hR_1_1 : sx_R σ (b + 1) 1 = (some (b + 13))) : Met l yL_check (.codeWith yL_check cL_check 8 (some .int) [(0, 16, 19, 13), (0, 16, 23, 15)] :: lw_g) { frames := 8, cells := 1, slots := 6, locals := 168 } (va_Pc [.ref (b + 0), .int 1, .int w1, .int w2, .int w3, .int w4, .ref (b + 431)] (zx_w g σ)) (va_Qi (fun r u => r = 2 ∧ ∃ z, u = (ap b (wx_Z σ z) [] [] [])) (zx_w g) (gx_Q g)) 1 6 (gx_Q g) := by
  refine z_metW (by decide) (Nat.le_of_ble_eq_true rfl) (fun p e s m below meth c B hr htab => ?_)
  refine z_eqs (σ' := (ap b σ [] [] [])) rfl ?_
  show zx p l e _ s m _ below meth c g 8 0 0 _ _ 0 [(0, .ref (b + 0)), (1, .int 1), (2, .int w1), (3, .int w2), (4, .int w3), (5, .int w4), (6, .ref (b + 431))] []
  refine z_aload B dL_check_0 6 rfl ?_
  refine z_iconst (v := 0) B dL_check_2 (by decide) ?_
  refine z_aload_n B dL_check_3 rfl 0 rfl ?_
  refine z_iload_n B dL_check_4 rfl 1 rfl ?_
  refine z_iload_n B dL_check_5 rfl 2 rfl ?_
  refine z_iload_n B dL_check_6 rfl 3 rfl ?_
  refine z_iload B dL_check_7 4 rfl ?_
  refine z_iload B dL_check_9 5 rfl ?_
  refine z_cXi (As := [.int 1, .int w1, .int w2, .int w3, .int w4]) (rest := [.int 0, .ref (b + 431)]) B htab tc_check_11_IllegalArgumentException cw_L_17 cx_9 dL_check_11 (ci_X8_check_445 l hlt (σ := (ap b σ [] [] [])) (b := b) (lyA hK) w1 w2 w3 w4 q1_w1 q2_w1 q1_w2 q2_w2 q1_w3 q2_w3 q1_w4 q2_w4 (rR_at 0 0 hR_0_0) (rR_at 1 1 hR_1_1)) (lKA (hk_K hK 0 rfl rfl)) rfl (by decide) rfl (Nat.le_of_ble_eq_true rfl) (by decide) (fun z q => ?_)
  refine z_eqs (σ' := (ap b (wx_Z σ z) [] [] [])) rfl ?_
  show zx p l e _ s m _ below meth c g 8 _ _ _ _ 23 [(0, .ref (b + 0)), (1, .int 1), (2, .int w1), (3, .int w2), (4, .int w3), (5, .int w4), (6, .ref (b + 431))] _
  refine z_astore (lv' := [(7, .ref q), (0, .ref (b + 0)), (1, .int 1), (2, .int w1), (3, .int w2), (4, .int w3), (5, .int w4), (6, .ref (b + 431))]) B dL_check_23 (by decide) rfl ?_
  refine z_iconst (v := 2) B dL_check_25 (by decide) ?_
  exact z_iret B hr (by decide) (by decide) dL_check_26 ⟨rfl, _, rfl⟩
set_option maxRecDepth 100000 in
set_option maxHeartbeats 4000000 in
theorem ci_X9_check_447 (l : Launch) {g : gx_T} {σ : sx_T} {b : Nat} (hK : lay b σ) (w1 : Int32) (w2 : Int32) (w3 : Int32) (w4 : Int32) (q1_w1 : (0 : Int) ≤ w1.toInt) (q2_w1 : w1.toInt ≤ (19 : Int)) (q1_w2 : (0 : Int) ≤ w2.toInt) (q2_w2 : w2.toInt ≤ (17 : Int)) (q1_w3 : (0 : Int) ≤ w3.toInt) (q2_w3 : w3.toInt ≤ (99 : Int)) (q1_w4 : (-2147483648 : Int) ≤ w4.toInt) (q2_w4 : w4.toInt ≤ (-1 : Int))  : Met l yX9_check (.code yX9_check cX9_check 11 (some .int) :: lw_g) { frames := 2, cells := 0, slots := 0, locals := 44 } (va_Pc [.ref (b + 405), .int 1, .int w1, .int w2, .int w3, .int w4] (zx_w g σ)) (va_Qi (fun r u => r = 0 ∧ u = (ap b σ [(405, 0, 2)] [] [])) (zx_w g) (gx_Q g)) 0 0 (gx_Q g) := by
  refine z_met (by decide) (Nat.le_of_ble_eq_true rfl) (fun p e s m below meth c B hr hin => ?_)
  refine z_eqs (σ' := (ap b σ [] [] [])) rfl ?_
  show zx p l e _ s m _ below meth c g 11 0 0 _ _ 0 [(0, .ref (b + 405)), (1, .int 1), (2, .int w1), (3, .int w2), (4, .int w3), (5, .int w4)] []
  refine z_aload_n B dX9_check_0 rfl 0 rfl ?_
  refine z_iload_n B dX9_check_1 rfl 1 rfl ?_
  refine z_iload_n B dX9_check_2 rfl 2 rfl ?_
  refine z_cSi (As := [.int 1, .int w1]) (rest := [.ref (b + 405)]) B cw_X9_238 dX9_check_3 (ci_X9_isStep_136 l (σ := (ap b σ [] [] [])) (b := b) (lyA hK) w1 q1_w1 q2_w1) rfl (by decide) rfl (Nat.le_of_ble_eq_true rfl) (by decide) (fun r u hu => ?_)
  refine z_eqs (σ' := (ap b σ [] [] [])) hu.2 ?_
  show zx p l e _ s m _ below meth c g 11 0 0 _ _ 6 [(0, .ref (b + 405)), (1, .int 1), (2, .int w1), (3, .int w2), (4, .int w3), (5, .int w4)] _
  refine z_seti (y := 1) hu.1 ?_
  refine z_iload_n B dX9_check_6 rfl 3 rfl ?_
  refine z_iload B dX9_check_7 4 rfl ?_
  refine z_iload B dX9_check_9 5 rfl ?_
  refine z_cSi (As := [.int w2, .int w3, .int w4]) (rest := [.int 1, .ref (b + 405)]) B cw_X9_242 dX9_check_11 (ci_X9_isOperation_37 l (σ := (ap b σ [] [] [])) (b := b) (lyA hK) w2 w3 w4 q1_w2 q2_w2 q1_w3 q2_w3 q1_w4 q2_w4) rfl (by decide) rfl (Nat.le_of_ble_eq_true rfl) (by decide) (fun r u hu => ?_)
  refine z_eqs (σ' := (ap b σ [] [] [])) hu.2 ?_
  show zx p l e _ s m _ below meth c g 11 0 0 _ _ 14 [(0, .ref (b + 405)), (1, .int 1), (2, .int w1), (3, .int w2), (4, .int w3), (5, .int w4)] _
  refine z_seti (y := 0) hu.1 ?_
  refine z_cVi (As := [.int 1, .int 0]) (rest := []) B cw_X9_245 cx_10 dX9_check_14 (ci_X9_needs__71 l (σ := (ap b σ [] [] [])) (b := b) (lyA hK) ) (lKA (hk_K hK 405 rfl rfl)) rfl (by decide) rfl (Nat.le_of_ble_eq_true rfl) (by decide) (fun r u hu => ?_)
  refine z_eqs (σ' := (ap b σ [(405, 0, 2)] [] [])) (hu.2.trans ap_ap) ?_
  show zx p l e _ s m _ below meth c g 11 0 0 _ _ 17 [(0, .ref (b + 405)), (1, .int 1), (2, .int w1), (3, .int w2), (4, .int w3), (5, .int w4)] _
  refine z_seti (y := 0) hu.1 ?_
  refine z_if_ne (tgt := 22) B dX9_check_17 (by decide) (fun h => absurd (by decide) h) (fun _ => ?_)
  refine z_iconst (v := 0) B dX9_check_20 (by decide) ?_
  exact z_iret B hr (by decide) (by decide) dX9_check_21 ⟨rfl, rfl⟩
set_option maxRecDepth 100000 in
set_option maxHeartbeats 4000000 in
theorem ci_X4_operation_448 (l : Launch) {g : gx_T} {σ : sx_T} {b : Nat} (hK : lay b σ) (w1 : Int32) (q1_w1 : (0 : Int) ≤ w1.toInt) (q2_w1 : w1.toInt ≤ (19 : Int)) (hR_13_1 : sx_R σ (b + 13) 1 = (some (b + 14))) : Met l yX4_operation (.code yX4_operation cX4_operation 2 (some .int) :: lw_g) { frames := 0, cells := 0, slots := 0, locals := 0 } (va_Pc [.ref (b + 13), .int w1] (zx_w g σ)) (va_Qi (fun r u => ∃ y1 : Int32, r = y1 ∧ u = σ) (zx_w g) (gx_Q g)) 0 0 (gx_Q g) := by
  refine z_met (by decide) (Nat.le_of_ble_eq_true rfl) (fun p e s m below meth c B hr hin => ?_)
  refine z_eqs (σ' := (ap b σ [] [] [])) rfl ?_
  show zx p l e _ s m _ below meth c g 2 0 0 _ _ 0 [(0, .ref (b + 13)), (1, .int w1)] []
  refine z_iload_n B dX4_operation_0 rfl 1 rfl ?_
  refine z_if_lt (tgt := 22) B dX4_operation_1 (by decide) (fun h => absurd h (iv_nlt q1_w1 (by decide))) (fun _ => ?_)
  refine z_iload_n B dX4_operation_4 rfl 1 rfl ?_
  refine z_aload_n B dX4_operation_5 rfl 0 rfl ?_
  refine gf_X4_9 (x := (some (b + 14))) B (lKA (hk_K hK 13 rfl rfl)) (rR_at 13 1 hR_13_1) dX4_operation_6 ?_
  refine z_alen (kd := 13) (ti := 1) (v := 20) B (lKA (hk_K hK 14 rfl rfl)) (by decide) rfl (congrArg Int32.ofNat (lNA (hk_N hK 14 rfl rfl))) dX4_operation_9 ?_
  refine z_icmp_ge (tgt := 22) B dX4_operation_10 (by decide) (fun h => absurd h (iv_nge q2_w1 (by decide))) (fun _ => ?_)
  refine z_aload_n B dX4_operation_13 rfl 0 rfl ?_
  refine gf_X4_9 (x := (some (b + 14))) B (lKA (hk_K hK 13 rfl rfl)) (rR_at 13 1 hR_13_1) dX4_operation_14 ?_
  refine z_iload_n B dX4_operation_17 rfl 1 rfl ?_
  refine z_iald (j := w1.toNatClampNeg) B (lKA (hk_K hK 14 rfl rfl)) rfl (in_of (lNA (hk_N hK 14 rfl rfl)) (iv_in q1_w1 q2_w1 (by decide) (by decide))) rfl dX4_operation_18 ?_
  refine z_topi (fun y1 e_y1 => ?_)
  refine z_goto (tgt := 23) B dX4_operation_19 (by decide) ?_
  exact z_iret B hr (by decide) (by decide) dX4_operation_23 ⟨y1, rfl, rfl⟩
set_option maxRecDepth 100000 in
set_option maxHeartbeats 4000000 in
theorem ci_X4_first_449 (l : Launch) {g : gx_T} {σ : sx_T} {b : Nat} (hK : lay b σ) (w1 : Int32) (q1_w1 : (0 : Int) ≤ w1.toInt) (q2_w1 : w1.toInt ≤ (19 : Int)) (hR_13_2 : sx_R σ (b + 13) 2 = (some (b + 15))) : Met l yX4_first (.code yX4_first cX4_first 2 (some .int) :: lw_g) { frames := 0, cells := 0, slots := 0, locals := 0 } (va_Pc [.ref (b + 13), .int w1] (zx_w g σ)) (va_Qi (fun r u => ∃ y2 : Int32, r = y2 ∧ u = σ) (zx_w g) (gx_Q g)) 0 0 (gx_Q g) := by
  refine z_met (by decide) (Nat.le_of_ble_eq_true rfl) (fun p e s m below meth c B hr hin => ?_)
  refine z_eqs (σ' := (ap b σ [] [] [])) rfl ?_
  show zx p l e _ s m _ below meth c g 2 0 0 _ _ 0 [(0, .ref (b + 13)), (1, .int w1)] []
  refine z_iload_n B dX4_first_0 rfl 1 rfl ?_
  refine z_if_lt (tgt := 22) B dX4_first_1 (by decide) (fun h => absurd h (iv_nlt q1_w1 (by decide))) (fun _ => ?_)
  refine z_iload_n B dX4_first_4 rfl 1 rfl ?_
  refine z_aload_n B dX4_first_5 rfl 0 rfl ?_
  refine gf_X4_15 (x := (some (b + 15))) B (lKA (hk_K hK 13 rfl rfl)) (rR_at 13 2 hR_13_2) dX4_first_6 ?_
  refine z_alen (kd := 13) (ti := 1) (v := 20) B (lKA (hk_K hK 15 rfl rfl)) (by decide) rfl (congrArg Int32.ofNat (lNA (hk_N hK 15 rfl rfl))) dX4_first_9 ?_
  refine z_icmp_ge (tgt := 22) B dX4_first_10 (by decide) (fun h => absurd h (iv_nge q2_w1 (by decide))) (fun _ => ?_)
  refine z_aload_n B dX4_first_13 rfl 0 rfl ?_
  refine gf_X4_15 (x := (some (b + 15))) B (lKA (hk_K hK 13 rfl rfl)) (rR_at 13 2 hR_13_2) dX4_first_14 ?_
  refine z_iload_n B dX4_first_17 rfl 1 rfl ?_
  refine z_iald (j := w1.toNatClampNeg) B (lKA (hk_K hK 15 rfl rfl)) rfl (in_of (lNA (hk_N hK 15 rfl rfl)) (iv_in q1_w1 q2_w1 (by decide) (by decide))) rfl dX4_first_18 ?_
  refine z_topi (fun y2 e_y2 => ?_)
  refine z_goto (tgt := 23) B dX4_first_19 (by decide) ?_
  exact z_iret B hr (by decide) (by decide) dX4_first_23 ⟨y2, rfl, rfl⟩
set_option maxRecDepth 100000 in
set_option maxHeartbeats 4000000 in
theorem ci_X4_second_450 (l : Launch) {g : gx_T} {σ : sx_T} {b : Nat} (hK : lay b σ) (w1 : Int32) (q1_w1 : (0 : Int) ≤ w1.toInt) (q2_w1 : w1.toInt ≤ (19 : Int)) (hR_13_3 : sx_R σ (b + 13) 3 = (some (b + 16))) : Met l yX4_second (.code yX4_second cX4_second 2 (some .int) :: lw_g) { frames := 0, cells := 0, slots := 0, locals := 0 } (va_Pc [.ref (b + 13), .int w1] (zx_w g σ)) (va_Qi (fun r u => ∃ y3 : Int32, r = y3 ∧ u = σ) (zx_w g) (gx_Q g)) 0 0 (gx_Q g) := by
  refine z_met (by decide) (Nat.le_of_ble_eq_true rfl) (fun p e s m below meth c B hr hin => ?_)
  refine z_eqs (σ' := (ap b σ [] [] [])) rfl ?_
  show zx p l e _ s m _ below meth c g 2 0 0 _ _ 0 [(0, .ref (b + 13)), (1, .int w1)] []
  refine z_iload_n B dX4_second_0 rfl 1 rfl ?_
  refine z_if_lt (tgt := 22) B dX4_second_1 (by decide) (fun h => absurd h (iv_nlt q1_w1 (by decide))) (fun _ => ?_)
  refine z_iload_n B dX4_second_4 rfl 1 rfl ?_
  refine z_aload_n B dX4_second_5 rfl 0 rfl ?_
  refine gf_X4_18 (x := (some (b + 16))) B (lKA (hk_K hK 13 rfl rfl)) (rR_at 13 3 hR_13_3) dX4_second_6 ?_
  refine z_alen (kd := 13) (ti := 1) (v := 20) B (lKA (hk_K hK 16 rfl rfl)) (by decide) rfl (congrArg Int32.ofNat (lNA (hk_N hK 16 rfl rfl))) dX4_second_9 ?_
  refine z_icmp_ge (tgt := 22) B dX4_second_10 (by decide) (fun h => absurd h (iv_nge q2_w1 (by decide))) (fun _ => ?_)
  refine z_aload_n B dX4_second_13 rfl 0 rfl ?_
  refine gf_X4_18 (x := (some (b + 16))) B (lKA (hk_K hK 13 rfl rfl)) (rR_at 13 3 hR_13_3) dX4_second_14 ?_
  refine z_iload_n B dX4_second_17 rfl 1 rfl ?_
  refine z_iald (j := w1.toNatClampNeg) B (lKA (hk_K hK 16 rfl rfl)) rfl (in_of (lNA (hk_N hK 16 rfl rfl)) (iv_in q1_w1 q2_w1 (by decide) (by decide))) rfl dX4_second_18 ?_
  refine z_topi (fun y3 e_y3 => ?_)
  refine z_goto (tgt := 23) B dX4_second_19 (by decide) ?_
  exact z_iret B hr (by decide) (by decide) dX4_second_23 ⟨y3, rfl, rfl⟩
set_option maxRecDepth 100000 in
set_option maxHeartbeats 4000000 in
theorem ci_X8_check_451 (l : Launch) {g : gx_T} {σ : sx_T} {b : Nat} (hK : lay b σ) (w1 : Int32) (w2 : Int32) (w3 : Int32) (w4 : Int32) (q1_w1 : (0 : Int) ≤ w1.toInt) (q2_w1 : w1.toInt ≤ (19 : Int)) (q1_w2 : (0 : Int) ≤ w2.toInt) (q2_w2 : w2.toInt ≤ (17 : Int)) (q1_w3 : (0 : Int) ≤ w3.toInt) (q2_w3 : w3.toInt ≤ (99 : Int)) (q1_w4 : (0 : Int) ≤ w4.toInt) (q2_w4 : w4.toInt ≤ (99 : Int)) (hI_0_7 : sx_I σ (b + 0) 7 = 0) (hR_0_0 : sx_R σ (b + 0) 0 = (some (b + 1))) (hR_1_1 : sx_R σ (b + 1) 1 = (some (b + 13))) (hR_13_1 : sx_R σ (b + 13) 1 = (some (b + 14))) (hR_13_2 : sx_R σ (b + 13) 2 = (some (b + 15))) (hR_13_3 : sx_R σ (b + 13) 3 = (some (b + 16))) : Met l yX8_check (.code yX8_check cX8_check 13 (some .int) :: lw_g) { frames := 2, cells := 0, slots := 0, locals := 43 } (va_Pc [.ref (b + 0), .int 1, .int w1, .int w2, .int w3, .int w4] (zx_w g σ)) (va_Qi (fun r u => ∃ y1 y2 y3 : Int32, r = 0 ∧ u = (ap b (wx_I (ap b (wx_I (ap b (wx_I (ap b (ap b (wx_I (ap b (wx_I (ap b (wx_I (ap b (ap b σ [] [] []) [] [] []) (b + 14) w1.toNatClampNeg w2) [] [] []) (b + 15) w1.toNatClampNeg w3) [] [] []) (b + 16) w1.toNatClampNeg w4) [] [] []) [] [] []) (b + 14) w1.toNatClampNeg y1) [] [] []) (b + 15) w1.toNatClampNeg y2) [] [] []) (b + 16) w1.toNatClampNeg y3) [] [] [])) (zx_w g) (gx_Q g)) 0 0 (gx_Q g) := by
  refine z_met (by decide) (Nat.le_of_ble_eq_true rfl) (fun p e s m below meth c B hr hin => ?_)
  refine z_eqs (σ' := (ap b σ [] [] [])) rfl ?_
  show zx p l e _ s m _ below meth c g 13 0 0 _ _ 0 [(0, .ref (b + 0)), (1, .int 1), (2, .int w1), (3, .int w2), (4, .int w3), (5, .int w4)] []
  refine z_aload_n B dX8_check_0 rfl 0 rfl ?_
  refine z_iload_n B dX8_check_1 rfl 1 rfl ?_
  refine z_cVq (As := [.int 1]) (rest := []) B cw_X8_64 cx_9 dX8_check_2 (ci_X8_programAt_122 l (σ := (ap b σ [] [] [])) (b := b) (lyA hK) (rR_at 0 0 hR_0_0) (rR_at 1 1 hR_1_1)) (lKA (hk_K hK 0 rfl rfl)) rfl (by decide) rfl (Nat.le_of_ble_eq_true rfl) (by decide) (fun r u hu => ?_)
  refine z_eqs (σ' := (ap b σ [] [] [])) hu.2 ?_
  show zx p l e _ s m _ below meth c g 13 0 0 _ _ 5 [(0, .ref (b + 0)), (1, .int 1), (2, .int w1), (3, .int w2), (4, .int w3), (5, .int w4)] _
  refine z_setr (y := (some (b + 13))) hu.1 ?_
  refine z_astore (lv' := [(6, .ref (b + 13)), (0, .ref (b + 0)), (1, .int 1), (2, .int w1), (3, .int w2), (4, .int w3), (5, .int w4)]) B dX8_check_5 (by decide) rfl ?_
  refine z_aload B dX8_check_7 0 rfl ?_
  refine z_ifnull (r := (some (b + 13))) (tgt := 21) B dX8_check_9 (by decide) (fun h => nomatch h) (fun _ _ => ?_)
  refine z_iload_n B dX8_check_12 rfl 3 rfl ?_
  refine z_bipush (v := 20) B dX8_check_13 (by decide) ?_
  refine z_cSi (As := [.int w1, .int 20]) (rest := []) B cw_X8_68 dX8_check_15 (ci_X8_isBelow_64 l (σ := (ap b σ [] [] [])) (b := b) (lyA hK) w1 q1_w1 q2_w1) rfl (by decide) rfl (Nat.le_of_ble_eq_true rfl) (by decide) (fun r u hu => ?_)
  refine z_eqs (σ' := (ap b σ [] [] [])) hu.2 ?_
  show zx p l e _ s m _ below meth c g 13 0 0 _ _ 18 [(6, .ref (b + 13)), (0, .ref (b + 0)), (1, .int 1), (2, .int w1), (3, .int w2), (4, .int w3), (5, .int w4)] _
  refine z_seti (y := 1) hu.1 ?_
  refine z_if_ne (tgt := 31) B dX8_check_18 (by decide) (fun _ => ?_) (fun h => absurd h (by decide))
  refine z_iload_n B dX8_check_31 rfl 4 rfl ?_
  refine z_iload B dX8_check_32 5 rfl ?_
  refine z_iload B dX8_check_34 6 rfl ?_
  refine z_cSi (As := [.int w2, .int w3, .int w4]) (rest := []) B cw_X8_79 dX8_check_36 (ci_X8_isStep_85 l (σ := (ap b σ [] [] [])) (b := b) (lyA hK) w2 w3 w4 q1_w2 q2_w2 q1_w3 q2_w3 q1_w4 q2_w4) rfl (by decide) rfl (Nat.le_of_ble_eq_true rfl) (by decide) (fun r u hu => ?_)
  refine z_eqs (σ' := (ap b σ [] [] [])) hu.2 ?_
  show zx p l e _ s m _ below meth c g 13 0 0 _ _ 39 [(6, .ref (b + 13)), (0, .ref (b + 0)), (1, .int 1), (2, .int w1), (3, .int w2), (4, .int w3), (5, .int w4)] _
  refine z_seti (y := 1) hu.1 ?_
  refine z_if_ne (tgt := 52) B dX8_check_39 (by decide) (fun _ => ?_) (fun h => absurd h (by decide))
  refine z_aload B dX8_check_52 0 rfl ?_
  refine z_iload_n B dX8_check_54 rfl 3 rfl ?_
  refine z_cVi (As := [.int w1]) (rest := []) B cw_X8_119 cx_5 dX8_check_55 (ci_X4_operation_448 l (σ := (ap b σ [] [] [])) (b := b) (lyA hK) w1 q1_w1 q2_w1 (rR_at 13 1 hR_13_1)) (lKA (hk_K hK 13 rfl rfl)) rfl (by decide) rfl (Nat.le_of_ble_eq_true rfl) (by decide) (fun r u hu => ?_)
  obtain ⟨y1, hu⟩ := hu
  refine z_eqs (σ' := (ap b σ [] [] [])) hu.2 ?_
  show zx p l e _ s m _ below meth c g 13 0 0 _ _ 58 [(6, .ref (b + 13)), (0, .ref (b + 0)), (1, .int 1), (2, .int w1), (3, .int w2), (4, .int w3), (5, .int w4)] _
  refine z_seti (y := y1) hu.1 ?_
  refine z_istore (lv' := [(7, .int y1), (6, .ref (b + 13)), (0, .ref (b + 0)), (1, .int 1), (2, .int w1), (3, .int w2), (4, .int w3), (5, .int w4)]) B dX8_check_58 (by decide) rfl ?_
  refine z_aload B dX8_check_60 1 rfl ?_
  refine z_iload_n B dX8_check_62 rfl 4 rfl ?_
  refine z_cVi (As := [.int w1]) (rest := []) B cw_X8_123 cx_5 dX8_check_63 (ci_X4_first_449 l (σ := (ap b σ [] [] [])) (b := b) (lyA hK) w1 q1_w1 q2_w1 (rR_at 13 2 hR_13_2)) (lKA (hk_K hK 13 rfl rfl)) rfl (by decide) rfl (Nat.le_of_ble_eq_true rfl) (by decide) (fun r u hu => ?_)
  obtain ⟨y2, hu⟩ := hu
  refine z_eqs (σ' := (ap b σ [] [] [])) hu.2 ?_
  show zx p l e _ s m _ below meth c g 13 0 0 _ _ 66 [(7, .int y1), (6, .ref (b + 13)), (0, .ref (b + 0)), (1, .int 1), (2, .int w1), (3, .int w2), (4, .int w3), (5, .int w4)] _
  refine z_seti (y := y2) hu.1 ?_
  refine z_istore (lv' := [(8, .int y2), (7, .int y1), (6, .ref (b + 13)), (0, .ref (b + 0)), (1, .int 1), (2, .int w1), (3, .int w2), (4, .int w3), (5, .int w4)]) B dX8_check_66 (by decide) rfl ?_
  refine z_aload B dX8_check_68 2 rfl ?_
  refine z_iload_n B dX8_check_70 rfl 5 rfl ?_
  refine z_cVi (As := [.int w1]) (rest := []) B cw_X8_126 cx_5 dX8_check_71 (ci_X4_second_450 l (σ := (ap b σ [] [] [])) (b := b) (lyA hK) w1 q1_w1 q2_w1 (rR_at 13 3 hR_13_3)) (lKA (hk_K hK 13 rfl rfl)) rfl (by decide) rfl (Nat.le_of_ble_eq_true rfl) (by decide) (fun r u hu => ?_)
  obtain ⟨y3, hu⟩ := hu
  refine z_eqs (σ' := (ap b σ [] [] [])) hu.2 ?_
  show zx p l e _ s m _ below meth c g 13 0 0 _ _ 74 [(8, .int y2), (7, .int y1), (6, .ref (b + 13)), (0, .ref (b + 0)), (1, .int 1), (2, .int w1), (3, .int w2), (4, .int w3), (5, .int w4)] _
  refine z_seti (y := y3) hu.1 ?_
  refine z_istore (lv' := [(9, .int y3), (8, .int y2), (7, .int y1), (6, .ref (b + 13)), (0, .ref (b + 0)), (1, .int 1), (2, .int w1), (3, .int w2), (4, .int w3), (5, .int w4)]) B dX8_check_74 (by decide) rfl ?_
  refine z_aload B dX8_check_76 3 rfl ?_
  refine z_iload_n B dX8_check_78 rfl 6 rfl ?_
  refine z_iload_n B dX8_check_79 rfl 7 rfl ?_
  refine z_iload B dX8_check_80 8 rfl ?_
  refine z_iload B dX8_check_82 9 rfl ?_
  refine z_cVv (As := [.int w1, .int w2, .int w3, .int w4]) (rest := []) B cw_X8_88 cx_5 dX8_check_84 (ci_X4_put_144 l (σ := (ap b σ [] [] [])) (b := b) (lyA hK) w1 w2 w3 w4 q1_w1 q2_w1 (rR_at 13 1 hR_13_1) (rR_at 13 2 hR_13_2) (rR_at 13 3 hR_13_3)) (lKA (hk_K hK 13 rfl rfl)) rfl (by decide) rfl (Nat.le_of_ble_eq_true rfl) (by decide) (fun u hu => ?_)
  refine z_eqs (σ' := (ap b (wx_I (ap b (wx_I (ap b (wx_I (ap b (ap b σ [] [] []) [] [] []) (b + 14) w1.toNatClampNeg w2) [] [] []) (b + 15) w1.toNatClampNeg w3) [] [] []) (b + 16) w1.toNatClampNeg w4) [] [] [])) hu ?_
  show zx p l e _ s m _ below meth c g 13 0 0 _ _ 87 [(9, .int y3), (8, .int y2), (7, .int y1), (6, .ref (b + 13)), (0, .ref (b + 0)), (1, .int 1), (2, .int w1), (3, .int w2), (4, .int w3), (5, .int w4)] _
  refine z_iconst (v := 0) B dX8_check_87 (by decide) ?_
  refine z_istore (lv' := [(10, .int 0), (9, .int y3), (8, .int y2), (7, .int y1), (6, .ref (b + 13)), (0, .ref (b + 0)), (1, .int 1), (2, .int w1), (3, .int w2), (4, .int w3), (5, .int w4)]) B dX8_check_88 (by decide) rfl ?_
  refine z_iconst (v := 0) B dX8_check_90 (by decide) ?_
  refine z_istore (lv' := [(11, .int 0), (10, .int 0), (9, .int y3), (8, .int y2), (7, .int y1), (6, .ref (b + 13)), (0, .ref (b + 0)), (1, .int 1), (2, .int w1), (3, .int w2), (4, .int w3), (5, .int w4)]) B dX8_check_91 (by decide) rfl ?_
  refine z_iload B dX8_check_93 0 rfl ?_
  refine z_aload_n B dX8_check_95 rfl 6 rfl ?_
  refine gf_X8_96 (x := 0) B (lKA (lKW (lKA (lKW (lKA (lKW (lKA (lKA (hk_K hK 0 rfl rfl))))))))) (rI_at 0 7 ((ux_a (by omega)).trans (rI_at 0 7 ((ux_a (by omega)).trans (rI_at 0 7 ((ux_a (by omega)).trans (rI_at 0 7 (rI_at 0 7 hI_0_7)))))))) dX8_check_96 ?_
  refine z_icmp_ge (tgt := 154) B dX8_check_99 (by decide) (fun _ => ?_) (fun h => absurd (by decide) h)
  refine z_aload B dX8_check_154 5 rfl ?_
  refine z_iload_n B dX8_check_156 rfl 8 rfl ?_
  refine z_iload B dX8_check_157 4 rfl ?_
  refine z_iload B dX8_check_159 3 rfl ?_
  refine z_iload B dX8_check_161 2 rfl ?_
  refine z_cVv (As := [.int w1, .int y1, .int y2, .int y3]) (rest := []) B cw_X8_88 cx_5 dX8_check_163 (ci_X4_put_144 l (σ := (ap b (wx_I (ap b (wx_I (ap b (wx_I (ap b (ap b σ [] [] []) [] [] []) (b + 14) w1.toNatClampNeg w2) [] [] []) (b + 15) w1.toNatClampNeg w3) [] [] []) (b + 16) w1.toNatClampNeg w4) [] [] [])) (b := b) (lyA (lyW (lyA (lyW (lyA (lyW (lyA (lyA hK)))))))) w1 y1 y2 y3 q1_w1 q2_w1 (rR_at 13 1 (rR_w (rR_at 13 1 (rR_w (rR_at 13 1 (rR_w (rR_at 13 1 (rR_at 13 1 hR_13_1)))))))) (rR_at 13 2 (rR_w (rR_at 13 2 (rR_w (rR_at 13 2 (rR_w (rR_at 13 2 (rR_at 13 2 hR_13_2)))))))) (rR_at 13 3 (rR_w (rR_at 13 3 (rR_w (rR_at 13 3 (rR_w (rR_at 13 3 (rR_at 13 3 hR_13_3))))))))) (lKA (lKW (lKA (lKW (lKA (lKW (lKA (lKA (hk_K hK 13 rfl rfl))))))))) rfl (by decide) rfl (Nat.le_of_ble_eq_true rfl) (by decide) (fun u hu => ?_)
  refine z_eqs (σ' := (ap b (wx_I (ap b (wx_I (ap b (wx_I (ap b (ap b (wx_I (ap b (wx_I (ap b (wx_I (ap b (ap b σ [] [] []) [] [] []) (b + 14) w1.toNatClampNeg w2) [] [] []) (b + 15) w1.toNatClampNeg w3) [] [] []) (b + 16) w1.toNatClampNeg w4) [] [] []) [] [] []) (b + 14) w1.toNatClampNeg y1) [] [] []) (b + 15) w1.toNatClampNeg y2) [] [] []) (b + 16) w1.toNatClampNeg y3) [] [] [])) hu ?_
  show zx p l e _ s m _ below meth c g 13 0 0 _ _ 166 [(11, .int 0), (10, .int 0), (9, .int y3), (8, .int y2), (7, .int y1), (6, .ref (b + 13)), (0, .ref (b + 0)), (1, .int 1), (2, .int w1), (3, .int w2), (4, .int w3), (5, .int w4)] _
  refine z_iload B dX8_check_166 1 rfl ?_
  exact z_iret B hr (by decide) (by decide) dX8_check_168 ⟨y1, y2, y3, rfl, rfl⟩
set_option maxRecDepth 100000 in
set_option maxHeartbeats 4000000 in
theorem ci_L_check_452 (l : Launch) {g : gx_T} {σ : sx_T} {b : Nat} (hK : lay b σ) (w1 : Int32) (w2 : Int32) (w3 : Int32) (w4 : Int32) (q1_w1 : (0 : Int) ≤ w1.toInt) (q2_w1 : w1.toInt ≤ (19 : Int)) (q1_w2 : (0 : Int) ≤ w2.toInt) (q2_w2 : w2.toInt ≤ (17 : Int)) (q1_w3 : (0 : Int) ≤ w3.toInt) (q2_w3 : w3.toInt ≤ (99 : Int)) (q1_w4 : (0 : Int) ≤ w4.toInt) (q2_w4 : w4.toInt ≤ (99 : Int)) (hI_0_7 : sx_I σ (b + 0) 7 = 0) (hR_0_0 : sx_R σ (b + 0) 0 = (some (b + 1))) (hR_1_1 : sx_R σ (b + 1) 1 = (some (b + 13))) (hR_13_1 : sx_R σ (b + 13) 1 = (some (b + 14))) (hR_13_2 : sx_R σ (b + 13) 2 = (some (b + 15))) (hR_13_3 : sx_R σ (b + 13) 3 = (some (b + 16))) : Met l yL_check (.codeWith yL_check cL_check 8 (some .int) [(0, 16, 19, 13), (0, 16, 23, 15)] :: lw_g) { frames := 3, cells := 0, slots := 0, locals := 75 } (va_Pc [.ref (b + 0), .int 1, .int w1, .int w2, .int w3, .int w4, .ref (b + 431)] (zx_w g σ)) (va_Qi (fun r u => ∃ y1 y2 y3 : Int32, r = 0 ∧ u = (ap b (wx_I (ap b (wx_I (ap b (wx_I (ap b (ap b (wx_I (ap b (wx_I (ap b (wx_I (ap b (ap b (ap b σ [] [] []) [] [] []) [] [] []) (b + 14) w1.toNatClampNeg w2) [] [] []) (b + 15) w1.toNatClampNeg w3) [] [] []) (b + 16) w1.toNatClampNeg w4) [] [] []) [] [] []) (b + 14) w1.toNatClampNeg y1) [] [] []) (b + 15) w1.toNatClampNeg y2) [] [] []) (b + 16) w1.toNatClampNeg y3) [] [(431, 0, 0)] [])) (zx_w g) (gx_Q g)) 0 0 (gx_Q g) := by
  refine z_metW (by decide) (Nat.le_of_ble_eq_true rfl) (fun p e s m below meth c B hr htab => ?_)
  refine z_eqs (σ' := (ap b σ [] [] [])) rfl ?_
  show zx p l e _ s m _ below meth c g 8 0 0 _ _ 0 [(0, .ref (b + 0)), (1, .int 1), (2, .int w1), (3, .int w2), (4, .int w3), (5, .int w4), (6, .ref (b + 431))] []
  refine z_aload B dL_check_0 6 rfl ?_
  refine z_iconst (v := 0) B dL_check_2 (by decide) ?_
  refine z_aload_n B dL_check_3 rfl 0 rfl ?_
  refine z_iload_n B dL_check_4 rfl 1 rfl ?_
  refine z_iload_n B dL_check_5 rfl 2 rfl ?_
  refine z_iload_n B dL_check_6 rfl 3 rfl ?_
  refine z_iload B dL_check_7 4 rfl ?_
  refine z_iload B dL_check_9 5 rfl ?_
  refine z_cVi (As := [.int 1, .int w1, .int w2, .int w3, .int w4]) (rest := [.int 0, .ref (b + 431)]) B cw_L_17 cx_9 dL_check_11 (ci_X8_check_451 l (σ := (ap b σ [] [] [])) (b := b) (lyA hK) w1 w2 w3 w4 q1_w1 q2_w1 q1_w2 q2_w2 q1_w3 q2_w3 q1_w4 q2_w4 (rI_at 0 7 hI_0_7) (rR_at 0 0 hR_0_0) (rR_at 1 1 hR_1_1) (rR_at 13 1 hR_13_1) (rR_at 13 2 hR_13_2) (rR_at 13 3 hR_13_3)) (lKA (hk_K hK 0 rfl rfl)) rfl (by decide) rfl (Nat.le_of_ble_eq_true rfl) (by decide) (fun r u hu => ?_)
  obtain ⟨y1, y2, y3, hu⟩ := hu
  refine z_eqs (σ' := (ap b (wx_I (ap b (wx_I (ap b (wx_I (ap b (ap b (wx_I (ap b (wx_I (ap b (wx_I (ap b (ap b (ap b σ [] [] []) [] [] []) [] [] []) (b + 14) w1.toNatClampNeg w2) [] [] []) (b + 15) w1.toNatClampNeg w3) [] [] []) (b + 16) w1.toNatClampNeg w4) [] [] []) [] [] []) (b + 14) w1.toNatClampNeg y1) [] [] []) (b + 15) w1.toNatClampNeg y2) [] [] []) (b + 16) w1.toNatClampNeg y3) [] [] [])) hu.2 ?_
  show zx p l e _ s m _ below meth c g 8 0 0 _ _ 14 [(0, .ref (b + 0)), (1, .int 1), (2, .int w1), (3, .int w2), (4, .int w3), (5, .int w4), (6, .ref (b + 431))] _
  refine z_seti (y := 0) hu.1 ?_
  refine z_i2l (v := 0) B dL_check_14 (by decide) ?_
  refine z_last (j := 0) (σ' := (ap b (wx_I (ap b (wx_I (ap b (wx_I (ap b (ap b (wx_I (ap b (wx_I (ap b (wx_I (ap b (ap b (ap b σ [] [] []) [] [] []) [] [] []) (b + 14) w1.toNatClampNeg w2) [] [] []) (b + 15) w1.toNatClampNeg w3) [] [] []) (b + 16) w1.toNatClampNeg w4) [] [] []) [] [] []) (b + 14) w1.toNatClampNeg y1) [] [] []) (b + 15) w1.toNatClampNeg y2) [] [] []) (b + 16) w1.toNatClampNeg y3) [] [(431, 0, 0)] [])) B (lKA (lKW (lKA (lKW (lKA (lKW (lKA (lKA (lKW (lKA (lKW (lKA (lKW (lKA (lKA (lKA (hk_K hK 431 rfl rfl))))))))))))))))) (by decide) (in_of (lNA (lNW (lNA (lNW (lNA (lNW (lNA (lNA (lNW (lNA (lNW (lNA (lNW (lNA (lNA (lNA (hk_N hK 431 rfl rfl))))))))))))))))) (show ¬ ((0 : Int32) < 0 ∨ 1 ≤ (0 : Int32).toNatClampNeg) by decide)) wJ_ap dL_check_15 ?_
  refine z_goto (tgt := 27) B dL_check_16 (by decide) ?_
  refine z_iconst (v := 0) B dL_check_27 (by decide) ?_
  exact z_iret B hr (by decide) (by decide) dL_check_28 ⟨y1, y2, y3, rfl, rfl⟩
set_option maxRecDepth 100000 in
set_option maxHeartbeats 4000000 in
theorem ci_X9_check_453 (l : Launch) {g : gx_T} {σ : sx_T} {b : Nat} (hK : lay b σ) (w1 : Int32) (w2 : Int32) (w3 : Int32) (w4 : Int32) (q1_w1 : (0 : Int) ≤ w1.toInt) (q2_w1 : w1.toInt ≤ (19 : Int)) (q1_w2 : (0 : Int) ≤ w2.toInt) (q2_w2 : w2.toInt ≤ (17 : Int)) (q1_w3 : (0 : Int) ≤ w3.toInt) (q2_w3 : w3.toInt ≤ (99 : Int)) (q1_w4 : (0 : Int) ≤ w4.toInt) (q2_w4 : w4.toInt ≤ (99 : Int)) (hI_405_6 : sx_I σ (b + 405) 6 = 0) (hR_405_3 : sx_R σ (b + 405) 3 = (some (b + 406))) (hR_405_4 : sx_R σ (b + 405) 4 = (some (b + 407))) (hR_405_5 : sx_R σ (b + 405) 5 = (some (b + 408))) : Met l yX9_check (.code yX9_check cX9_check 11 (some .int) :: lw_g) { frames := 2, cells := 0, slots := 0, locals := 44 } (va_Pc [.ref (b + 405), .int 1, .int w1, .int w2, .int w3, .int w4] (zx_w g σ)) (va_Qi (fun r u => ∃ y4 y5 y6 : Int32, r = 0 ∧ u = (ap b (wx_I (ap b (wx_I (ap b (wx_I (ap b (ap b (wx_I (ap b (wx_I (ap b (wx_I (ap b (ap b σ [(405, 0, 0)] [] []) [] [] []) (b + 406) (20 + w1).toNatClampNeg w2) [] [] []) (b + 407) (20 + w1).toNatClampNeg w3) [] [] []) (b + 408) (20 + w1).toNatClampNeg w4) [] [] []) [] [] []) (b + 406) (20 + w1).toNatClampNeg y4) [] [] []) (b + 407) (20 + w1).toNatClampNeg y5) [] [] []) (b + 408) (20 + w1).toNatClampNeg y6) [] [] [])) (zx_w g) (gx_Q g)) 0 0 (gx_Q g) := by
  refine z_met (by decide) (Nat.le_of_ble_eq_true rfl) (fun p e s m below meth c B hr hin => ?_)
  refine z_eqs (σ' := (ap b σ [] [] [])) rfl ?_
  show zx p l e _ s m _ below meth c g 11 0 0 _ _ 0 [(0, .ref (b + 405)), (1, .int 1), (2, .int w1), (3, .int w2), (4, .int w3), (5, .int w4)] []
  refine z_aload_n B dX9_check_0 rfl 0 rfl ?_
  refine z_iload_n B dX9_check_1 rfl 1 rfl ?_
  refine z_iload_n B dX9_check_2 rfl 2 rfl ?_
  refine z_cSi (As := [.int 1, .int w1]) (rest := [.ref (b + 405)]) B cw_X9_238 dX9_check_3 (ci_X9_isStep_136 l (σ := (ap b σ [] [] [])) (b := b) (lyA hK) w1 q1_w1 q2_w1) rfl (by decide) rfl (Nat.le_of_ble_eq_true rfl) (by decide) (fun r u hu => ?_)
  refine z_eqs (σ' := (ap b σ [] [] [])) hu.2 ?_
  show zx p l e _ s m _ below meth c g 11 0 0 _ _ 6 [(0, .ref (b + 405)), (1, .int 1), (2, .int w1), (3, .int w2), (4, .int w3), (5, .int w4)] _
  refine z_seti (y := 1) hu.1 ?_
  refine z_iload_n B dX9_check_6 rfl 3 rfl ?_
  refine z_iload B dX9_check_7 4 rfl ?_
  refine z_iload B dX9_check_9 5 rfl ?_
  refine z_cSi (As := [.int w2, .int w3, .int w4]) (rest := [.int 1, .ref (b + 405)]) B cw_X9_242 dX9_check_11 (ci_X9_isOperation_39 l (σ := (ap b σ [] [] [])) (b := b) (lyA hK) w2 w3 w4 q1_w2 q2_w2 q1_w3 q2_w3 q1_w4 q2_w4) rfl (by decide) rfl (Nat.le_of_ble_eq_true rfl) (by decide) (fun r u hu => ?_)
  refine z_eqs (σ' := (ap b σ [] [] [])) hu.2 ?_
  show zx p l e _ s m _ below meth c g 11 0 0 _ _ 14 [(0, .ref (b + 405)), (1, .int 1), (2, .int w1), (3, .int w2), (4, .int w3), (5, .int w4)] _
  refine z_seti (y := 1) hu.1 ?_
  refine z_cVi (As := [.int 1, .int 1]) (rest := []) B cw_X9_245 cx_10 dX9_check_14 (ci_X9_needs__91 l (σ := (ap b σ [] [] [])) (b := b) (lyA hK) ) (lKA (hk_K hK 405 rfl rfl)) rfl (by decide) rfl (Nat.le_of_ble_eq_true rfl) (by decide) (fun r u hu => ?_)
  refine z_eqs (σ' := (ap b σ [(405, 0, 0)] [] [])) (hu.2.trans ap_ap) ?_
  show zx p l e _ s m _ below meth c g 11 0 0 _ _ 17 [(0, .ref (b + 405)), (1, .int 1), (2, .int w1), (3, .int w2), (4, .int w3), (5, .int w4)] _
  refine z_seti (y := 1) hu.1 ?_
  refine z_if_ne (tgt := 22) B dX9_check_17 (by decide) (fun _ => ?_) (fun h => absurd h (by decide))
  refine z_bipush (v := 20) B dX9_check_22 (by decide) ?_
  refine z_iload_n B dX9_check_24 rfl 1 rfl ?_
  refine z_imul B dX9_check_25 ?_
  refine z_seti (y := 20) (by decide) ?_
  refine z_iload_n B dX9_check_26 rfl 2 rfl ?_
  refine z_iadd B dX9_check_27 ?_
  refine z_istore (lv' := [(6, .int (20 + w1)), (0, .ref (b + 405)), (1, .int 1), (2, .int w1), (3, .int w2), (4, .int w3), (5, .int w4)]) B dX9_check_28 (by decide) rfl ?_
  refine z_aload_n B dX9_check_30 rfl 1 rfl ?_
  refine gf_X9_13 (x := (some (b + 406))) B (lKA (hk_K hK 405 rfl rfl)) (rR_at 405 3 hR_405_3) dX9_check_31 ?_
  refine z_iload B dX9_check_34 0 rfl ?_
  refine z_iald (j := (20 + w1).toNatClampNeg) B (lKA (hk_K hK 406 rfl rfl)) rfl (in_of (lNA (hk_N hK 406 rfl rfl)) (iv_inadd q1_w1 q2_w1 (by decide) (by decide))) rfl dX9_check_36 ?_
  refine z_topi (fun y4 e_y4 => ?_)
  refine z_istore (lv' := [(7, .int y4), (6, .int (20 + w1)), (0, .ref (b + 405)), (1, .int 1), (2, .int w1), (3, .int w2), (4, .int w3), (5, .int w4)]) B dX9_check_37 (by decide) rfl ?_
  refine z_aload_n B dX9_check_39 rfl 2 rfl ?_
  refine gf_X9_17 (x := (some (b + 407))) B (lKA (hk_K hK 405 rfl rfl)) (rR_at 405 4 hR_405_4) dX9_check_40 ?_
  refine z_iload B dX9_check_43 1 rfl ?_
  refine z_iald (j := (20 + w1).toNatClampNeg) B (lKA (hk_K hK 407 rfl rfl)) rfl (in_of (lNA (hk_N hK 407 rfl rfl)) (iv_inadd q1_w1 q2_w1 (by decide) (by decide))) rfl dX9_check_45 ?_
  refine z_topi (fun y5 e_y5 => ?_)
  refine z_istore (lv' := [(8, .int y5), (7, .int y4), (6, .int (20 + w1)), (0, .ref (b + 405)), (1, .int 1), (2, .int w1), (3, .int w2), (4, .int w3), (5, .int w4)]) B dX9_check_46 (by decide) rfl ?_
  refine z_aload_n B dX9_check_48 rfl 3 rfl ?_
  refine gf_X9_20 (x := (some (b + 408))) B (lKA (hk_K hK 405 rfl rfl)) (rR_at 405 5 hR_405_5) dX9_check_49 ?_
  refine z_iload B dX9_check_52 2 rfl ?_
  refine z_iald (j := (20 + w1).toNatClampNeg) B (lKA (hk_K hK 408 rfl rfl)) rfl (in_of (lNA (hk_N hK 408 rfl rfl)) (iv_inadd q1_w1 q2_w1 (by decide) (by decide))) rfl dX9_check_54 ?_
  refine z_topi (fun y6 e_y6 => ?_)
  refine z_istore (lv' := [(9, .int y6), (8, .int y5), (7, .int y4), (6, .int (20 + w1)), (0, .ref (b + 405)), (1, .int 1), (2, .int w1), (3, .int w2), (4, .int w3), (5, .int w4)]) B dX9_check_55 (by decide) rfl ?_
  refine z_aload_n B dX9_check_57 rfl 4 rfl ?_
  refine z_iload_n B dX9_check_58 rfl 5 rfl ?_
  refine z_iload_n B dX9_check_59 rfl 6 rfl ?_
  refine z_iload_n B dX9_check_60 rfl 7 rfl ?_
  refine z_iload B dX9_check_61 8 rfl ?_
  refine z_iload B dX9_check_63 9 rfl ?_
  refine z_cVv (As := [.int 1, .int w1, .int w2, .int w3, .int w4]) (rest := []) B cw_X9_249 cx_10 dX9_check_65 (ci_X9_lays_149 l (σ := (ap b σ [(405, 0, 0)] [] [])) (b := b) (lyA hK) w1 w2 w3 w4 q1_w1 q2_w1 (rR_at 405 3 hR_405_3) (rR_at 405 4 hR_405_4) (rR_at 405 5 hR_405_5)) (lKA (hk_K hK 405 rfl rfl)) rfl (by decide) rfl (Nat.le_of_ble_eq_true rfl) (by decide) (fun u hu => ?_)
  refine z_eqs (σ' := (ap b (wx_I (ap b (wx_I (ap b (wx_I (ap b (ap b σ [(405, 0, 0)] [] []) [] [] []) (b + 406) (20 + w1).toNatClampNeg w2) [] [] []) (b + 407) (20 + w1).toNatClampNeg w3) [] [] []) (b + 408) (20 + w1).toNatClampNeg w4) [] [] [])) hu ?_
  show zx p l e _ s m _ below meth c g 11 0 0 _ _ 68 [(9, .int y6), (8, .int y5), (7, .int y4), (6, .int (20 + w1)), (0, .ref (b + 405)), (1, .int 1), (2, .int w1), (3, .int w2), (4, .int w3), (5, .int w4)] _
  refine z_aload_n B dX9_check_68 rfl 4 rfl ?_
  refine z_iload_n B dX9_check_69 rfl 5 rfl ?_
  refine z_cVi (As := [.int 1]) (rest := []) B cw_X9_256 cx_10 dX9_check_70 (ci_X9_unfit_150 l (σ := (ap b (wx_I (ap b (wx_I (ap b (wx_I (ap b (ap b σ [(405, 0, 0)] [] []) [] [] []) (b + 406) (20 + w1).toNatClampNeg w2) [] [] []) (b + 407) (20 + w1).toNatClampNeg w3) [] [] []) (b + 408) (20 + w1).toNatClampNeg w4) [] [] [])) (b := b) (lyA (lyW (lyA (lyW (lyA (lyW (lyA (lyA hK)))))))) (rI_at 405 6 ((ux_a (by omega)).trans (rI_at 405 6 ((ux_a (by omega)).trans (rI_at 405 6 ((ux_a (by omega)).trans (rI_at 405 6 (rI_at 405 6 hI_405_6))))))))) (lKA (lKW (lKA (lKW (lKA (lKW (lKA (lKA (hk_K hK 405 rfl rfl))))))))) rfl (by decide) rfl (Nat.le_of_ble_eq_true rfl) (by decide) (fun r u hu => ?_)
  refine z_eqs (σ' := (ap b (wx_I (ap b (wx_I (ap b (wx_I (ap b (ap b σ [(405, 0, 0)] [] []) [] [] []) (b + 406) (20 + w1).toNatClampNeg w2) [] [] []) (b + 407) (20 + w1).toNatClampNeg w3) [] [] []) (b + 408) (20 + w1).toNatClampNeg w4) [] [] [])) hu.2 ?_
  show zx p l e _ s m _ below meth c g 11 0 0 _ _ 73 [(9, .int y6), (8, .int y5), (7, .int y4), (6, .int (20 + w1)), (0, .ref (b + 405)), (1, .int 1), (2, .int w1), (3, .int w2), (4, .int w3), (5, .int w4)] _
  refine z_seti (y := 0) hu.1 ?_
  refine z_istore (lv' := [(10, .int 0), (9, .int y6), (8, .int y5), (7, .int y4), (6, .int (20 + w1)), (0, .ref (b + 405)), (1, .int 1), (2, .int w1), (3, .int w2), (4, .int w3), (5, .int w4)]) B dX9_check_73 (by decide) rfl ?_
  refine z_aload_n B dX9_check_75 rfl 5 rfl ?_
  refine z_iload_n B dX9_check_76 rfl 6 rfl ?_
  refine z_iload_n B dX9_check_77 rfl 7 rfl ?_
  refine z_iload B dX9_check_78 3 rfl ?_
  refine z_iload B dX9_check_80 2 rfl ?_
  refine z_iload B dX9_check_82 1 rfl ?_
  refine z_cVv (As := [.int 1, .int w1, .int y4, .int y5, .int y6]) (rest := []) B cw_X9_249 cx_10 dX9_check_84 (ci_X9_lays_149 l (σ := (ap b (wx_I (ap b (wx_I (ap b (wx_I (ap b (ap b σ [(405, 0, 0)] [] []) [] [] []) (b + 406) (20 + w1).toNatClampNeg w2) [] [] []) (b + 407) (20 + w1).toNatClampNeg w3) [] [] []) (b + 408) (20 + w1).toNatClampNeg w4) [] [] [])) (b := b) (lyA (lyW (lyA (lyW (lyA (lyW (lyA (lyA hK)))))))) w1 y4 y5 y6 q1_w1 q2_w1 (rR_at 405 3 (rR_w (rR_at 405 3 (rR_w (rR_at 405 3 (rR_w (rR_at 405 3 (rR_at 405 3 hR_405_3)))))))) (rR_at 405 4 (rR_w (rR_at 405 4 (rR_w (rR_at 405 4 (rR_w (rR_at 405 4 (rR_at 405 4 hR_405_4)))))))) (rR_at 405 5 (rR_w (rR_at 405 5 (rR_w (rR_at 405 5 (rR_w (rR_at 405 5 (rR_at 405 5 hR_405_5))))))))) (lKA (lKW (lKA (lKW (lKA (lKW (lKA (lKA (hk_K hK 405 rfl rfl))))))))) rfl (by decide) rfl (Nat.le_of_ble_eq_true rfl) (by decide) (fun u hu => ?_)
  refine z_eqs (σ' := (ap b (wx_I (ap b (wx_I (ap b (wx_I (ap b (ap b (wx_I (ap b (wx_I (ap b (wx_I (ap b (ap b σ [(405, 0, 0)] [] []) [] [] []) (b + 406) (20 + w1).toNatClampNeg w2) [] [] []) (b + 407) (20 + w1).toNatClampNeg w3) [] [] []) (b + 408) (20 + w1).toNatClampNeg w4) [] [] []) [] [] []) (b + 406) (20 + w1).toNatClampNeg y4) [] [] []) (b + 407) (20 + w1).toNatClampNeg y5) [] [] []) (b + 408) (20 + w1).toNatClampNeg y6) [] [] [])) hu ?_
  show zx p l e _ s m _ below meth c g 11 0 0 _ _ 87 [(10, .int 0), (9, .int y6), (8, .int y5), (7, .int y4), (6, .int (20 + w1)), (0, .ref (b + 405)), (1, .int 1), (2, .int w1), (3, .int w2), (4, .int w3), (5, .int w4)] _
  refine z_iload B dX9_check_87 0 rfl ?_
  exact z_iret B hr (by decide) (by decide) dX9_check_89 ⟨y4, y5, y6, rfl, rfl⟩
set_option maxRecDepth 100000 in
set_option maxHeartbeats 4000000 in
theorem ci_X8_check_454 (l : Launch) (hlt : l.stackTraces = false) {g : gx_T} {σ : sx_T} {b : Nat} (hK : lay b σ) (w1 : Int32) (w2 : Int32) (w3 : Int32) (w4 : Int32) (q1_w1 : (0 : Int) ≤ w1.toInt) (q2_w1 : w1.toInt ≤ (19 : Int)) (q1_w2 : (0 : Int) ≤ w2.toInt) (q2_w2 : w2.toInt ≤ (17 : Int)) (q1_w3 : (0 : Int) ≤ w3.toInt) (q2_w3 : w3.toInt ≤ (99 : Int)) (q1_w4 : (100 : Int) ≤ w4.toInt) (q2_w4 : w4.toInt ≤ (2147483647 : Int)) (hR_0_0 : sx_R σ (b + 0) 0 = (some (b + 1))) (hR_1_1 : sx_R σ (b + 1) 1 = (some (b + 13))) : vx_Met l yX8_check (.code yX8_check cX8_check 13 (some .int) :: lw_g) { frames := 7, cells := 1, slots := 6, locals := 136 } (va_Pc [.ref (b + 0), .int 1, .int w1, .int w2, .int w3, .int w4] (zx_w g σ)) (va_Qi (S := sx_T) (fun _ _ => False) (zx_w g) (gx_Q g)) (vx_X (fun u : sx_T => ∃ z, u = wx_Z σ z) (fun E u t => E = "java/lang/IllegalArgumentException" ∧ zx_h g u t.heap) (gx_Q g)) 1 6 (gx_Q g) := by
  refine z_metX (by decide) (Nat.le_of_ble_eq_true rfl) (fun p e s m below meth c B hr hin hout => ?_)
  refine z_eqs (σ' := (ap b σ [] [] [])) rfl ?_
  show zx p l e _ s m _ below meth c g 13 0 0 _ _ 0 [(0, .ref (b + 0)), (1, .int 1), (2, .int w1), (3, .int w2), (4, .int w3), (5, .int w4)] []
  refine z_aload_n B dX8_check_0 rfl 0 rfl ?_
  refine z_iload_n B dX8_check_1 rfl 1 rfl ?_
  refine z_cVq (As := [.int 1]) (rest := []) B cw_X8_64 cx_9 dX8_check_2 (ci_X8_programAt_122 l (σ := (ap b σ [] [] [])) (b := b) (lyA hK) (rR_at 0 0 hR_0_0) (rR_at 1 1 hR_1_1)) (lKA (hk_K hK 0 rfl rfl)) rfl (by decide) rfl (Nat.le_of_ble_eq_true rfl) (by decide) (fun r u hu => ?_)
  refine z_eqs (σ' := (ap b σ [] [] [])) hu.2 ?_
  show zx p l e _ s m _ below meth c g 13 0 0 _ _ 5 [(0, .ref (b + 0)), (1, .int 1), (2, .int w1), (3, .int w2), (4, .int w3), (5, .int w4)] _
  refine z_setr (y := (some (b + 13))) hu.1 ?_
  refine z_astore (lv' := [(6, .ref (b + 13)), (0, .ref (b + 0)), (1, .int 1), (2, .int w1), (3, .int w2), (4, .int w3), (5, .int w4)]) B dX8_check_5 (by decide) rfl ?_
  refine z_aload B dX8_check_7 0 rfl ?_
  refine z_ifnull (r := (some (b + 13))) (tgt := 21) B dX8_check_9 (by decide) (fun h => nomatch h) (fun _ _ => ?_)
  refine z_iload_n B dX8_check_12 rfl 3 rfl ?_
  refine z_bipush (v := 20) B dX8_check_13 (by decide) ?_
  refine z_cSi (As := [.int w1, .int 20]) (rest := []) B cw_X8_68 dX8_check_15 (ci_X8_isBelow_64 l (σ := (ap b σ [] [] [])) (b := b) (lyA hK) w1 q1_w1 q2_w1) rfl (by decide) rfl (Nat.le_of_ble_eq_true rfl) (by decide) (fun r u hu => ?_)
  refine z_eqs (σ' := (ap b σ [] [] [])) hu.2 ?_
  show zx p l e _ s m _ below meth c g 13 0 0 _ _ 18 [(6, .ref (b + 13)), (0, .ref (b + 0)), (1, .int 1), (2, .int w1), (3, .int w2), (4, .int w3), (5, .int w4)] _
  refine z_seti (y := 1) hu.1 ?_
  refine z_if_ne (tgt := 31) B dX8_check_18 (by decide) (fun _ => ?_) (fun h => absurd h (by decide))
  refine z_iload_n B dX8_check_31 rfl 4 rfl ?_
  refine z_iload B dX8_check_32 5 rfl ?_
  refine z_iload B dX8_check_34 6 rfl ?_
  refine z_cSi (As := [.int w2, .int w3, .int w4]) (rest := []) B cw_X8_79 dX8_check_36 (ci_X8_isStep_97 l (σ := (ap b σ [] [] [])) (b := b) (lyA hK) w2 w3 w4 q1_w2 q2_w2 q1_w3 q2_w3 q1_w4 q2_w4) rfl (by decide) rfl (Nat.le_of_ble_eq_true rfl) (by decide) (fun r u hu => ?_)
  refine z_eqs (σ' := (ap b σ [] [] [])) hu.2 ?_
  show zx p l e _ s m _ below meth c g 13 0 0 _ _ 39 [(6, .ref (b + 13)), (0, .ref (b + 0)), (1, .int 1), (2, .int w1), (3, .int w2), (4, .int w3), (5, .int w4)] _
  refine z_seti (y := 0) hu.1 ?_
  refine z_if_ne (tgt := 52) B dX8_check_39 (by decide) (fun h => absurd (by decide) h) (fun _ => ?_)
  exact z_throw B hlt hout (cls := "java/lang/IllegalArgumentException") (text := "no such operation") tw_X8_83_85_87 dX8_check_42 dX8_check_45 dX8_check_46 dX8_check_48 dX8_check_51 (by decide) (by decide) (by decide) (by decide) (by decide) (by decide) (fun z => ⟨z, rfl⟩)
set_option maxRecDepth 100000 in
set_option maxHeartbeats 4000000 in
theorem ci_L_check_455 (l : Launch) (hlt : l.stackTraces = false) {g : gx_T} {σ : sx_T} {b : Nat} (hK : lay b σ) (w1 : Int32) (w2 : Int32) (w3 : Int32) (w4 : Int32) (q1_w1 : (0 : Int) ≤ w1.toInt) (q2_w1 : w1.toInt ≤ (19 : Int)) (q1_w2 : (0 : Int) ≤ w2.toInt) (q2_w2 : w2.toInt ≤ (17 : Int)) (q1_w3 : (0 : Int) ≤ w3.toInt) (q2_w3 : w3.toInt ≤ (99 : Int)) (q1_w4 : (100 : Int) ≤ w4.toInt) (q2_w4 : w4.toInt ≤ (2147483647 : Int)) (hR_0_0 : sx_R σ (b + 0) 0 = (some (b + 1))) (hR_1_1 : sx_R σ (b + 1) 1 = (some (b + 13))) : Met l yL_check (.codeWith yL_check cL_check 8 (some .int) [(0, 16, 19, 13), (0, 16, 23, 15)] :: lw_g) { frames := 8, cells := 1, slots := 6, locals := 168 } (va_Pc [.ref (b + 0), .int 1, .int w1, .int w2, .int w3, .int w4, .ref (b + 431)] (zx_w g σ)) (va_Qi (fun r u => r = 2 ∧ ∃ z, u = (ap b (wx_Z σ z) [] [] [])) (zx_w g) (gx_Q g)) 1 6 (gx_Q g) := by
  refine z_metW (by decide) (Nat.le_of_ble_eq_true rfl) (fun p e s m below meth c B hr htab => ?_)
  refine z_eqs (σ' := (ap b σ [] [] [])) rfl ?_
  show zx p l e _ s m _ below meth c g 8 0 0 _ _ 0 [(0, .ref (b + 0)), (1, .int 1), (2, .int w1), (3, .int w2), (4, .int w3), (5, .int w4), (6, .ref (b + 431))] []
  refine z_aload B dL_check_0 6 rfl ?_
  refine z_iconst (v := 0) B dL_check_2 (by decide) ?_
  refine z_aload_n B dL_check_3 rfl 0 rfl ?_
  refine z_iload_n B dL_check_4 rfl 1 rfl ?_
  refine z_iload_n B dL_check_5 rfl 2 rfl ?_
  refine z_iload_n B dL_check_6 rfl 3 rfl ?_
  refine z_iload B dL_check_7 4 rfl ?_
  refine z_iload B dL_check_9 5 rfl ?_
  refine z_cXi (As := [.int 1, .int w1, .int w2, .int w3, .int w4]) (rest := [.int 0, .ref (b + 431)]) B htab tc_check_11_IllegalArgumentException cw_L_17 cx_9 dL_check_11 (ci_X8_check_454 l hlt (σ := (ap b σ [] [] [])) (b := b) (lyA hK) w1 w2 w3 w4 q1_w1 q2_w1 q1_w2 q2_w2 q1_w3 q2_w3 q1_w4 q2_w4 (rR_at 0 0 hR_0_0) (rR_at 1 1 hR_1_1)) (lKA (hk_K hK 0 rfl rfl)) rfl (by decide) rfl (Nat.le_of_ble_eq_true rfl) (by decide) (fun z q => ?_)
  refine z_eqs (σ' := (ap b (wx_Z σ z) [] [] [])) rfl ?_
  show zx p l e _ s m _ below meth c g 8 _ _ _ _ 23 [(0, .ref (b + 0)), (1, .int 1), (2, .int w1), (3, .int w2), (4, .int w3), (5, .int w4), (6, .ref (b + 431))] _
  refine z_astore (lv' := [(7, .ref q), (0, .ref (b + 0)), (1, .int 1), (2, .int w1), (3, .int w2), (4, .int w3), (5, .int w4), (6, .ref (b + 431))]) B dL_check_23 (by decide) rfl ?_
  refine z_iconst (v := 2) B dL_check_25 (by decide) ?_
  exact z_iret B hr (by decide) (by decide) dL_check_26 ⟨rfl, _, rfl⟩
set_option maxRecDepth 100000 in
set_option maxHeartbeats 4000000 in
theorem ci_X9_check_456 (l : Launch) {g : gx_T} {σ : sx_T} {b : Nat} (hK : lay b σ) (w1 : Int32) (w2 : Int32) (w3 : Int32) (w4 : Int32) (q1_w1 : (0 : Int) ≤ w1.toInt) (q2_w1 : w1.toInt ≤ (19 : Int)) (q1_w2 : (0 : Int) ≤ w2.toInt) (q2_w2 : w2.toInt ≤ (17 : Int)) (q1_w3 : (0 : Int) ≤ w3.toInt) (q2_w3 : w3.toInt ≤ (99 : Int)) (q1_w4 : (100 : Int) ≤ w4.toInt) (q2_w4 : w4.toInt ≤ (2147483647 : Int))  : Met l yX9_check (.code yX9_check cX9_check 11 (some .int) :: lw_g) { frames := 2, cells := 0, slots := 0, locals := 44 } (va_Pc [.ref (b + 405), .int 1, .int w1, .int w2, .int w3, .int w4] (zx_w g σ)) (va_Qi (fun r u => r = 0 ∧ u = (ap b σ [(405, 0, 2)] [] [])) (zx_w g) (gx_Q g)) 0 0 (gx_Q g) := by
  refine z_met (by decide) (Nat.le_of_ble_eq_true rfl) (fun p e s m below meth c B hr hin => ?_)
  refine z_eqs (σ' := (ap b σ [] [] [])) rfl ?_
  show zx p l e _ s m _ below meth c g 11 0 0 _ _ 0 [(0, .ref (b + 405)), (1, .int 1), (2, .int w1), (3, .int w2), (4, .int w3), (5, .int w4)] []
  refine z_aload_n B dX9_check_0 rfl 0 rfl ?_
  refine z_iload_n B dX9_check_1 rfl 1 rfl ?_
  refine z_iload_n B dX9_check_2 rfl 2 rfl ?_
  refine z_cSi (As := [.int 1, .int w1]) (rest := [.ref (b + 405)]) B cw_X9_238 dX9_check_3 (ci_X9_isStep_136 l (σ := (ap b σ [] [] [])) (b := b) (lyA hK) w1 q1_w1 q2_w1) rfl (by decide) rfl (Nat.le_of_ble_eq_true rfl) (by decide) (fun r u hu => ?_)
  refine z_eqs (σ' := (ap b σ [] [] [])) hu.2 ?_
  show zx p l e _ s m _ below meth c g 11 0 0 _ _ 6 [(0, .ref (b + 405)), (1, .int 1), (2, .int w1), (3, .int w2), (4, .int w3), (5, .int w4)] _
  refine z_seti (y := 1) hu.1 ?_
  refine z_iload_n B dX9_check_6 rfl 3 rfl ?_
  refine z_iload B dX9_check_7 4 rfl ?_
  refine z_iload B dX9_check_9 5 rfl ?_
  refine z_cSi (As := [.int w2, .int w3, .int w4]) (rest := [.int 1, .ref (b + 405)]) B cw_X9_242 dX9_check_11 (ci_X9_isOperation_43 l (σ := (ap b σ [] [] [])) (b := b) (lyA hK) w2 w3 w4 q1_w2 q2_w2 q1_w3 q2_w3 q1_w4 q2_w4) rfl (by decide) rfl (Nat.le_of_ble_eq_true rfl) (by decide) (fun r u hu => ?_)
  refine z_eqs (σ' := (ap b σ [] [] [])) hu.2 ?_
  show zx p l e _ s m _ below meth c g 11 0 0 _ _ 14 [(0, .ref (b + 405)), (1, .int 1), (2, .int w1), (3, .int w2), (4, .int w3), (5, .int w4)] _
  refine z_seti (y := 0) hu.1 ?_
  refine z_cVi (As := [.int 1, .int 0]) (rest := []) B cw_X9_245 cx_10 dX9_check_14 (ci_X9_needs__71 l (σ := (ap b σ [] [] [])) (b := b) (lyA hK) ) (lKA (hk_K hK 405 rfl rfl)) rfl (by decide) rfl (Nat.le_of_ble_eq_true rfl) (by decide) (fun r u hu => ?_)
  refine z_eqs (σ' := (ap b σ [(405, 0, 2)] [] [])) (hu.2.trans ap_ap) ?_
  show zx p l e _ s m _ below meth c g 11 0 0 _ _ 17 [(0, .ref (b + 405)), (1, .int 1), (2, .int w1), (3, .int w2), (4, .int w3), (5, .int w4)] _
  refine z_seti (y := 0) hu.1 ?_
  refine z_if_ne (tgt := 22) B dX9_check_17 (by decide) (fun h => absurd (by decide) h) (fun _ => ?_)
  refine z_iconst (v := 0) B dX9_check_20 (by decide) ?_
  exact z_iret B hr (by decide) (by decide) dX9_check_21 ⟨rfl, rfl⟩
set_option maxRecDepth 100000 in
set_option maxHeartbeats 4000000 in
theorem ci_X8_check_457 (l : Launch) (hlt : l.stackTraces = false) {g : gx_T} {σ : sx_T} {b : Nat} (hK : lay b σ) (w1 : Int32) (w2 : Int32) (w3 : Int32) (w4 : Int32) (q1_w1 : (0 : Int) ≤ w1.toInt) (q2_w1 : w1.toInt ≤ (19 : Int)) (q1_w2 : (0 : Int) ≤ w2.toInt) (q2_w2 : w2.toInt ≤ (17 : Int)) (q1_w3 : (100 : Int) ≤ w3.toInt) (q2_w3 : w3.toInt ≤ (2147483647 : Int)) (hR_0_0 : sx_R σ (b + 0) 0 = (some (b + 1))) (hR_1_1 : sx_R σ (b + 1) 1 = (some (b + 13))) : vx_Met l yX8_check (.code yX8_check cX8_check 13 (some .int) :: lw_g) { frames := 7, cells := 1, slots := 6, locals := 136 } (va_Pc [.ref (b + 0), .int 1, .int w1, .int w2, .int w3, .int w4] (zx_w g σ)) (va_Qi (S := sx_T) (fun _ _ => False) (zx_w g) (gx_Q g)) (vx_X (fun u : sx_T => ∃ z, u = wx_Z σ z) (fun E u t => E = "java/lang/IllegalArgumentException" ∧ zx_h g u t.heap) (gx_Q g)) 1 6 (gx_Q g) := by
  refine z_metX (by decide) (Nat.le_of_ble_eq_true rfl) (fun p e s m below meth c B hr hin hout => ?_)
  refine z_eqs (σ' := (ap b σ [] [] [])) rfl ?_
  show zx p l e _ s m _ below meth c g 13 0 0 _ _ 0 [(0, .ref (b + 0)), (1, .int 1), (2, .int w1), (3, .int w2), (4, .int w3), (5, .int w4)] []
  refine z_aload_n B dX8_check_0 rfl 0 rfl ?_
  refine z_iload_n B dX8_check_1 rfl 1 rfl ?_
  refine z_cVq (As := [.int 1]) (rest := []) B cw_X8_64 cx_9 dX8_check_2 (ci_X8_programAt_122 l (σ := (ap b σ [] [] [])) (b := b) (lyA hK) (rR_at 0 0 hR_0_0) (rR_at 1 1 hR_1_1)) (lKA (hk_K hK 0 rfl rfl)) rfl (by decide) rfl (Nat.le_of_ble_eq_true rfl) (by decide) (fun r u hu => ?_)
  refine z_eqs (σ' := (ap b σ [] [] [])) hu.2 ?_
  show zx p l e _ s m _ below meth c g 13 0 0 _ _ 5 [(0, .ref (b + 0)), (1, .int 1), (2, .int w1), (3, .int w2), (4, .int w3), (5, .int w4)] _
  refine z_setr (y := (some (b + 13))) hu.1 ?_
  refine z_astore (lv' := [(6, .ref (b + 13)), (0, .ref (b + 0)), (1, .int 1), (2, .int w1), (3, .int w2), (4, .int w3), (5, .int w4)]) B dX8_check_5 (by decide) rfl ?_
  refine z_aload B dX8_check_7 0 rfl ?_
  refine z_ifnull (r := (some (b + 13))) (tgt := 21) B dX8_check_9 (by decide) (fun h => nomatch h) (fun _ _ => ?_)
  refine z_iload_n B dX8_check_12 rfl 3 rfl ?_
  refine z_bipush (v := 20) B dX8_check_13 (by decide) ?_
  refine z_cSi (As := [.int w1, .int 20]) (rest := []) B cw_X8_68 dX8_check_15 (ci_X8_isBelow_64 l (σ := (ap b σ [] [] [])) (b := b) (lyA hK) w1 q1_w1 q2_w1) rfl (by decide) rfl (Nat.le_of_ble_eq_true rfl) (by decide) (fun r u hu => ?_)
  refine z_eqs (σ' := (ap b σ [] [] [])) hu.2 ?_
  show zx p l e _ s m _ below meth c g 13 0 0 _ _ 18 [(6, .ref (b + 13)), (0, .ref (b + 0)), (1, .int 1), (2, .int w1), (3, .int w2), (4, .int w3), (5, .int w4)] _
  refine z_seti (y := 1) hu.1 ?_
  refine z_if_ne (tgt := 31) B dX8_check_18 (by decide) (fun _ => ?_) (fun h => absurd h (by decide))
  refine z_iload_n B dX8_check_31 rfl 4 rfl ?_
  refine z_iload B dX8_check_32 5 rfl ?_
  refine z_iload B dX8_check_34 6 rfl ?_
  refine z_cSi (As := [.int w2, .int w3, .int w4]) (rest := []) B cw_X8_79 dX8_check_36 (ci_X8_isStep_101 l (σ := (ap b σ [] [] [])) (b := b) (lyA hK) w2 w3 w4 q1_w2 q2_w2 q1_w3 q2_w3) rfl (by decide) rfl (Nat.le_of_ble_eq_true rfl) (by decide) (fun r u hu => ?_)
  refine z_eqs (σ' := (ap b σ [] [] [])) hu.2 ?_
  show zx p l e _ s m _ below meth c g 13 0 0 _ _ 39 [(6, .ref (b + 13)), (0, .ref (b + 0)), (1, .int 1), (2, .int w1), (3, .int w2), (4, .int w3), (5, .int w4)] _
  refine z_seti (y := 0) hu.1 ?_
  refine z_if_ne (tgt := 52) B dX8_check_39 (by decide) (fun h => absurd (by decide) h) (fun _ => ?_)
  exact z_throw B hlt hout (cls := "java/lang/IllegalArgumentException") (text := "no such operation") tw_X8_83_85_87 dX8_check_42 dX8_check_45 dX8_check_46 dX8_check_48 dX8_check_51 (by decide) (by decide) (by decide) (by decide) (by decide) (by decide) (fun z => ⟨z, rfl⟩)
set_option maxRecDepth 100000 in
set_option maxHeartbeats 4000000 in
theorem ci_L_check_458 (l : Launch) (hlt : l.stackTraces = false) {g : gx_T} {σ : sx_T} {b : Nat} (hK : lay b σ) (w1 : Int32) (w2 : Int32) (w3 : Int32) (w4 : Int32) (q1_w1 : (0 : Int) ≤ w1.toInt) (q2_w1 : w1.toInt ≤ (19 : Int)) (q1_w2 : (0 : Int) ≤ w2.toInt) (q2_w2 : w2.toInt ≤ (17 : Int)) (q1_w3 : (100 : Int) ≤ w3.toInt) (q2_w3 : w3.toInt ≤ (2147483647 : Int)) (hR_0_0 : sx_R σ (b + 0) 0 = (some (b + 1))) (hR_1_1 : sx_R σ (b + 1) 1 = (some (b + 13))) : Met l yL_check (.codeWith yL_check cL_check 8 (some .int) [(0, 16, 19, 13), (0, 16, 23, 15)] :: lw_g) { frames := 8, cells := 1, slots := 6, locals := 168 } (va_Pc [.ref (b + 0), .int 1, .int w1, .int w2, .int w3, .int w4, .ref (b + 431)] (zx_w g σ)) (va_Qi (fun r u => r = 2 ∧ ∃ z, u = (ap b (wx_Z σ z) [] [] [])) (zx_w g) (gx_Q g)) 1 6 (gx_Q g) := by
  refine z_metW (by decide) (Nat.le_of_ble_eq_true rfl) (fun p e s m below meth c B hr htab => ?_)
  refine z_eqs (σ' := (ap b σ [] [] [])) rfl ?_
  show zx p l e _ s m _ below meth c g 8 0 0 _ _ 0 [(0, .ref (b + 0)), (1, .int 1), (2, .int w1), (3, .int w2), (4, .int w3), (5, .int w4), (6, .ref (b + 431))] []
  refine z_aload B dL_check_0 6 rfl ?_
  refine z_iconst (v := 0) B dL_check_2 (by decide) ?_
  refine z_aload_n B dL_check_3 rfl 0 rfl ?_
  refine z_iload_n B dL_check_4 rfl 1 rfl ?_
  refine z_iload_n B dL_check_5 rfl 2 rfl ?_
  refine z_iload_n B dL_check_6 rfl 3 rfl ?_
  refine z_iload B dL_check_7 4 rfl ?_
  refine z_iload B dL_check_9 5 rfl ?_
  refine z_cXi (As := [.int 1, .int w1, .int w2, .int w3, .int w4]) (rest := [.int 0, .ref (b + 431)]) B htab tc_check_11_IllegalArgumentException cw_L_17 cx_9 dL_check_11 (ci_X8_check_457 l hlt (σ := (ap b σ [] [] [])) (b := b) (lyA hK) w1 w2 w3 w4 q1_w1 q2_w1 q1_w2 q2_w2 q1_w3 q2_w3 (rR_at 0 0 hR_0_0) (rR_at 1 1 hR_1_1)) (lKA (hk_K hK 0 rfl rfl)) rfl (by decide) rfl (Nat.le_of_ble_eq_true rfl) (by decide) (fun z q => ?_)
  refine z_eqs (σ' := (ap b (wx_Z σ z) [] [] [])) rfl ?_
  show zx p l e _ s m _ below meth c g 8 _ _ _ _ 23 [(0, .ref (b + 0)), (1, .int 1), (2, .int w1), (3, .int w2), (4, .int w3), (5, .int w4), (6, .ref (b + 431))] _
  refine z_astore (lv' := [(7, .ref q), (0, .ref (b + 0)), (1, .int 1), (2, .int w1), (3, .int w2), (4, .int w3), (5, .int w4), (6, .ref (b + 431))]) B dL_check_23 (by decide) rfl ?_
  refine z_iconst (v := 2) B dL_check_25 (by decide) ?_
  exact z_iret B hr (by decide) (by decide) dL_check_26 ⟨rfl, _, rfl⟩
set_option maxRecDepth 100000 in
set_option maxHeartbeats 4000000 in
theorem ci_X9_check_459 (l : Launch) {g : gx_T} {σ : sx_T} {b : Nat} (hK : lay b σ) (w1 : Int32) (w2 : Int32) (w3 : Int32) (w4 : Int32) (q1_w1 : (0 : Int) ≤ w1.toInt) (q2_w1 : w1.toInt ≤ (19 : Int)) (q1_w2 : (0 : Int) ≤ w2.toInt) (q2_w2 : w2.toInt ≤ (17 : Int)) (q1_w3 : (100 : Int) ≤ w3.toInt) (q2_w3 : w3.toInt ≤ (2147483647 : Int))  : Met l yX9_check (.code yX9_check cX9_check 11 (some .int) :: lw_g) { frames := 2, cells := 0, slots := 0, locals := 44 } (va_Pc [.ref (b + 405), .int 1, .int w1, .int w2, .int w3, .int w4] (zx_w g σ)) (va_Qi (fun r u => r = 0 ∧ u = (ap b σ [(405, 0, 2)] [] [])) (zx_w g) (gx_Q g)) 0 0 (gx_Q g) := by
  refine z_met (by decide) (Nat.le_of_ble_eq_true rfl) (fun p e s m below meth c B hr hin => ?_)
  refine z_eqs (σ' := (ap b σ [] [] [])) rfl ?_
  show zx p l e _ s m _ below meth c g 11 0 0 _ _ 0 [(0, .ref (b + 405)), (1, .int 1), (2, .int w1), (3, .int w2), (4, .int w3), (5, .int w4)] []
  refine z_aload_n B dX9_check_0 rfl 0 rfl ?_
  refine z_iload_n B dX9_check_1 rfl 1 rfl ?_
  refine z_iload_n B dX9_check_2 rfl 2 rfl ?_
  refine z_cSi (As := [.int 1, .int w1]) (rest := [.ref (b + 405)]) B cw_X9_238 dX9_check_3 (ci_X9_isStep_136 l (σ := (ap b σ [] [] [])) (b := b) (lyA hK) w1 q1_w1 q2_w1) rfl (by decide) rfl (Nat.le_of_ble_eq_true rfl) (by decide) (fun r u hu => ?_)
  refine z_eqs (σ' := (ap b σ [] [] [])) hu.2 ?_
  show zx p l e _ s m _ below meth c g 11 0 0 _ _ 6 [(0, .ref (b + 405)), (1, .int 1), (2, .int w1), (3, .int w2), (4, .int w3), (5, .int w4)] _
  refine z_seti (y := 1) hu.1 ?_
  refine z_iload_n B dX9_check_6 rfl 3 rfl ?_
  refine z_iload B dX9_check_7 4 rfl ?_
  refine z_iload B dX9_check_9 5 rfl ?_
  refine z_cSi (As := [.int w2, .int w3, .int w4]) (rest := [.int 1, .ref (b + 405)]) B cw_X9_242 dX9_check_11 (ci_X9_isOperation_45 l (σ := (ap b σ [] [] [])) (b := b) (lyA hK) w2 w3 w4 q1_w2 q2_w2 q1_w3 q2_w3) rfl (by decide) rfl (Nat.le_of_ble_eq_true rfl) (by decide) (fun r u hu => ?_)
  refine z_eqs (σ' := (ap b σ [] [] [])) hu.2 ?_
  show zx p l e _ s m _ below meth c g 11 0 0 _ _ 14 [(0, .ref (b + 405)), (1, .int 1), (2, .int w1), (3, .int w2), (4, .int w3), (5, .int w4)] _
  refine z_seti (y := 0) hu.1 ?_
  refine z_cVi (As := [.int 1, .int 0]) (rest := []) B cw_X9_245 cx_10 dX9_check_14 (ci_X9_needs__71 l (σ := (ap b σ [] [] [])) (b := b) (lyA hK) ) (lKA (hk_K hK 405 rfl rfl)) rfl (by decide) rfl (Nat.le_of_ble_eq_true rfl) (by decide) (fun r u hu => ?_)
  refine z_eqs (σ' := (ap b σ [(405, 0, 2)] [] [])) (hu.2.trans ap_ap) ?_
  show zx p l e _ s m _ below meth c g 11 0 0 _ _ 17 [(0, .ref (b + 405)), (1, .int 1), (2, .int w1), (3, .int w2), (4, .int w3), (5, .int w4)] _
  refine z_seti (y := 0) hu.1 ?_
  refine z_if_ne (tgt := 22) B dX9_check_17 (by decide) (fun h => absurd (by decide) h) (fun _ => ?_)
  refine z_iconst (v := 0) B dX9_check_20 (by decide) ?_
  exact z_iret B hr (by decide) (by decide) dX9_check_21 ⟨rfl, rfl⟩
set_option maxRecDepth 100000 in
set_option maxHeartbeats 4000000 in
theorem ci_X8_check_460 (l : Launch) (hlt : l.stackTraces = false) {g : gx_T} {σ : sx_T} {b : Nat} (hK : lay b σ) (w1 : Int32) (w2 : Int32) (w3 : Int32) (w4 : Int32) (q1_w1 : (0 : Int) ≤ w1.toInt) (q2_w1 : w1.toInt ≤ (19 : Int)) (q1_w2 : (18 : Int) ≤ w2.toInt) (q2_w2 : w2.toInt ≤ (2147483647 : Int)) (hR_0_0 : sx_R σ (b + 0) 0 = (some (b + 1))) (hR_1_1 : sx_R σ (b + 1) 1 = (some (b + 13))) : vx_Met l yX8_check (.code yX8_check cX8_check 13 (some .int) :: lw_g) { frames := 7, cells := 1, slots := 6, locals := 136 } (va_Pc [.ref (b + 0), .int 1, .int w1, .int w2, .int w3, .int w4] (zx_w g σ)) (va_Qi (S := sx_T) (fun _ _ => False) (zx_w g) (gx_Q g)) (vx_X (fun u : sx_T => ∃ z, u = wx_Z σ z) (fun E u t => E = "java/lang/IllegalArgumentException" ∧ zx_h g u t.heap) (gx_Q g)) 1 6 (gx_Q g) := by
  refine z_metX (by decide) (Nat.le_of_ble_eq_true rfl) (fun p e s m below meth c B hr hin hout => ?_)
  refine z_eqs (σ' := (ap b σ [] [] [])) rfl ?_
  show zx p l e _ s m _ below meth c g 13 0 0 _ _ 0 [(0, .ref (b + 0)), (1, .int 1), (2, .int w1), (3, .int w2), (4, .int w3), (5, .int w4)] []
  refine z_aload_n B dX8_check_0 rfl 0 rfl ?_
  refine z_iload_n B dX8_check_1 rfl 1 rfl ?_
  refine z_cVq (As := [.int 1]) (rest := []) B cw_X8_64 cx_9 dX8_check_2 (ci_X8_programAt_122 l (σ := (ap b σ [] [] [])) (b := b) (lyA hK) (rR_at 0 0 hR_0_0) (rR_at 1 1 hR_1_1)) (lKA (hk_K hK 0 rfl rfl)) rfl (by decide) rfl (Nat.le_of_ble_eq_true rfl) (by decide) (fun r u hu => ?_)
  refine z_eqs (σ' := (ap b σ [] [] [])) hu.2 ?_
  show zx p l e _ s m _ below meth c g 13 0 0 _ _ 5 [(0, .ref (b + 0)), (1, .int 1), (2, .int w1), (3, .int w2), (4, .int w3), (5, .int w4)] _
  refine z_setr (y := (some (b + 13))) hu.1 ?_
  refine z_astore (lv' := [(6, .ref (b + 13)), (0, .ref (b + 0)), (1, .int 1), (2, .int w1), (3, .int w2), (4, .int w3), (5, .int w4)]) B dX8_check_5 (by decide) rfl ?_
  refine z_aload B dX8_check_7 0 rfl ?_
  refine z_ifnull (r := (some (b + 13))) (tgt := 21) B dX8_check_9 (by decide) (fun h => nomatch h) (fun _ _ => ?_)
  refine z_iload_n B dX8_check_12 rfl 3 rfl ?_
  refine z_bipush (v := 20) B dX8_check_13 (by decide) ?_
  refine z_cSi (As := [.int w1, .int 20]) (rest := []) B cw_X8_68 dX8_check_15 (ci_X8_isBelow_64 l (σ := (ap b σ [] [] [])) (b := b) (lyA hK) w1 q1_w1 q2_w1) rfl (by decide) rfl (Nat.le_of_ble_eq_true rfl) (by decide) (fun r u hu => ?_)
  refine z_eqs (σ' := (ap b σ [] [] [])) hu.2 ?_
  show zx p l e _ s m _ below meth c g 13 0 0 _ _ 18 [(6, .ref (b + 13)), (0, .ref (b + 0)), (1, .int 1), (2, .int w1), (3, .int w2), (4, .int w3), (5, .int w4)] _
  refine z_seti (y := 1) hu.1 ?_
  refine z_if_ne (tgt := 31) B dX8_check_18 (by decide) (fun _ => ?_) (fun h => absurd h (by decide))
  refine z_iload_n B dX8_check_31 rfl 4 rfl ?_
  refine z_iload B dX8_check_32 5 rfl ?_
  refine z_iload B dX8_check_34 6 rfl ?_
  refine z_cSi (As := [.int w2, .int w3, .int w4]) (rest := []) B cw_X8_79 dX8_check_36 (ci_X8_isStep_106 l (σ := (ap b σ [] [] [])) (b := b) (lyA hK) w2 w3 w4 q1_w2 q2_w2) rfl (by decide) rfl (Nat.le_of_ble_eq_true rfl) (by decide) (fun r u hu => ?_)
  refine z_eqs (σ' := (ap b σ [] [] [])) hu.2 ?_
  show zx p l e _ s m _ below meth c g 13 0 0 _ _ 39 [(6, .ref (b + 13)), (0, .ref (b + 0)), (1, .int 1), (2, .int w1), (3, .int w2), (4, .int w3), (5, .int w4)] _
  refine z_seti (y := 0) hu.1 ?_
  refine z_if_ne (tgt := 52) B dX8_check_39 (by decide) (fun h => absurd (by decide) h) (fun _ => ?_)
  exact z_throw B hlt hout (cls := "java/lang/IllegalArgumentException") (text := "no such operation") tw_X8_83_85_87 dX8_check_42 dX8_check_45 dX8_check_46 dX8_check_48 dX8_check_51 (by decide) (by decide) (by decide) (by decide) (by decide) (by decide) (fun z => ⟨z, rfl⟩)
set_option maxRecDepth 100000 in
set_option maxHeartbeats 4000000 in
theorem ci_L_check_461 (l : Launch) (hlt : l.stackTraces = false) {g : gx_T} {σ : sx_T} {b : Nat} (hK : lay b σ) (w1 : Int32) (w2 : Int32) (w3 : Int32) (w4 : Int32) (q1_w1 : (0 : Int) ≤ w1.toInt) (q2_w1 : w1.toInt ≤ (19 : Int)) (q1_w2 : (18 : Int) ≤ w2.toInt) (q2_w2 : w2.toInt ≤ (2147483647 : Int)) (hR_0_0 : sx_R σ (b + 0) 0 = (some (b + 1))) (hR_1_1 : sx_R σ (b + 1) 1 = (some (b + 13))) : Met l yL_check (.codeWith yL_check cL_check 8 (some .int) [(0, 16, 19, 13), (0, 16, 23, 15)] :: lw_g) { frames := 8, cells := 1, slots := 6, locals := 168 } (va_Pc [.ref (b + 0), .int 1, .int w1, .int w2, .int w3, .int w4, .ref (b + 431)] (zx_w g σ)) (va_Qi (fun r u => r = 2 ∧ ∃ z, u = (ap b (wx_Z σ z) [] [] [])) (zx_w g) (gx_Q g)) 1 6 (gx_Q g) := by
  refine z_metW (by decide) (Nat.le_of_ble_eq_true rfl) (fun p e s m below meth c B hr htab => ?_)
  refine z_eqs (σ' := (ap b σ [] [] [])) rfl ?_
  show zx p l e _ s m _ below meth c g 8 0 0 _ _ 0 [(0, .ref (b + 0)), (1, .int 1), (2, .int w1), (3, .int w2), (4, .int w3), (5, .int w4), (6, .ref (b + 431))] []
  refine z_aload B dL_check_0 6 rfl ?_
  refine z_iconst (v := 0) B dL_check_2 (by decide) ?_
  refine z_aload_n B dL_check_3 rfl 0 rfl ?_
  refine z_iload_n B dL_check_4 rfl 1 rfl ?_
  refine z_iload_n B dL_check_5 rfl 2 rfl ?_
  refine z_iload_n B dL_check_6 rfl 3 rfl ?_
  refine z_iload B dL_check_7 4 rfl ?_
  refine z_iload B dL_check_9 5 rfl ?_
  refine z_cXi (As := [.int 1, .int w1, .int w2, .int w3, .int w4]) (rest := [.int 0, .ref (b + 431)]) B htab tc_check_11_IllegalArgumentException cw_L_17 cx_9 dL_check_11 (ci_X8_check_460 l hlt (σ := (ap b σ [] [] [])) (b := b) (lyA hK) w1 w2 w3 w4 q1_w1 q2_w1 q1_w2 q2_w2 (rR_at 0 0 hR_0_0) (rR_at 1 1 hR_1_1)) (lKA (hk_K hK 0 rfl rfl)) rfl (by decide) rfl (Nat.le_of_ble_eq_true rfl) (by decide) (fun z q => ?_)
  refine z_eqs (σ' := (ap b (wx_Z σ z) [] [] [])) rfl ?_
  show zx p l e _ s m _ below meth c g 8 _ _ _ _ 23 [(0, .ref (b + 0)), (1, .int 1), (2, .int w1), (3, .int w2), (4, .int w3), (5, .int w4), (6, .ref (b + 431))] _
  refine z_astore (lv' := [(7, .ref q), (0, .ref (b + 0)), (1, .int 1), (2, .int w1), (3, .int w2), (4, .int w3), (5, .int w4), (6, .ref (b + 431))]) B dL_check_23 (by decide) rfl ?_
  refine z_iconst (v := 2) B dL_check_25 (by decide) ?_
  exact z_iret B hr (by decide) (by decide) dL_check_26 ⟨rfl, _, rfl⟩
set_option maxRecDepth 100000 in
set_option maxHeartbeats 4000000 in
theorem ci_X9_check_462 (l : Launch) {g : gx_T} {σ : sx_T} {b : Nat} (hK : lay b σ) (w1 : Int32) (w2 : Int32) (w3 : Int32) (w4 : Int32) (q1_w1 : (0 : Int) ≤ w1.toInt) (q2_w1 : w1.toInt ≤ (19 : Int)) (q1_w2 : (18 : Int) ≤ w2.toInt) (q2_w2 : w2.toInt ≤ (2147483647 : Int))  : Met l yX9_check (.code yX9_check cX9_check 11 (some .int) :: lw_g) { frames := 2, cells := 0, slots := 0, locals := 44 } (va_Pc [.ref (b + 405), .int 1, .int w1, .int w2, .int w3, .int w4] (zx_w g σ)) (va_Qi (fun r u => r = 0 ∧ u = (ap b σ [(405, 0, 2)] [] [])) (zx_w g) (gx_Q g)) 0 0 (gx_Q g) := by
  refine z_met (by decide) (Nat.le_of_ble_eq_true rfl) (fun p e s m below meth c B hr hin => ?_)
  refine z_eqs (σ' := (ap b σ [] [] [])) rfl ?_
  show zx p l e _ s m _ below meth c g 11 0 0 _ _ 0 [(0, .ref (b + 405)), (1, .int 1), (2, .int w1), (3, .int w2), (4, .int w3), (5, .int w4)] []
  refine z_aload_n B dX9_check_0 rfl 0 rfl ?_
  refine z_iload_n B dX9_check_1 rfl 1 rfl ?_
  refine z_iload_n B dX9_check_2 rfl 2 rfl ?_
  refine z_cSi (As := [.int 1, .int w1]) (rest := [.ref (b + 405)]) B cw_X9_238 dX9_check_3 (ci_X9_isStep_136 l (σ := (ap b σ [] [] [])) (b := b) (lyA hK) w1 q1_w1 q2_w1) rfl (by decide) rfl (Nat.le_of_ble_eq_true rfl) (by decide) (fun r u hu => ?_)
  refine z_eqs (σ' := (ap b σ [] [] [])) hu.2 ?_
  show zx p l e _ s m _ below meth c g 11 0 0 _ _ 6 [(0, .ref (b + 405)), (1, .int 1), (2, .int w1), (3, .int w2), (4, .int w3), (5, .int w4)] _
  refine z_seti (y := 1) hu.1 ?_
  refine z_iload_n B dX9_check_6 rfl 3 rfl ?_
  refine z_iload B dX9_check_7 4 rfl ?_
  refine z_iload B dX9_check_9 5 rfl ?_
  refine z_cSi (As := [.int w2, .int w3, .int w4]) (rest := [.int 1, .ref (b + 405)]) B cw_X9_242 dX9_check_11 (ci_X9_isOperation_48 l (σ := (ap b σ [] [] [])) (b := b) (lyA hK) w2 w3 w4 q1_w2 q2_w2) rfl (by decide) rfl (Nat.le_of_ble_eq_true rfl) (by decide) (fun r u hu => ?_)
  refine z_eqs (σ' := (ap b σ [] [] [])) hu.2 ?_
  show zx p l e _ s m _ below meth c g 11 0 0 _ _ 14 [(0, .ref (b + 405)), (1, .int 1), (2, .int w1), (3, .int w2), (4, .int w3), (5, .int w4)] _
  refine z_seti (y := 0) hu.1 ?_
  refine z_cVi (As := [.int 1, .int 0]) (rest := []) B cw_X9_245 cx_10 dX9_check_14 (ci_X9_needs__71 l (σ := (ap b σ [] [] [])) (b := b) (lyA hK) ) (lKA (hk_K hK 405 rfl rfl)) rfl (by decide) rfl (Nat.le_of_ble_eq_true rfl) (by decide) (fun r u hu => ?_)
  refine z_eqs (σ' := (ap b σ [(405, 0, 2)] [] [])) (hu.2.trans ap_ap) ?_
  show zx p l e _ s m _ below meth c g 11 0 0 _ _ 17 [(0, .ref (b + 405)), (1, .int 1), (2, .int w1), (3, .int w2), (4, .int w3), (5, .int w4)] _
  refine z_seti (y := 0) hu.1 ?_
  refine z_if_ne (tgt := 22) B dX9_check_17 (by decide) (fun h => absurd (by decide) h) (fun _ => ?_)
  refine z_iconst (v := 0) B dX9_check_20 (by decide) ?_
  exact z_iret B hr (by decide) (by decide) dX9_check_21 ⟨rfl, rfl⟩
set_option maxRecDepth 100000 in
set_option maxHeartbeats 4000000 in
theorem ci_X8_check_463 (l : Launch) (hlt : l.stackTraces = false) {g : gx_T} {σ : sx_T} {b : Nat} (hK : lay b σ) (w1 : Int32) (w2 : Int32) (w3 : Int32) (w4 : Int32) (q1_w1 : (20 : Int) ≤ w1.toInt) (q2_w1 : w1.toInt ≤ (2147483647 : Int)) (hR_0_0 : sx_R σ (b + 0) 0 = (some (b + 1))) (hR_1_1 : sx_R σ (b + 1) 1 = (some (b + 13))) : vx_Met l yX8_check (.code yX8_check cX8_check 13 (some .int) :: lw_g) { frames := 7, cells := 1, slots := 6, locals := 136 } (va_Pc [.ref (b + 0), .int 1, .int w1, .int w2, .int w3, .int w4] (zx_w g σ)) (va_Qi (S := sx_T) (fun _ _ => False) (zx_w g) (gx_Q g)) (vx_X (fun u : sx_T => ∃ z, u = wx_Z σ z) (fun E u t => E = "java/lang/IndexOutOfBoundsException" ∧ zx_h g u t.heap) (gx_Q g)) 1 6 (gx_Q g) := by
  refine z_metX (by decide) (Nat.le_of_ble_eq_true rfl) (fun p e s m below meth c B hr hin hout => ?_)
  refine z_eqs (σ' := (ap b σ [] [] [])) rfl ?_
  show zx p l e _ s m _ below meth c g 13 0 0 _ _ 0 [(0, .ref (b + 0)), (1, .int 1), (2, .int w1), (3, .int w2), (4, .int w3), (5, .int w4)] []
  refine z_aload_n B dX8_check_0 rfl 0 rfl ?_
  refine z_iload_n B dX8_check_1 rfl 1 rfl ?_
  refine z_cVq (As := [.int 1]) (rest := []) B cw_X8_64 cx_9 dX8_check_2 (ci_X8_programAt_122 l (σ := (ap b σ [] [] [])) (b := b) (lyA hK) (rR_at 0 0 hR_0_0) (rR_at 1 1 hR_1_1)) (lKA (hk_K hK 0 rfl rfl)) rfl (by decide) rfl (Nat.le_of_ble_eq_true rfl) (by decide) (fun r u hu => ?_)
  refine z_eqs (σ' := (ap b σ [] [] [])) hu.2 ?_
  show zx p l e _ s m _ below meth c g 13 0 0 _ _ 5 [(0, .ref (b + 0)), (1, .int 1), (2, .int w1), (3, .int w2), (4, .int w3), (5, .int w4)] _
  refine z_setr (y := (some (b + 13))) hu.1 ?_
  refine z_astore (lv' := [(6, .ref (b + 13)), (0, .ref (b + 0)), (1, .int 1), (2, .int w1), (3, .int w2), (4, .int w3), (5, .int w4)]) B dX8_check_5 (by decide) rfl ?_
  refine z_aload B dX8_check_7 0 rfl ?_
  refine z_ifnull (r := (some (b + 13))) (tgt := 21) B dX8_check_9 (by decide) (fun h => nomatch h) (fun _ _ => ?_)
  refine z_iload_n B dX8_check_12 rfl 3 rfl ?_
  refine z_bipush (v := 20) B dX8_check_13 (by decide) ?_
  refine z_cSi (As := [.int w1, .int 20]) (rest := []) B cw_X8_68 dX8_check_15 (ci_X8_isBelow_110 l (σ := (ap b σ [] [] [])) (b := b) (lyA hK) w1 q1_w1 q2_w1) rfl (by decide) rfl (Nat.le_of_ble_eq_true rfl) (by decide) (fun r u hu => ?_)
  refine z_eqs (σ' := (ap b σ [] [] [])) hu.2 ?_
  show zx p l e _ s m _ below meth c g 13 0 0 _ _ 18 [(6, .ref (b + 13)), (0, .ref (b + 0)), (1, .int 1), (2, .int w1), (3, .int w2), (4, .int w3), (5, .int w4)] _
  refine z_seti (y := 0) hu.1 ?_
  refine z_if_ne (tgt := 31) B dX8_check_18 (by decide) (fun h => absurd (by decide) h) (fun _ => ?_)
  exact z_throw B hlt hout (cls := "java/lang/IndexOutOfBoundsException") (text := "no such step") tw_X8_72_74_76 dX8_check_21 dX8_check_24 dX8_check_25 dX8_check_27 dX8_check_30 (by decide) (by decide) (by decide) (by decide) (by decide) (by decide) (fun z => ⟨z, rfl⟩)
set_option maxRecDepth 100000 in
set_option maxHeartbeats 4000000 in
theorem ci_L_check_464 (l : Launch) (hlt : l.stackTraces = false) {g : gx_T} {σ : sx_T} {b : Nat} (hK : lay b σ) (w1 : Int32) (w2 : Int32) (w3 : Int32) (w4 : Int32) (q1_w1 : (20 : Int) ≤ w1.toInt) (q2_w1 : w1.toInt ≤ (2147483647 : Int)) (hR_0_0 : sx_R σ (b + 0) 0 = (some (b + 1))) (hR_1_1 : sx_R σ (b + 1) 1 = (some (b + 13))) : Met l yL_check (.codeWith yL_check cL_check 8 (some .int) [(0, 16, 19, 13), (0, 16, 23, 15)] :: lw_g) { frames := 8, cells := 1, slots := 6, locals := 168 } (va_Pc [.ref (b + 0), .int 1, .int w1, .int w2, .int w3, .int w4, .ref (b + 431)] (zx_w g σ)) (va_Qi (fun r u => r = 1 ∧ ∃ z, u = (ap b (wx_Z σ z) [] [] [])) (zx_w g) (gx_Q g)) 1 6 (gx_Q g) := by
  refine z_metW (by decide) (Nat.le_of_ble_eq_true rfl) (fun p e s m below meth c B hr htab => ?_)
  refine z_eqs (σ' := (ap b σ [] [] [])) rfl ?_
  show zx p l e _ s m _ below meth c g 8 0 0 _ _ 0 [(0, .ref (b + 0)), (1, .int 1), (2, .int w1), (3, .int w2), (4, .int w3), (5, .int w4), (6, .ref (b + 431))] []
  refine z_aload B dL_check_0 6 rfl ?_
  refine z_iconst (v := 0) B dL_check_2 (by decide) ?_
  refine z_aload_n B dL_check_3 rfl 0 rfl ?_
  refine z_iload_n B dL_check_4 rfl 1 rfl ?_
  refine z_iload_n B dL_check_5 rfl 2 rfl ?_
  refine z_iload_n B dL_check_6 rfl 3 rfl ?_
  refine z_iload B dL_check_7 4 rfl ?_
  refine z_iload B dL_check_9 5 rfl ?_
  refine z_cXi (As := [.int 1, .int w1, .int w2, .int w3, .int w4]) (rest := [.int 0, .ref (b + 431)]) B htab tc_check_11_IndexOutOfBoundsException cw_L_17 cx_9 dL_check_11 (ci_X8_check_463 l hlt (σ := (ap b σ [] [] [])) (b := b) (lyA hK) w1 w2 w3 w4 q1_w1 q2_w1 (rR_at 0 0 hR_0_0) (rR_at 1 1 hR_1_1)) (lKA (hk_K hK 0 rfl rfl)) rfl (by decide) rfl (Nat.le_of_ble_eq_true rfl) (by decide) (fun z q => ?_)
  refine z_eqs (σ' := (ap b (wx_Z σ z) [] [] [])) rfl ?_
  show zx p l e _ s m _ below meth c g 8 _ _ _ _ 19 [(0, .ref (b + 0)), (1, .int 1), (2, .int w1), (3, .int w2), (4, .int w3), (5, .int w4), (6, .ref (b + 431))] _
  refine z_astore (lv' := [(7, .ref q), (0, .ref (b + 0)), (1, .int 1), (2, .int w1), (3, .int w2), (4, .int w3), (5, .int w4), (6, .ref (b + 431))]) B dL_check_19 (by decide) rfl ?_
  refine z_iconst (v := 1) B dL_check_21 (by decide) ?_
  exact z_iret B hr (by decide) (by decide) dL_check_22 ⟨rfl, _, rfl⟩
set_option maxRecDepth 100000 in
set_option maxHeartbeats 4000000 in
theorem ci_X9_check_465 (l : Launch) {g : gx_T} {σ : sx_T} {b : Nat} (hK : lay b σ) (w1 : Int32) (w2 : Int32) (w3 : Int32) (w4 : Int32) (q1_w1 : (20 : Int) ≤ w1.toInt) (q2_w1 : w1.toInt ≤ (2147483647 : Int)) (q1_w2 : (-2147483648 : Int) ≤ w2.toInt) (q2_w2 : w2.toInt ≤ (-1 : Int))  : Met l yX9_check (.code yX9_check cX9_check 11 (some .int) :: lw_g) { frames := 2, cells := 0, slots := 0, locals := 44 } (va_Pc [.ref (b + 405), .int 1, .int w1, .int w2, .int w3, .int w4] (zx_w g σ)) (va_Qi (fun r u => r = 0 ∧ u = (ap b σ [(405, 0, 1)] [] [])) (zx_w g) (gx_Q g)) 0 0 (gx_Q g) := by
  refine z_met (by decide) (Nat.le_of_ble_eq_true rfl) (fun p e s m below meth c B hr hin => ?_)
  refine z_eqs (σ' := (ap b σ [] [] [])) rfl ?_
  show zx p l e _ s m _ below meth c g 11 0 0 _ _ 0 [(0, .ref (b + 405)), (1, .int 1), (2, .int w1), (3, .int w2), (4, .int w3), (5, .int w4)] []
  refine z_aload_n B dX9_check_0 rfl 0 rfl ?_
  refine z_iload_n B dX9_check_1 rfl 1 rfl ?_
  refine z_iload_n B dX9_check_2 rfl 2 rfl ?_
  refine z_cSi (As := [.int 1, .int w1]) (rest := [.ref (b + 405)]) B cw_X9_238 dX9_check_3 (ci_X9_isStep_163 l (σ := (ap b σ [] [] [])) (b := b) (lyA hK) w1 q1_w1 q2_w1) rfl (by decide) rfl (Nat.le_of_ble_eq_true rfl) (by decide) (fun r u hu => ?_)
  refine z_eqs (σ' := (ap b σ [] [] [])) hu.2 ?_
  show zx p l e _ s m _ below meth c g 11 0 0 _ _ 6 [(0, .ref (b + 405)), (1, .int 1), (2, .int w1), (3, .int w2), (4, .int w3), (5, .int w4)] _
  refine z_seti (y := 0) hu.1 ?_
  refine z_iload_n B dX9_check_6 rfl 3 rfl ?_
  refine z_iload B dX9_check_7 4 rfl ?_
  refine z_iload B dX9_check_9 5 rfl ?_
  refine z_cSi (As := [.int w2, .int w3, .int w4]) (rest := [.int 0, .ref (b + 405)]) B cw_X9_242 dX9_check_11 (ci_X9_isOperation_28 l (σ := (ap b σ [] [] [])) (b := b) (lyA hK) w2 w3 w4 q1_w2 q2_w2) rfl (by decide) rfl (Nat.le_of_ble_eq_true rfl) (by decide) (fun r u hu => ?_)
  refine z_eqs (σ' := (ap b σ [] [] [])) hu.2 ?_
  show zx p l e _ s m _ below meth c g 11 0 0 _ _ 14 [(0, .ref (b + 405)), (1, .int 1), (2, .int w1), (3, .int w2), (4, .int w3), (5, .int w4)] _
  refine z_seti (y := 0) hu.1 ?_
  refine z_cVi (As := [.int 0, .int 0]) (rest := []) B cw_X9_245 cx_10 dX9_check_14 (ci_X9_needs__29 l (σ := (ap b σ [] [] [])) (b := b) (lyA hK) ) (lKA (hk_K hK 405 rfl rfl)) rfl (by decide) rfl (Nat.le_of_ble_eq_true rfl) (by decide) (fun r u hu => ?_)
  refine z_eqs (σ' := (ap b σ [(405, 0, 1)] [] [])) (hu.2.trans ap_ap) ?_
  show zx p l e _ s m _ below meth c g 11 0 0 _ _ 17 [(0, .ref (b + 405)), (1, .int 1), (2, .int w1), (3, .int w2), (4, .int w3), (5, .int w4)] _
  refine z_seti (y := 0) hu.1 ?_
  refine z_if_ne (tgt := 22) B dX9_check_17 (by decide) (fun h => absurd (by decide) h) (fun _ => ?_)
  refine z_iconst (v := 0) B dX9_check_20 (by decide) ?_
  exact z_iret B hr (by decide) (by decide) dX9_check_21 ⟨rfl, rfl⟩
set_option maxRecDepth 100000 in
set_option maxHeartbeats 4000000 in
theorem ci_X9_check_466 (l : Launch) {g : gx_T} {σ : sx_T} {b : Nat} (hK : lay b σ) (w1 : Int32) (w2 : Int32) (w3 : Int32) (w4 : Int32) (q1_w1 : (20 : Int) ≤ w1.toInt) (q2_w1 : w1.toInt ≤ (2147483647 : Int)) (q1_w2 : (0 : Int) ≤ w2.toInt) (q2_w2 : w2.toInt ≤ (17 : Int)) (q1_w3 : (-2147483648 : Int) ≤ w3.toInt) (q2_w3 : w3.toInt ≤ (-1 : Int))  : Met l yX9_check (.code yX9_check cX9_check 11 (some .int) :: lw_g) { frames := 2, cells := 0, slots := 0, locals := 44 } (va_Pc [.ref (b + 405), .int 1, .int w1, .int w2, .int w3, .int w4] (zx_w g σ)) (va_Qi (fun r u => r = 0 ∧ u = (ap b σ [(405, 0, 1)] [] [])) (zx_w g) (gx_Q g)) 0 0 (gx_Q g) := by
  refine z_met (by decide) (Nat.le_of_ble_eq_true rfl) (fun p e s m below meth c B hr hin => ?_)
  refine z_eqs (σ' := (ap b σ [] [] [])) rfl ?_
  show zx p l e _ s m _ below meth c g 11 0 0 _ _ 0 [(0, .ref (b + 405)), (1, .int 1), (2, .int w1), (3, .int w2), (4, .int w3), (5, .int w4)] []
  refine z_aload_n B dX9_check_0 rfl 0 rfl ?_
  refine z_iload_n B dX9_check_1 rfl 1 rfl ?_
  refine z_iload_n B dX9_check_2 rfl 2 rfl ?_
  refine z_cSi (As := [.int 1, .int w1]) (rest := [.ref (b + 405)]) B cw_X9_238 dX9_check_3 (ci_X9_isStep_163 l (σ := (ap b σ [] [] [])) (b := b) (lyA hK) w1 q1_w1 q2_w1) rfl (by decide) rfl (Nat.le_of_ble_eq_true rfl) (by decide) (fun r u hu => ?_)
  refine z_eqs (σ' := (ap b σ [] [] [])) hu.2 ?_
  show zx p l e _ s m _ below meth c g 11 0 0 _ _ 6 [(0, .ref (b + 405)), (1, .int 1), (2, .int w1), (3, .int w2), (4, .int w3), (5, .int w4)] _
  refine z_seti (y := 0) hu.1 ?_
  refine z_iload_n B dX9_check_6 rfl 3 rfl ?_
  refine z_iload B dX9_check_7 4 rfl ?_
  refine z_iload B dX9_check_9 5 rfl ?_
  refine z_cSi (As := [.int w2, .int w3, .int w4]) (rest := [.int 0, .ref (b + 405)]) B cw_X9_242 dX9_check_11 (ci_X9_isOperation_34 l (σ := (ap b σ [] [] [])) (b := b) (lyA hK) w2 w3 w4 q1_w2 q2_w2 q1_w3 q2_w3) rfl (by decide) rfl (Nat.le_of_ble_eq_true rfl) (by decide) (fun r u hu => ?_)
  refine z_eqs (σ' := (ap b σ [] [] [])) hu.2 ?_
  show zx p l e _ s m _ below meth c g 11 0 0 _ _ 14 [(0, .ref (b + 405)), (1, .int 1), (2, .int w1), (3, .int w2), (4, .int w3), (5, .int w4)] _
  refine z_seti (y := 0) hu.1 ?_
  refine z_cVi (As := [.int 0, .int 0]) (rest := []) B cw_X9_245 cx_10 dX9_check_14 (ci_X9_needs__29 l (σ := (ap b σ [] [] [])) (b := b) (lyA hK) ) (lKA (hk_K hK 405 rfl rfl)) rfl (by decide) rfl (Nat.le_of_ble_eq_true rfl) (by decide) (fun r u hu => ?_)
  refine z_eqs (σ' := (ap b σ [(405, 0, 1)] [] [])) (hu.2.trans ap_ap) ?_
  show zx p l e _ s m _ below meth c g 11 0 0 _ _ 17 [(0, .ref (b + 405)), (1, .int 1), (2, .int w1), (3, .int w2), (4, .int w3), (5, .int w4)] _
  refine z_seti (y := 0) hu.1 ?_
  refine z_if_ne (tgt := 22) B dX9_check_17 (by decide) (fun h => absurd (by decide) h) (fun _ => ?_)
  refine z_iconst (v := 0) B dX9_check_20 (by decide) ?_
  exact z_iret B hr (by decide) (by decide) dX9_check_21 ⟨rfl, rfl⟩
set_option maxRecDepth 100000 in
set_option maxHeartbeats 4000000 in
theorem ci_X9_check_467 (l : Launch) {g : gx_T} {σ : sx_T} {b : Nat} (hK : lay b σ) (w1 : Int32) (w2 : Int32) (w3 : Int32) (w4 : Int32) (q1_w1 : (20 : Int) ≤ w1.toInt) (q2_w1 : w1.toInt ≤ (2147483647 : Int)) (q1_w2 : (0 : Int) ≤ w2.toInt) (q2_w2 : w2.toInt ≤ (17 : Int)) (q1_w3 : (0 : Int) ≤ w3.toInt) (q2_w3 : w3.toInt ≤ (99 : Int)) (q1_w4 : (-2147483648 : Int) ≤ w4.toInt) (q2_w4 : w4.toInt ≤ (-1 : Int))  : Met l yX9_check (.code yX9_check cX9_check 11 (some .int) :: lw_g) { frames := 2, cells := 0, slots := 0, locals := 44 } (va_Pc [.ref (b + 405), .int 1, .int w1, .int w2, .int w3, .int w4] (zx_w g σ)) (va_Qi (fun r u => r = 0 ∧ u = (ap b σ [(405, 0, 1)] [] [])) (zx_w g) (gx_Q g)) 0 0 (gx_Q g) := by
  refine z_met (by decide) (Nat.le_of_ble_eq_true rfl) (fun p e s m below meth c B hr hin => ?_)
  refine z_eqs (σ' := (ap b σ [] [] [])) rfl ?_
  show zx p l e _ s m _ below meth c g 11 0 0 _ _ 0 [(0, .ref (b + 405)), (1, .int 1), (2, .int w1), (3, .int w2), (4, .int w3), (5, .int w4)] []
  refine z_aload_n B dX9_check_0 rfl 0 rfl ?_
  refine z_iload_n B dX9_check_1 rfl 1 rfl ?_
  refine z_iload_n B dX9_check_2 rfl 2 rfl ?_
  refine z_cSi (As := [.int 1, .int w1]) (rest := [.ref (b + 405)]) B cw_X9_238 dX9_check_3 (ci_X9_isStep_163 l (σ := (ap b σ [] [] [])) (b := b) (lyA hK) w1 q1_w1 q2_w1) rfl (by decide) rfl (Nat.le_of_ble_eq_true rfl) (by decide) (fun r u hu => ?_)
  refine z_eqs (σ' := (ap b σ [] [] [])) hu.2 ?_
  show zx p l e _ s m _ below meth c g 11 0 0 _ _ 6 [(0, .ref (b + 405)), (1, .int 1), (2, .int w1), (3, .int w2), (4, .int w3), (5, .int w4)] _
  refine z_seti (y := 0) hu.1 ?_
  refine z_iload_n B dX9_check_6 rfl 3 rfl ?_
  refine z_iload B dX9_check_7 4 rfl ?_
  refine z_iload B dX9_check_9 5 rfl ?_
  refine z_cSi (As := [.int w2, .int w3, .int w4]) (rest := [.int 0, .ref (b + 405)]) B cw_X9_242 dX9_check_11 (ci_X9_isOperation_37 l (σ := (ap b σ [] [] [])) (b := b) (lyA hK) w2 w3 w4 q1_w2 q2_w2 q1_w3 q2_w3 q1_w4 q2_w4) rfl (by decide) rfl (Nat.le_of_ble_eq_true rfl) (by decide) (fun r u hu => ?_)
  refine z_eqs (σ' := (ap b σ [] [] [])) hu.2 ?_
  show zx p l e _ s m _ below meth c g 11 0 0 _ _ 14 [(0, .ref (b + 405)), (1, .int 1), (2, .int w1), (3, .int w2), (4, .int w3), (5, .int w4)] _
  refine z_seti (y := 0) hu.1 ?_
  refine z_cVi (As := [.int 0, .int 0]) (rest := []) B cw_X9_245 cx_10 dX9_check_14 (ci_X9_needs__29 l (σ := (ap b σ [] [] [])) (b := b) (lyA hK) ) (lKA (hk_K hK 405 rfl rfl)) rfl (by decide) rfl (Nat.le_of_ble_eq_true rfl) (by decide) (fun r u hu => ?_)
  refine z_eqs (σ' := (ap b σ [(405, 0, 1)] [] [])) (hu.2.trans ap_ap) ?_
  show zx p l e _ s m _ below meth c g 11 0 0 _ _ 17 [(0, .ref (b + 405)), (1, .int 1), (2, .int w1), (3, .int w2), (4, .int w3), (5, .int w4)] _
  refine z_seti (y := 0) hu.1 ?_
  refine z_if_ne (tgt := 22) B dX9_check_17 (by decide) (fun h => absurd (by decide) h) (fun _ => ?_)
  refine z_iconst (v := 0) B dX9_check_20 (by decide) ?_
  exact z_iret B hr (by decide) (by decide) dX9_check_21 ⟨rfl, rfl⟩
set_option maxRecDepth 100000 in
set_option maxHeartbeats 4000000 in
theorem ci_X9_check_468 (l : Launch) {g : gx_T} {σ : sx_T} {b : Nat} (hK : lay b σ) (w1 : Int32) (w2 : Int32) (w3 : Int32) (w4 : Int32) (q1_w1 : (20 : Int) ≤ w1.toInt) (q2_w1 : w1.toInt ≤ (2147483647 : Int)) (q1_w2 : (0 : Int) ≤ w2.toInt) (q2_w2 : w2.toInt ≤ (17 : Int)) (q1_w3 : (0 : Int) ≤ w3.toInt) (q2_w3 : w3.toInt ≤ (99 : Int)) (q1_w4 : (0 : Int) ≤ w4.toInt) (q2_w4 : w4.toInt ≤ (99 : Int))  : Met l yX9_check (.code yX9_check cX9_check 11 (some .int) :: lw_g) { frames := 2, cells := 0, slots := 0, locals := 44 } (va_Pc [.ref (b + 405), .int 1, .int w1, .int w2, .int w3, .int w4] (zx_w g σ)) (va_Qi (fun r u => r = 0 ∧ u = (ap b σ [(405, 0, 1)] [] [])) (zx_w g) (gx_Q g)) 0 0 (gx_Q g) := by
  refine z_met (by decide) (Nat.le_of_ble_eq_true rfl) (fun p e s m below meth c B hr hin => ?_)
  refine z_eqs (σ' := (ap b σ [] [] [])) rfl ?_
  show zx p l e _ s m _ below meth c g 11 0 0 _ _ 0 [(0, .ref (b + 405)), (1, .int 1), (2, .int w1), (3, .int w2), (4, .int w3), (5, .int w4)] []
  refine z_aload_n B dX9_check_0 rfl 0 rfl ?_
  refine z_iload_n B dX9_check_1 rfl 1 rfl ?_
  refine z_iload_n B dX9_check_2 rfl 2 rfl ?_
  refine z_cSi (As := [.int 1, .int w1]) (rest := [.ref (b + 405)]) B cw_X9_238 dX9_check_3 (ci_X9_isStep_163 l (σ := (ap b σ [] [] [])) (b := b) (lyA hK) w1 q1_w1 q2_w1) rfl (by decide) rfl (Nat.le_of_ble_eq_true rfl) (by decide) (fun r u hu => ?_)
  refine z_eqs (σ' := (ap b σ [] [] [])) hu.2 ?_
  show zx p l e _ s m _ below meth c g 11 0 0 _ _ 6 [(0, .ref (b + 405)), (1, .int 1), (2, .int w1), (3, .int w2), (4, .int w3), (5, .int w4)] _
  refine z_seti (y := 0) hu.1 ?_
  refine z_iload_n B dX9_check_6 rfl 3 rfl ?_
  refine z_iload B dX9_check_7 4 rfl ?_
  refine z_iload B dX9_check_9 5 rfl ?_
  refine z_cSi (As := [.int w2, .int w3, .int w4]) (rest := [.int 0, .ref (b + 405)]) B cw_X9_242 dX9_check_11 (ci_X9_isOperation_39 l (σ := (ap b σ [] [] [])) (b := b) (lyA hK) w2 w3 w4 q1_w2 q2_w2 q1_w3 q2_w3 q1_w4 q2_w4) rfl (by decide) rfl (Nat.le_of_ble_eq_true rfl) (by decide) (fun r u hu => ?_)
  refine z_eqs (σ' := (ap b σ [] [] [])) hu.2 ?_
  show zx p l e _ s m _ below meth c g 11 0 0 _ _ 14 [(0, .ref (b + 405)), (1, .int 1), (2, .int w1), (3, .int w2), (4, .int w3), (5, .int w4)] _
  refine z_seti (y := 1) hu.1 ?_
  refine z_cVi (As := [.int 0, .int 1]) (rest := []) B cw_X9_245 cx_10 dX9_check_14 (ci_X9_needs__40 l (σ := (ap b σ [] [] [])) (b := b) (lyA hK) ) (lKA (hk_K hK 405 rfl rfl)) rfl (by decide) rfl (Nat.le_of_ble_eq_true rfl) (by decide) (fun r u hu => ?_)
  refine z_eqs (σ' := (ap b σ [(405, 0, 1)] [] [])) (hu.2.trans ap_ap) ?_
  show zx p l e _ s m _ below meth c g 11 0 0 _ _ 17 [(0, .ref (b + 405)), (1, .int 1), (2, .int w1), (3, .int w2), (4, .int w3), (5, .int w4)] _
  refine z_seti (y := 0) hu.1 ?_
  refine z_if_ne (tgt := 22) B dX9_check_17 (by decide) (fun h => absurd (by decide) h) (fun _ => ?_)
  refine z_iconst (v := 0) B dX9_check_20 (by decide) ?_
  exact z_iret B hr (by decide) (by decide) dX9_check_21 ⟨rfl, rfl⟩
set_option maxRecDepth 100000 in
set_option maxHeartbeats 4000000 in
theorem ci_X9_check_469 (l : Launch) {g : gx_T} {σ : sx_T} {b : Nat} (hK : lay b σ) (w1 : Int32) (w2 : Int32) (w3 : Int32) (w4 : Int32) (q1_w1 : (20 : Int) ≤ w1.toInt) (q2_w1 : w1.toInt ≤ (2147483647 : Int)) (q1_w2 : (0 : Int) ≤ w2.toInt) (q2_w2 : w2.toInt ≤ (17 : Int)) (q1_w3 : (0 : Int) ≤ w3.toInt) (q2_w3 : w3.toInt ≤ (99 : Int)) (q1_w4 : (100 : Int) ≤ w4.toInt) (q2_w4 : w4.toInt ≤ (2147483647 : Int))  : Met l yX9_check (.code yX9_check cX9_check 11 (some .int) :: lw_g) { frames := 2, cells := 0, slots := 0, locals := 44 } (va_Pc [.ref (b + 405), .int 1, .int w1, .int w2, .int w3, .int w4] (zx_w g σ)) (va_Qi (fun r u => r = 0 ∧ u = (ap b σ [(405, 0, 1)] [] [])) (zx_w g) (gx_Q g)) 0 0 (gx_Q g) := by
  refine z_met (by decide) (Nat.le_of_ble_eq_true rfl) (fun p e s m below meth c B hr hin => ?_)
  refine z_eqs (σ' := (ap b σ [] [] [])) rfl ?_
  show zx p l e _ s m _ below meth c g 11 0 0 _ _ 0 [(0, .ref (b + 405)), (1, .int 1), (2, .int w1), (3, .int w2), (4, .int w3), (5, .int w4)] []
  refine z_aload_n B dX9_check_0 rfl 0 rfl ?_
  refine z_iload_n B dX9_check_1 rfl 1 rfl ?_
  refine z_iload_n B dX9_check_2 rfl 2 rfl ?_
  refine z_cSi (As := [.int 1, .int w1]) (rest := [.ref (b + 405)]) B cw_X9_238 dX9_check_3 (ci_X9_isStep_163 l (σ := (ap b σ [] [] [])) (b := b) (lyA hK) w1 q1_w1 q2_w1) rfl (by decide) rfl (Nat.le_of_ble_eq_true rfl) (by decide) (fun r u hu => ?_)
  refine z_eqs (σ' := (ap b σ [] [] [])) hu.2 ?_
  show zx p l e _ s m _ below meth c g 11 0 0 _ _ 6 [(0, .ref (b + 405)), (1, .int 1), (2, .int w1), (3, .int w2), (4, .int w3), (5, .int w4)] _
  refine z_seti (y := 0) hu.1 ?_
  refine z_iload_n B dX9_check_6 rfl 3 rfl ?_
  refine z_iload B dX9_check_7 4 rfl ?_
  refine z_iload B dX9_check_9 5 rfl ?_
  refine z_cSi (As := [.int w2, .int w3, .int w4]) (rest := [.int 0, .ref (b + 405)]) B cw_X9_242 dX9_check_11 (ci_X9_isOperation_43 l (σ := (ap b σ [] [] [])) (b := b) (lyA hK) w2 w3 w4 q1_w2 q2_w2 q1_w3 q2_w3 q1_w4 q2_w4) rfl (by decide) rfl (Nat.le_of_ble_eq_true rfl) (by decide) (fun r u hu => ?_)
  refine z_eqs (σ' := (ap b σ [] [] [])) hu.2 ?_
  show zx p l e _ s m _ below meth c g 11 0 0 _ _ 14 [(0, .ref (b + 405)), (1, .int 1), (2, .int w1), (3, .int w2), (4, .int w3), (5, .int w4)] _
  refine z_seti (y := 0) hu.1 ?_
  refine z_cVi (As := [.int 0, .int 0]) (rest := []) B cw_X9_245 cx_10 dX9_check_14 (ci_X9_needs__29 l (σ := (ap b σ [] [] [])) (b := b) (lyA hK) ) (lKA (hk_K hK 405 rfl rfl)) rfl (by decide) rfl (Nat.le_of_ble_eq_true rfl) (by decide) (fun r u hu => ?_)
  refine z_eqs (σ' := (ap b σ [(405, 0, 1)] [] [])) (hu.2.trans ap_ap) ?_
  show zx p l e _ s m _ below meth c g 11 0 0 _ _ 17 [(0, .ref (b + 405)), (1, .int 1), (2, .int w1), (3, .int w2), (4, .int w3), (5, .int w4)] _
  refine z_seti (y := 0) hu.1 ?_
  refine z_if_ne (tgt := 22) B dX9_check_17 (by decide) (fun h => absurd (by decide) h) (fun _ => ?_)
  refine z_iconst (v := 0) B dX9_check_20 (by decide) ?_
  exact z_iret B hr (by decide) (by decide) dX9_check_21 ⟨rfl, rfl⟩
set_option maxRecDepth 100000 in
set_option maxHeartbeats 4000000 in
theorem ci_X9_check_470 (l : Launch) {g : gx_T} {σ : sx_T} {b : Nat} (hK : lay b σ) (w1 : Int32) (w2 : Int32) (w3 : Int32) (w4 : Int32) (q1_w1 : (20 : Int) ≤ w1.toInt) (q2_w1 : w1.toInt ≤ (2147483647 : Int)) (q1_w2 : (0 : Int) ≤ w2.toInt) (q2_w2 : w2.toInt ≤ (17 : Int)) (q1_w3 : (100 : Int) ≤ w3.toInt) (q2_w3 : w3.toInt ≤ (2147483647 : Int))  : Met l yX9_check (.code yX9_check cX9_check 11 (some .int) :: lw_g) { frames := 2, cells := 0, slots := 0, locals := 44 } (va_Pc [.ref (b + 405), .int 1, .int w1, .int w2, .int w3, .int w4] (zx_w g σ)) (va_Qi (fun r u => r = 0 ∧ u = (ap b σ [(405, 0, 1)] [] [])) (zx_w g) (gx_Q g)) 0 0 (gx_Q g) := by
  refine z_met (by decide) (Nat.le_of_ble_eq_true rfl) (fun p e s m below meth c B hr hin => ?_)
  refine z_eqs (σ' := (ap b σ [] [] [])) rfl ?_
  show zx p l e _ s m _ below meth c g 11 0 0 _ _ 0 [(0, .ref (b + 405)), (1, .int 1), (2, .int w1), (3, .int w2), (4, .int w3), (5, .int w4)] []
  refine z_aload_n B dX9_check_0 rfl 0 rfl ?_
  refine z_iload_n B dX9_check_1 rfl 1 rfl ?_
  refine z_iload_n B dX9_check_2 rfl 2 rfl ?_
  refine z_cSi (As := [.int 1, .int w1]) (rest := [.ref (b + 405)]) B cw_X9_238 dX9_check_3 (ci_X9_isStep_163 l (σ := (ap b σ [] [] [])) (b := b) (lyA hK) w1 q1_w1 q2_w1) rfl (by decide) rfl (Nat.le_of_ble_eq_true rfl) (by decide) (fun r u hu => ?_)
  refine z_eqs (σ' := (ap b σ [] [] [])) hu.2 ?_
  show zx p l e _ s m _ below meth c g 11 0 0 _ _ 6 [(0, .ref (b + 405)), (1, .int 1), (2, .int w1), (3, .int w2), (4, .int w3), (5, .int w4)] _
  refine z_seti (y := 0) hu.1 ?_
  refine z_iload_n B dX9_check_6 rfl 3 rfl ?_
  refine z_iload B dX9_check_7 4 rfl ?_
  refine z_iload B dX9_check_9 5 rfl ?_
  refine z_cSi (As := [.int w2, .int w3, .int w4]) (rest := [.int 0, .ref (b + 405)]) B cw_X9_242 dX9_check_11 (ci_X9_isOperation_45 l (σ := (ap b σ [] [] [])) (b := b) (lyA hK) w2 w3 w4 q1_w2 q2_w2 q1_w3 q2_w3) rfl (by decide) rfl (Nat.le_of_ble_eq_true rfl) (by decide) (fun r u hu => ?_)
  refine z_eqs (σ' := (ap b σ [] [] [])) hu.2 ?_
  show zx p l e _ s m _ below meth c g 11 0 0 _ _ 14 [(0, .ref (b + 405)), (1, .int 1), (2, .int w1), (3, .int w2), (4, .int w3), (5, .int w4)] _
  refine z_seti (y := 0) hu.1 ?_
  refine z_cVi (As := [.int 0, .int 0]) (rest := []) B cw_X9_245 cx_10 dX9_check_14 (ci_X9_needs__29 l (σ := (ap b σ [] [] [])) (b := b) (lyA hK) ) (lKA (hk_K hK 405 rfl rfl)) rfl (by decide) rfl (Nat.le_of_ble_eq_true rfl) (by decide) (fun r u hu => ?_)
  refine z_eqs (σ' := (ap b σ [(405, 0, 1)] [] [])) (hu.2.trans ap_ap) ?_
  show zx p l e _ s m _ below meth c g 11 0 0 _ _ 17 [(0, .ref (b + 405)), (1, .int 1), (2, .int w1), (3, .int w2), (4, .int w3), (5, .int w4)] _
  refine z_seti (y := 0) hu.1 ?_
  refine z_if_ne (tgt := 22) B dX9_check_17 (by decide) (fun h => absurd (by decide) h) (fun _ => ?_)
  refine z_iconst (v := 0) B dX9_check_20 (by decide) ?_
  exact z_iret B hr (by decide) (by decide) dX9_check_21 ⟨rfl, rfl⟩
set_option maxRecDepth 100000 in
set_option maxHeartbeats 4000000 in
theorem ci_X9_check_471 (l : Launch) {g : gx_T} {σ : sx_T} {b : Nat} (hK : lay b σ) (w1 : Int32) (w2 : Int32) (w3 : Int32) (w4 : Int32) (q1_w1 : (20 : Int) ≤ w1.toInt) (q2_w1 : w1.toInt ≤ (2147483647 : Int)) (q1_w2 : (18 : Int) ≤ w2.toInt) (q2_w2 : w2.toInt ≤ (2147483647 : Int))  : Met l yX9_check (.code yX9_check cX9_check 11 (some .int) :: lw_g) { frames := 2, cells := 0, slots := 0, locals := 44 } (va_Pc [.ref (b + 405), .int 1, .int w1, .int w2, .int w3, .int w4] (zx_w g σ)) (va_Qi (fun r u => r = 0 ∧ u = (ap b σ [(405, 0, 1)] [] [])) (zx_w g) (gx_Q g)) 0 0 (gx_Q g) := by
  refine z_met (by decide) (Nat.le_of_ble_eq_true rfl) (fun p e s m below meth c B hr hin => ?_)
  refine z_eqs (σ' := (ap b σ [] [] [])) rfl ?_
  show zx p l e _ s m _ below meth c g 11 0 0 _ _ 0 [(0, .ref (b + 405)), (1, .int 1), (2, .int w1), (3, .int w2), (4, .int w3), (5, .int w4)] []
  refine z_aload_n B dX9_check_0 rfl 0 rfl ?_
  refine z_iload_n B dX9_check_1 rfl 1 rfl ?_
  refine z_iload_n B dX9_check_2 rfl 2 rfl ?_
  refine z_cSi (As := [.int 1, .int w1]) (rest := [.ref (b + 405)]) B cw_X9_238 dX9_check_3 (ci_X9_isStep_163 l (σ := (ap b σ [] [] [])) (b := b) (lyA hK) w1 q1_w1 q2_w1) rfl (by decide) rfl (Nat.le_of_ble_eq_true rfl) (by decide) (fun r u hu => ?_)
  refine z_eqs (σ' := (ap b σ [] [] [])) hu.2 ?_
  show zx p l e _ s m _ below meth c g 11 0 0 _ _ 6 [(0, .ref (b + 405)), (1, .int 1), (2, .int w1), (3, .int w2), (4, .int w3), (5, .int w4)] _
  refine z_seti (y := 0) hu.1 ?_
  refine z_iload_n B dX9_check_6 rfl 3 rfl ?_
  refine z_iload B dX9_check_7 4 rfl ?_
  refine z_iload B dX9_check_9 5 rfl ?_
  refine z_cSi (As := [.int w2, .int w3, .int w4]) (rest := [.int 0, .ref (b + 405)]) B cw_X9_242 dX9_check_11 (ci_X9_isOperation_48 l (σ := (ap b σ [] [] [])) (b := b) (lyA hK) w2 w3 w4 q1_w2 q2_w2) rfl (by decide) rfl (Nat.le_of_ble_eq_true rfl) (by decide) (fun r u hu => ?_)
  refine z_eqs (σ' := (ap b σ [] [] [])) hu.2 ?_
  show zx p l e _ s m _ below meth c g 11 0 0 _ _ 14 [(0, .ref (b + 405)), (1, .int 1), (2, .int w1), (3, .int w2), (4, .int w3), (5, .int w4)] _
  refine z_seti (y := 0) hu.1 ?_
  refine z_cVi (As := [.int 0, .int 0]) (rest := []) B cw_X9_245 cx_10 dX9_check_14 (ci_X9_needs__29 l (σ := (ap b σ [] [] [])) (b := b) (lyA hK) ) (lKA (hk_K hK 405 rfl rfl)) rfl (by decide) rfl (Nat.le_of_ble_eq_true rfl) (by decide) (fun r u hu => ?_)
  refine z_eqs (σ' := (ap b σ [(405, 0, 1)] [] [])) (hu.2.trans ap_ap) ?_
  show zx p l e _ s m _ below meth c g 11 0 0 _ _ 17 [(0, .ref (b + 405)), (1, .int 1), (2, .int w1), (3, .int w2), (4, .int w3), (5, .int w4)] _
  refine z_seti (y := 0) hu.1 ?_
  refine z_if_ne (tgt := 22) B dX9_check_17 (by decide) (fun h => absurd (by decide) h) (fun _ => ?_)
  refine z_iconst (v := 0) B dX9_check_20 (by decide) ?_
  exact z_iret B hr (by decide) (by decide) dX9_check_21 ⟨rfl, rfl⟩
set_option maxRecDepth 100000 in
set_option maxHeartbeats 4000000 in
theorem ci_X8_check_472 (l : Launch) (hlt : l.stackTraces = false) {g : gx_T} {σ : sx_T} {b : Nat} (hK : lay b σ) (w1 : Int32) (w2 : Int32) (w3 : Int32) (w4 : Int32) (q1_w1 : (-2147483648 : Int) ≤ w1.toInt) (q2_w1 : w1.toInt ≤ (-1 : Int)) (hR_0_0 : sx_R σ (b + 0) 0 = (some (b + 1))) (hR_1_2 : sx_R σ (b + 1) 2 = (some (b + 17))) : vx_Met l yX8_check (.code yX8_check cX8_check 13 (some .int) :: lw_g) { frames := 7, cells := 1, slots := 6, locals := 136 } (va_Pc [.ref (b + 0), .int 2, .int w1, .int w2, .int w3, .int w4] (zx_w g σ)) (va_Qi (S := sx_T) (fun _ _ => False) (zx_w g) (gx_Q g)) (vx_X (fun u : sx_T => ∃ z, u = wx_Z σ z) (fun E u t => E = "java/lang/IndexOutOfBoundsException" ∧ zx_h g u t.heap) (gx_Q g)) 1 6 (gx_Q g) := by
  refine z_metX (by decide) (Nat.le_of_ble_eq_true rfl) (fun p e s m below meth c B hr hin hout => ?_)
  refine z_eqs (σ' := (ap b σ [] [] [])) rfl ?_
  show zx p l e _ s m _ below meth c g 13 0 0 _ _ 0 [(0, .ref (b + 0)), (1, .int 2), (2, .int w1), (3, .int w2), (4, .int w3), (5, .int w4)] []
  refine z_aload_n B dX8_check_0 rfl 0 rfl ?_
  refine z_iload_n B dX8_check_1 rfl 1 rfl ?_
  refine z_cVq (As := [.int 2]) (rest := []) B cw_X8_64 cx_9 dX8_check_2 (ci_X8_programAt_171 l (σ := (ap b σ [] [] [])) (b := b) (lyA hK) (rR_at 0 0 hR_0_0) (rR_at 1 2 hR_1_2)) (lKA (hk_K hK 0 rfl rfl)) rfl (by decide) rfl (Nat.le_of_ble_eq_true rfl) (by decide) (fun r u hu => ?_)
  refine z_eqs (σ' := (ap b σ [] [] [])) hu.2 ?_
  show zx p l e _ s m _ below meth c g 13 0 0 _ _ 5 [(0, .ref (b + 0)), (1, .int 2), (2, .int w1), (3, .int w2), (4, .int w3), (5, .int w4)] _
  refine z_setr (y := (some (b + 17))) hu.1 ?_
  refine z_astore (lv' := [(6, .ref (b + 17)), (0, .ref (b + 0)), (1, .int 2), (2, .int w1), (3, .int w2), (4, .int w3), (5, .int w4)]) B dX8_check_5 (by decide) rfl ?_
  refine z_aload B dX8_check_7 0 rfl ?_
  refine z_ifnull (r := (some (b + 17))) (tgt := 21) B dX8_check_9 (by decide) (fun h => nomatch h) (fun _ _ => ?_)
  refine z_iload_n B dX8_check_12 rfl 3 rfl ?_
  refine z_bipush (v := 20) B dX8_check_13 (by decide) ?_
  refine z_cSi (As := [.int w1, .int 20]) (rest := []) B cw_X8_68 dX8_check_15 (ci_X8_isBelow_51 l (σ := (ap b σ [] [] [])) (b := b) (lyA hK) w1 q1_w1 q2_w1) rfl (by decide) rfl (Nat.le_of_ble_eq_true rfl) (by decide) (fun r u hu => ?_)
  refine z_eqs (σ' := (ap b σ [] [] [])) hu.2 ?_
  show zx p l e _ s m _ below meth c g 13 0 0 _ _ 18 [(6, .ref (b + 17)), (0, .ref (b + 0)), (1, .int 2), (2, .int w1), (3, .int w2), (4, .int w3), (5, .int w4)] _
  refine z_seti (y := 0) hu.1 ?_
  refine z_if_ne (tgt := 31) B dX8_check_18 (by decide) (fun h => absurd (by decide) h) (fun _ => ?_)
  exact z_throw B hlt hout (cls := "java/lang/IndexOutOfBoundsException") (text := "no such step") tw_X8_72_74_76 dX8_check_21 dX8_check_24 dX8_check_25 dX8_check_27 dX8_check_30 (by decide) (by decide) (by decide) (by decide) (by decide) (by decide) (fun z => ⟨z, rfl⟩)
set_option maxRecDepth 100000 in
set_option maxHeartbeats 4000000 in
theorem ci_L_check_473 (l : Launch) (hlt : l.stackTraces = false) {g : gx_T} {σ : sx_T} {b : Nat} (hK : lay b σ) (w1 : Int32) (w2 : Int32) (w3 : Int32) (w4 : Int32) (q1_w1 : (-2147483648 : Int) ≤ w1.toInt) (q2_w1 : w1.toInt ≤ (-1 : Int)) (hR_0_0 : sx_R σ (b + 0) 0 = (some (b + 1))) (hR_1_2 : sx_R σ (b + 1) 2 = (some (b + 17))) : Met l yL_check (.codeWith yL_check cL_check 8 (some .int) [(0, 16, 19, 13), (0, 16, 23, 15)] :: lw_g) { frames := 8, cells := 1, slots := 6, locals := 168 } (va_Pc [.ref (b + 0), .int 2, .int w1, .int w2, .int w3, .int w4, .ref (b + 431)] (zx_w g σ)) (va_Qi (fun r u => r = 1 ∧ ∃ z, u = (ap b (wx_Z σ z) [] [] [])) (zx_w g) (gx_Q g)) 1 6 (gx_Q g) := by
  refine z_metW (by decide) (Nat.le_of_ble_eq_true rfl) (fun p e s m below meth c B hr htab => ?_)
  refine z_eqs (σ' := (ap b σ [] [] [])) rfl ?_
  show zx p l e _ s m _ below meth c g 8 0 0 _ _ 0 [(0, .ref (b + 0)), (1, .int 2), (2, .int w1), (3, .int w2), (4, .int w3), (5, .int w4), (6, .ref (b + 431))] []
  refine z_aload B dL_check_0 6 rfl ?_
  refine z_iconst (v := 0) B dL_check_2 (by decide) ?_
  refine z_aload_n B dL_check_3 rfl 0 rfl ?_
  refine z_iload_n B dL_check_4 rfl 1 rfl ?_
  refine z_iload_n B dL_check_5 rfl 2 rfl ?_
  refine z_iload_n B dL_check_6 rfl 3 rfl ?_
  refine z_iload B dL_check_7 4 rfl ?_
  refine z_iload B dL_check_9 5 rfl ?_
  refine z_cXi (As := [.int 2, .int w1, .int w2, .int w3, .int w4]) (rest := [.int 0, .ref (b + 431)]) B htab tc_check_11_IndexOutOfBoundsException cw_L_17 cx_9 dL_check_11 (ci_X8_check_472 l hlt (σ := (ap b σ [] [] [])) (b := b) (lyA hK) w1 w2 w3 w4 q1_w1 q2_w1 (rR_at 0 0 hR_0_0) (rR_at 1 2 hR_1_2)) (lKA (hk_K hK 0 rfl rfl)) rfl (by decide) rfl (Nat.le_of_ble_eq_true rfl) (by decide) (fun z q => ?_)
  refine z_eqs (σ' := (ap b (wx_Z σ z) [] [] [])) rfl ?_
  show zx p l e _ s m _ below meth c g 8 _ _ _ _ 19 [(0, .ref (b + 0)), (1, .int 2), (2, .int w1), (3, .int w2), (4, .int w3), (5, .int w4), (6, .ref (b + 431))] _
  refine z_astore (lv' := [(7, .ref q), (0, .ref (b + 0)), (1, .int 2), (2, .int w1), (3, .int w2), (4, .int w3), (5, .int w4), (6, .ref (b + 431))]) B dL_check_19 (by decide) rfl ?_
  refine z_iconst (v := 1) B dL_check_21 (by decide) ?_
  exact z_iret B hr (by decide) (by decide) dL_check_22 ⟨rfl, _, rfl⟩
set_option maxRecDepth 100000 in
set_option maxHeartbeats 4000000 in
theorem ci_X9_check_474 (l : Launch) {g : gx_T} {σ : sx_T} {b : Nat} (hK : lay b σ) (w1 : Int32) (w2 : Int32) (w3 : Int32) (w4 : Int32) (q1_w1 : (-2147483648 : Int) ≤ w1.toInt) (q2_w1 : w1.toInt ≤ (-1 : Int)) (q1_w2 : (-2147483648 : Int) ≤ w2.toInt) (q2_w2 : w2.toInt ≤ (-1 : Int))  : Met l yX9_check (.code yX9_check cX9_check 11 (some .int) :: lw_g) { frames := 2, cells := 0, slots := 0, locals := 44 } (va_Pc [.ref (b + 405), .int 2, .int w1, .int w2, .int w3, .int w4] (zx_w g σ)) (va_Qi (fun r u => r = 0 ∧ u = (ap b σ [(405, 0, 1)] [] [])) (zx_w g) (gx_Q g)) 0 0 (gx_Q g) := by
  refine z_met (by decide) (Nat.le_of_ble_eq_true rfl) (fun p e s m below meth c B hr hin => ?_)
  refine z_eqs (σ' := (ap b σ [] [] [])) rfl ?_
  show zx p l e _ s m _ below meth c g 11 0 0 _ _ 0 [(0, .ref (b + 405)), (1, .int 2), (2, .int w1), (3, .int w2), (4, .int w3), (5, .int w4)] []
  refine z_aload_n B dX9_check_0 rfl 0 rfl ?_
  refine z_iload_n B dX9_check_1 rfl 1 rfl ?_
  refine z_iload_n B dX9_check_2 rfl 2 rfl ?_
  refine z_cSi (As := [.int 2, .int w1]) (rest := [.ref (b + 405)]) B cw_X9_238 dX9_check_3 (ci_X9_isStep_175 l (σ := (ap b σ [] [] [])) (b := b) (lyA hK) w1 q1_w1 q2_w1) rfl (by decide) rfl (Nat.le_of_ble_eq_true rfl) (by decide) (fun r u hu => ?_)
  refine z_eqs (σ' := (ap b σ [] [] [])) hu.2 ?_
  show zx p l e _ s m _ below meth c g 11 0 0 _ _ 6 [(0, .ref (b + 405)), (1, .int 2), (2, .int w1), (3, .int w2), (4, .int w3), (5, .int w4)] _
  refine z_seti (y := 0) hu.1 ?_
  refine z_iload_n B dX9_check_6 rfl 3 rfl ?_
  refine z_iload B dX9_check_7 4 rfl ?_
  refine z_iload B dX9_check_9 5 rfl ?_
  refine z_cSi (As := [.int w2, .int w3, .int w4]) (rest := [.int 0, .ref (b + 405)]) B cw_X9_242 dX9_check_11 (ci_X9_isOperation_28 l (σ := (ap b σ [] [] [])) (b := b) (lyA hK) w2 w3 w4 q1_w2 q2_w2) rfl (by decide) rfl (Nat.le_of_ble_eq_true rfl) (by decide) (fun r u hu => ?_)
  refine z_eqs (σ' := (ap b σ [] [] [])) hu.2 ?_
  show zx p l e _ s m _ below meth c g 11 0 0 _ _ 14 [(0, .ref (b + 405)), (1, .int 2), (2, .int w1), (3, .int w2), (4, .int w3), (5, .int w4)] _
  refine z_seti (y := 0) hu.1 ?_
  refine z_cVi (As := [.int 0, .int 0]) (rest := []) B cw_X9_245 cx_10 dX9_check_14 (ci_X9_needs__29 l (σ := (ap b σ [] [] [])) (b := b) (lyA hK) ) (lKA (hk_K hK 405 rfl rfl)) rfl (by decide) rfl (Nat.le_of_ble_eq_true rfl) (by decide) (fun r u hu => ?_)
  refine z_eqs (σ' := (ap b σ [(405, 0, 1)] [] [])) (hu.2.trans ap_ap) ?_
  show zx p l e _ s m _ below meth c g 11 0 0 _ _ 17 [(0, .ref (b + 405)), (1, .int 2), (2, .int w1), (3, .int w2), (4, .int w3), (5, .int w4)] _
  refine z_seti (y := 0) hu.1 ?_
  refine z_if_ne (tgt := 22) B dX9_check_17 (by decide) (fun h => absurd (by decide) h) (fun _ => ?_)
  refine z_iconst (v := 0) B dX9_check_20 (by decide) ?_
  exact z_iret B hr (by decide) (by decide) dX9_check_21 ⟨rfl, rfl⟩
set_option maxRecDepth 100000 in
set_option maxHeartbeats 4000000 in
theorem ci_X9_check_475 (l : Launch) {g : gx_T} {σ : sx_T} {b : Nat} (hK : lay b σ) (w1 : Int32) (w2 : Int32) (w3 : Int32) (w4 : Int32) (q1_w1 : (-2147483648 : Int) ≤ w1.toInt) (q2_w1 : w1.toInt ≤ (-1 : Int)) (q1_w2 : (0 : Int) ≤ w2.toInt) (q2_w2 : w2.toInt ≤ (17 : Int)) (q1_w3 : (-2147483648 : Int) ≤ w3.toInt) (q2_w3 : w3.toInt ≤ (-1 : Int))  : Met l yX9_check (.code yX9_check cX9_check 11 (some .int) :: lw_g) { frames := 2, cells := 0, slots := 0, locals := 44 } (va_Pc [.ref (b + 405), .int 2, .int w1, .int w2, .int w3, .int w4] (zx_w g σ)) (va_Qi (fun r u => r = 0 ∧ u = (ap b σ [(405, 0, 1)] [] [])) (zx_w g) (gx_Q g)) 0 0 (gx_Q g) := by
  refine z_met (by decide) (Nat.le_of_ble_eq_true rfl) (fun p e s m below meth c B hr hin => ?_)
  refine z_eqs (σ' := (ap b σ [] [] [])) rfl ?_
  show zx p l e _ s m _ below meth c g 11 0 0 _ _ 0 [(0, .ref (b + 405)), (1, .int 2), (2, .int w1), (3, .int w2), (4, .int w3), (5, .int w4)] []
  refine z_aload_n B dX9_check_0 rfl 0 rfl ?_
  refine z_iload_n B dX9_check_1 rfl 1 rfl ?_
  refine z_iload_n B dX9_check_2 rfl 2 rfl ?_
  refine z_cSi (As := [.int 2, .int w1]) (rest := [.ref (b + 405)]) B cw_X9_238 dX9_check_3 (ci_X9_isStep_175 l (σ := (ap b σ [] [] [])) (b := b) (lyA hK) w1 q1_w1 q2_w1) rfl (by decide) rfl (Nat.le_of_ble_eq_true rfl) (by decide) (fun r u hu => ?_)
  refine z_eqs (σ' := (ap b σ [] [] [])) hu.2 ?_
  show zx p l e _ s m _ below meth c g 11 0 0 _ _ 6 [(0, .ref (b + 405)), (1, .int 2), (2, .int w1), (3, .int w2), (4, .int w3), (5, .int w4)] _
  refine z_seti (y := 0) hu.1 ?_
  refine z_iload_n B dX9_check_6 rfl 3 rfl ?_
  refine z_iload B dX9_check_7 4 rfl ?_
  refine z_iload B dX9_check_9 5 rfl ?_
  refine z_cSi (As := [.int w2, .int w3, .int w4]) (rest := [.int 0, .ref (b + 405)]) B cw_X9_242 dX9_check_11 (ci_X9_isOperation_34 l (σ := (ap b σ [] [] [])) (b := b) (lyA hK) w2 w3 w4 q1_w2 q2_w2 q1_w3 q2_w3) rfl (by decide) rfl (Nat.le_of_ble_eq_true rfl) (by decide) (fun r u hu => ?_)
  refine z_eqs (σ' := (ap b σ [] [] [])) hu.2 ?_
  show zx p l e _ s m _ below meth c g 11 0 0 _ _ 14 [(0, .ref (b + 405)), (1, .int 2), (2, .int w1), (3, .int w2), (4, .int w3), (5, .int w4)] _
  refine z_seti (y := 0) hu.1 ?_
  refine z_cVi (As := [.int 0, .int 0]) (rest := []) B cw_X9_245 cx_10 dX9_check_14 (ci_X9_needs__29 l (σ := (ap b σ [] [] [])) (b := b) (lyA hK) ) (lKA (hk_K hK 405 rfl rfl)) rfl (by decide) rfl (Nat.le_of_ble_eq_true rfl) (by decide) (fun r u hu => ?_)
  refine z_eqs (σ' := (ap b σ [(405, 0, 1)] [] [])) (hu.2.trans ap_ap) ?_
  show zx p l e _ s m _ below meth c g 11 0 0 _ _ 17 [(0, .ref (b + 405)), (1, .int 2), (2, .int w1), (3, .int w2), (4, .int w3), (5, .int w4)] _
  refine z_seti (y := 0) hu.1 ?_
  refine z_if_ne (tgt := 22) B dX9_check_17 (by decide) (fun h => absurd (by decide) h) (fun _ => ?_)
  refine z_iconst (v := 0) B dX9_check_20 (by decide) ?_
  exact z_iret B hr (by decide) (by decide) dX9_check_21 ⟨rfl, rfl⟩
set_option maxRecDepth 100000 in
set_option maxHeartbeats 4000000 in
theorem ci_X9_check_476 (l : Launch) {g : gx_T} {σ : sx_T} {b : Nat} (hK : lay b σ) (w1 : Int32) (w2 : Int32) (w3 : Int32) (w4 : Int32) (q1_w1 : (-2147483648 : Int) ≤ w1.toInt) (q2_w1 : w1.toInt ≤ (-1 : Int)) (q1_w2 : (0 : Int) ≤ w2.toInt) (q2_w2 : w2.toInt ≤ (17 : Int)) (q1_w3 : (0 : Int) ≤ w3.toInt) (q2_w3 : w3.toInt ≤ (99 : Int)) (q1_w4 : (-2147483648 : Int) ≤ w4.toInt) (q2_w4 : w4.toInt ≤ (-1 : Int))  : Met l yX9_check (.code yX9_check cX9_check 11 (some .int) :: lw_g) { frames := 2, cells := 0, slots := 0, locals := 44 } (va_Pc [.ref (b + 405), .int 2, .int w1, .int w2, .int w3, .int w4] (zx_w g σ)) (va_Qi (fun r u => r = 0 ∧ u = (ap b σ [(405, 0, 1)] [] [])) (zx_w g) (gx_Q g)) 0 0 (gx_Q g) := by
  refine z_met (by decide) (Nat.le_of_ble_eq_true rfl) (fun p e s m below meth c B hr hin => ?_)
  refine z_eqs (σ' := (ap b σ [] [] [])) rfl ?_
  show zx p l e _ s m _ below meth c g 11 0 0 _ _ 0 [(0, .ref (b + 405)), (1, .int 2), (2, .int w1), (3, .int w2), (4, .int w3), (5, .int w4)] []
  refine z_aload_n B dX9_check_0 rfl 0 rfl ?_
  refine z_iload_n B dX9_check_1 rfl 1 rfl ?_
  refine z_iload_n B dX9_check_2 rfl 2 rfl ?_
  refine z_cSi (As := [.int 2, .int w1]) (rest := [.ref (b + 405)]) B cw_X9_238 dX9_check_3 (ci_X9_isStep_175 l (σ := (ap b σ [] [] [])) (b := b) (lyA hK) w1 q1_w1 q2_w1) rfl (by decide) rfl (Nat.le_of_ble_eq_true rfl) (by decide) (fun r u hu => ?_)
  refine z_eqs (σ' := (ap b σ [] [] [])) hu.2 ?_
  show zx p l e _ s m _ below meth c g 11 0 0 _ _ 6 [(0, .ref (b + 405)), (1, .int 2), (2, .int w1), (3, .int w2), (4, .int w3), (5, .int w4)] _
  refine z_seti (y := 0) hu.1 ?_
  refine z_iload_n B dX9_check_6 rfl 3 rfl ?_
  refine z_iload B dX9_check_7 4 rfl ?_
  refine z_iload B dX9_check_9 5 rfl ?_
  refine z_cSi (As := [.int w2, .int w3, .int w4]) (rest := [.int 0, .ref (b + 405)]) B cw_X9_242 dX9_check_11 (ci_X9_isOperation_37 l (σ := (ap b σ [] [] [])) (b := b) (lyA hK) w2 w3 w4 q1_w2 q2_w2 q1_w3 q2_w3 q1_w4 q2_w4) rfl (by decide) rfl (Nat.le_of_ble_eq_true rfl) (by decide) (fun r u hu => ?_)
  refine z_eqs (σ' := (ap b σ [] [] [])) hu.2 ?_
  show zx p l e _ s m _ below meth c g 11 0 0 _ _ 14 [(0, .ref (b + 405)), (1, .int 2), (2, .int w1), (3, .int w2), (4, .int w3), (5, .int w4)] _
  refine z_seti (y := 0) hu.1 ?_
  refine z_cVi (As := [.int 0, .int 0]) (rest := []) B cw_X9_245 cx_10 dX9_check_14 (ci_X9_needs__29 l (σ := (ap b σ [] [] [])) (b := b) (lyA hK) ) (lKA (hk_K hK 405 rfl rfl)) rfl (by decide) rfl (Nat.le_of_ble_eq_true rfl) (by decide) (fun r u hu => ?_)
  refine z_eqs (σ' := (ap b σ [(405, 0, 1)] [] [])) (hu.2.trans ap_ap) ?_
  show zx p l e _ s m _ below meth c g 11 0 0 _ _ 17 [(0, .ref (b + 405)), (1, .int 2), (2, .int w1), (3, .int w2), (4, .int w3), (5, .int w4)] _
  refine z_seti (y := 0) hu.1 ?_
  refine z_if_ne (tgt := 22) B dX9_check_17 (by decide) (fun h => absurd (by decide) h) (fun _ => ?_)
  refine z_iconst (v := 0) B dX9_check_20 (by decide) ?_
  exact z_iret B hr (by decide) (by decide) dX9_check_21 ⟨rfl, rfl⟩
set_option maxRecDepth 100000 in
set_option maxHeartbeats 4000000 in
theorem ci_X9_check_477 (l : Launch) {g : gx_T} {σ : sx_T} {b : Nat} (hK : lay b σ) (w1 : Int32) (w2 : Int32) (w3 : Int32) (w4 : Int32) (q1_w1 : (-2147483648 : Int) ≤ w1.toInt) (q2_w1 : w1.toInt ≤ (-1 : Int)) (q1_w2 : (0 : Int) ≤ w2.toInt) (q2_w2 : w2.toInt ≤ (17 : Int)) (q1_w3 : (0 : Int) ≤ w3.toInt) (q2_w3 : w3.toInt ≤ (99 : Int)) (q1_w4 : (0 : Int) ≤ w4.toInt) (q2_w4 : w4.toInt ≤ (99 : Int))  : Met l yX9_check (.code yX9_check cX9_check 11 (some .int) :: lw_g) { frames := 2, cells := 0, slots := 0, locals := 44 } (va_Pc [.ref (b + 405), .int 2, .int w1, .int w2, .int w3, .int w4] (zx_w g σ)) (va_Qi (fun r u => r = 0 ∧ u = (ap b σ [(405, 0, 1)] [] [])) (zx_w g) (gx_Q g)) 0 0 (gx_Q g) := by
  refine z_met (by decide) (Nat.le_of_ble_eq_true rfl) (fun p e s m below meth c B hr hin => ?_)
  refine z_eqs (σ' := (ap b σ [] [] [])) rfl ?_
  show zx p l e _ s m _ below meth c g 11 0 0 _ _ 0 [(0, .ref (b + 405)), (1, .int 2), (2, .int w1), (3, .int w2), (4, .int w3), (5, .int w4)] []
  refine z_aload_n B dX9_check_0 rfl 0 rfl ?_
  refine z_iload_n B dX9_check_1 rfl 1 rfl ?_
  refine z_iload_n B dX9_check_2 rfl 2 rfl ?_
  refine z_cSi (As := [.int 2, .int w1]) (rest := [.ref (b + 405)]) B cw_X9_238 dX9_check_3 (ci_X9_isStep_175 l (σ := (ap b σ [] [] [])) (b := b) (lyA hK) w1 q1_w1 q2_w1) rfl (by decide) rfl (Nat.le_of_ble_eq_true rfl) (by decide) (fun r u hu => ?_)
  refine z_eqs (σ' := (ap b σ [] [] [])) hu.2 ?_
  show zx p l e _ s m _ below meth c g 11 0 0 _ _ 6 [(0, .ref (b + 405)), (1, .int 2), (2, .int w1), (3, .int w2), (4, .int w3), (5, .int w4)] _
  refine z_seti (y := 0) hu.1 ?_
  refine z_iload_n B dX9_check_6 rfl 3 rfl ?_
  refine z_iload B dX9_check_7 4 rfl ?_
  refine z_iload B dX9_check_9 5 rfl ?_
  refine z_cSi (As := [.int w2, .int w3, .int w4]) (rest := [.int 0, .ref (b + 405)]) B cw_X9_242 dX9_check_11 (ci_X9_isOperation_39 l (σ := (ap b σ [] [] [])) (b := b) (lyA hK) w2 w3 w4 q1_w2 q2_w2 q1_w3 q2_w3 q1_w4 q2_w4) rfl (by decide) rfl (Nat.le_of_ble_eq_true rfl) (by decide) (fun r u hu => ?_)
  refine z_eqs (σ' := (ap b σ [] [] [])) hu.2 ?_
  show zx p l e _ s m _ below meth c g 11 0 0 _ _ 14 [(0, .ref (b + 405)), (1, .int 2), (2, .int w1), (3, .int w2), (4, .int w3), (5, .int w4)] _
  refine z_seti (y := 1) hu.1 ?_
  refine z_cVi (As := [.int 0, .int 1]) (rest := []) B cw_X9_245 cx_10 dX9_check_14 (ci_X9_needs__40 l (σ := (ap b σ [] [] [])) (b := b) (lyA hK) ) (lKA (hk_K hK 405 rfl rfl)) rfl (by decide) rfl (Nat.le_of_ble_eq_true rfl) (by decide) (fun r u hu => ?_)
  refine z_eqs (σ' := (ap b σ [(405, 0, 1)] [] [])) (hu.2.trans ap_ap) ?_
  show zx p l e _ s m _ below meth c g 11 0 0 _ _ 17 [(0, .ref (b + 405)), (1, .int 2), (2, .int w1), (3, .int w2), (4, .int w3), (5, .int w4)] _
  refine z_seti (y := 0) hu.1 ?_
  refine z_if_ne (tgt := 22) B dX9_check_17 (by decide) (fun h => absurd (by decide) h) (fun _ => ?_)
  refine z_iconst (v := 0) B dX9_check_20 (by decide) ?_
  exact z_iret B hr (by decide) (by decide) dX9_check_21 ⟨rfl, rfl⟩
set_option maxRecDepth 100000 in
set_option maxHeartbeats 4000000 in
theorem ci_X9_check_478 (l : Launch) {g : gx_T} {σ : sx_T} {b : Nat} (hK : lay b σ) (w1 : Int32) (w2 : Int32) (w3 : Int32) (w4 : Int32) (q1_w1 : (-2147483648 : Int) ≤ w1.toInt) (q2_w1 : w1.toInt ≤ (-1 : Int)) (q1_w2 : (0 : Int) ≤ w2.toInt) (q2_w2 : w2.toInt ≤ (17 : Int)) (q1_w3 : (0 : Int) ≤ w3.toInt) (q2_w3 : w3.toInt ≤ (99 : Int)) (q1_w4 : (100 : Int) ≤ w4.toInt) (q2_w4 : w4.toInt ≤ (2147483647 : Int))  : Met l yX9_check (.code yX9_check cX9_check 11 (some .int) :: lw_g) { frames := 2, cells := 0, slots := 0, locals := 44 } (va_Pc [.ref (b + 405), .int 2, .int w1, .int w2, .int w3, .int w4] (zx_w g σ)) (va_Qi (fun r u => r = 0 ∧ u = (ap b σ [(405, 0, 1)] [] [])) (zx_w g) (gx_Q g)) 0 0 (gx_Q g) := by
  refine z_met (by decide) (Nat.le_of_ble_eq_true rfl) (fun p e s m below meth c B hr hin => ?_)
  refine z_eqs (σ' := (ap b σ [] [] [])) rfl ?_
  show zx p l e _ s m _ below meth c g 11 0 0 _ _ 0 [(0, .ref (b + 405)), (1, .int 2), (2, .int w1), (3, .int w2), (4, .int w3), (5, .int w4)] []
  refine z_aload_n B dX9_check_0 rfl 0 rfl ?_
  refine z_iload_n B dX9_check_1 rfl 1 rfl ?_
  refine z_iload_n B dX9_check_2 rfl 2 rfl ?_
  refine z_cSi (As := [.int 2, .int w1]) (rest := [.ref (b + 405)]) B cw_X9_238 dX9_check_3 (ci_X9_isStep_175 l (σ := (ap b σ [] [] [])) (b := b) (lyA hK) w1 q1_w1 q2_w1) rfl (by decide) rfl (Nat.le_of_ble_eq_true rfl) (by decide) (fun r u hu => ?_)
  refine z_eqs (σ' := (ap b σ [] [] [])) hu.2 ?_
  show zx p l e _ s m _ below meth c g 11 0 0 _ _ 6 [(0, .ref (b + 405)), (1, .int 2), (2, .int w1), (3, .int w2), (4, .int w3), (5, .int w4)] _
  refine z_seti (y := 0) hu.1 ?_
  refine z_iload_n B dX9_check_6 rfl 3 rfl ?_
  refine z_iload B dX9_check_7 4 rfl ?_
  refine z_iload B dX9_check_9 5 rfl ?_
  refine z_cSi (As := [.int w2, .int w3, .int w4]) (rest := [.int 0, .ref (b + 405)]) B cw_X9_242 dX9_check_11 (ci_X9_isOperation_43 l (σ := (ap b σ [] [] [])) (b := b) (lyA hK) w2 w3 w4 q1_w2 q2_w2 q1_w3 q2_w3 q1_w4 q2_w4) rfl (by decide) rfl (Nat.le_of_ble_eq_true rfl) (by decide) (fun r u hu => ?_)
  refine z_eqs (σ' := (ap b σ [] [] [])) hu.2 ?_
  show zx p l e _ s m _ below meth c g 11 0 0 _ _ 14 [(0, .ref (b + 405)), (1, .int 2), (2, .int w1), (3, .int w2), (4, .int w3), (5, .int w4)] _
  refine z_seti (y := 0) hu.1 ?_
  refine z_cVi (As := [.int 0, .int 0]) (rest := []) B cw_X9_245 cx_10 dX9_check_14 (ci_X9_needs__29 l (σ := (ap b σ [] [] [])) (b := b) (lyA hK) ) (lKA (hk_K hK 405 rfl rfl)) rfl (by decide) rfl (Nat.le_of_ble_eq_true rfl) (by decide) (fun r u hu => ?_)
  refine z_eqs (σ' := (ap b σ [(405, 0, 1)] [] [])) (hu.2.trans ap_ap) ?_
  show zx p l e _ s m _ below meth c g 11 0 0 _ _ 17 [(0, .ref (b + 405)), (1, .int 2), (2, .int w1), (3, .int w2), (4, .int w3), (5, .int w4)] _
  refine z_seti (y := 0) hu.1 ?_
  refine z_if_ne (tgt := 22) B dX9_check_17 (by decide) (fun h => absurd (by decide) h) (fun _ => ?_)
  refine z_iconst (v := 0) B dX9_check_20 (by decide) ?_
  exact z_iret B hr (by decide) (by decide) dX9_check_21 ⟨rfl, rfl⟩
set_option maxRecDepth 100000 in
set_option maxHeartbeats 4000000 in
theorem ci_X9_check_479 (l : Launch) {g : gx_T} {σ : sx_T} {b : Nat} (hK : lay b σ) (w1 : Int32) (w2 : Int32) (w3 : Int32) (w4 : Int32) (q1_w1 : (-2147483648 : Int) ≤ w1.toInt) (q2_w1 : w1.toInt ≤ (-1 : Int)) (q1_w2 : (0 : Int) ≤ w2.toInt) (q2_w2 : w2.toInt ≤ (17 : Int)) (q1_w3 : (100 : Int) ≤ w3.toInt) (q2_w3 : w3.toInt ≤ (2147483647 : Int))  : Met l yX9_check (.code yX9_check cX9_check 11 (some .int) :: lw_g) { frames := 2, cells := 0, slots := 0, locals := 44 } (va_Pc [.ref (b + 405), .int 2, .int w1, .int w2, .int w3, .int w4] (zx_w g σ)) (va_Qi (fun r u => r = 0 ∧ u = (ap b σ [(405, 0, 1)] [] [])) (zx_w g) (gx_Q g)) 0 0 (gx_Q g) := by
  refine z_met (by decide) (Nat.le_of_ble_eq_true rfl) (fun p e s m below meth c B hr hin => ?_)
  refine z_eqs (σ' := (ap b σ [] [] [])) rfl ?_
  show zx p l e _ s m _ below meth c g 11 0 0 _ _ 0 [(0, .ref (b + 405)), (1, .int 2), (2, .int w1), (3, .int w2), (4, .int w3), (5, .int w4)] []
  refine z_aload_n B dX9_check_0 rfl 0 rfl ?_
  refine z_iload_n B dX9_check_1 rfl 1 rfl ?_
  refine z_iload_n B dX9_check_2 rfl 2 rfl ?_
  refine z_cSi (As := [.int 2, .int w1]) (rest := [.ref (b + 405)]) B cw_X9_238 dX9_check_3 (ci_X9_isStep_175 l (σ := (ap b σ [] [] [])) (b := b) (lyA hK) w1 q1_w1 q2_w1) rfl (by decide) rfl (Nat.le_of_ble_eq_true rfl) (by decide) (fun r u hu => ?_)
  refine z_eqs (σ' := (ap b σ [] [] [])) hu.2 ?_
  show zx p l e _ s m _ below meth c g 11 0 0 _ _ 6 [(0, .ref (b + 405)), (1, .int 2), (2, .int w1), (3, .int w2), (4, .int w3), (5, .int w4)] _
  refine z_seti (y := 0) hu.1 ?_
  refine z_iload_n B dX9_check_6 rfl 3 rfl ?_
  refine z_iload B dX9_check_7 4 rfl ?_
  refine z_iload B dX9_check_9 5 rfl ?_
  refine z_cSi (As := [.int w2, .int w3, .int w4]) (rest := [.int 0, .ref (b + 405)]) B cw_X9_242 dX9_check_11 (ci_X9_isOperation_45 l (σ := (ap b σ [] [] [])) (b := b) (lyA hK) w2 w3 w4 q1_w2 q2_w2 q1_w3 q2_w3) rfl (by decide) rfl (Nat.le_of_ble_eq_true rfl) (by decide) (fun r u hu => ?_)
  refine z_eqs (σ' := (ap b σ [] [] [])) hu.2 ?_
  show zx p l e _ s m _ below meth c g 11 0 0 _ _ 14 [(0, .ref (b + 405)), (1, .int 2), (2, .int w1), (3, .int w2), (4, .int w3), (5, .int w4)] _
  refine z_seti (y := 0) hu.1 ?_
  refine z_cVi (As := [.int 0, .int 0]) (rest := []) B cw_X9_245 cx_10 dX9_check_14 (ci_X9_needs__29 l (σ := (ap b σ [] [] [])) (b := b) (lyA hK) ) (lKA (hk_K hK 405 rfl rfl)) rfl (by decide) rfl (Nat.le_of_ble_eq_true rfl) (by decide) (fun r u hu => ?_)
  refine z_eqs (σ' := (ap b σ [(405, 0, 1)] [] [])) (hu.2.trans ap_ap) ?_
  show zx p l e _ s m _ below meth c g 11 0 0 _ _ 17 [(0, .ref (b + 405)), (1, .int 2), (2, .int w1), (3, .int w2), (4, .int w3), (5, .int w4)] _
  refine z_seti (y := 0) hu.1 ?_
  refine z_if_ne (tgt := 22) B dX9_check_17 (by decide) (fun h => absurd (by decide) h) (fun _ => ?_)
  refine z_iconst (v := 0) B dX9_check_20 (by decide) ?_
  exact z_iret B hr (by decide) (by decide) dX9_check_21 ⟨rfl, rfl⟩
set_option maxRecDepth 100000 in
set_option maxHeartbeats 4000000 in
theorem ci_X9_check_480 (l : Launch) {g : gx_T} {σ : sx_T} {b : Nat} (hK : lay b σ) (w1 : Int32) (w2 : Int32) (w3 : Int32) (w4 : Int32) (q1_w1 : (-2147483648 : Int) ≤ w1.toInt) (q2_w1 : w1.toInt ≤ (-1 : Int)) (q1_w2 : (18 : Int) ≤ w2.toInt) (q2_w2 : w2.toInt ≤ (2147483647 : Int))  : Met l yX9_check (.code yX9_check cX9_check 11 (some .int) :: lw_g) { frames := 2, cells := 0, slots := 0, locals := 44 } (va_Pc [.ref (b + 405), .int 2, .int w1, .int w2, .int w3, .int w4] (zx_w g σ)) (va_Qi (fun r u => r = 0 ∧ u = (ap b σ [(405, 0, 1)] [] [])) (zx_w g) (gx_Q g)) 0 0 (gx_Q g) := by
  refine z_met (by decide) (Nat.le_of_ble_eq_true rfl) (fun p e s m below meth c B hr hin => ?_)
  refine z_eqs (σ' := (ap b σ [] [] [])) rfl ?_
  show zx p l e _ s m _ below meth c g 11 0 0 _ _ 0 [(0, .ref (b + 405)), (1, .int 2), (2, .int w1), (3, .int w2), (4, .int w3), (5, .int w4)] []
  refine z_aload_n B dX9_check_0 rfl 0 rfl ?_
  refine z_iload_n B dX9_check_1 rfl 1 rfl ?_
  refine z_iload_n B dX9_check_2 rfl 2 rfl ?_
  refine z_cSi (As := [.int 2, .int w1]) (rest := [.ref (b + 405)]) B cw_X9_238 dX9_check_3 (ci_X9_isStep_175 l (σ := (ap b σ [] [] [])) (b := b) (lyA hK) w1 q1_w1 q2_w1) rfl (by decide) rfl (Nat.le_of_ble_eq_true rfl) (by decide) (fun r u hu => ?_)
  refine z_eqs (σ' := (ap b σ [] [] [])) hu.2 ?_
  show zx p l e _ s m _ below meth c g 11 0 0 _ _ 6 [(0, .ref (b + 405)), (1, .int 2), (2, .int w1), (3, .int w2), (4, .int w3), (5, .int w4)] _
  refine z_seti (y := 0) hu.1 ?_
  refine z_iload_n B dX9_check_6 rfl 3 rfl ?_
  refine z_iload B dX9_check_7 4 rfl ?_
  refine z_iload B dX9_check_9 5 rfl ?_
  refine z_cSi (As := [.int w2, .int w3, .int w4]) (rest := [.int 0, .ref (b + 405)]) B cw_X9_242 dX9_check_11 (ci_X9_isOperation_48 l (σ := (ap b σ [] [] [])) (b := b) (lyA hK) w2 w3 w4 q1_w2 q2_w2) rfl (by decide) rfl (Nat.le_of_ble_eq_true rfl) (by decide) (fun r u hu => ?_)
  refine z_eqs (σ' := (ap b σ [] [] [])) hu.2 ?_
  show zx p l e _ s m _ below meth c g 11 0 0 _ _ 14 [(0, .ref (b + 405)), (1, .int 2), (2, .int w1), (3, .int w2), (4, .int w3), (5, .int w4)] _
  refine z_seti (y := 0) hu.1 ?_
  refine z_cVi (As := [.int 0, .int 0]) (rest := []) B cw_X9_245 cx_10 dX9_check_14 (ci_X9_needs__29 l (σ := (ap b σ [] [] [])) (b := b) (lyA hK) ) (lKA (hk_K hK 405 rfl rfl)) rfl (by decide) rfl (Nat.le_of_ble_eq_true rfl) (by decide) (fun r u hu => ?_)
  refine z_eqs (σ' := (ap b σ [(405, 0, 1)] [] [])) (hu.2.trans ap_ap) ?_
  show zx p l e _ s m _ below meth c g 11 0 0 _ _ 17 [(0, .ref (b + 405)), (1, .int 2), (2, .int w1), (3, .int w2), (4, .int w3), (5, .int w4)] _
  refine z_seti (y := 0) hu.1 ?_
  refine z_if_ne (tgt := 22) B dX9_check_17 (by decide) (fun h => absurd (by decide) h) (fun _ => ?_)
  refine z_iconst (v := 0) B dX9_check_20 (by decide) ?_
  exact z_iret B hr (by decide) (by decide) dX9_check_21 ⟨rfl, rfl⟩
set_option maxRecDepth 100000 in
set_option maxHeartbeats 4000000 in
theorem ci_X8_check_481 (l : Launch) (hlt : l.stackTraces = false) {g : gx_T} {σ : sx_T} {b : Nat} (hK : lay b σ) (w1 : Int32) (w2 : Int32) (w3 : Int32) (w4 : Int32) (q1_w1 : (0 : Int) ≤ w1.toInt) (q2_w1 : w1.toInt ≤ (19 : Int)) (q1_w2 : (-2147483648 : Int) ≤ w2.toInt) (q2_w2 : w2.toInt ≤ (-1 : Int)) (hR_0_0 : sx_R σ (b + 0) 0 = (some (b + 1))) (hR_1_2 : sx_R σ (b + 1) 2 = (some (b + 17))) : vx_Met l yX8_check (.code yX8_check cX8_check 13 (some .int) :: lw_g) { frames := 7, cells := 1, slots := 6, locals := 136 } (va_Pc [.ref (b + 0), .int 2, .int w1, .int w2, .int w3, .int w4] (zx_w g σ)) (va_Qi (S := sx_T) (fun _ _ => False) (zx_w g) (gx_Q g)) (vx_X (fun u : sx_T => ∃ z, u = wx_Z σ z) (fun E u t => E = "java/lang/IllegalArgumentException" ∧ zx_h g u t.heap) (gx_Q g)) 1 6 (gx_Q g) := by
  refine z_metX (by decide) (Nat.le_of_ble_eq_true rfl) (fun p e s m below meth c B hr hin hout => ?_)
  refine z_eqs (σ' := (ap b σ [] [] [])) rfl ?_
  show zx p l e _ s m _ below meth c g 13 0 0 _ _ 0 [(0, .ref (b + 0)), (1, .int 2), (2, .int w1), (3, .int w2), (4, .int w3), (5, .int w4)] []
  refine z_aload_n B dX8_check_0 rfl 0 rfl ?_
  refine z_iload_n B dX8_check_1 rfl 1 rfl ?_
  refine z_cVq (As := [.int 2]) (rest := []) B cw_X8_64 cx_9 dX8_check_2 (ci_X8_programAt_171 l (σ := (ap b σ [] [] [])) (b := b) (lyA hK) (rR_at 0 0 hR_0_0) (rR_at 1 2 hR_1_2)) (lKA (hk_K hK 0 rfl rfl)) rfl (by decide) rfl (Nat.le_of_ble_eq_true rfl) (by decide) (fun r u hu => ?_)
  refine z_eqs (σ' := (ap b σ [] [] [])) hu.2 ?_
  show zx p l e _ s m _ below meth c g 13 0 0 _ _ 5 [(0, .ref (b + 0)), (1, .int 2), (2, .int w1), (3, .int w2), (4, .int w3), (5, .int w4)] _
  refine z_setr (y := (some (b + 17))) hu.1 ?_
  refine z_astore (lv' := [(6, .ref (b + 17)), (0, .ref (b + 0)), (1, .int 2), (2, .int w1), (3, .int w2), (4, .int w3), (5, .int w4)]) B dX8_check_5 (by decide) rfl ?_
  refine z_aload B dX8_check_7 0 rfl ?_
  refine z_ifnull (r := (some (b + 17))) (tgt := 21) B dX8_check_9 (by decide) (fun h => nomatch h) (fun _ _ => ?_)
  refine z_iload_n B dX8_check_12 rfl 3 rfl ?_
  refine z_bipush (v := 20) B dX8_check_13 (by decide) ?_
  refine z_cSi (As := [.int w1, .int 20]) (rest := []) B cw_X8_68 dX8_check_15 (ci_X8_isBelow_64 l (σ := (ap b σ [] [] [])) (b := b) (lyA hK) w1 q1_w1 q2_w1) rfl (by decide) rfl (Nat.le_of_ble_eq_true rfl) (by decide) (fun r u hu => ?_)
  refine z_eqs (σ' := (ap b σ [] [] [])) hu.2 ?_
  show zx p l e _ s m _ below meth c g 13 0 0 _ _ 18 [(6, .ref (b + 17)), (0, .ref (b + 0)), (1, .int 2), (2, .int w1), (3, .int w2), (4, .int w3), (5, .int w4)] _
  refine z_seti (y := 1) hu.1 ?_
  refine z_if_ne (tgt := 31) B dX8_check_18 (by decide) (fun _ => ?_) (fun h => absurd h (by decide))
  refine z_iload_n B dX8_check_31 rfl 4 rfl ?_
  refine z_iload B dX8_check_32 5 rfl ?_
  refine z_iload B dX8_check_34 6 rfl ?_
  refine z_cSi (As := [.int w2, .int w3, .int w4]) (rest := []) B cw_X8_79 dX8_check_36 (ci_X8_isStep_66 l (σ := (ap b σ [] [] [])) (b := b) (lyA hK) w2 w3 w4 q1_w2 q2_w2) rfl (by decide) rfl (Nat.le_of_ble_eq_true rfl) (by decide) (fun r u hu => ?_)
  refine z_eqs (σ' := (ap b σ [] [] [])) hu.2 ?_
  show zx p l e _ s m _ below meth c g 13 0 0 _ _ 39 [(6, .ref (b + 17)), (0, .ref (b + 0)), (1, .int 2), (2, .int w1), (3, .int w2), (4, .int w3), (5, .int w4)] _
  refine z_seti (y := 0) hu.1 ?_
  refine z_if_ne (tgt := 52) B dX8_check_39 (by decide) (fun h => absurd (by decide) h) (fun _ => ?_)
  exact z_throw B hlt hout (cls := "java/lang/IllegalArgumentException") (text := "no such operation") tw_X8_83_85_87 dX8_check_42 dX8_check_45 dX8_check_46 dX8_check_48 dX8_check_51 (by decide) (by decide) (by decide) (by decide) (by decide) (by decide) (fun z => ⟨z, rfl⟩)
set_option maxRecDepth 100000 in
set_option maxHeartbeats 4000000 in
theorem ci_L_check_482 (l : Launch) (hlt : l.stackTraces = false) {g : gx_T} {σ : sx_T} {b : Nat} (hK : lay b σ) (w1 : Int32) (w2 : Int32) (w3 : Int32) (w4 : Int32) (q1_w1 : (0 : Int) ≤ w1.toInt) (q2_w1 : w1.toInt ≤ (19 : Int)) (q1_w2 : (-2147483648 : Int) ≤ w2.toInt) (q2_w2 : w2.toInt ≤ (-1 : Int)) (hR_0_0 : sx_R σ (b + 0) 0 = (some (b + 1))) (hR_1_2 : sx_R σ (b + 1) 2 = (some (b + 17))) : Met l yL_check (.codeWith yL_check cL_check 8 (some .int) [(0, 16, 19, 13), (0, 16, 23, 15)] :: lw_g) { frames := 8, cells := 1, slots := 6, locals := 168 } (va_Pc [.ref (b + 0), .int 2, .int w1, .int w2, .int w3, .int w4, .ref (b + 431)] (zx_w g σ)) (va_Qi (fun r u => r = 2 ∧ ∃ z, u = (ap b (wx_Z σ z) [] [] [])) (zx_w g) (gx_Q g)) 1 6 (gx_Q g) := by
  refine z_metW (by decide) (Nat.le_of_ble_eq_true rfl) (fun p e s m below meth c B hr htab => ?_)
  refine z_eqs (σ' := (ap b σ [] [] [])) rfl ?_
  show zx p l e _ s m _ below meth c g 8 0 0 _ _ 0 [(0, .ref (b + 0)), (1, .int 2), (2, .int w1), (3, .int w2), (4, .int w3), (5, .int w4), (6, .ref (b + 431))] []
  refine z_aload B dL_check_0 6 rfl ?_
  refine z_iconst (v := 0) B dL_check_2 (by decide) ?_
  refine z_aload_n B dL_check_3 rfl 0 rfl ?_
  refine z_iload_n B dL_check_4 rfl 1 rfl ?_
  refine z_iload_n B dL_check_5 rfl 2 rfl ?_
  refine z_iload_n B dL_check_6 rfl 3 rfl ?_
  refine z_iload B dL_check_7 4 rfl ?_
  refine z_iload B dL_check_9 5 rfl ?_
  refine z_cXi (As := [.int 2, .int w1, .int w2, .int w3, .int w4]) (rest := [.int 0, .ref (b + 431)]) B htab tc_check_11_IllegalArgumentException cw_L_17 cx_9 dL_check_11 (ci_X8_check_481 l hlt (σ := (ap b σ [] [] [])) (b := b) (lyA hK) w1 w2 w3 w4 q1_w1 q2_w1 q1_w2 q2_w2 (rR_at 0 0 hR_0_0) (rR_at 1 2 hR_1_2)) (lKA (hk_K hK 0 rfl rfl)) rfl (by decide) rfl (Nat.le_of_ble_eq_true rfl) (by decide) (fun z q => ?_)
  refine z_eqs (σ' := (ap b (wx_Z σ z) [] [] [])) rfl ?_
  show zx p l e _ s m _ below meth c g 8 _ _ _ _ 23 [(0, .ref (b + 0)), (1, .int 2), (2, .int w1), (3, .int w2), (4, .int w3), (5, .int w4), (6, .ref (b + 431))] _
  refine z_astore (lv' := [(7, .ref q), (0, .ref (b + 0)), (1, .int 2), (2, .int w1), (3, .int w2), (4, .int w3), (5, .int w4), (6, .ref (b + 431))]) B dL_check_23 (by decide) rfl ?_
  refine z_iconst (v := 2) B dL_check_25 (by decide) ?_
  exact z_iret B hr (by decide) (by decide) dL_check_26 ⟨rfl, _, rfl⟩
set_option maxRecDepth 100000 in
set_option maxHeartbeats 4000000 in
theorem ci_X9_check_483 (l : Launch) {g : gx_T} {σ : sx_T} {b : Nat} (hK : lay b σ) (w1 : Int32) (w2 : Int32) (w3 : Int32) (w4 : Int32) (q1_w1 : (0 : Int) ≤ w1.toInt) (q2_w1 : w1.toInt ≤ (19 : Int)) (q1_w2 : (-2147483648 : Int) ≤ w2.toInt) (q2_w2 : w2.toInt ≤ (-1 : Int))  : Met l yX9_check (.code yX9_check cX9_check 11 (some .int) :: lw_g) { frames := 2, cells := 0, slots := 0, locals := 44 } (va_Pc [.ref (b + 405), .int 2, .int w1, .int w2, .int w3, .int w4] (zx_w g σ)) (va_Qi (fun r u => r = 0 ∧ u = (ap b σ [(405, 0, 2)] [] [])) (zx_w g) (gx_Q g)) 0 0 (gx_Q g) := by
  refine z_met (by decide) (Nat.le_of_ble_eq_true rfl) (fun p e s m below meth c B hr hin => ?_)
  refine z_eqs (σ' := (ap b σ [] [] [])) rfl ?_
  show zx p l e _ s m _ below meth c g 11 0 0 _ _ 0 [(0, .ref (b + 405)), (1, .int 2), (2, .int w1), (3, .int w2), (4, .int w3), (5, .int w4)] []
  refine z_aload_n B dX9_check_0 rfl 0 rfl ?_
  refine z_iload_n B dX9_check_1 rfl 1 rfl ?_
  refine z_iload_n B dX9_check_2 rfl 2 rfl ?_
  refine z_cSi (As := [.int 2, .int w1]) (rest := [.ref (b + 405)]) B cw_X9_238 dX9_check_3 (ci_X9_isStep_185 l (σ := (ap b σ [] [] [])) (b := b) (lyA hK) w1 q1_w1 q2_w1) rfl (by decide) rfl (Nat.le_of_ble_eq_true rfl) (by decide) (fun r u hu => ?_)
  refine z_eqs (σ' := (ap b σ [] [] [])) hu.2 ?_
  show zx p l e _ s m _ below meth c g 11 0 0 _ _ 6 [(0, .ref (b + 405)), (1, .int 2), (2, .int w1), (3, .int w2), (4, .int w3), (5, .int w4)] _
  refine z_seti (y := 1) hu.1 ?_
  refine z_iload_n B dX9_check_6 rfl 3 rfl ?_
  refine z_iload B dX9_check_7 4 rfl ?_
  refine z_iload B dX9_check_9 5 rfl ?_
  refine z_cSi (As := [.int w2, .int w3, .int w4]) (rest := [.int 1, .ref (b + 405)]) B cw_X9_242 dX9_check_11 (ci_X9_isOperation_28 l (σ := (ap b σ [] [] [])) (b := b) (lyA hK) w2 w3 w4 q1_w2 q2_w2) rfl (by decide) rfl (Nat.le_of_ble_eq_true rfl) (by decide) (fun r u hu => ?_)
  refine z_eqs (σ' := (ap b σ [] [] [])) hu.2 ?_
  show zx p l e _ s m _ below meth c g 11 0 0 _ _ 14 [(0, .ref (b + 405)), (1, .int 2), (2, .int w1), (3, .int w2), (4, .int w3), (5, .int w4)] _
  refine z_seti (y := 0) hu.1 ?_
  refine z_cVi (As := [.int 1, .int 0]) (rest := []) B cw_X9_245 cx_10 dX9_check_14 (ci_X9_needs__71 l (σ := (ap b σ [] [] [])) (b := b) (lyA hK) ) (lKA (hk_K hK 405 rfl rfl)) rfl (by decide) rfl (Nat.le_of_ble_eq_true rfl) (by decide) (fun r u hu => ?_)
  refine z_eqs (σ' := (ap b σ [(405, 0, 2)] [] [])) (hu.2.trans ap_ap) ?_
  show zx p l e _ s m _ below meth c g 11 0 0 _ _ 17 [(0, .ref (b + 405)), (1, .int 2), (2, .int w1), (3, .int w2), (4, .int w3), (5, .int w4)] _
  refine z_seti (y := 0) hu.1 ?_
  refine z_if_ne (tgt := 22) B dX9_check_17 (by decide) (fun h => absurd (by decide) h) (fun _ => ?_)
  refine z_iconst (v := 0) B dX9_check_20 (by decide) ?_
  exact z_iret B hr (by decide) (by decide) dX9_check_21 ⟨rfl, rfl⟩
set_option maxRecDepth 100000 in
set_option maxHeartbeats 4000000 in
theorem ci_X8_check_484 (l : Launch) (hlt : l.stackTraces = false) {g : gx_T} {σ : sx_T} {b : Nat} (hK : lay b σ) (w1 : Int32) (w2 : Int32) (w3 : Int32) (w4 : Int32) (q1_w1 : (0 : Int) ≤ w1.toInt) (q2_w1 : w1.toInt ≤ (19 : Int)) (q1_w2 : (0 : Int) ≤ w2.toInt) (q2_w2 : w2.toInt ≤ (17 : Int)) (q1_w3 : (-2147483648 : Int) ≤ w3.toInt) (q2_w3 : w3.toInt ≤ (-1 : Int)) (hR_0_0 : sx_R σ (b + 0) 0 = (some (b + 1))) (hR_1_2 : sx_R σ (b + 1) 2 = (some (b + 17))) : vx_Met l yX8_check (.code yX8_check cX8_check 13 (some .int) :: lw_g) { frames := 7, cells := 1, slots := 6, locals := 136 } (va_Pc [.ref (b + 0), .int 2, .int w1, .int w2, .int w3, .int w4] (zx_w g σ)) (va_Qi (S := sx_T) (fun _ _ => False) (zx_w g) (gx_Q g)) (vx_X (fun u : sx_T => ∃ z, u = wx_Z σ z) (fun E u t => E = "java/lang/IllegalArgumentException" ∧ zx_h g u t.heap) (gx_Q g)) 1 6 (gx_Q g) := by
  refine z_metX (by decide) (Nat.le_of_ble_eq_true rfl) (fun p e s m below meth c B hr hin hout => ?_)
  refine z_eqs (σ' := (ap b σ [] [] [])) rfl ?_
  show zx p l e _ s m _ below meth c g 13 0 0 _ _ 0 [(0, .ref (b + 0)), (1, .int 2), (2, .int w1), (3, .int w2), (4, .int w3), (5, .int w4)] []
  refine z_aload_n B dX8_check_0 rfl 0 rfl ?_
  refine z_iload_n B dX8_check_1 rfl 1 rfl ?_
  refine z_cVq (As := [.int 2]) (rest := []) B cw_X8_64 cx_9 dX8_check_2 (ci_X8_programAt_171 l (σ := (ap b σ [] [] [])) (b := b) (lyA hK) (rR_at 0 0 hR_0_0) (rR_at 1 2 hR_1_2)) (lKA (hk_K hK 0 rfl rfl)) rfl (by decide) rfl (Nat.le_of_ble_eq_true rfl) (by decide) (fun r u hu => ?_)
  refine z_eqs (σ' := (ap b σ [] [] [])) hu.2 ?_
  show zx p l e _ s m _ below meth c g 13 0 0 _ _ 5 [(0, .ref (b + 0)), (1, .int 2), (2, .int w1), (3, .int w2), (4, .int w3), (5, .int w4)] _
  refine z_setr (y := (some (b + 17))) hu.1 ?_
  refine z_astore (lv' := [(6, .ref (b + 17)), (0, .ref (b + 0)), (1, .int 2), (2, .int w1), (3, .int w2), (4, .int w3), (5, .int w4)]) B dX8_check_5 (by decide) rfl ?_
  refine z_aload B dX8_check_7 0 rfl ?_
  refine z_ifnull (r := (some (b + 17))) (tgt := 21) B dX8_check_9 (by decide) (fun h => nomatch h) (fun _ _ => ?_)
  refine z_iload_n B dX8_check_12 rfl 3 rfl ?_
  refine z_bipush (v := 20) B dX8_check_13 (by decide) ?_
  refine z_cSi (As := [.int w1, .int 20]) (rest := []) B cw_X8_68 dX8_check_15 (ci_X8_isBelow_64 l (σ := (ap b σ [] [] [])) (b := b) (lyA hK) w1 q1_w1 q2_w1) rfl (by decide) rfl (Nat.le_of_ble_eq_true rfl) (by decide) (fun r u hu => ?_)
  refine z_eqs (σ' := (ap b σ [] [] [])) hu.2 ?_
  show zx p l e _ s m _ below meth c g 13 0 0 _ _ 18 [(6, .ref (b + 17)), (0, .ref (b + 0)), (1, .int 2), (2, .int w1), (3, .int w2), (4, .int w3), (5, .int w4)] _
  refine z_seti (y := 1) hu.1 ?_
  refine z_if_ne (tgt := 31) B dX8_check_18 (by decide) (fun _ => ?_) (fun h => absurd h (by decide))
  refine z_iload_n B dX8_check_31 rfl 4 rfl ?_
  refine z_iload B dX8_check_32 5 rfl ?_
  refine z_iload B dX8_check_34 6 rfl ?_
  refine z_cSi (As := [.int w2, .int w3, .int w4]) (rest := []) B cw_X8_79 dX8_check_36 (ci_X8_isStep_76 l (σ := (ap b σ [] [] [])) (b := b) (lyA hK) w2 w3 w4 q1_w2 q2_w2 q1_w3 q2_w3) rfl (by decide) rfl (Nat.le_of_ble_eq_true rfl) (by decide) (fun r u hu => ?_)
  refine z_eqs (σ' := (ap b σ [] [] [])) hu.2 ?_
  show zx p l e _ s m _ below meth c g 13 0 0 _ _ 39 [(6, .ref (b + 17)), (0, .ref (b + 0)), (1, .int 2), (2, .int w1), (3, .int w2), (4, .int w3), (5, .int w4)] _
  refine z_seti (y := 0) hu.1 ?_
  refine z_if_ne (tgt := 52) B dX8_check_39 (by decide) (fun h => absurd (by decide) h) (fun _ => ?_)
  exact z_throw B hlt hout (cls := "java/lang/IllegalArgumentException") (text := "no such operation") tw_X8_83_85_87 dX8_check_42 dX8_check_45 dX8_check_46 dX8_check_48 dX8_check_51 (by decide) (by decide) (by decide) (by decide) (by decide) (by decide) (fun z => ⟨z, rfl⟩)
set_option maxRecDepth 100000 in
set_option maxHeartbeats 4000000 in
theorem ci_L_check_485 (l : Launch) (hlt : l.stackTraces = false) {g : gx_T} {σ : sx_T} {b : Nat} (hK : lay b σ) (w1 : Int32) (w2 : Int32) (w3 : Int32) (w4 : Int32) (q1_w1 : (0 : Int) ≤ w1.toInt) (q2_w1 : w1.toInt ≤ (19 : Int)) (q1_w2 : (0 : Int) ≤ w2.toInt) (q2_w2 : w2.toInt ≤ (17 : Int)) (q1_w3 : (-2147483648 : Int) ≤ w3.toInt) (q2_w3 : w3.toInt ≤ (-1 : Int)) (hR_0_0 : sx_R σ (b + 0) 0 = (some (b + 1))) (hR_1_2 : sx_R σ (b + 1) 2 = (some (b + 17))) : Met l yL_check (.codeWith yL_check cL_check 8 (some .int) [(0, 16, 19, 13), (0, 16, 23, 15)] :: lw_g) { frames := 8, cells := 1, slots := 6, locals := 168 } (va_Pc [.ref (b + 0), .int 2, .int w1, .int w2, .int w3, .int w4, .ref (b + 431)] (zx_w g σ)) (va_Qi (fun r u => r = 2 ∧ ∃ z, u = (ap b (wx_Z σ z) [] [] [])) (zx_w g) (gx_Q g)) 1 6 (gx_Q g) := by
  refine z_metW (by decide) (Nat.le_of_ble_eq_true rfl) (fun p e s m below meth c B hr htab => ?_)
  refine z_eqs (σ' := (ap b σ [] [] [])) rfl ?_
  show zx p l e _ s m _ below meth c g 8 0 0 _ _ 0 [(0, .ref (b + 0)), (1, .int 2), (2, .int w1), (3, .int w2), (4, .int w3), (5, .int w4), (6, .ref (b + 431))] []
  refine z_aload B dL_check_0 6 rfl ?_
  refine z_iconst (v := 0) B dL_check_2 (by decide) ?_
  refine z_aload_n B dL_check_3 rfl 0 rfl ?_
  refine z_iload_n B dL_check_4 rfl 1 rfl ?_
  refine z_iload_n B dL_check_5 rfl 2 rfl ?_
  refine z_iload_n B dL_check_6 rfl 3 rfl ?_
  refine z_iload B dL_check_7 4 rfl ?_
  refine z_iload B dL_check_9 5 rfl ?_
  refine z_cXi (As := [.int 2, .int w1, .int w2, .int w3, .int w4]) (rest := [.int 0, .ref (b + 431)]) B htab tc_check_11_IllegalArgumentException cw_L_17 cx_9 dL_check_11 (ci_X8_check_484 l hlt (σ := (ap b σ [] [] [])) (b := b) (lyA hK) w1 w2 w3 w4 q1_w1 q2_w1 q1_w2 q2_w2 q1_w3 q2_w3 (rR_at 0 0 hR_0_0) (rR_at 1 2 hR_1_2)) (lKA (hk_K hK 0 rfl rfl)) rfl (by decide) rfl (Nat.le_of_ble_eq_true rfl) (by decide) (fun z q => ?_)
  refine z_eqs (σ' := (ap b (wx_Z σ z) [] [] [])) rfl ?_
  show zx p l e _ s m _ below meth c g 8 _ _ _ _ 23 [(0, .ref (b + 0)), (1, .int 2), (2, .int w1), (3, .int w2), (4, .int w3), (5, .int w4), (6, .ref (b + 431))] _
  refine z_astore (lv' := [(7, .ref q), (0, .ref (b + 0)), (1, .int 2), (2, .int w1), (3, .int w2), (4, .int w3), (5, .int w4), (6, .ref (b + 431))]) B dL_check_23 (by decide) rfl ?_
  refine z_iconst (v := 2) B dL_check_25 (by decide) ?_
  exact z_iret B hr (by decide) (by decide) dL_check_26 ⟨rfl, _, rfl⟩
set_option maxRecDepth 100000 in
set_option maxHeartbeats 4000000 in
theorem ci_X9_check_486 (l : Launch) {g : gx_T} {σ : sx_T} {b : Nat} (hK : lay b σ) (w1 : Int32) (w2 : Int32) (w3 : Int32) (w4 : Int32) (q1_w1 : (0 : Int) ≤ w1.toInt) (q2_w1 : w1.toInt ≤ (19 : Int)) (q1_w2 : (0 : Int) ≤ w2.toInt) (q2_w2 : w2.toInt ≤ (17 : Int)) (q1_w3 : (-2147483648 : Int) ≤ w3.toInt) (q2_w3 : w3.toInt ≤ (-1 : Int))  : Met l yX9_check (.code yX9_check cX9_check 11 (some .int) :: lw_g) { frames := 2, cells := 0, slots := 0, locals := 44 } (va_Pc [.ref (b + 405), .int 2, .int w1, .int w2, .int w3, .int w4] (zx_w g σ)) (va_Qi (fun r u => r = 0 ∧ u = (ap b σ [(405, 0, 2)] [] [])) (zx_w g) (gx_Q g)) 0 0 (gx_Q g) := by
  refine z_met (by decide) (Nat.le_of_ble_eq_true rfl) (fun p e s m below meth c B hr hin => ?_)
  refine z_eqs (σ' := (ap b σ [] [] [])) rfl ?_
  show zx p l e _ s m _ below meth c g 11 0 0 _ _ 0 [(0, .ref (b + 405)), (1, .int 2), (2, .int w1), (3, .int w2), (4, .int w3), (5, .int w4)] []
  refine z_aload_n B dX9_check_0 rfl 0 rfl ?_
  refine z_iload_n B dX9_check_1 rfl 1 rfl ?_
  refine z_iload_n B dX9_check_2 rfl 2 rfl ?_
  refine z_cSi (As := [.int 2, .int w1]) (rest := [.ref (b + 405)]) B cw_X9_238 dX9_check_3 (ci_X9_isStep_185 l (σ := (ap b σ [] [] [])) (b := b) (lyA hK) w1 q1_w1 q2_w1) rfl (by decide) rfl (Nat.le_of_ble_eq_true rfl) (by decide) (fun r u hu => ?_)
  refine z_eqs (σ' := (ap b σ [] [] [])) hu.2 ?_
  show zx p l e _ s m _ below meth c g 11 0 0 _ _ 6 [(0, .ref (b + 405)), (1, .int 2), (2, .int w1), (3, .int w2), (4, .int w3), (5, .int w4)] _
  refine z_seti (y := 1) hu.1 ?_
  refine z_iload_n B dX9_check_6 rfl 3 rfl ?_
  refine z_iload B dX9_check_7 4 rfl ?_
  refine z_iload B dX9_check_9 5 rfl ?_
  refine z_cSi (As := [.int w2, .int w3, .int w4]) (rest := [.int 1, .ref (b + 405)]) B cw_X9_242 dX9_check_11 (ci_X9_isOperation_34 l (σ := (ap b σ [] [] [])) (b := b) (lyA hK) w2 w3 w4 q1_w2 q2_w2 q1_w3 q2_w3) rfl (by decide) rfl (Nat.le_of_ble_eq_true rfl) (by decide) (fun r u hu => ?_)
  refine z_eqs (σ' := (ap b σ [] [] [])) hu.2 ?_
  show zx p l e _ s m _ below meth c g 11 0 0 _ _ 14 [(0, .ref (b + 405)), (1, .int 2), (2, .int w1), (3, .int w2), (4, .int w3), (5, .int w4)] _
  refine z_seti (y := 0) hu.1 ?_
  refine z_cVi (As := [.int 1, .int 0]) (rest := []) B cw_X9_245 cx_10 dX9_check_14 (ci_X9_needs__71 l (σ := (ap b σ [] [] [])) (b := b) (lyA hK) ) (lKA (hk_K hK 405 rfl rfl)) rfl (by decide) rfl (Nat.le_of_ble_eq_true rfl) (by decide) (fun r u hu => ?_)
  refine z_eqs (σ' := (ap b σ [(405, 0, 2)] [] [])) (hu.2.trans ap_ap) ?_
  show zx p l e _ s m _ below meth c g 11 0 0 _ _ 17 [(0, .ref (b + 405)), (1, .int 2), (2, .int w1), (3, .int w2), (4, .int w3), (5, .int w4)] _
  refine z_seti (y := 0) hu.1 ?_
  refine z_if_ne (tgt := 22) B dX9_check_17 (by decide) (fun h => absurd (by decide) h) (fun _ => ?_)
  refine z_iconst (v := 0) B dX9_check_20 (by decide) ?_
  exact z_iret B hr (by decide) (by decide) dX9_check_21 ⟨rfl, rfl⟩
set_option maxRecDepth 100000 in
set_option maxHeartbeats 4000000 in
theorem ci_X8_check_487 (l : Launch) (hlt : l.stackTraces = false) {g : gx_T} {σ : sx_T} {b : Nat} (hK : lay b σ) (w1 : Int32) (w2 : Int32) (w3 : Int32) (w4 : Int32) (q1_w1 : (0 : Int) ≤ w1.toInt) (q2_w1 : w1.toInt ≤ (19 : Int)) (q1_w2 : (0 : Int) ≤ w2.toInt) (q2_w2 : w2.toInt ≤ (17 : Int)) (q1_w3 : (0 : Int) ≤ w3.toInt) (q2_w3 : w3.toInt ≤ (99 : Int)) (q1_w4 : (-2147483648 : Int) ≤ w4.toInt) (q2_w4 : w4.toInt ≤ (-1 : Int)) (hR_0_0 : sx_R σ (b + 0) 0 = (some (b + 1))) (hR_1_2 : sx_R σ (b + 1) 2 = (some (b + 17))) : vx_Met l yX8_check (.code yX8_check cX8_check 13 (some .int) :: lw_g) { frames := 7, cells := 1, slots := 6, locals := 136 } (va_Pc [.ref (b + 0), .int 2, .int w1, .int w2, .int w3, .int w4] (zx_w g σ)) (va_Qi (S := sx_T) (fun _ _ => False) (zx_w g) (gx_Q g)) (vx_X (fun u : sx_T => ∃ z, u = wx_Z σ z) (fun E u t => E = "java/lang/IllegalArgumentException" ∧ zx_h g u t.heap) (gx_Q g)) 1 6 (gx_Q g) := by
  refine z_metX (by decide) (Nat.le_of_ble_eq_true rfl) (fun p e s m below meth c B hr hin hout => ?_)
  refine z_eqs (σ' := (ap b σ [] [] [])) rfl ?_
  show zx p l e _ s m _ below meth c g 13 0 0 _ _ 0 [(0, .ref (b + 0)), (1, .int 2), (2, .int w1), (3, .int w2), (4, .int w3), (5, .int w4)] []
  refine z_aload_n B dX8_check_0 rfl 0 rfl ?_
  refine z_iload_n B dX8_check_1 rfl 1 rfl ?_
  refine z_cVq (As := [.int 2]) (rest := []) B cw_X8_64 cx_9 dX8_check_2 (ci_X8_programAt_171 l (σ := (ap b σ [] [] [])) (b := b) (lyA hK) (rR_at 0 0 hR_0_0) (rR_at 1 2 hR_1_2)) (lKA (hk_K hK 0 rfl rfl)) rfl (by decide) rfl (Nat.le_of_ble_eq_true rfl) (by decide) (fun r u hu => ?_)
  refine z_eqs (σ' := (ap b σ [] [] [])) hu.2 ?_
  show zx p l e _ s m _ below meth c g 13 0 0 _ _ 5 [(0, .ref (b + 0)), (1, .int 2), (2, .int w1), (3, .int w2), (4, .int w3), (5, .int w4)] _
  refine z_setr (y := (some (b + 17))) hu.1 ?_
  refine z_astore (lv' := [(6, .ref (b + 17)), (0, .ref (b + 0)), (1, .int 2), (2, .int w1), (3, .int w2), (4, .int w3), (5, .int w4)]) B dX8_check_5 (by decide) rfl ?_
  refine z_aload B dX8_check_7 0 rfl ?_
  refine z_ifnull (r := (some (b + 17))) (tgt := 21) B dX8_check_9 (by decide) (fun h => nomatch h) (fun _ _ => ?_)
  refine z_iload_n B dX8_check_12 rfl 3 rfl ?_
  refine z_bipush (v := 20) B dX8_check_13 (by decide) ?_
  refine z_cSi (As := [.int w1, .int 20]) (rest := []) B cw_X8_68 dX8_check_15 (ci_X8_isBelow_64 l (σ := (ap b σ [] [] [])) (b := b) (lyA hK) w1 q1_w1 q2_w1) rfl (by decide) rfl (Nat.le_of_ble_eq_true rfl) (by decide) (fun r u hu => ?_)
  refine z_eqs (σ' := (ap b σ [] [] [])) hu.2 ?_
  show zx p l e _ s m _ below meth c g 13 0 0 _ _ 18 [(6, .ref (b + 17)), (0, .ref (b + 0)), (1, .int 2), (2, .int w1), (3, .int w2), (4, .int w3), (5, .int w4)] _
  refine z_seti (y := 1) hu.1 ?_
  refine z_if_ne (tgt := 31) B dX8_check_18 (by decide) (fun _ => ?_) (fun h => absurd h (by decide))
  refine z_iload_n B dX8_check_31 rfl 4 rfl ?_
  refine z_iload B dX8_check_32 5 rfl ?_
  refine z_iload B dX8_check_34 6 rfl ?_
  refine z_cSi (As := [.int w2, .int w3, .int w4]) (rest := []) B cw_X8_79 dX8_check_36 (ci_X8_isStep_81 l (σ := (ap b σ [] [] [])) (b := b) (lyA hK) w2 w3 w4 q1_w2 q2_w2 q1_w3 q2_w3 q1_w4 q2_w4) rfl (by decide) rfl (Nat.le_of_ble_eq_true rfl) (by decide) (fun r u hu => ?_)
  refine z_eqs (σ' := (ap b σ [] [] [])) hu.2 ?_
  show zx p l e _ s m _ below meth c g 13 0 0 _ _ 39 [(6, .ref (b + 17)), (0, .ref (b + 0)), (1, .int 2), (2, .int w1), (3, .int w2), (4, .int w3), (5, .int w4)] _
  refine z_seti (y := 0) hu.1 ?_
  refine z_if_ne (tgt := 52) B dX8_check_39 (by decide) (fun h => absurd (by decide) h) (fun _ => ?_)
  exact z_throw B hlt hout (cls := "java/lang/IllegalArgumentException") (text := "no such operation") tw_X8_83_85_87 dX8_check_42 dX8_check_45 dX8_check_46 dX8_check_48 dX8_check_51 (by decide) (by decide) (by decide) (by decide) (by decide) (by decide) (fun z => ⟨z, rfl⟩)
set_option maxRecDepth 100000 in
set_option maxHeartbeats 4000000 in
theorem ci_L_check_488 (l : Launch) (hlt : l.stackTraces = false) {g : gx_T} {σ : sx_T} {b : Nat} (hK : lay b σ) (w1 : Int32) (w2 : Int32) (w3 : Int32) (w4 : Int32) (q1_w1 : (0 : Int) ≤ w1.toInt) (q2_w1 : w1.toInt ≤ (19 : Int)) (q1_w2 : (0 : Int) ≤ w2.toInt) (q2_w2 : w2.toInt ≤ (17 : Int)) (q1_w3 : (0 : Int) ≤ w3.toInt) (q2_w3 : w3.toInt ≤ (99 : Int)) (q1_w4 : (-2147483648 : Int) ≤ w4.toInt) (q2_w4 : w4.toInt ≤ (-1 : Int)) (hR_0_0 : sx_R σ (b + 0) 0 = (some (b + 1))) (hR_1_2 : sx_R σ (b + 1) 2 = (some (b + 17))) : Met l yL_check (.codeWith yL_check cL_check 8 (some .int) [(0, 16, 19, 13), (0, 16, 23, 15)] :: lw_g) { frames := 8, cells := 1, slots := 6, locals := 168 } (va_Pc [.ref (b + 0), .int 2, .int w1, .int w2, .int w3, .int w4, .ref (b + 431)] (zx_w g σ)) (va_Qi (fun r u => r = 2 ∧ ∃ z, u = (ap b (wx_Z σ z) [] [] [])) (zx_w g) (gx_Q g)) 1 6 (gx_Q g) := by
  refine z_metW (by decide) (Nat.le_of_ble_eq_true rfl) (fun p e s m below meth c B hr htab => ?_)
  refine z_eqs (σ' := (ap b σ [] [] [])) rfl ?_
  show zx p l e _ s m _ below meth c g 8 0 0 _ _ 0 [(0, .ref (b + 0)), (1, .int 2), (2, .int w1), (3, .int w2), (4, .int w3), (5, .int w4), (6, .ref (b + 431))] []
  refine z_aload B dL_check_0 6 rfl ?_
  refine z_iconst (v := 0) B dL_check_2 (by decide) ?_
  refine z_aload_n B dL_check_3 rfl 0 rfl ?_
  refine z_iload_n B dL_check_4 rfl 1 rfl ?_
  refine z_iload_n B dL_check_5 rfl 2 rfl ?_
  refine z_iload_n B dL_check_6 rfl 3 rfl ?_
  refine z_iload B dL_check_7 4 rfl ?_
  refine z_iload B dL_check_9 5 rfl ?_
  refine z_cXi (As := [.int 2, .int w1, .int w2, .int w3, .int w4]) (rest := [.int 0, .ref (b + 431)]) B htab tc_check_11_IllegalArgumentException cw_L_17 cx_9 dL_check_11 (ci_X8_check_487 l hlt (σ := (ap b σ [] [] [])) (b := b) (lyA hK) w1 w2 w3 w4 q1_w1 q2_w1 q1_w2 q2_w2 q1_w3 q2_w3 q1_w4 q2_w4 (rR_at 0 0 hR_0_0) (rR_at 1 2 hR_1_2)) (lKA (hk_K hK 0 rfl rfl)) rfl (by decide) rfl (Nat.le_of_ble_eq_true rfl) (by decide) (fun z q => ?_)
  refine z_eqs (σ' := (ap b (wx_Z σ z) [] [] [])) rfl ?_
  show zx p l e _ s m _ below meth c g 8 _ _ _ _ 23 [(0, .ref (b + 0)), (1, .int 2), (2, .int w1), (3, .int w2), (4, .int w3), (5, .int w4), (6, .ref (b + 431))] _
  refine z_astore (lv' := [(7, .ref q), (0, .ref (b + 0)), (1, .int 2), (2, .int w1), (3, .int w2), (4, .int w3), (5, .int w4), (6, .ref (b + 431))]) B dL_check_23 (by decide) rfl ?_
  refine z_iconst (v := 2) B dL_check_25 (by decide) ?_
  exact z_iret B hr (by decide) (by decide) dL_check_26 ⟨rfl, _, rfl⟩
set_option maxRecDepth 100000 in
set_option maxHeartbeats 4000000 in
theorem ci_X9_check_489 (l : Launch) {g : gx_T} {σ : sx_T} {b : Nat} (hK : lay b σ) (w1 : Int32) (w2 : Int32) (w3 : Int32) (w4 : Int32) (q1_w1 : (0 : Int) ≤ w1.toInt) (q2_w1 : w1.toInt ≤ (19 : Int)) (q1_w2 : (0 : Int) ≤ w2.toInt) (q2_w2 : w2.toInt ≤ (17 : Int)) (q1_w3 : (0 : Int) ≤ w3.toInt) (q2_w3 : w3.toInt ≤ (99 : Int)) (q1_w4 : (-2147483648 : Int) ≤ w4.toInt) (q2_w4 : w4.toInt ≤ (-1 : Int))  : Met l yX9_check (.code yX9_check cX9_check 11 (some .int) :: lw_g) { frames := 2, cells := 0, slots := 0, locals := 44 } (va_Pc [.ref (b + 405), .int 2, .int w1, .int w2, .int w3, .int w4] (zx_w g σ)) (va_Qi (fun r u => r = 0 ∧ u = (ap b σ [(405, 0, 2)] [] [])) (zx_w g) (gx_Q g)) 0 0 (gx_Q g) := by
  refine z_met (by decide) (Nat.le_of_ble_eq_true rfl) (fun p e s m below meth c B hr hin => ?_)
  refine z_eqs (σ' := (ap b σ [] [] [])) rfl ?_
  show zx p l e _ s m _ below meth c g 11 0 0 _ _ 0 [(0, .ref (b + 405)), (1, .int 2), (2, .int w1), (3, .int w2), (4, .int w3), (5, .int w4)] []
  refine z_aload_n B dX9_check_0 rfl 0 rfl ?_
  refine z_iload_n B dX9_check_1 rfl 1 rfl ?_
  refine z_iload_n B dX9_check_2 rfl 2 rfl ?_
  refine z_cSi (As := [.int 2, .int w1]) (rest := [.ref (b + 405)]) B cw_X9_238 dX9_check_3 (ci_X9_isStep_185 l (σ := (ap b σ [] [] [])) (b := b) (lyA hK) w1 q1_w1 q2_w1) rfl (by decide) rfl (Nat.le_of_ble_eq_true rfl) (by decide) (fun r u hu => ?_)
  refine z_eqs (σ' := (ap b σ [] [] [])) hu.2 ?_
  show zx p l e _ s m _ below meth c g 11 0 0 _ _ 6 [(0, .ref (b + 405)), (1, .int 2), (2, .int w1), (3, .int w2), (4, .int w3), (5, .int w4)] _
  refine z_seti (y := 1) hu.1 ?_
  refine z_iload_n B dX9_check_6 rfl 3 rfl ?_
  refine z_iload B dX9_check_7 4 rfl ?_
  refine z_iload B dX9_check_9 5 rfl ?_
  refine z_cSi (As := [.int w2, .int w3, .int w4]) (rest := [.int 1, .ref (b + 405)]) B cw_X9_242 dX9_check_11 (ci_X9_isOperation_37 l (σ := (ap b σ [] [] [])) (b := b) (lyA hK) w2 w3 w4 q1_w2 q2_w2 q1_w3 q2_w3 q1_w4 q2_w4) rfl (by decide) rfl (Nat.le_of_ble_eq_true rfl) (by decide) (fun r u hu => ?_)
  refine z_eqs (σ' := (ap b σ [] [] [])) hu.2 ?_
  show zx p l e _ s m _ below meth c g 11 0 0 _ _ 14 [(0, .ref (b + 405)), (1, .int 2), (2, .int w1), (3, .int w2), (4, .int w3), (5, .int w4)] _
  refine z_seti (y := 0) hu.1 ?_
  refine z_cVi (As := [.int 1, .int 0]) (rest := []) B cw_X9_245 cx_10 dX9_check_14 (ci_X9_needs__71 l (σ := (ap b σ [] [] [])) (b := b) (lyA hK) ) (lKA (hk_K hK 405 rfl rfl)) rfl (by decide) rfl (Nat.le_of_ble_eq_true rfl) (by decide) (fun r u hu => ?_)
  refine z_eqs (σ' := (ap b σ [(405, 0, 2)] [] [])) (hu.2.trans ap_ap) ?_
  show zx p l e _ s m _ below meth c g 11 0 0 _ _ 17 [(0, .ref (b + 405)), (1, .int 2), (2, .int w1), (3, .int w2), (4, .int w3), (5, .int w4)] _
  refine z_seti (y := 0) hu.1 ?_
  refine z_if_ne (tgt := 22) B dX9_check_17 (by decide) (fun h => absurd (by decide) h) (fun _ => ?_)
  refine z_iconst (v := 0) B dX9_check_20 (by decide) ?_
  exact z_iret B hr (by decide) (by decide) dX9_check_21 ⟨rfl, rfl⟩
set_option maxRecDepth 100000 in
set_option maxHeartbeats 4000000 in
theorem ci_X4_operation_490 (l : Launch) {g : gx_T} {σ : sx_T} {b : Nat} (hK : lay b σ) (w1 : Int32) (q1_w1 : (0 : Int) ≤ w1.toInt) (q2_w1 : w1.toInt ≤ (19 : Int)) (hR_17_1 : sx_R σ (b + 17) 1 = (some (b + 18))) : Met l yX4_operation (.code yX4_operation cX4_operation 2 (some .int) :: lw_g) { frames := 0, cells := 0, slots := 0, locals := 0 } (va_Pc [.ref (b + 17), .int w1] (zx_w g σ)) (va_Qi (fun r u => ∃ y1 : Int32, r = y1 ∧ u = σ) (zx_w g) (gx_Q g)) 0 0 (gx_Q g) := by
  refine z_met (by decide) (Nat.le_of_ble_eq_true rfl) (fun p e s m below meth c B hr hin => ?_)
  refine z_eqs (σ' := (ap b σ [] [] [])) rfl ?_
  show zx p l e _ s m _ below meth c g 2 0 0 _ _ 0 [(0, .ref (b + 17)), (1, .int w1)] []
  refine z_iload_n B dX4_operation_0 rfl 1 rfl ?_
  refine z_if_lt (tgt := 22) B dX4_operation_1 (by decide) (fun h => absurd h (iv_nlt q1_w1 (by decide))) (fun _ => ?_)
  refine z_iload_n B dX4_operation_4 rfl 1 rfl ?_
  refine z_aload_n B dX4_operation_5 rfl 0 rfl ?_
  refine gf_X4_9 (x := (some (b + 18))) B (lKA (hk_K hK 17 rfl rfl)) (rR_at 17 1 hR_17_1) dX4_operation_6 ?_
  refine z_alen (kd := 13) (ti := 1) (v := 20) B (lKA (hk_K hK 18 rfl rfl)) (by decide) rfl (congrArg Int32.ofNat (lNA (hk_N hK 18 rfl rfl))) dX4_operation_9 ?_
  refine z_icmp_ge (tgt := 22) B dX4_operation_10 (by decide) (fun h => absurd h (iv_nge q2_w1 (by decide))) (fun _ => ?_)
  refine z_aload_n B dX4_operation_13 rfl 0 rfl ?_
  refine gf_X4_9 (x := (some (b + 18))) B (lKA (hk_K hK 17 rfl rfl)) (rR_at 17 1 hR_17_1) dX4_operation_14 ?_
  refine z_iload_n B dX4_operation_17 rfl 1 rfl ?_
  refine z_iald (j := w1.toNatClampNeg) B (lKA (hk_K hK 18 rfl rfl)) rfl (in_of (lNA (hk_N hK 18 rfl rfl)) (iv_in q1_w1 q2_w1 (by decide) (by decide))) rfl dX4_operation_18 ?_
  refine z_topi (fun y1 e_y1 => ?_)
  refine z_goto (tgt := 23) B dX4_operation_19 (by decide) ?_
  exact z_iret B hr (by decide) (by decide) dX4_operation_23 ⟨y1, rfl, rfl⟩
set_option maxRecDepth 100000 in
set_option maxHeartbeats 4000000 in
theorem ci_X4_first_491 (l : Launch) {g : gx_T} {σ : sx_T} {b : Nat} (hK : lay b σ) (w1 : Int32) (q1_w1 : (0 : Int) ≤ w1.toInt) (q2_w1 : w1.toInt ≤ (19 : Int)) (hR_17_2 : sx_R σ (b + 17) 2 = (some (b + 19))) : Met l yX4_first (.code yX4_first cX4_first 2 (some .int) :: lw_g) { frames := 0, cells := 0, slots := 0, locals := 0 } (va_Pc [.ref (b + 17), .int w1] (zx_w g σ)) (va_Qi (fun r u => ∃ y2 : Int32, r = y2 ∧ u = σ) (zx_w g) (gx_Q g)) 0 0 (gx_Q g) := by
  refine z_met (by decide) (Nat.le_of_ble_eq_true rfl) (fun p e s m below meth c B hr hin => ?_)
  refine z_eqs (σ' := (ap b σ [] [] [])) rfl ?_
  show zx p l e _ s m _ below meth c g 2 0 0 _ _ 0 [(0, .ref (b + 17)), (1, .int w1)] []
  refine z_iload_n B dX4_first_0 rfl 1 rfl ?_
  refine z_if_lt (tgt := 22) B dX4_first_1 (by decide) (fun h => absurd h (iv_nlt q1_w1 (by decide))) (fun _ => ?_)
  refine z_iload_n B dX4_first_4 rfl 1 rfl ?_
  refine z_aload_n B dX4_first_5 rfl 0 rfl ?_
  refine gf_X4_15 (x := (some (b + 19))) B (lKA (hk_K hK 17 rfl rfl)) (rR_at 17 2 hR_17_2) dX4_first_6 ?_
  refine z_alen (kd := 13) (ti := 1) (v := 20) B (lKA (hk_K hK 19 rfl rfl)) (by decide) rfl (congrArg Int32.ofNat (lNA (hk_N hK 19 rfl rfl))) dX4_first_9 ?_
  refine z_icmp_ge (tgt := 22) B dX4_first_10 (by decide) (fun h => absurd h (iv_nge q2_w1 (by decide))) (fun _ => ?_)
  refine z_aload_n B dX4_first_13 rfl 0 rfl ?_
  refine gf_X4_15 (x := (some (b + 19))) B (lKA (hk_K hK 17 rfl rfl)) (rR_at 17 2 hR_17_2) dX4_first_14 ?_
  refine z_iload_n B dX4_first_17 rfl 1 rfl ?_
  refine z_iald (j := w1.toNatClampNeg) B (lKA (hk_K hK 19 rfl rfl)) rfl (in_of (lNA (hk_N hK 19 rfl rfl)) (iv_in q1_w1 q2_w1 (by decide) (by decide))) rfl dX4_first_18 ?_
  refine z_topi (fun y2 e_y2 => ?_)
  refine z_goto (tgt := 23) B dX4_first_19 (by decide) ?_
  exact z_iret B hr (by decide) (by decide) dX4_first_23 ⟨y2, rfl, rfl⟩
