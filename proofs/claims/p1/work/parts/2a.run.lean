set_option maxRecDepth 100000 in
set_option maxHeartbeats 4000000 in
theorem ci_X8_programAt_22 (l : Launch) {g : gx_T} {σ : sx_T} {b : Nat} (hK : lay b σ) (w1 : Int32) (q1_w1 : (-2147483648 : Int) ≤ w1.toInt) (q2_w1 : w1.toInt ≤ (-1 : Int))  : Met l yX8_programAt (.code yX8_programAt cX8_programAt 2 (some (.object "Loomkeeper$Program")) :: lw_g) { frames := 0, cells := 0, slots := 0, locals := 0 } (va_Pc [.ref (b + 0), .int w1] (zx_w g σ)) (va_Qq (fun r u => r = none ∧ u = σ) (zx_w g) (gx_Q g)) 0 0 (gx_Q g) := by
  refine z_met (by decide) (Nat.le_of_ble_eq_true rfl) (fun p e s m below meth c B hr hin => ?_)
  refine z_eqs (σ' := (ap b σ [] [] [])) rfl ?_
  show zx p l e _ s m _ below meth c g 2 0 0 _ _ 0 [(0, .ref (b + 0)), (1, .int w1)] []
  refine z_iload_n B dX8_programAt_0 rfl 1 rfl ?_
  refine z_if_lt (tgt := 22) B dX8_programAt_1 (by decide) (fun _ => ?_) (fun h => absurd (iv_lt q2_w1 (by decide)) h)
  refine z_null B dX8_programAt_22 ?_
  exact z_qret (r := none) B hr (by decide) (by decide) dX8_programAt_23 ⟨rfl, rfl⟩
set_option maxRecDepth 100000 in
set_option maxHeartbeats 4000000 in
theorem ci_X8_set_23 (l : Launch) (hlt : l.stackTraces = false) {g : gx_T} {σ : sx_T} {b : Nat} (hK : lay b σ) (w1 : Int32) (w2 : Int32) (w3 : Int32) (w4 : Int32) (w5 : Int32) (q1_w1 : (-2147483648 : Int) ≤ w1.toInt) (q2_w1 : w1.toInt ≤ (-1 : Int))  : vx_Met l yX8_set (.code yX8_set cX8_set 9 (some .int) :: lw_g) { frames := 7, cells := 1, slots := 6, locals := 136 } (va_Pc [.ref (b + 0), .int w1, .int w2, .int w3, .int w4, .int w5] (zx_w g σ)) (va_Qi (S := sx_T) (fun _ _ => False) (zx_w g) (gx_Q g)) (vx_X (fun u : sx_T => ∃ z, u = wx_Z σ z) (fun E u t => E = "java/lang/IndexOutOfBoundsException" ∧ zx_h g u t.heap) (gx_Q g)) 1 6 (gx_Q g) := by
  refine z_metX (by decide) (Nat.le_of_ble_eq_true rfl) (fun p e s m below meth c B hr hin hout => ?_)
  refine z_eqs (σ' := (ap b σ [] [] [])) rfl ?_
  show zx p l e _ s m _ below meth c g 9 0 0 _ _ 0 [(0, .ref (b + 0)), (1, .int w1), (2, .int w2), (3, .int w3), (4, .int w4), (5, .int w5)] []
  refine z_aload_n B dX8_set_0 rfl 0 rfl ?_
  refine z_iload_n B dX8_set_1 rfl 1 rfl ?_
  refine z_cVq (As := [.int w1]) (rest := []) B cw_X8_64 cx_9 dX8_set_2 (ci_X8_programAt_22 l (σ := (ap b σ [] [] [])) (b := b) (lyA hK) w1 q1_w1 q2_w1) (lKA (hk_K hK 0 rfl rfl)) rfl (by decide) rfl (Nat.le_of_ble_eq_true rfl) (by decide) (fun r u hu => ?_)
  refine z_eqs (σ' := (ap b σ [] [] [])) hu.2 ?_
  show zx p l e _ s m _ below meth c g 9 0 0 _ _ 5 [(0, .ref (b + 0)), (1, .int w1), (2, .int w2), (3, .int w3), (4, .int w4), (5, .int w5)] _
  refine z_setr (y := none) hu.1 ?_
  refine z_qstore (r := none) (lv' := [(6, .null), (0, .ref (b + 0)), (1, .int w1), (2, .int w2), (3, .int w3), (4, .int w4), (5, .int w5)]) B dX8_set_5 (by decide) rfl ?_
  refine z_qload (r := none) B dX8_set_7 0 rfl ?_
  refine z_ifnull (r := none) (tgt := 21) B dX8_set_9 (by decide) (fun _ => ?_) (fun a h => nomatch h)
  exact z_throw B hlt hout (cls := "java/lang/IndexOutOfBoundsException") (text := "no such step") tw_X8_72_74_76 dX8_set_21 dX8_set_24 dX8_set_25 dX8_set_27 dX8_set_30 (by decide) (by decide) (by decide) (by decide) (by decide) (by decide) (fun z => ⟨z, rfl⟩)
set_option maxRecDepth 100000 in
set_option maxHeartbeats 4000000 in
theorem ci_L_set_24 (l : Launch) (hlt : l.stackTraces = false) {g : gx_T} {σ : sx_T} {b : Nat} (hK : lay b σ) (w1 : Int32) (w2 : Int32) (w3 : Int32) (w4 : Int32) (w5 : Int32) (q1_w1 : (-2147483648 : Int) ≤ w1.toInt) (q2_w1 : w1.toInt ≤ (-1 : Int))  : Met l yL_set (.codeWith yL_set cL_set 8 (some .int) [(0, 16, 19, 13), (0, 16, 23, 15)] :: lw_g) { frames := 8, cells := 1, slots := 6, locals := 164 } (va_Pc [.ref (b + 0), .int w1, .int w2, .int w3, .int w4, .int w5, .ref (b + 431)] (zx_w g σ)) (va_Qi (fun r u => r = 1 ∧ ∃ z, u = (ap b (wx_Z σ z) [] [] [])) (zx_w g) (gx_Q g)) 1 6 (gx_Q g) := by
  refine z_metW (by decide) (Nat.le_of_ble_eq_true rfl) (fun p e s m below meth c B hr htab => ?_)
  refine z_eqs (σ' := (ap b σ [] [] [])) rfl ?_
  show zx p l e _ s m _ below meth c g 8 0 0 _ _ 0 [(0, .ref (b + 0)), (1, .int w1), (2, .int w2), (3, .int w3), (4, .int w4), (5, .int w5), (6, .ref (b + 431))] []
  refine z_aload B dL_set_0 6 rfl ?_
  refine z_iconst (v := 0) B dL_set_2 (by decide) ?_
  refine z_aload_n B dL_set_3 rfl 0 rfl ?_
  refine z_iload_n B dL_set_4 rfl 1 rfl ?_
  refine z_iload_n B dL_set_5 rfl 2 rfl ?_
  refine z_iload_n B dL_set_6 rfl 3 rfl ?_
  refine z_iload B dL_set_7 4 rfl ?_
  refine z_iload B dL_set_9 5 rfl ?_
  refine z_cXi (As := [.int w1, .int w2, .int w3, .int w4, .int w5]) (rest := [.int 0, .ref (b + 431)]) B htab tc_set_11_IndexOutOfBoundsException cw_L_7 cx_9 dL_set_11 (ci_X8_set_23 l hlt (σ := (ap b σ [] [] [])) (b := b) (lyA hK) w1 w2 w3 w4 w5 q1_w1 q2_w1) (lKA (hk_K hK 0 rfl rfl)) rfl (by decide) rfl (Nat.le_of_ble_eq_true rfl) (by decide) (fun z q => ?_)
  refine z_eqs (σ' := (ap b (wx_Z σ z) [] [] [])) rfl ?_
  show zx p l e _ s m _ below meth c g 8 _ _ _ _ 19 [(0, .ref (b + 0)), (1, .int w1), (2, .int w2), (3, .int w3), (4, .int w4), (5, .int w5), (6, .ref (b + 431))] _
  refine z_astore (lv' := [(7, .ref q), (0, .ref (b + 0)), (1, .int w1), (2, .int w2), (3, .int w3), (4, .int w4), (5, .int w5), (6, .ref (b + 431))]) B dL_set_19 (by decide) rfl ?_
  refine z_iconst (v := 1) B dL_set_21 (by decide) ?_
  exact z_iret B hr (by decide) (by decide) dL_set_22 ⟨rfl, _, rfl⟩
set_option maxRecDepth 100000 in
set_option maxHeartbeats 4000000 in
theorem ci_X9_in_25 (l : Launch) {g : gx_T} {σ : sx_T} {b : Nat} (hK : lay b σ) (w1 : Int32) (q1_w1 : (-2147483648 : Int) ≤ w1.toInt) (q2_w1 : w1.toInt ≤ (-1 : Int))  : Met l yX9_in (.code yX9_in cX9_in 3 (some .boolean) :: lw_g) { frames := 0, cells := 0, slots := 0, locals := 0 } (va_Pc [.int w1, .int 0, .int 5] (zx_w g σ)) (va_Qi (fun r u => r = 0 ∧ u = σ) (zx_w g) (gx_Q g)) 0 0 (gx_Q g) := by
  refine z_met (by decide) (Nat.le_of_ble_eq_true rfl) (fun p e s m below meth c B hr hin => ?_)
  refine z_eqs (σ' := (ap b σ [] [] [])) rfl ?_
  show zx p l e _ s m _ below meth c g 3 0 0 _ _ 0 [(0, .int w1), (1, .int 0), (2, .int 5)] []
  refine z_iload_n B dX9_in_0 rfl 0 rfl ?_
  refine z_iload_n B dX9_in_1 rfl 1 rfl ?_
  refine z_icmp_lt (tgt := 14) B dX9_in_2 (by decide) (fun _ => ?_) (fun h => absurd (iv_lt q2_w1 (by decide)) h)
  refine z_iconst (v := 0) B dX9_in_14 (by decide) ?_
  exact z_zret B hr (by decide) (by decide) (by decide) dX9_in_15 ⟨rfl, rfl⟩
set_option maxRecDepth 100000 in
set_option maxHeartbeats 4000000 in
theorem ci_X9_isStep_26 (l : Launch) {g : gx_T} {σ : sx_T} {b : Nat} (hK : lay b σ) (w1 : Int32) (w2 : Int32) (q1_w1 : (-2147483648 : Int) ≤ w1.toInt) (q2_w1 : w1.toInt ≤ (-1 : Int))  : Met l yX9_isStep (.code yX9_isStep cX9_isStep 2 (some .boolean) :: lw_g) { frames := 1, cells := 0, slots := 0, locals := 22 } (va_Pc [.int w1, .int w2] (zx_w g σ)) (va_Qi (fun r u => r = 0 ∧ u = σ) (zx_w g) (gx_Q g)) 0 0 (gx_Q g) := by
  refine z_met (by decide) (Nat.le_of_ble_eq_true rfl) (fun p e s m below meth c B hr hin => ?_)
  refine z_eqs (σ' := (ap b σ [] [] [])) rfl ?_
  show zx p l e _ s m _ below meth c g 2 0 0 _ _ 0 [(0, .int w1), (1, .int w2)] []
  refine z_iload_n B dX9_isStep_0 rfl 0 rfl ?_
  refine z_iconst (v := 0) B dX9_isStep_1 (by decide) ?_
  refine z_iconst (v := 5) B dX9_isStep_2 (by decide) ?_
  refine z_cSi (As := [.int w1, .int 0, .int 5]) (rest := []) B cw_X9_96 dX9_isStep_3 (ci_X9_in_25 l (σ := (ap b σ [] [] [])) (b := b) (lyA hK) w1 q1_w1 q2_w1) rfl (by decide) rfl (Nat.le_of_ble_eq_true rfl) (by decide) (fun r u hu => ?_)
  refine z_eqs (σ' := (ap b σ [] [] [])) hu.2 ?_
  show zx p l e _ s m _ below meth c g 2 0 0 _ _ 6 [(0, .int w1), (1, .int w2)] _
  refine z_seti (y := 0) hu.1 ?_
  refine z_if_eq (tgt := 23) B dX9_isStep_6 (by decide) (fun _ => ?_) (fun h => absurd (by decide) h)
  refine z_iconst (v := 0) B dX9_isStep_23 (by decide) ?_
  exact z_zret B hr (by decide) (by decide) (by decide) dX9_isStep_24 ⟨rfl, rfl⟩
set_option maxRecDepth 100000 in
set_option maxHeartbeats 4000000 in
theorem ci_X9_in_27 (l : Launch) {g : gx_T} {σ : sx_T} {b : Nat} (hK : lay b σ) (w1 : Int32) (q1_w1 : (-2147483648 : Int) ≤ w1.toInt) (q2_w1 : w1.toInt ≤ (-1 : Int))  : Met l yX9_in (.code yX9_in cX9_in 3 (some .boolean) :: lw_g) { frames := 0, cells := 0, slots := 0, locals := 0 } (va_Pc [.int w1, .int 0, .int 17] (zx_w g σ)) (va_Qi (fun r u => r = 0 ∧ u = σ) (zx_w g) (gx_Q g)) 0 0 (gx_Q g) := by
  refine z_met (by decide) (Nat.le_of_ble_eq_true rfl) (fun p e s m below meth c B hr hin => ?_)
  refine z_eqs (σ' := (ap b σ [] [] [])) rfl ?_
  show zx p l e _ s m _ below meth c g 3 0 0 _ _ 0 [(0, .int w1), (1, .int 0), (2, .int 17)] []
  refine z_iload_n B dX9_in_0 rfl 0 rfl ?_
  refine z_iload_n B dX9_in_1 rfl 1 rfl ?_
  refine z_icmp_lt (tgt := 14) B dX9_in_2 (by decide) (fun _ => ?_) (fun h => absurd (iv_lt q2_w1 (by decide)) h)
  refine z_iconst (v := 0) B dX9_in_14 (by decide) ?_
  exact z_zret B hr (by decide) (by decide) (by decide) dX9_in_15 ⟨rfl, rfl⟩
set_option maxRecDepth 100000 in
set_option maxHeartbeats 4000000 in
theorem ci_X9_isOperation_28 (l : Launch) {g : gx_T} {σ : sx_T} {b : Nat} (hK : lay b σ) (w1 : Int32) (w2 : Int32) (w3 : Int32) (q1_w1 : (-2147483648 : Int) ≤ w1.toInt) (q2_w1 : w1.toInt ≤ (-1 : Int))  : Met l yX9_isOperation (.code yX9_isOperation cX9_isOperation 3 (some .boolean) :: lw_g) { frames := 1, cells := 0, slots := 0, locals := 22 } (va_Pc [.int w1, .int w2, .int w3] (zx_w g σ)) (va_Qi (fun r u => r = 0 ∧ u = σ) (zx_w g) (gx_Q g)) 0 0 (gx_Q g) := by
  refine z_met (by decide) (Nat.le_of_ble_eq_true rfl) (fun p e s m below meth c B hr hin => ?_)
  refine z_eqs (σ' := (ap b σ [] [] [])) rfl ?_
  show zx p l e _ s m _ below meth c g 3 0 0 _ _ 0 [(0, .int w1), (1, .int w2), (2, .int w3)] []
  refine z_iload_n B dX9_isOperation_0 rfl 0 rfl ?_
  refine z_iconst (v := 0) B dX9_isOperation_1 (by decide) ?_
  refine z_bipush (v := 17) B dX9_isOperation_2 (by decide) ?_
  refine z_cSi (As := [.int w1, .int 0, .int 17]) (rest := []) B cw_X9_96 dX9_isOperation_4 (ci_X9_in_27 l (σ := (ap b σ [] [] [])) (b := b) (lyA hK) w1 q1_w1 q2_w1) rfl (by decide) rfl (Nat.le_of_ble_eq_true rfl) (by decide) (fun r u hu => ?_)
  refine z_eqs (σ' := (ap b σ [] [] [])) hu.2 ?_
  show zx p l e _ s m _ below meth c g 3 0 0 _ _ 7 [(0, .int w1), (1, .int w2), (2, .int w3)] _
  refine z_seti (y := 0) hu.1 ?_
  refine z_if_eq (tgt := 34) B dX9_isOperation_7 (by decide) (fun _ => ?_) (fun h => absurd (by decide) h)
  refine z_iconst (v := 0) B dX9_isOperation_34 (by decide) ?_
  exact z_zret B hr (by decide) (by decide) (by decide) dX9_isOperation_35 ⟨rfl, rfl⟩
set_option maxRecDepth 100000 in
set_option maxHeartbeats 4000000 in
theorem ci_X9_needs__29 (l : Launch) {g : gx_T} {σ : sx_T} {b : Nat} (hK : lay b σ)    : Met l yX9_needs_ (.code yX9_needs_ cX9_needs_ 3 (some .boolean) :: lw_g) { frames := 0, cells := 0, slots := 0, locals := 0 } (va_Pc [.ref (b + 405), .int 0, .int 0] (zx_w g σ)) (va_Qi (fun r u => r = 0 ∧ u = (ap b σ [(405, 0, 1)] [] [])) (zx_w g) (gx_Q g)) 0 0 (gx_Q g) := by
  refine z_met (by decide) (Nat.le_of_ble_eq_true rfl) (fun p e s m below meth c B hr hin => ?_)
  refine z_eqs (σ' := (ap b σ [] [] [])) rfl ?_
  show zx p l e _ s m _ below meth c g 3 0 0 _ _ 0 [(0, .ref (b + 405)), (1, .int 0), (2, .int 0)] []
  refine z_aload_n B dX9_needs__0 rfl 0 rfl ?_
  refine z_iload_n B dX9_needs__1 rfl 1 rfl ?_
  refine z_if_ne (tgt := 9) B dX9_needs__2 (by decide) (fun h => absurd (by decide) h) (fun _ => ?_)
  refine z_iconst (v := 1) B dX9_needs__5 (by decide) ?_
  refine z_goto (tgt := 18) B dX9_needs__6 (by decide) ?_
  refine pf_X9_90 (x := 1) (σ' := (ap b σ [(405, 0, 1)] [] [])) B (lKA (hk_K hK 405 rfl rfl)) wI_ap dX9_needs__18 ?_
  refine z_aload_n B dX9_needs__21 rfl 0 rfl ?_
  refine gf_X9_90 (x := 1) B (lKA (hk_K hK 405 rfl rfl)) (rI_at 405 0 rfl) dX9_needs__22 ?_
  refine z_if_ne (tgt := 32) B dX9_needs__25 (by decide) (fun _ => ?_) (fun h => absurd h (by decide))
  refine z_iconst (v := 0) B dX9_needs__32 (by decide) ?_
  exact z_zret B hr (by decide) (by decide) (by decide) dX9_needs__33 ⟨rfl, rfl⟩
set_option maxRecDepth 100000 in
set_option maxHeartbeats 4000000 in
theorem ci_X9_set_30 (l : Launch) {g : gx_T} {σ : sx_T} {b : Nat} (hK : lay b σ) (w1 : Int32) (w2 : Int32) (w3 : Int32) (w4 : Int32) (w5 : Int32) (q1_w1 : (-2147483648 : Int) ≤ w1.toInt) (q2_w1 : w1.toInt ≤ (-1 : Int)) (q1_w3 : (-2147483648 : Int) ≤ w3.toInt) (q2_w3 : w3.toInt ≤ (-1 : Int))  : Met l yX9_set (.code yX9_set cX9_set 7 (some .int) :: lw_g) { frames := 2, cells := 0, slots := 0, locals := 44 } (va_Pc [.ref (b + 405), .int w1, .int w2, .int w3, .int w4, .int w5] (zx_w g σ)) (va_Qi (fun r u => r = 0 ∧ u = (ap b σ [(405, 0, 1)] [] [])) (zx_w g) (gx_Q g)) 0 0 (gx_Q g) := by
  refine z_met (by decide) (Nat.le_of_ble_eq_true rfl) (fun p e s m below meth c B hr hin => ?_)
  refine z_eqs (σ' := (ap b σ [] [] [])) rfl ?_
  show zx p l e _ s m _ below meth c g 7 0 0 _ _ 0 [(0, .ref (b + 405)), (1, .int w1), (2, .int w2), (3, .int w3), (4, .int w4), (5, .int w5)] []
  refine z_aload_n B dX9_set_0 rfl 0 rfl ?_
  refine z_iload_n B dX9_set_1 rfl 1 rfl ?_
  refine z_iload_n B dX9_set_2 rfl 2 rfl ?_
  refine z_cSi (As := [.int w1, .int w2]) (rest := [.ref (b + 405)]) B cw_X9_238 dX9_set_3 (ci_X9_isStep_26 l (σ := (ap b σ [] [] [])) (b := b) (lyA hK) w1 w2 q1_w1 q2_w1) rfl (by decide) rfl (Nat.le_of_ble_eq_true rfl) (by decide) (fun r u hu => ?_)
  refine z_eqs (σ' := (ap b σ [] [] [])) hu.2 ?_
  show zx p l e _ s m _ below meth c g 7 0 0 _ _ 6 [(0, .ref (b + 405)), (1, .int w1), (2, .int w2), (3, .int w3), (4, .int w4), (5, .int w5)] _
  refine z_seti (y := 0) hu.1 ?_
  refine z_iload_n B dX9_set_6 rfl 3 rfl ?_
  refine z_iload B dX9_set_7 4 rfl ?_
  refine z_iload B dX9_set_9 5 rfl ?_
  refine z_cSi (As := [.int w3, .int w4, .int w5]) (rest := [.int 0, .ref (b + 405)]) B cw_X9_242 dX9_set_11 (ci_X9_isOperation_28 l (σ := (ap b σ [] [] [])) (b := b) (lyA hK) w3 w4 w5 q1_w3 q2_w3) rfl (by decide) rfl (Nat.le_of_ble_eq_true rfl) (by decide) (fun r u hu => ?_)
  refine z_eqs (σ' := (ap b σ [] [] [])) hu.2 ?_
  show zx p l e _ s m _ below meth c g 7 0 0 _ _ 14 [(0, .ref (b + 405)), (1, .int w1), (2, .int w2), (3, .int w3), (4, .int w4), (5, .int w5)] _
  refine z_seti (y := 0) hu.1 ?_
  refine z_cVi (As := [.int 0, .int 0]) (rest := []) B cw_X9_245 cx_10 dX9_set_14 (ci_X9_needs__29 l (σ := (ap b σ [] [] [])) (b := b) (lyA hK) ) (lKA (hk_K hK 405 rfl rfl)) rfl (by decide) rfl (Nat.le_of_ble_eq_true rfl) (by decide) (fun r u hu => ?_)
  refine z_eqs (σ' := (ap b σ [(405, 0, 1)] [] [])) (hu.2.trans ap_ap) ?_
  show zx p l e _ s m _ below meth c g 7 0 0 _ _ 17 [(0, .ref (b + 405)), (1, .int w1), (2, .int w2), (3, .int w3), (4, .int w4), (5, .int w5)] _
  refine z_seti (y := 0) hu.1 ?_
  refine z_if_ne (tgt := 22) B dX9_set_17 (by decide) (fun h => absurd (by decide) h) (fun _ => ?_)
  refine z_iconst (v := 0) B dX9_set_20 (by decide) ?_
  exact z_iret B hr (by decide) (by decide) dX9_set_21 ⟨rfl, rfl⟩
set_option maxRecDepth 100000 in
set_option maxHeartbeats 4000000 in
theorem ci_X9_thrown_31 (l : Launch) {g : gx_T} {σ : sx_T} {b : Nat} (hK : lay b σ)   (hI_405_0 : sx_I σ (b + 405) 0 = 1) : Met l yX9_thrown (.code yX9_thrown cX9_thrown 1 (some .int) :: lw_g) { frames := 0, cells := 0, slots := 0, locals := 0 } (va_Pc [.ref (b + 405)] (zx_w g σ)) (va_Qi (fun r u => r = 1 ∧ u = σ) (zx_w g) (gx_Q g)) 0 0 (gx_Q g) := by
  refine z_met (by decide) (Nat.le_of_ble_eq_true rfl) (fun p e s m below meth c B hr hin => ?_)
  refine z_eqs (σ' := (ap b σ [] [] [])) rfl ?_
  show zx p l e _ s m _ below meth c g 1 0 0 _ _ 0 [(0, .ref (b + 405))] []
  refine z_aload_n B dX9_thrown_0 rfl 0 rfl ?_
  refine gf_X9_90 (x := 1) B (lKA (hk_K hK 405 rfl rfl)) (rI_at 405 0 hI_405_0) dX9_thrown_1 ?_
  exact z_iret B hr (by decide) (by decide) dX9_thrown_4 ⟨rfl, rfl⟩
set_option maxRecDepth 100000 in
set_option maxHeartbeats 4000000 in
theorem ci_X9_in_32 (l : Launch) {g : gx_T} {σ : sx_T} {b : Nat} (hK : lay b σ) (w1 : Int32) (q1_w1 : (0 : Int) ≤ w1.toInt) (q2_w1 : w1.toInt ≤ (17 : Int))  : Met l yX9_in (.code yX9_in cX9_in 3 (some .boolean) :: lw_g) { frames := 0, cells := 0, slots := 0, locals := 0 } (va_Pc [.int w1, .int 0, .int 17] (zx_w g σ)) (va_Qi (fun r u => r = 1 ∧ u = σ) (zx_w g) (gx_Q g)) 0 0 (gx_Q g) := by
  refine z_met (by decide) (Nat.le_of_ble_eq_true rfl) (fun p e s m below meth c B hr hin => ?_)
  refine z_eqs (σ' := (ap b σ [] [] [])) rfl ?_
  show zx p l e _ s m _ below meth c g 3 0 0 _ _ 0 [(0, .int w1), (1, .int 0), (2, .int 17)] []
  refine z_iload_n B dX9_in_0 rfl 0 rfl ?_
  refine z_iload_n B dX9_in_1 rfl 1 rfl ?_
  refine z_icmp_lt (tgt := 14) B dX9_in_2 (by decide) (fun h => absurd h (iv_nlt q1_w1 (by decide))) (fun _ => ?_)
  refine z_iload_n B dX9_in_5 rfl 0 rfl ?_
  refine z_iload_n B dX9_in_6 rfl 2 rfl ?_
  refine z_icmp_gt (tgt := 14) B dX9_in_7 (by decide) (fun h => absurd h (iv_ngt q2_w1 (by decide))) (fun _ => ?_)
  refine z_iconst (v := 1) B dX9_in_10 (by decide) ?_
  refine z_goto (tgt := 15) B dX9_in_11 (by decide) ?_
  exact z_zret B hr (by decide) (by decide) (by decide) dX9_in_15 ⟨rfl, rfl⟩
set_option maxRecDepth 100000 in
set_option maxHeartbeats 4000000 in
theorem ci_X9_in_33 (l : Launch) {g : gx_T} {σ : sx_T} {b : Nat} (hK : lay b σ) (w1 : Int32) (q1_w1 : (-2147483648 : Int) ≤ w1.toInt) (q2_w1 : w1.toInt ≤ (-1 : Int))  : Met l yX9_in (.code yX9_in cX9_in 3 (some .boolean) :: lw_g) { frames := 0, cells := 0, slots := 0, locals := 0 } (va_Pc [.int w1, .int 0, .int 99] (zx_w g σ)) (va_Qi (fun r u => r = 0 ∧ u = σ) (zx_w g) (gx_Q g)) 0 0 (gx_Q g) := by
  refine z_met (by decide) (Nat.le_of_ble_eq_true rfl) (fun p e s m below meth c B hr hin => ?_)
  refine z_eqs (σ' := (ap b σ [] [] [])) rfl ?_
  show zx p l e _ s m _ below meth c g 3 0 0 _ _ 0 [(0, .int w1), (1, .int 0), (2, .int 99)] []
  refine z_iload_n B dX9_in_0 rfl 0 rfl ?_
  refine z_iload_n B dX9_in_1 rfl 1 rfl ?_
  refine z_icmp_lt (tgt := 14) B dX9_in_2 (by decide) (fun _ => ?_) (fun h => absurd (iv_lt q2_w1 (by decide)) h)
  refine z_iconst (v := 0) B dX9_in_14 (by decide) ?_
  exact z_zret B hr (by decide) (by decide) (by decide) dX9_in_15 ⟨rfl, rfl⟩
set_option maxRecDepth 100000 in
set_option maxHeartbeats 4000000 in
theorem ci_X9_isOperation_34 (l : Launch) {g : gx_T} {σ : sx_T} {b : Nat} (hK : lay b σ) (w1 : Int32) (w2 : Int32) (w3 : Int32) (q1_w1 : (0 : Int) ≤ w1.toInt) (q2_w1 : w1.toInt ≤ (17 : Int)) (q1_w2 : (-2147483648 : Int) ≤ w2.toInt) (q2_w2 : w2.toInt ≤ (-1 : Int))  : Met l yX9_isOperation (.code yX9_isOperation cX9_isOperation 3 (some .boolean) :: lw_g) { frames := 1, cells := 0, slots := 0, locals := 22 } (va_Pc [.int w1, .int w2, .int w3] (zx_w g σ)) (va_Qi (fun r u => r = 0 ∧ u = σ) (zx_w g) (gx_Q g)) 0 0 (gx_Q g) := by
  refine z_met (by decide) (Nat.le_of_ble_eq_true rfl) (fun p e s m below meth c B hr hin => ?_)
  refine z_eqs (σ' := (ap b σ [] [] [])) rfl ?_
  show zx p l e _ s m _ below meth c g 3 0 0 _ _ 0 [(0, .int w1), (1, .int w2), (2, .int w3)] []
  refine z_iload_n B dX9_isOperation_0 rfl 0 rfl ?_
  refine z_iconst (v := 0) B dX9_isOperation_1 (by decide) ?_
  refine z_bipush (v := 17) B dX9_isOperation_2 (by decide) ?_
  refine z_cSi (As := [.int w1, .int 0, .int 17]) (rest := []) B cw_X9_96 dX9_isOperation_4 (ci_X9_in_32 l (σ := (ap b σ [] [] [])) (b := b) (lyA hK) w1 q1_w1 q2_w1) rfl (by decide) rfl (Nat.le_of_ble_eq_true rfl) (by decide) (fun r u hu => ?_)
  refine z_eqs (σ' := (ap b σ [] [] [])) hu.2 ?_
  show zx p l e _ s m _ below meth c g 3 0 0 _ _ 7 [(0, .int w1), (1, .int w2), (2, .int w3)] _
  refine z_seti (y := 1) hu.1 ?_
  refine z_if_eq (tgt := 34) B dX9_isOperation_7 (by decide) (fun h => absurd h (by decide)) (fun _ => ?_)
  refine z_iload_n B dX9_isOperation_10 rfl 1 rfl ?_
  refine z_iconst (v := 0) B dX9_isOperation_11 (by decide) ?_
  refine z_bipush (v := 99) B dX9_isOperation_12 (by decide) ?_
  refine z_cSi (As := [.int w2, .int 0, .int 99]) (rest := []) B cw_X9_96 dX9_isOperation_14 (ci_X9_in_33 l (σ := (ap b σ [] [] [])) (b := b) (lyA hK) w2 q1_w2 q2_w2) rfl (by decide) rfl (Nat.le_of_ble_eq_true rfl) (by decide) (fun r u hu => ?_)
  refine z_eqs (σ' := (ap b σ [] [] [])) hu.2 ?_
  show zx p l e _ s m _ below meth c g 3 0 0 _ _ 17 [(0, .int w1), (1, .int w2), (2, .int w3)] _
  refine z_seti (y := 0) hu.1 ?_
  refine z_if_eq (tgt := 34) B dX9_isOperation_17 (by decide) (fun _ => ?_) (fun h => absurd (by decide) h)
  refine z_iconst (v := 0) B dX9_isOperation_34 (by decide) ?_
  exact z_zret B hr (by decide) (by decide) (by decide) dX9_isOperation_35 ⟨rfl, rfl⟩
set_option maxRecDepth 100000 in
set_option maxHeartbeats 4000000 in
theorem ci_X9_set_35 (l : Launch) {g : gx_T} {σ : sx_T} {b : Nat} (hK : lay b σ) (w1 : Int32) (w2 : Int32) (w3 : Int32) (w4 : Int32) (w5 : Int32) (q1_w1 : (-2147483648 : Int) ≤ w1.toInt) (q2_w1 : w1.toInt ≤ (-1 : Int)) (q1_w3 : (0 : Int) ≤ w3.toInt) (q2_w3 : w3.toInt ≤ (17 : Int)) (q1_w4 : (-2147483648 : Int) ≤ w4.toInt) (q2_w4 : w4.toInt ≤ (-1 : Int))  : Met l yX9_set (.code yX9_set cX9_set 7 (some .int) :: lw_g) { frames := 2, cells := 0, slots := 0, locals := 44 } (va_Pc [.ref (b + 405), .int w1, .int w2, .int w3, .int w4, .int w5] (zx_w g σ)) (va_Qi (fun r u => r = 0 ∧ u = (ap b σ [(405, 0, 1)] [] [])) (zx_w g) (gx_Q g)) 0 0 (gx_Q g) := by
  refine z_met (by decide) (Nat.le_of_ble_eq_true rfl) (fun p e s m below meth c B hr hin => ?_)
  refine z_eqs (σ' := (ap b σ [] [] [])) rfl ?_
  show zx p l e _ s m _ below meth c g 7 0 0 _ _ 0 [(0, .ref (b + 405)), (1, .int w1), (2, .int w2), (3, .int w3), (4, .int w4), (5, .int w5)] []
  refine z_aload_n B dX9_set_0 rfl 0 rfl ?_
  refine z_iload_n B dX9_set_1 rfl 1 rfl ?_
  refine z_iload_n B dX9_set_2 rfl 2 rfl ?_
  refine z_cSi (As := [.int w1, .int w2]) (rest := [.ref (b + 405)]) B cw_X9_238 dX9_set_3 (ci_X9_isStep_26 l (σ := (ap b σ [] [] [])) (b := b) (lyA hK) w1 w2 q1_w1 q2_w1) rfl (by decide) rfl (Nat.le_of_ble_eq_true rfl) (by decide) (fun r u hu => ?_)
  refine z_eqs (σ' := (ap b σ [] [] [])) hu.2 ?_
  show zx p l e _ s m _ below meth c g 7 0 0 _ _ 6 [(0, .ref (b + 405)), (1, .int w1), (2, .int w2), (3, .int w3), (4, .int w4), (5, .int w5)] _
  refine z_seti (y := 0) hu.1 ?_
  refine z_iload_n B dX9_set_6 rfl 3 rfl ?_
  refine z_iload B dX9_set_7 4 rfl ?_
  refine z_iload B dX9_set_9 5 rfl ?_
  refine z_cSi (As := [.int w3, .int w4, .int w5]) (rest := [.int 0, .ref (b + 405)]) B cw_X9_242 dX9_set_11 (ci_X9_isOperation_34 l (σ := (ap b σ [] [] [])) (b := b) (lyA hK) w3 w4 w5 q1_w3 q2_w3 q1_w4 q2_w4) rfl (by decide) rfl (Nat.le_of_ble_eq_true rfl) (by decide) (fun r u hu => ?_)
  refine z_eqs (σ' := (ap b σ [] [] [])) hu.2 ?_
  show zx p l e _ s m _ below meth c g 7 0 0 _ _ 14 [(0, .ref (b + 405)), (1, .int w1), (2, .int w2), (3, .int w3), (4, .int w4), (5, .int w5)] _
  refine z_seti (y := 0) hu.1 ?_
  refine z_cVi (As := [.int 0, .int 0]) (rest := []) B cw_X9_245 cx_10 dX9_set_14 (ci_X9_needs__29 l (σ := (ap b σ [] [] [])) (b := b) (lyA hK) ) (lKA (hk_K hK 405 rfl rfl)) rfl (by decide) rfl (Nat.le_of_ble_eq_true rfl) (by decide) (fun r u hu => ?_)
  refine z_eqs (σ' := (ap b σ [(405, 0, 1)] [] [])) (hu.2.trans ap_ap) ?_
  show zx p l e _ s m _ below meth c g 7 0 0 _ _ 17 [(0, .ref (b + 405)), (1, .int w1), (2, .int w2), (3, .int w3), (4, .int w4), (5, .int w5)] _
  refine z_seti (y := 0) hu.1 ?_
  refine z_if_ne (tgt := 22) B dX9_set_17 (by decide) (fun h => absurd (by decide) h) (fun _ => ?_)
  refine z_iconst (v := 0) B dX9_set_20 (by decide) ?_
  exact z_iret B hr (by decide) (by decide) dX9_set_21 ⟨rfl, rfl⟩
set_option maxRecDepth 100000 in
set_option maxHeartbeats 4000000 in
theorem ci_X9_in_36 (l : Launch) {g : gx_T} {σ : sx_T} {b : Nat} (hK : lay b σ) (w1 : Int32) (q1_w1 : (0 : Int) ≤ w1.toInt) (q2_w1 : w1.toInt ≤ (99 : Int))  : Met l yX9_in (.code yX9_in cX9_in 3 (some .boolean) :: lw_g) { frames := 0, cells := 0, slots := 0, locals := 0 } (va_Pc [.int w1, .int 0, .int 99] (zx_w g σ)) (va_Qi (fun r u => r = 1 ∧ u = σ) (zx_w g) (gx_Q g)) 0 0 (gx_Q g) := by
  refine z_met (by decide) (Nat.le_of_ble_eq_true rfl) (fun p e s m below meth c B hr hin => ?_)
  refine z_eqs (σ' := (ap b σ [] [] [])) rfl ?_
  show zx p l e _ s m _ below meth c g 3 0 0 _ _ 0 [(0, .int w1), (1, .int 0), (2, .int 99)] []
  refine z_iload_n B dX9_in_0 rfl 0 rfl ?_
  refine z_iload_n B dX9_in_1 rfl 1 rfl ?_
  refine z_icmp_lt (tgt := 14) B dX9_in_2 (by decide) (fun h => absurd h (iv_nlt q1_w1 (by decide))) (fun _ => ?_)
  refine z_iload_n B dX9_in_5 rfl 0 rfl ?_
  refine z_iload_n B dX9_in_6 rfl 2 rfl ?_
  refine z_icmp_gt (tgt := 14) B dX9_in_7 (by decide) (fun h => absurd h (iv_ngt q2_w1 (by decide))) (fun _ => ?_)
  refine z_iconst (v := 1) B dX9_in_10 (by decide) ?_
  refine z_goto (tgt := 15) B dX9_in_11 (by decide) ?_
  exact z_zret B hr (by decide) (by decide) (by decide) dX9_in_15 ⟨rfl, rfl⟩
set_option maxRecDepth 100000 in
set_option maxHeartbeats 4000000 in
theorem ci_X9_isOperation_37 (l : Launch) {g : gx_T} {σ : sx_T} {b : Nat} (hK : lay b σ) (w1 : Int32) (w2 : Int32) (w3 : Int32) (q1_w1 : (0 : Int) ≤ w1.toInt) (q2_w1 : w1.toInt ≤ (17 : Int)) (q1_w2 : (0 : Int) ≤ w2.toInt) (q2_w2 : w2.toInt ≤ (99 : Int)) (q1_w3 : (-2147483648 : Int) ≤ w3.toInt) (q2_w3 : w3.toInt ≤ (-1 : Int))  : Met l yX9_isOperation (.code yX9_isOperation cX9_isOperation 3 (some .boolean) :: lw_g) { frames := 1, cells := 0, slots := 0, locals := 22 } (va_Pc [.int w1, .int w2, .int w3] (zx_w g σ)) (va_Qi (fun r u => r = 0 ∧ u = σ) (zx_w g) (gx_Q g)) 0 0 (gx_Q g) := by
  refine z_met (by decide) (Nat.le_of_ble_eq_true rfl) (fun p e s m below meth c B hr hin => ?_)
  refine z_eqs (σ' := (ap b σ [] [] [])) rfl ?_
  show zx p l e _ s m _ below meth c g 3 0 0 _ _ 0 [(0, .int w1), (1, .int w2), (2, .int w3)] []
  refine z_iload_n B dX9_isOperation_0 rfl 0 rfl ?_
  refine z_iconst (v := 0) B dX9_isOperation_1 (by decide) ?_
  refine z_bipush (v := 17) B dX9_isOperation_2 (by decide) ?_
  refine z_cSi (As := [.int w1, .int 0, .int 17]) (rest := []) B cw_X9_96 dX9_isOperation_4 (ci_X9_in_32 l (σ := (ap b σ [] [] [])) (b := b) (lyA hK) w1 q1_w1 q2_w1) rfl (by decide) rfl (Nat.le_of_ble_eq_true rfl) (by decide) (fun r u hu => ?_)
  refine z_eqs (σ' := (ap b σ [] [] [])) hu.2 ?_
  show zx p l e _ s m _ below meth c g 3 0 0 _ _ 7 [(0, .int w1), (1, .int w2), (2, .int w3)] _
  refine z_seti (y := 1) hu.1 ?_
  refine z_if_eq (tgt := 34) B dX9_isOperation_7 (by decide) (fun h => absurd h (by decide)) (fun _ => ?_)
  refine z_iload_n B dX9_isOperation_10 rfl 1 rfl ?_
  refine z_iconst (v := 0) B dX9_isOperation_11 (by decide) ?_
  refine z_bipush (v := 99) B dX9_isOperation_12 (by decide) ?_
  refine z_cSi (As := [.int w2, .int 0, .int 99]) (rest := []) B cw_X9_96 dX9_isOperation_14 (ci_X9_in_36 l (σ := (ap b σ [] [] [])) (b := b) (lyA hK) w2 q1_w2 q2_w2) rfl (by decide) rfl (Nat.le_of_ble_eq_true rfl) (by decide) (fun r u hu => ?_)
  refine z_eqs (σ' := (ap b σ [] [] [])) hu.2 ?_
  show zx p l e _ s m _ below meth c g 3 0 0 _ _ 17 [(0, .int w1), (1, .int w2), (2, .int w3)] _
  refine z_seti (y := 1) hu.1 ?_
  refine z_if_eq (tgt := 34) B dX9_isOperation_17 (by decide) (fun h => absurd h (by decide)) (fun _ => ?_)
  refine z_iload_n B dX9_isOperation_20 rfl 2 rfl ?_
  refine z_iconst (v := 0) B dX9_isOperation_21 (by decide) ?_
  refine z_bipush (v := 99) B dX9_isOperation_22 (by decide) ?_
  refine z_cSi (As := [.int w3, .int 0, .int 99]) (rest := []) B cw_X9_96 dX9_isOperation_24 (ci_X9_in_33 l (σ := (ap b σ [] [] [])) (b := b) (lyA hK) w3 q1_w3 q2_w3) rfl (by decide) rfl (Nat.le_of_ble_eq_true rfl) (by decide) (fun r u hu => ?_)
  refine z_eqs (σ' := (ap b σ [] [] [])) hu.2 ?_
  show zx p l e _ s m _ below meth c g 3 0 0 _ _ 27 [(0, .int w1), (1, .int w2), (2, .int w3)] _
  refine z_seti (y := 0) hu.1 ?_
  refine z_if_eq (tgt := 34) B dX9_isOperation_27 (by decide) (fun _ => ?_) (fun h => absurd (by decide) h)
  refine z_iconst (v := 0) B dX9_isOperation_34 (by decide) ?_
  exact z_zret B hr (by decide) (by decide) (by decide) dX9_isOperation_35 ⟨rfl, rfl⟩
set_option maxRecDepth 100000 in
set_option maxHeartbeats 4000000 in
theorem ci_X9_set_38 (l : Launch) {g : gx_T} {σ : sx_T} {b : Nat} (hK : lay b σ) (w1 : Int32) (w2 : Int32) (w3 : Int32) (w4 : Int32) (w5 : Int32) (q1_w1 : (-2147483648 : Int) ≤ w1.toInt) (q2_w1 : w1.toInt ≤ (-1 : Int)) (q1_w3 : (0 : Int) ≤ w3.toInt) (q2_w3 : w3.toInt ≤ (17 : Int)) (q1_w4 : (0 : Int) ≤ w4.toInt) (q2_w4 : w4.toInt ≤ (99 : Int)) (q1_w5 : (-2147483648 : Int) ≤ w5.toInt) (q2_w5 : w5.toInt ≤ (-1 : Int))  : Met l yX9_set (.code yX9_set cX9_set 7 (some .int) :: lw_g) { frames := 2, cells := 0, slots := 0, locals := 44 } (va_Pc [.ref (b + 405), .int w1, .int w2, .int w3, .int w4, .int w5] (zx_w g σ)) (va_Qi (fun r u => r = 0 ∧ u = (ap b σ [(405, 0, 1)] [] [])) (zx_w g) (gx_Q g)) 0 0 (gx_Q g) := by
  refine z_met (by decide) (Nat.le_of_ble_eq_true rfl) (fun p e s m below meth c B hr hin => ?_)
  refine z_eqs (σ' := (ap b σ [] [] [])) rfl ?_
  show zx p l e _ s m _ below meth c g 7 0 0 _ _ 0 [(0, .ref (b + 405)), (1, .int w1), (2, .int w2), (3, .int w3), (4, .int w4), (5, .int w5)] []
  refine z_aload_n B dX9_set_0 rfl 0 rfl ?_
  refine z_iload_n B dX9_set_1 rfl 1 rfl ?_
  refine z_iload_n B dX9_set_2 rfl 2 rfl ?_
  refine z_cSi (As := [.int w1, .int w2]) (rest := [.ref (b + 405)]) B cw_X9_238 dX9_set_3 (ci_X9_isStep_26 l (σ := (ap b σ [] [] [])) (b := b) (lyA hK) w1 w2 q1_w1 q2_w1) rfl (by decide) rfl (Nat.le_of_ble_eq_true rfl) (by decide) (fun r u hu => ?_)
  refine z_eqs (σ' := (ap b σ [] [] [])) hu.2 ?_
  show zx p l e _ s m _ below meth c g 7 0 0 _ _ 6 [(0, .ref (b + 405)), (1, .int w1), (2, .int w2), (3, .int w3), (4, .int w4), (5, .int w5)] _
  refine z_seti (y := 0) hu.1 ?_
  refine z_iload_n B dX9_set_6 rfl 3 rfl ?_
  refine z_iload B dX9_set_7 4 rfl ?_
  refine z_iload B dX9_set_9 5 rfl ?_
  refine z_cSi (As := [.int w3, .int w4, .int w5]) (rest := [.int 0, .ref (b + 405)]) B cw_X9_242 dX9_set_11 (ci_X9_isOperation_37 l (σ := (ap b σ [] [] [])) (b := b) (lyA hK) w3 w4 w5 q1_w3 q2_w3 q1_w4 q2_w4 q1_w5 q2_w5) rfl (by decide) rfl (Nat.le_of_ble_eq_true rfl) (by decide) (fun r u hu => ?_)
  refine z_eqs (σ' := (ap b σ [] [] [])) hu.2 ?_
  show zx p l e _ s m _ below meth c g 7 0 0 _ _ 14 [(0, .ref (b + 405)), (1, .int w1), (2, .int w2), (3, .int w3), (4, .int w4), (5, .int w5)] _
  refine z_seti (y := 0) hu.1 ?_
  refine z_cVi (As := [.int 0, .int 0]) (rest := []) B cw_X9_245 cx_10 dX9_set_14 (ci_X9_needs__29 l (σ := (ap b σ [] [] [])) (b := b) (lyA hK) ) (lKA (hk_K hK 405 rfl rfl)) rfl (by decide) rfl (Nat.le_of_ble_eq_true rfl) (by decide) (fun r u hu => ?_)
  refine z_eqs (σ' := (ap b σ [(405, 0, 1)] [] [])) (hu.2.trans ap_ap) ?_
  show zx p l e _ s m _ below meth c g 7 0 0 _ _ 17 [(0, .ref (b + 405)), (1, .int w1), (2, .int w2), (3, .int w3), (4, .int w4), (5, .int w5)] _
  refine z_seti (y := 0) hu.1 ?_
  refine z_if_ne (tgt := 22) B dX9_set_17 (by decide) (fun h => absurd (by decide) h) (fun _ => ?_)
  refine z_iconst (v := 0) B dX9_set_20 (by decide) ?_
  exact z_iret B hr (by decide) (by decide) dX9_set_21 ⟨rfl, rfl⟩
set_option maxRecDepth 100000 in
set_option maxHeartbeats 4000000 in
theorem ci_X9_isOperation_39 (l : Launch) {g : gx_T} {σ : sx_T} {b : Nat} (hK : lay b σ) (w1 : Int32) (w2 : Int32) (w3 : Int32) (q1_w1 : (0 : Int) ≤ w1.toInt) (q2_w1 : w1.toInt ≤ (17 : Int)) (q1_w2 : (0 : Int) ≤ w2.toInt) (q2_w2 : w2.toInt ≤ (99 : Int)) (q1_w3 : (0 : Int) ≤ w3.toInt) (q2_w3 : w3.toInt ≤ (99 : Int))  : Met l yX9_isOperation (.code yX9_isOperation cX9_isOperation 3 (some .boolean) :: lw_g) { frames := 1, cells := 0, slots := 0, locals := 22 } (va_Pc [.int w1, .int w2, .int w3] (zx_w g σ)) (va_Qi (fun r u => r = 1 ∧ u = σ) (zx_w g) (gx_Q g)) 0 0 (gx_Q g) := by
  refine z_met (by decide) (Nat.le_of_ble_eq_true rfl) (fun p e s m below meth c B hr hin => ?_)
  refine z_eqs (σ' := (ap b σ [] [] [])) rfl ?_
  show zx p l e _ s m _ below meth c g 3 0 0 _ _ 0 [(0, .int w1), (1, .int w2), (2, .int w3)] []
  refine z_iload_n B dX9_isOperation_0 rfl 0 rfl ?_
  refine z_iconst (v := 0) B dX9_isOperation_1 (by decide) ?_
  refine z_bipush (v := 17) B dX9_isOperation_2 (by decide) ?_
  refine z_cSi (As := [.int w1, .int 0, .int 17]) (rest := []) B cw_X9_96 dX9_isOperation_4 (ci_X9_in_32 l (σ := (ap b σ [] [] [])) (b := b) (lyA hK) w1 q1_w1 q2_w1) rfl (by decide) rfl (Nat.le_of_ble_eq_true rfl) (by decide) (fun r u hu => ?_)
  refine z_eqs (σ' := (ap b σ [] [] [])) hu.2 ?_
  show zx p l e _ s m _ below meth c g 3 0 0 _ _ 7 [(0, .int w1), (1, .int w2), (2, .int w3)] _
  refine z_seti (y := 1) hu.1 ?_
  refine z_if_eq (tgt := 34) B dX9_isOperation_7 (by decide) (fun h => absurd h (by decide)) (fun _ => ?_)
  refine z_iload_n B dX9_isOperation_10 rfl 1 rfl ?_
  refine z_iconst (v := 0) B dX9_isOperation_11 (by decide) ?_
  refine z_bipush (v := 99) B dX9_isOperation_12 (by decide) ?_
  refine z_cSi (As := [.int w2, .int 0, .int 99]) (rest := []) B cw_X9_96 dX9_isOperation_14 (ci_X9_in_36 l (σ := (ap b σ [] [] [])) (b := b) (lyA hK) w2 q1_w2 q2_w2) rfl (by decide) rfl (Nat.le_of_ble_eq_true rfl) (by decide) (fun r u hu => ?_)
  refine z_eqs (σ' := (ap b σ [] [] [])) hu.2 ?_
  show zx p l e _ s m _ below meth c g 3 0 0 _ _ 17 [(0, .int w1), (1, .int w2), (2, .int w3)] _
  refine z_seti (y := 1) hu.1 ?_
  refine z_if_eq (tgt := 34) B dX9_isOperation_17 (by decide) (fun h => absurd h (by decide)) (fun _ => ?_)
  refine z_iload_n B dX9_isOperation_20 rfl 2 rfl ?_
  refine z_iconst (v := 0) B dX9_isOperation_21 (by decide) ?_
  refine z_bipush (v := 99) B dX9_isOperation_22 (by decide) ?_
  refine z_cSi (As := [.int w3, .int 0, .int 99]) (rest := []) B cw_X9_96 dX9_isOperation_24 (ci_X9_in_36 l (σ := (ap b σ [] [] [])) (b := b) (lyA hK) w3 q1_w3 q2_w3) rfl (by decide) rfl (Nat.le_of_ble_eq_true rfl) (by decide) (fun r u hu => ?_)
  refine z_eqs (σ' := (ap b σ [] [] [])) hu.2 ?_
  show zx p l e _ s m _ below meth c g 3 0 0 _ _ 27 [(0, .int w1), (1, .int w2), (2, .int w3)] _
  refine z_seti (y := 1) hu.1 ?_
  refine z_if_eq (tgt := 34) B dX9_isOperation_27 (by decide) (fun h => absurd h (by decide)) (fun _ => ?_)
  refine z_iconst (v := 1) B dX9_isOperation_30 (by decide) ?_
  refine z_goto (tgt := 35) B dX9_isOperation_31 (by decide) ?_
  exact z_zret B hr (by decide) (by decide) (by decide) dX9_isOperation_35 ⟨rfl, rfl⟩
set_option maxRecDepth 100000 in
set_option maxHeartbeats 4000000 in
theorem ci_X9_needs__40 (l : Launch) {g : gx_T} {σ : sx_T} {b : Nat} (hK : lay b σ)    : Met l yX9_needs_ (.code yX9_needs_ cX9_needs_ 3 (some .boolean) :: lw_g) { frames := 0, cells := 0, slots := 0, locals := 0 } (va_Pc [.ref (b + 405), .int 0, .int 1] (zx_w g σ)) (va_Qi (fun r u => r = 0 ∧ u = (ap b σ [(405, 0, 1)] [] [])) (zx_w g) (gx_Q g)) 0 0 (gx_Q g) := by
  refine z_met (by decide) (Nat.le_of_ble_eq_true rfl) (fun p e s m below meth c B hr hin => ?_)
  refine z_eqs (σ' := (ap b σ [] [] [])) rfl ?_
  show zx p l e _ s m _ below meth c g 3 0 0 _ _ 0 [(0, .ref (b + 405)), (1, .int 0), (2, .int 1)] []
  refine z_aload_n B dX9_needs__0 rfl 0 rfl ?_
  refine z_iload_n B dX9_needs__1 rfl 1 rfl ?_
  refine z_if_ne (tgt := 9) B dX9_needs__2 (by decide) (fun h => absurd (by decide) h) (fun _ => ?_)
  refine z_iconst (v := 1) B dX9_needs__5 (by decide) ?_
  refine z_goto (tgt := 18) B dX9_needs__6 (by decide) ?_
  refine pf_X9_90 (x := 1) (σ' := (ap b σ [(405, 0, 1)] [] [])) B (lKA (hk_K hK 405 rfl rfl)) wI_ap dX9_needs__18 ?_
  refine z_aload_n B dX9_needs__21 rfl 0 rfl ?_
  refine gf_X9_90 (x := 1) B (lKA (hk_K hK 405 rfl rfl)) (rI_at 405 0 rfl) dX9_needs__22 ?_
  refine z_if_ne (tgt := 32) B dX9_needs__25 (by decide) (fun _ => ?_) (fun h => absurd h (by decide))
  refine z_iconst (v := 0) B dX9_needs__32 (by decide) ?_
  exact z_zret B hr (by decide) (by decide) (by decide) dX9_needs__33 ⟨rfl, rfl⟩
set_option maxRecDepth 100000 in
set_option maxHeartbeats 4000000 in
theorem ci_X9_set_41 (l : Launch) {g : gx_T} {σ : sx_T} {b : Nat} (hK : lay b σ) (w1 : Int32) (w2 : Int32) (w3 : Int32) (w4 : Int32) (w5 : Int32) (q1_w1 : (-2147483648 : Int) ≤ w1.toInt) (q2_w1 : w1.toInt ≤ (-1 : Int)) (q1_w3 : (0 : Int) ≤ w3.toInt) (q2_w3 : w3.toInt ≤ (17 : Int)) (q1_w4 : (0 : Int) ≤ w4.toInt) (q2_w4 : w4.toInt ≤ (99 : Int)) (q1_w5 : (0 : Int) ≤ w5.toInt) (q2_w5 : w5.toInt ≤ (99 : Int))  : Met l yX9_set (.code yX9_set cX9_set 7 (some .int) :: lw_g) { frames := 2, cells := 0, slots := 0, locals := 44 } (va_Pc [.ref (b + 405), .int w1, .int w2, .int w3, .int w4, .int w5] (zx_w g σ)) (va_Qi (fun r u => r = 0 ∧ u = (ap b σ [(405, 0, 1)] [] [])) (zx_w g) (gx_Q g)) 0 0 (gx_Q g) := by
  refine z_met (by decide) (Nat.le_of_ble_eq_true rfl) (fun p e s m below meth c B hr hin => ?_)
  refine z_eqs (σ' := (ap b σ [] [] [])) rfl ?_
  show zx p l e _ s m _ below meth c g 7 0 0 _ _ 0 [(0, .ref (b + 405)), (1, .int w1), (2, .int w2), (3, .int w3), (4, .int w4), (5, .int w5)] []
  refine z_aload_n B dX9_set_0 rfl 0 rfl ?_
  refine z_iload_n B dX9_set_1 rfl 1 rfl ?_
  refine z_iload_n B dX9_set_2 rfl 2 rfl ?_
  refine z_cSi (As := [.int w1, .int w2]) (rest := [.ref (b + 405)]) B cw_X9_238 dX9_set_3 (ci_X9_isStep_26 l (σ := (ap b σ [] [] [])) (b := b) (lyA hK) w1 w2 q1_w1 q2_w1) rfl (by decide) rfl (Nat.le_of_ble_eq_true rfl) (by decide) (fun r u hu => ?_)
  refine z_eqs (σ' := (ap b σ [] [] [])) hu.2 ?_
  show zx p l e _ s m _ below meth c g 7 0 0 _ _ 6 [(0, .ref (b + 405)), (1, .int w1), (2, .int w2), (3, .int w3), (4, .int w4), (5, .int w5)] _
  refine z_seti (y := 0) hu.1 ?_
  refine z_iload_n B dX9_set_6 rfl 3 rfl ?_
  refine z_iload B dX9_set_7 4 rfl ?_
  refine z_iload B dX9_set_9 5 rfl ?_
  refine z_cSi (As := [.int w3, .int w4, .int w5]) (rest := [.int 0, .ref (b + 405)]) B cw_X9_242 dX9_set_11 (ci_X9_isOperation_39 l (σ := (ap b σ [] [] [])) (b := b) (lyA hK) w3 w4 w5 q1_w3 q2_w3 q1_w4 q2_w4 q1_w5 q2_w5) rfl (by decide) rfl (Nat.le_of_ble_eq_true rfl) (by decide) (fun r u hu => ?_)
  refine z_eqs (σ' := (ap b σ [] [] [])) hu.2 ?_
  show zx p l e _ s m _ below meth c g 7 0 0 _ _ 14 [(0, .ref (b + 405)), (1, .int w1), (2, .int w2), (3, .int w3), (4, .int w4), (5, .int w5)] _
  refine z_seti (y := 1) hu.1 ?_
  refine z_cVi (As := [.int 0, .int 1]) (rest := []) B cw_X9_245 cx_10 dX9_set_14 (ci_X9_needs__40 l (σ := (ap b σ [] [] [])) (b := b) (lyA hK) ) (lKA (hk_K hK 405 rfl rfl)) rfl (by decide) rfl (Nat.le_of_ble_eq_true rfl) (by decide) (fun r u hu => ?_)
  refine z_eqs (σ' := (ap b σ [(405, 0, 1)] [] [])) (hu.2.trans ap_ap) ?_
  show zx p l e _ s m _ below meth c g 7 0 0 _ _ 17 [(0, .ref (b + 405)), (1, .int w1), (2, .int w2), (3, .int w3), (4, .int w4), (5, .int w5)] _
  refine z_seti (y := 0) hu.1 ?_
  refine z_if_ne (tgt := 22) B dX9_set_17 (by decide) (fun h => absurd (by decide) h) (fun _ => ?_)
  refine z_iconst (v := 0) B dX9_set_20 (by decide) ?_
  exact z_iret B hr (by decide) (by decide) dX9_set_21 ⟨rfl, rfl⟩
set_option maxRecDepth 100000 in
set_option maxHeartbeats 4000000 in
theorem ci_X9_in_42 (l : Launch) {g : gx_T} {σ : sx_T} {b : Nat} (hK : lay b σ) (w1 : Int32) (q1_w1 : (100 : Int) ≤ w1.toInt) (q2_w1 : w1.toInt ≤ (2147483647 : Int))  : Met l yX9_in (.code yX9_in cX9_in 3 (some .boolean) :: lw_g) { frames := 0, cells := 0, slots := 0, locals := 0 } (va_Pc [.int w1, .int 0, .int 99] (zx_w g σ)) (va_Qi (fun r u => r = 0 ∧ u = σ) (zx_w g) (gx_Q g)) 0 0 (gx_Q g) := by
  refine z_met (by decide) (Nat.le_of_ble_eq_true rfl) (fun p e s m below meth c B hr hin => ?_)
  refine z_eqs (σ' := (ap b σ [] [] [])) rfl ?_
  show zx p l e _ s m _ below meth c g 3 0 0 _ _ 0 [(0, .int w1), (1, .int 0), (2, .int 99)] []
  refine z_iload_n B dX9_in_0 rfl 0 rfl ?_
  refine z_iload_n B dX9_in_1 rfl 1 rfl ?_
  refine z_icmp_lt (tgt := 14) B dX9_in_2 (by decide) (fun h => absurd h (iv_nlt q1_w1 (by decide))) (fun _ => ?_)
  refine z_iload_n B dX9_in_5 rfl 0 rfl ?_
  refine z_iload_n B dX9_in_6 rfl 2 rfl ?_
  refine z_icmp_gt (tgt := 14) B dX9_in_7 (by decide) (fun _ => ?_) (fun h => absurd (iv_gt q1_w1 (by decide)) h)
  refine z_iconst (v := 0) B dX9_in_14 (by decide) ?_
  exact z_zret B hr (by decide) (by decide) (by decide) dX9_in_15 ⟨rfl, rfl⟩
set_option maxRecDepth 100000 in
set_option maxHeartbeats 4000000 in
theorem ci_X9_isOperation_43 (l : Launch) {g : gx_T} {σ : sx_T} {b : Nat} (hK : lay b σ) (w1 : Int32) (w2 : Int32) (w3 : Int32) (q1_w1 : (0 : Int) ≤ w1.toInt) (q2_w1 : w1.toInt ≤ (17 : Int)) (q1_w2 : (0 : Int) ≤ w2.toInt) (q2_w2 : w2.toInt ≤ (99 : Int)) (q1_w3 : (100 : Int) ≤ w3.toInt) (q2_w3 : w3.toInt ≤ (2147483647 : Int))  : Met l yX9_isOperation (.code yX9_isOperation cX9_isOperation 3 (some .boolean) :: lw_g) { frames := 1, cells := 0, slots := 0, locals := 22 } (va_Pc [.int w1, .int w2, .int w3] (zx_w g σ)) (va_Qi (fun r u => r = 0 ∧ u = σ) (zx_w g) (gx_Q g)) 0 0 (gx_Q g) := by
  refine z_met (by decide) (Nat.le_of_ble_eq_true rfl) (fun p e s m below meth c B hr hin => ?_)
  refine z_eqs (σ' := (ap b σ [] [] [])) rfl ?_
  show zx p l e _ s m _ below meth c g 3 0 0 _ _ 0 [(0, .int w1), (1, .int w2), (2, .int w3)] []
  refine z_iload_n B dX9_isOperation_0 rfl 0 rfl ?_
  refine z_iconst (v := 0) B dX9_isOperation_1 (by decide) ?_
  refine z_bipush (v := 17) B dX9_isOperation_2 (by decide) ?_
  refine z_cSi (As := [.int w1, .int 0, .int 17]) (rest := []) B cw_X9_96 dX9_isOperation_4 (ci_X9_in_32 l (σ := (ap b σ [] [] [])) (b := b) (lyA hK) w1 q1_w1 q2_w1) rfl (by decide) rfl (Nat.le_of_ble_eq_true rfl) (by decide) (fun r u hu => ?_)
  refine z_eqs (σ' := (ap b σ [] [] [])) hu.2 ?_
  show zx p l e _ s m _ below meth c g 3 0 0 _ _ 7 [(0, .int w1), (1, .int w2), (2, .int w3)] _
  refine z_seti (y := 1) hu.1 ?_
  refine z_if_eq (tgt := 34) B dX9_isOperation_7 (by decide) (fun h => absurd h (by decide)) (fun _ => ?_)
  refine z_iload_n B dX9_isOperation_10 rfl 1 rfl ?_
  refine z_iconst (v := 0) B dX9_isOperation_11 (by decide) ?_
  refine z_bipush (v := 99) B dX9_isOperation_12 (by decide) ?_
  refine z_cSi (As := [.int w2, .int 0, .int 99]) (rest := []) B cw_X9_96 dX9_isOperation_14 (ci_X9_in_36 l (σ := (ap b σ [] [] [])) (b := b) (lyA hK) w2 q1_w2 q2_w2) rfl (by decide) rfl (Nat.le_of_ble_eq_true rfl) (by decide) (fun r u hu => ?_)
  refine z_eqs (σ' := (ap b σ [] [] [])) hu.2 ?_
  show zx p l e _ s m _ below meth c g 3 0 0 _ _ 17 [(0, .int w1), (1, .int w2), (2, .int w3)] _
  refine z_seti (y := 1) hu.1 ?_
  refine z_if_eq (tgt := 34) B dX9_isOperation_17 (by decide) (fun h => absurd h (by decide)) (fun _ => ?_)
  refine z_iload_n B dX9_isOperation_20 rfl 2 rfl ?_
  refine z_iconst (v := 0) B dX9_isOperation_21 (by decide) ?_
  refine z_bipush (v := 99) B dX9_isOperation_22 (by decide) ?_
  refine z_cSi (As := [.int w3, .int 0, .int 99]) (rest := []) B cw_X9_96 dX9_isOperation_24 (ci_X9_in_42 l (σ := (ap b σ [] [] [])) (b := b) (lyA hK) w3 q1_w3 q2_w3) rfl (by decide) rfl (Nat.le_of_ble_eq_true rfl) (by decide) (fun r u hu => ?_)
  refine z_eqs (σ' := (ap b σ [] [] [])) hu.2 ?_
  show zx p l e _ s m _ below meth c g 3 0 0 _ _ 27 [(0, .int w1), (1, .int w2), (2, .int w3)] _
  refine z_seti (y := 0) hu.1 ?_
  refine z_if_eq (tgt := 34) B dX9_isOperation_27 (by decide) (fun _ => ?_) (fun h => absurd (by decide) h)
  refine z_iconst (v := 0) B dX9_isOperation_34 (by decide) ?_
  exact z_zret B hr (by decide) (by decide) (by decide) dX9_isOperation_35 ⟨rfl, rfl⟩
set_option maxRecDepth 100000 in
set_option maxHeartbeats 4000000 in
theorem ci_X9_set_44 (l : Launch) {g : gx_T} {σ : sx_T} {b : Nat} (hK : lay b σ) (w1 : Int32) (w2 : Int32) (w3 : Int32) (w4 : Int32) (w5 : Int32) (q1_w1 : (-2147483648 : Int) ≤ w1.toInt) (q2_w1 : w1.toInt ≤ (-1 : Int)) (q1_w3 : (0 : Int) ≤ w3.toInt) (q2_w3 : w3.toInt ≤ (17 : Int)) (q1_w4 : (0 : Int) ≤ w4.toInt) (q2_w4 : w4.toInt ≤ (99 : Int)) (q1_w5 : (100 : Int) ≤ w5.toInt) (q2_w5 : w5.toInt ≤ (2147483647 : Int))  : Met l yX9_set (.code yX9_set cX9_set 7 (some .int) :: lw_g) { frames := 2, cells := 0, slots := 0, locals := 44 } (va_Pc [.ref (b + 405), .int w1, .int w2, .int w3, .int w4, .int w5] (zx_w g σ)) (va_Qi (fun r u => r = 0 ∧ u = (ap b σ [(405, 0, 1)] [] [])) (zx_w g) (gx_Q g)) 0 0 (gx_Q g) := by
  refine z_met (by decide) (Nat.le_of_ble_eq_true rfl) (fun p e s m below meth c B hr hin => ?_)
  refine z_eqs (σ' := (ap b σ [] [] [])) rfl ?_
  show zx p l e _ s m _ below meth c g 7 0 0 _ _ 0 [(0, .ref (b + 405)), (1, .int w1), (2, .int w2), (3, .int w3), (4, .int w4), (5, .int w5)] []
  refine z_aload_n B dX9_set_0 rfl 0 rfl ?_
  refine z_iload_n B dX9_set_1 rfl 1 rfl ?_
  refine z_iload_n B dX9_set_2 rfl 2 rfl ?_
  refine z_cSi (As := [.int w1, .int w2]) (rest := [.ref (b + 405)]) B cw_X9_238 dX9_set_3 (ci_X9_isStep_26 l (σ := (ap b σ [] [] [])) (b := b) (lyA hK) w1 w2 q1_w1 q2_w1) rfl (by decide) rfl (Nat.le_of_ble_eq_true rfl) (by decide) (fun r u hu => ?_)
  refine z_eqs (σ' := (ap b σ [] [] [])) hu.2 ?_
  show zx p l e _ s m _ below meth c g 7 0 0 _ _ 6 [(0, .ref (b + 405)), (1, .int w1), (2, .int w2), (3, .int w3), (4, .int w4), (5, .int w5)] _
  refine z_seti (y := 0) hu.1 ?_
  refine z_iload_n B dX9_set_6 rfl 3 rfl ?_
  refine z_iload B dX9_set_7 4 rfl ?_
  refine z_iload B dX9_set_9 5 rfl ?_
  refine z_cSi (As := [.int w3, .int w4, .int w5]) (rest := [.int 0, .ref (b + 405)]) B cw_X9_242 dX9_set_11 (ci_X9_isOperation_43 l (σ := (ap b σ [] [] [])) (b := b) (lyA hK) w3 w4 w5 q1_w3 q2_w3 q1_w4 q2_w4 q1_w5 q2_w5) rfl (by decide) rfl (Nat.le_of_ble_eq_true rfl) (by decide) (fun r u hu => ?_)
  refine z_eqs (σ' := (ap b σ [] [] [])) hu.2 ?_
  show zx p l e _ s m _ below meth c g 7 0 0 _ _ 14 [(0, .ref (b + 405)), (1, .int w1), (2, .int w2), (3, .int w3), (4, .int w4), (5, .int w5)] _
  refine z_seti (y := 0) hu.1 ?_
  refine z_cVi (As := [.int 0, .int 0]) (rest := []) B cw_X9_245 cx_10 dX9_set_14 (ci_X9_needs__29 l (σ := (ap b σ [] [] [])) (b := b) (lyA hK) ) (lKA (hk_K hK 405 rfl rfl)) rfl (by decide) rfl (Nat.le_of_ble_eq_true rfl) (by decide) (fun r u hu => ?_)
  refine z_eqs (σ' := (ap b σ [(405, 0, 1)] [] [])) (hu.2.trans ap_ap) ?_
  show zx p l e _ s m _ below meth c g 7 0 0 _ _ 17 [(0, .ref (b + 405)), (1, .int w1), (2, .int w2), (3, .int w3), (4, .int w4), (5, .int w5)] _
  refine z_seti (y := 0) hu.1 ?_
  refine z_if_ne (tgt := 22) B dX9_set_17 (by decide) (fun h => absurd (by decide) h) (fun _ => ?_)
  refine z_iconst (v := 0) B dX9_set_20 (by decide) ?_
  exact z_iret B hr (by decide) (by decide) dX9_set_21 ⟨rfl, rfl⟩
set_option maxRecDepth 100000 in
set_option maxHeartbeats 4000000 in
theorem ci_X9_isOperation_45 (l : Launch) {g : gx_T} {σ : sx_T} {b : Nat} (hK : lay b σ) (w1 : Int32) (w2 : Int32) (w3 : Int32) (q1_w1 : (0 : Int) ≤ w1.toInt) (q2_w1 : w1.toInt ≤ (17 : Int)) (q1_w2 : (100 : Int) ≤ w2.toInt) (q2_w2 : w2.toInt ≤ (2147483647 : Int))  : Met l yX9_isOperation (.code yX9_isOperation cX9_isOperation 3 (some .boolean) :: lw_g) { frames := 1, cells := 0, slots := 0, locals := 22 } (va_Pc [.int w1, .int w2, .int w3] (zx_w g σ)) (va_Qi (fun r u => r = 0 ∧ u = σ) (zx_w g) (gx_Q g)) 0 0 (gx_Q g) := by
  refine z_met (by decide) (Nat.le_of_ble_eq_true rfl) (fun p e s m below meth c B hr hin => ?_)
  refine z_eqs (σ' := (ap b σ [] [] [])) rfl ?_
  show zx p l e _ s m _ below meth c g 3 0 0 _ _ 0 [(0, .int w1), (1, .int w2), (2, .int w3)] []
  refine z_iload_n B dX9_isOperation_0 rfl 0 rfl ?_
  refine z_iconst (v := 0) B dX9_isOperation_1 (by decide) ?_
  refine z_bipush (v := 17) B dX9_isOperation_2 (by decide) ?_
  refine z_cSi (As := [.int w1, .int 0, .int 17]) (rest := []) B cw_X9_96 dX9_isOperation_4 (ci_X9_in_32 l (σ := (ap b σ [] [] [])) (b := b) (lyA hK) w1 q1_w1 q2_w1) rfl (by decide) rfl (Nat.le_of_ble_eq_true rfl) (by decide) (fun r u hu => ?_)
  refine z_eqs (σ' := (ap b σ [] [] [])) hu.2 ?_
  show zx p l e _ s m _ below meth c g 3 0 0 _ _ 7 [(0, .int w1), (1, .int w2), (2, .int w3)] _
  refine z_seti (y := 1) hu.1 ?_
  refine z_if_eq (tgt := 34) B dX9_isOperation_7 (by decide) (fun h => absurd h (by decide)) (fun _ => ?_)
  refine z_iload_n B dX9_isOperation_10 rfl 1 rfl ?_
  refine z_iconst (v := 0) B dX9_isOperation_11 (by decide) ?_
  refine z_bipush (v := 99) B dX9_isOperation_12 (by decide) ?_
  refine z_cSi (As := [.int w2, .int 0, .int 99]) (rest := []) B cw_X9_96 dX9_isOperation_14 (ci_X9_in_42 l (σ := (ap b σ [] [] [])) (b := b) (lyA hK) w2 q1_w2 q2_w2) rfl (by decide) rfl (Nat.le_of_ble_eq_true rfl) (by decide) (fun r u hu => ?_)
  refine z_eqs (σ' := (ap b σ [] [] [])) hu.2 ?_
  show zx p l e _ s m _ below meth c g 3 0 0 _ _ 17 [(0, .int w1), (1, .int w2), (2, .int w3)] _
  refine z_seti (y := 0) hu.1 ?_
  refine z_if_eq (tgt := 34) B dX9_isOperation_17 (by decide) (fun _ => ?_) (fun h => absurd (by decide) h)
  refine z_iconst (v := 0) B dX9_isOperation_34 (by decide) ?_
  exact z_zret B hr (by decide) (by decide) (by decide) dX9_isOperation_35 ⟨rfl, rfl⟩
set_option maxRecDepth 100000 in
set_option maxHeartbeats 4000000 in
theorem ci_X9_set_46 (l : Launch) {g : gx_T} {σ : sx_T} {b : Nat} (hK : lay b σ) (w1 : Int32) (w2 : Int32) (w3 : Int32) (w4 : Int32) (w5 : Int32) (q1_w1 : (-2147483648 : Int) ≤ w1.toInt) (q2_w1 : w1.toInt ≤ (-1 : Int)) (q1_w3 : (0 : Int) ≤ w3.toInt) (q2_w3 : w3.toInt ≤ (17 : Int)) (q1_w4 : (100 : Int) ≤ w4.toInt) (q2_w4 : w4.toInt ≤ (2147483647 : Int))  : Met l yX9_set (.code yX9_set cX9_set 7 (some .int) :: lw_g) { frames := 2, cells := 0, slots := 0, locals := 44 } (va_Pc [.ref (b + 405), .int w1, .int w2, .int w3, .int w4, .int w5] (zx_w g σ)) (va_Qi (fun r u => r = 0 ∧ u = (ap b σ [(405, 0, 1)] [] [])) (zx_w g) (gx_Q g)) 0 0 (gx_Q g) := by
  refine z_met (by decide) (Nat.le_of_ble_eq_true rfl) (fun p e s m below meth c B hr hin => ?_)
  refine z_eqs (σ' := (ap b σ [] [] [])) rfl ?_
  show zx p l e _ s m _ below meth c g 7 0 0 _ _ 0 [(0, .ref (b + 405)), (1, .int w1), (2, .int w2), (3, .int w3), (4, .int w4), (5, .int w5)] []
  refine z_aload_n B dX9_set_0 rfl 0 rfl ?_
  refine z_iload_n B dX9_set_1 rfl 1 rfl ?_
  refine z_iload_n B dX9_set_2 rfl 2 rfl ?_
  refine z_cSi (As := [.int w1, .int w2]) (rest := [.ref (b + 405)]) B cw_X9_238 dX9_set_3 (ci_X9_isStep_26 l (σ := (ap b σ [] [] [])) (b := b) (lyA hK) w1 w2 q1_w1 q2_w1) rfl (by decide) rfl (Nat.le_of_ble_eq_true rfl) (by decide) (fun r u hu => ?_)
  refine z_eqs (σ' := (ap b σ [] [] [])) hu.2 ?_
  show zx p l e _ s m _ below meth c g 7 0 0 _ _ 6 [(0, .ref (b + 405)), (1, .int w1), (2, .int w2), (3, .int w3), (4, .int w4), (5, .int w5)] _
  refine z_seti (y := 0) hu.1 ?_
  refine z_iload_n B dX9_set_6 rfl 3 rfl ?_
  refine z_iload B dX9_set_7 4 rfl ?_
  refine z_iload B dX9_set_9 5 rfl ?_
  refine z_cSi (As := [.int w3, .int w4, .int w5]) (rest := [.int 0, .ref (b + 405)]) B cw_X9_242 dX9_set_11 (ci_X9_isOperation_45 l (σ := (ap b σ [] [] [])) (b := b) (lyA hK) w3 w4 w5 q1_w3 q2_w3 q1_w4 q2_w4) rfl (by decide) rfl (Nat.le_of_ble_eq_true rfl) (by decide) (fun r u hu => ?_)
  refine z_eqs (σ' := (ap b σ [] [] [])) hu.2 ?_
  show zx p l e _ s m _ below meth c g 7 0 0 _ _ 14 [(0, .ref (b + 405)), (1, .int w1), (2, .int w2), (3, .int w3), (4, .int w4), (5, .int w5)] _
  refine z_seti (y := 0) hu.1 ?_
  refine z_cVi (As := [.int 0, .int 0]) (rest := []) B cw_X9_245 cx_10 dX9_set_14 (ci_X9_needs__29 l (σ := (ap b σ [] [] [])) (b := b) (lyA hK) ) (lKA (hk_K hK 405 rfl rfl)) rfl (by decide) rfl (Nat.le_of_ble_eq_true rfl) (by decide) (fun r u hu => ?_)
  refine z_eqs (σ' := (ap b σ [(405, 0, 1)] [] [])) (hu.2.trans ap_ap) ?_
  show zx p l e _ s m _ below meth c g 7 0 0 _ _ 17 [(0, .ref (b + 405)), (1, .int w1), (2, .int w2), (3, .int w3), (4, .int w4), (5, .int w5)] _
  refine z_seti (y := 0) hu.1 ?_
  refine z_if_ne (tgt := 22) B dX9_set_17 (by decide) (fun h => absurd (by decide) h) (fun _ => ?_)
  refine z_iconst (v := 0) B dX9_set_20 (by decide) ?_
  exact z_iret B hr (by decide) (by decide) dX9_set_21 ⟨rfl, rfl⟩
set_option maxRecDepth 100000 in
set_option maxHeartbeats 4000000 in
theorem ci_X9_in_47 (l : Launch) {g : gx_T} {σ : sx_T} {b : Nat} (hK : lay b σ) (w1 : Int32) (q1_w1 : (18 : Int) ≤ w1.toInt) (q2_w1 : w1.toInt ≤ (2147483647 : Int))  : Met l yX9_in (.code yX9_in cX9_in 3 (some .boolean) :: lw_g) { frames := 0, cells := 0, slots := 0, locals := 0 } (va_Pc [.int w1, .int 0, .int 17] (zx_w g σ)) (va_Qi (fun r u => r = 0 ∧ u = σ) (zx_w g) (gx_Q g)) 0 0 (gx_Q g) := by
  refine z_met (by decide) (Nat.le_of_ble_eq_true rfl) (fun p e s m below meth c B hr hin => ?_)
  refine z_eqs (σ' := (ap b σ [] [] [])) rfl ?_
  show zx p l e _ s m _ below meth c g 3 0 0 _ _ 0 [(0, .int w1), (1, .int 0), (2, .int 17)] []
  refine z_iload_n B dX9_in_0 rfl 0 rfl ?_
  refine z_iload_n B dX9_in_1 rfl 1 rfl ?_
  refine z_icmp_lt (tgt := 14) B dX9_in_2 (by decide) (fun h => absurd h (iv_nlt q1_w1 (by decide))) (fun _ => ?_)
  refine z_iload_n B dX9_in_5 rfl 0 rfl ?_
  refine z_iload_n B dX9_in_6 rfl 2 rfl ?_
  refine z_icmp_gt (tgt := 14) B dX9_in_7 (by decide) (fun _ => ?_) (fun h => absurd (iv_gt q1_w1 (by decide)) h)
  refine z_iconst (v := 0) B dX9_in_14 (by decide) ?_
  exact z_zret B hr (by decide) (by decide) (by decide) dX9_in_15 ⟨rfl, rfl⟩
set_option maxRecDepth 100000 in
set_option maxHeartbeats 4000000 in
theorem ci_X9_isOperation_48 (l : Launch) {g : gx_T} {σ : sx_T} {b : Nat} (hK : lay b σ) (w1 : Int32) (w2 : Int32) (w3 : Int32) (q1_w1 : (18 : Int) ≤ w1.toInt) (q2_w1 : w1.toInt ≤ (2147483647 : Int))  : Met l yX9_isOperation (.code yX9_isOperation cX9_isOperation 3 (some .boolean) :: lw_g) { frames := 1, cells := 0, slots := 0, locals := 22 } (va_Pc [.int w1, .int w2, .int w3] (zx_w g σ)) (va_Qi (fun r u => r = 0 ∧ u = σ) (zx_w g) (gx_Q g)) 0 0 (gx_Q g) := by
  refine z_met (by decide) (Nat.le_of_ble_eq_true rfl) (fun p e s m below meth c B hr hin => ?_)
  refine z_eqs (σ' := (ap b σ [] [] [])) rfl ?_
  show zx p l e _ s m _ below meth c g 3 0 0 _ _ 0 [(0, .int w1), (1, .int w2), (2, .int w3)] []
  refine z_iload_n B dX9_isOperation_0 rfl 0 rfl ?_
  refine z_iconst (v := 0) B dX9_isOperation_1 (by decide) ?_
  refine z_bipush (v := 17) B dX9_isOperation_2 (by decide) ?_
  refine z_cSi (As := [.int w1, .int 0, .int 17]) (rest := []) B cw_X9_96 dX9_isOperation_4 (ci_X9_in_47 l (σ := (ap b σ [] [] [])) (b := b) (lyA hK) w1 q1_w1 q2_w1) rfl (by decide) rfl (Nat.le_of_ble_eq_true rfl) (by decide) (fun r u hu => ?_)
  refine z_eqs (σ' := (ap b σ [] [] [])) hu.2 ?_
  show zx p l e _ s m _ below meth c g 3 0 0 _ _ 7 [(0, .int w1), (1, .int w2), (2, .int w3)] _
  refine z_seti (y := 0) hu.1 ?_
  refine z_if_eq (tgt := 34) B dX9_isOperation_7 (by decide) (fun _ => ?_) (fun h => absurd (by decide) h)
  refine z_iconst (v := 0) B dX9_isOperation_34 (by decide) ?_
  exact z_zret B hr (by decide) (by decide) (by decide) dX9_isOperation_35 ⟨rfl, rfl⟩
set_option maxRecDepth 100000 in
set_option maxHeartbeats 4000000 in
theorem ci_X9_set_49 (l : Launch) {g : gx_T} {σ : sx_T} {b : Nat} (hK : lay b σ) (w1 : Int32) (w2 : Int32) (w3 : Int32) (w4 : Int32) (w5 : Int32) (q1_w1 : (-2147483648 : Int) ≤ w1.toInt) (q2_w1 : w1.toInt ≤ (-1 : Int)) (q1_w3 : (18 : Int) ≤ w3.toInt) (q2_w3 : w3.toInt ≤ (2147483647 : Int))  : Met l yX9_set (.code yX9_set cX9_set 7 (some .int) :: lw_g) { frames := 2, cells := 0, slots := 0, locals := 44 } (va_Pc [.ref (b + 405), .int w1, .int w2, .int w3, .int w4, .int w5] (zx_w g σ)) (va_Qi (fun r u => r = 0 ∧ u = (ap b σ [(405, 0, 1)] [] [])) (zx_w g) (gx_Q g)) 0 0 (gx_Q g) := by
  refine z_met (by decide) (Nat.le_of_ble_eq_true rfl) (fun p e s m below meth c B hr hin => ?_)
  refine z_eqs (σ' := (ap b σ [] [] [])) rfl ?_
  show zx p l e _ s m _ below meth c g 7 0 0 _ _ 0 [(0, .ref (b + 405)), (1, .int w1), (2, .int w2), (3, .int w3), (4, .int w4), (5, .int w5)] []
  refine z_aload_n B dX9_set_0 rfl 0 rfl ?_
  refine z_iload_n B dX9_set_1 rfl 1 rfl ?_
  refine z_iload_n B dX9_set_2 rfl 2 rfl ?_
  refine z_cSi (As := [.int w1, .int w2]) (rest := [.ref (b + 405)]) B cw_X9_238 dX9_set_3 (ci_X9_isStep_26 l (σ := (ap b σ [] [] [])) (b := b) (lyA hK) w1 w2 q1_w1 q2_w1) rfl (by decide) rfl (Nat.le_of_ble_eq_true rfl) (by decide) (fun r u hu => ?_)
  refine z_eqs (σ' := (ap b σ [] [] [])) hu.2 ?_
  show zx p l e _ s m _ below meth c g 7 0 0 _ _ 6 [(0, .ref (b + 405)), (1, .int w1), (2, .int w2), (3, .int w3), (4, .int w4), (5, .int w5)] _
  refine z_seti (y := 0) hu.1 ?_
  refine z_iload_n B dX9_set_6 rfl 3 rfl ?_
  refine z_iload B dX9_set_7 4 rfl ?_
  refine z_iload B dX9_set_9 5 rfl ?_
  refine z_cSi (As := [.int w3, .int w4, .int w5]) (rest := [.int 0, .ref (b + 405)]) B cw_X9_242 dX9_set_11 (ci_X9_isOperation_48 l (σ := (ap b σ [] [] [])) (b := b) (lyA hK) w3 w4 w5 q1_w3 q2_w3) rfl (by decide) rfl (Nat.le_of_ble_eq_true rfl) (by decide) (fun r u hu => ?_)
  refine z_eqs (σ' := (ap b σ [] [] [])) hu.2 ?_
  show zx p l e _ s m _ below meth c g 7 0 0 _ _ 14 [(0, .ref (b + 405)), (1, .int w1), (2, .int w2), (3, .int w3), (4, .int w4), (5, .int w5)] _
  refine z_seti (y := 0) hu.1 ?_
  refine z_cVi (As := [.int 0, .int 0]) (rest := []) B cw_X9_245 cx_10 dX9_set_14 (ci_X9_needs__29 l (σ := (ap b σ [] [] [])) (b := b) (lyA hK) ) (lKA (hk_K hK 405 rfl rfl)) rfl (by decide) rfl (Nat.le_of_ble_eq_true rfl) (by decide) (fun r u hu => ?_)
  refine z_eqs (σ' := (ap b σ [(405, 0, 1)] [] [])) (hu.2.trans ap_ap) ?_
  show zx p l e _ s m _ below meth c g 7 0 0 _ _ 17 [(0, .ref (b + 405)), (1, .int w1), (2, .int w2), (3, .int w3), (4, .int w4), (5, .int w5)] _
  refine z_seti (y := 0) hu.1 ?_
  refine z_if_ne (tgt := 22) B dX9_set_17 (by decide) (fun h => absurd (by decide) h) (fun _ => ?_)
  refine z_iconst (v := 0) B dX9_set_20 (by decide) ?_
  exact z_iret B hr (by decide) (by decide) dX9_set_21 ⟨rfl, rfl⟩
set_option maxRecDepth 100000 in
set_option maxHeartbeats 4000000 in
theorem ci_X8_programAt_50 (l : Launch) {g : gx_T} {σ : sx_T} {b : Nat} (hK : lay b σ)   (hR_0_0 : sx_R σ (b + 0) 0 = (some (b + 1))) (hR_1_0 : sx_R σ (b + 1) 0 = (some (b + 9))) : Met l yX8_programAt (.code yX8_programAt cX8_programAt 2 (some (.object "Loomkeeper$Program")) :: lw_g) { frames := 0, cells := 0, slots := 0, locals := 0 } (va_Pc [.ref (b + 0), .int 0] (zx_w g σ)) (va_Qq (fun r u => r = (some (b + 9)) ∧ u = σ) (zx_w g) (gx_Q g)) 0 0 (gx_Q g) := by
  refine z_met (by decide) (Nat.le_of_ble_eq_true rfl) (fun p e s m below meth c B hr hin => ?_)
  refine z_eqs (σ' := (ap b σ [] [] [])) rfl ?_
  show zx p l e _ s m _ below meth c g 2 0 0 _ _ 0 [(0, .ref (b + 0)), (1, .int 0)] []
  refine z_iload_n B dX8_programAt_0 rfl 1 rfl ?_
  refine z_if_lt (tgt := 22) B dX8_programAt_1 (by decide) (fun h => absurd h (by decide)) (fun _ => ?_)
  refine z_iload_n B dX8_programAt_4 rfl 1 rfl ?_
  refine z_aload_n B dX8_programAt_5 rfl 0 rfl ?_
  refine gf_X8_11 (x := (some (b + 1))) B (lKA (hk_K hK 0 rfl rfl)) (rR_at 0 0 hR_0_0) dX8_programAt_6 ?_
  refine z_alen (kd := 16) (ti := 4) (v := 6) B (lKA (hk_K hK 1 rfl rfl)) (by decide) rfl (congrArg Int32.ofNat (lNA (hk_N hK 1 rfl rfl))) dX8_programAt_9 ?_
  refine z_icmp_ge (tgt := 22) B dX8_programAt_10 (by decide) (fun h => absurd h (by decide)) (fun _ => ?_)
  refine z_aload_n B dX8_programAt_13 rfl 0 rfl ?_
  refine gf_X8_11 (x := (some (b + 1))) B (lKA (hk_K hK 0 rfl rfl)) (rR_at 0 0 hR_0_0) dX8_programAt_14 ?_
  refine z_iload_n B dX8_programAt_17 rfl 1 rfl ?_
  refine z_qald (j := 0) (kd := 16) (ti := 4) (r := (some (b + 9))) B (lKA (hk_K hK 1 rfl rfl)) (by decide) rfl (by decide) (in_of (lNA (hk_N hK 1 rfl rfl)) (show ¬ ((0 : Int32) < 0 ∨ 6 ≤ (0 : Int32).toNatClampNeg) by decide)) (rR_at 1 0 hR_1_0) dX8_programAt_18 ?_
  refine z_goto (tgt := 23) B dX8_programAt_19 (by decide) ?_
  exact z_qret (r := (some (b + 9))) B hr (by decide) (by decide) dX8_programAt_23 ⟨rfl, rfl⟩
set_option maxRecDepth 100000 in
set_option maxHeartbeats 4000000 in
theorem ci_X8_isBelow_51 (l : Launch) {g : gx_T} {σ : sx_T} {b : Nat} (hK : lay b σ) (w1 : Int32) (q1_w1 : (-2147483648 : Int) ≤ w1.toInt) (q2_w1 : w1.toInt ≤ (-1 : Int))  : Met l yX8_isBelow (.code yX8_isBelow cX8_isBelow 2 (some .boolean) :: lw_g) { frames := 0, cells := 0, slots := 0, locals := 0 } (va_Pc [.int w1, .int 20] (zx_w g σ)) (va_Qi (fun r u => r = 0 ∧ u = σ) (zx_w g) (gx_Q g)) 0 0 (gx_Q g) := by
  refine z_met (by decide) (Nat.le_of_ble_eq_true rfl) (fun p e s m below meth c B hr hin => ?_)
  refine z_eqs (σ' := (ap b σ [] [] [])) rfl ?_
  show zx p l e _ s m _ below meth c g 2 0 0 _ _ 0 [(0, .int w1), (1, .int 20)] []
  refine z_iload_n B dX8_isBelow_0 rfl 0 rfl ?_
  refine z_if_lt (tgt := 13) B dX8_isBelow_1 (by decide) (fun _ => ?_) (fun h => absurd (iv_lt q2_w1 (by decide)) h)
  refine z_iconst (v := 0) B dX8_isBelow_13 (by decide) ?_
  exact z_zret B hr (by decide) (by decide) (by decide) dX8_isBelow_14 ⟨rfl, rfl⟩
set_option maxRecDepth 100000 in
set_option maxHeartbeats 4000000 in
theorem ci_X8_set_52 (l : Launch) (hlt : l.stackTraces = false) {g : gx_T} {σ : sx_T} {b : Nat} (hK : lay b σ) (w1 : Int32) (w2 : Int32) (w3 : Int32) (w4 : Int32) (q1_w1 : (-2147483648 : Int) ≤ w1.toInt) (q2_w1 : w1.toInt ≤ (-1 : Int)) (hR_0_0 : sx_R σ (b + 0) 0 = (some (b + 1))) (hR_1_0 : sx_R σ (b + 1) 0 = (some (b + 9))) : vx_Met l yX8_set (.code yX8_set cX8_set 9 (some .int) :: lw_g) { frames := 7, cells := 1, slots := 6, locals := 136 } (va_Pc [.ref (b + 0), .int 0, .int w1, .int w2, .int w3, .int w4] (zx_w g σ)) (va_Qi (S := sx_T) (fun _ _ => False) (zx_w g) (gx_Q g)) (vx_X (fun u : sx_T => ∃ z, u = wx_Z σ z) (fun E u t => E = "java/lang/IndexOutOfBoundsException" ∧ zx_h g u t.heap) (gx_Q g)) 1 6 (gx_Q g) := by
  refine z_metX (by decide) (Nat.le_of_ble_eq_true rfl) (fun p e s m below meth c B hr hin hout => ?_)
  refine z_eqs (σ' := (ap b σ [] [] [])) rfl ?_
  show zx p l e _ s m _ below meth c g 9 0 0 _ _ 0 [(0, .ref (b + 0)), (1, .int 0), (2, .int w1), (3, .int w2), (4, .int w3), (5, .int w4)] []
  refine z_aload_n B dX8_set_0 rfl 0 rfl ?_
  refine z_iload_n B dX8_set_1 rfl 1 rfl ?_
  refine z_cVq (As := [.int 0]) (rest := []) B cw_X8_64 cx_9 dX8_set_2 (ci_X8_programAt_50 l (σ := (ap b σ [] [] [])) (b := b) (lyA hK) (rR_at 0 0 hR_0_0) (rR_at 1 0 hR_1_0)) (lKA (hk_K hK 0 rfl rfl)) rfl (by decide) rfl (Nat.le_of_ble_eq_true rfl) (by decide) (fun r u hu => ?_)
  refine z_eqs (σ' := (ap b σ [] [] [])) hu.2 ?_
  show zx p l e _ s m _ below meth c g 9 0 0 _ _ 5 [(0, .ref (b + 0)), (1, .int 0), (2, .int w1), (3, .int w2), (4, .int w3), (5, .int w4)] _
  refine z_setr (y := (some (b + 9))) hu.1 ?_
  refine z_astore (lv' := [(6, .ref (b + 9)), (0, .ref (b + 0)), (1, .int 0), (2, .int w1), (3, .int w2), (4, .int w3), (5, .int w4)]) B dX8_set_5 (by decide) rfl ?_
  refine z_aload B dX8_set_7 0 rfl ?_
  refine z_ifnull (r := (some (b + 9))) (tgt := 21) B dX8_set_9 (by decide) (fun h => nomatch h) (fun _ _ => ?_)
  refine z_iload_n B dX8_set_12 rfl 3 rfl ?_
  refine z_bipush (v := 20) B dX8_set_13 (by decide) ?_
  refine z_cSi (As := [.int w1, .int 20]) (rest := []) B cw_X8_68 dX8_set_15 (ci_X8_isBelow_51 l (σ := (ap b σ [] [] [])) (b := b) (lyA hK) w1 q1_w1 q2_w1) rfl (by decide) rfl (Nat.le_of_ble_eq_true rfl) (by decide) (fun r u hu => ?_)
  refine z_eqs (σ' := (ap b σ [] [] [])) hu.2 ?_
  show zx p l e _ s m _ below meth c g 9 0 0 _ _ 18 [(6, .ref (b + 9)), (0, .ref (b + 0)), (1, .int 0), (2, .int w1), (3, .int w2), (4, .int w3), (5, .int w4)] _
  refine z_seti (y := 0) hu.1 ?_
  refine z_if_ne (tgt := 31) B dX8_set_18 (by decide) (fun h => absurd (by decide) h) (fun _ => ?_)
  exact z_throw B hlt hout (cls := "java/lang/IndexOutOfBoundsException") (text := "no such step") tw_X8_72_74_76 dX8_set_21 dX8_set_24 dX8_set_25 dX8_set_27 dX8_set_30 (by decide) (by decide) (by decide) (by decide) (by decide) (by decide) (fun z => ⟨z, rfl⟩)
set_option maxRecDepth 100000 in
set_option maxHeartbeats 4000000 in
theorem ci_L_set_53 (l : Launch) (hlt : l.stackTraces = false) {g : gx_T} {σ : sx_T} {b : Nat} (hK : lay b σ) (w1 : Int32) (w2 : Int32) (w3 : Int32) (w4 : Int32) (q1_w1 : (-2147483648 : Int) ≤ w1.toInt) (q2_w1 : w1.toInt ≤ (-1 : Int)) (hR_0_0 : sx_R σ (b + 0) 0 = (some (b + 1))) (hR_1_0 : sx_R σ (b + 1) 0 = (some (b + 9))) : Met l yL_set (.codeWith yL_set cL_set 8 (some .int) [(0, 16, 19, 13), (0, 16, 23, 15)] :: lw_g) { frames := 8, cells := 1, slots := 6, locals := 164 } (va_Pc [.ref (b + 0), .int 0, .int w1, .int w2, .int w3, .int w4, .ref (b + 431)] (zx_w g σ)) (va_Qi (fun r u => r = 1 ∧ ∃ z, u = (ap b (wx_Z σ z) [] [] [])) (zx_w g) (gx_Q g)) 1 6 (gx_Q g) := by
  refine z_metW (by decide) (Nat.le_of_ble_eq_true rfl) (fun p e s m below meth c B hr htab => ?_)
  refine z_eqs (σ' := (ap b σ [] [] [])) rfl ?_
  show zx p l e _ s m _ below meth c g 8 0 0 _ _ 0 [(0, .ref (b + 0)), (1, .int 0), (2, .int w1), (3, .int w2), (4, .int w3), (5, .int w4), (6, .ref (b + 431))] []
  refine z_aload B dL_set_0 6 rfl ?_
  refine z_iconst (v := 0) B dL_set_2 (by decide) ?_
  refine z_aload_n B dL_set_3 rfl 0 rfl ?_
  refine z_iload_n B dL_set_4 rfl 1 rfl ?_
  refine z_iload_n B dL_set_5 rfl 2 rfl ?_
  refine z_iload_n B dL_set_6 rfl 3 rfl ?_
  refine z_iload B dL_set_7 4 rfl ?_
  refine z_iload B dL_set_9 5 rfl ?_
  refine z_cXi (As := [.int 0, .int w1, .int w2, .int w3, .int w4]) (rest := [.int 0, .ref (b + 431)]) B htab tc_set_11_IndexOutOfBoundsException cw_L_7 cx_9 dL_set_11 (ci_X8_set_52 l hlt (σ := (ap b σ [] [] [])) (b := b) (lyA hK) w1 w2 w3 w4 q1_w1 q2_w1 (rR_at 0 0 hR_0_0) (rR_at 1 0 hR_1_0)) (lKA (hk_K hK 0 rfl rfl)) rfl (by decide) rfl (Nat.le_of_ble_eq_true rfl) (by decide) (fun z q => ?_)
  refine z_eqs (σ' := (ap b (wx_Z σ z) [] [] [])) rfl ?_
  show zx p l e _ s m _ below meth c g 8 _ _ _ _ 19 [(0, .ref (b + 0)), (1, .int 0), (2, .int w1), (3, .int w2), (4, .int w3), (5, .int w4), (6, .ref (b + 431))] _
  refine z_astore (lv' := [(7, .ref q), (0, .ref (b + 0)), (1, .int 0), (2, .int w1), (3, .int w2), (4, .int w3), (5, .int w4), (6, .ref (b + 431))]) B dL_set_19 (by decide) rfl ?_
  refine z_iconst (v := 1) B dL_set_21 (by decide) ?_
  exact z_iret B hr (by decide) (by decide) dL_set_22 ⟨rfl, _, rfl⟩
set_option maxRecDepth 100000 in
set_option maxHeartbeats 4000000 in
theorem ci_X9_in_54 (l : Launch) {g : gx_T} {σ : sx_T} {b : Nat} (hK : lay b σ)    : Met l yX9_in (.code yX9_in cX9_in 3 (some .boolean) :: lw_g) { frames := 0, cells := 0, slots := 0, locals := 0 } (va_Pc [.int 0, .int 0, .int 5] (zx_w g σ)) (va_Qi (fun r u => r = 1 ∧ u = σ) (zx_w g) (gx_Q g)) 0 0 (gx_Q g) := by
  refine z_met (by decide) (Nat.le_of_ble_eq_true rfl) (fun p e s m below meth c B hr hin => ?_)
  refine z_eqs (σ' := (ap b σ [] [] [])) rfl ?_
  show zx p l e _ s m _ below meth c g 3 0 0 _ _ 0 [(0, .int 0), (1, .int 0), (2, .int 5)] []
  refine z_iload_n B dX9_in_0 rfl 0 rfl ?_
  refine z_iload_n B dX9_in_1 rfl 1 rfl ?_
  refine z_icmp_lt (tgt := 14) B dX9_in_2 (by decide) (fun h => absurd h (by decide)) (fun _ => ?_)
  refine z_iload_n B dX9_in_5 rfl 0 rfl ?_
  refine z_iload_n B dX9_in_6 rfl 2 rfl ?_
  refine z_icmp_gt (tgt := 14) B dX9_in_7 (by decide) (fun h => absurd h (by decide)) (fun _ => ?_)
  refine z_iconst (v := 1) B dX9_in_10 (by decide) ?_
  refine z_goto (tgt := 15) B dX9_in_11 (by decide) ?_
  exact z_zret B hr (by decide) (by decide) (by decide) dX9_in_15 ⟨rfl, rfl⟩
set_option maxRecDepth 100000 in
set_option maxHeartbeats 4000000 in
theorem ci_X9_in_55 (l : Launch) {g : gx_T} {σ : sx_T} {b : Nat} (hK : lay b σ) (w1 : Int32) (q1_w1 : (-2147483648 : Int) ≤ w1.toInt) (q2_w1 : w1.toInt ≤ (-1 : Int))  : Met l yX9_in (.code yX9_in cX9_in 3 (some .boolean) :: lw_g) { frames := 0, cells := 0, slots := 0, locals := 0 } (va_Pc [.int w1, .int 0, .int 19] (zx_w g σ)) (va_Qi (fun r u => r = 0 ∧ u = σ) (zx_w g) (gx_Q g)) 0 0 (gx_Q g) := by
  refine z_met (by decide) (Nat.le_of_ble_eq_true rfl) (fun p e s m below meth c B hr hin => ?_)
  refine z_eqs (σ' := (ap b σ [] [] [])) rfl ?_
  show zx p l e _ s m _ below meth c g 3 0 0 _ _ 0 [(0, .int w1), (1, .int 0), (2, .int 19)] []
  refine z_iload_n B dX9_in_0 rfl 0 rfl ?_
  refine z_iload_n B dX9_in_1 rfl 1 rfl ?_
  refine z_icmp_lt (tgt := 14) B dX9_in_2 (by decide) (fun _ => ?_) (fun h => absurd (iv_lt q2_w1 (by decide)) h)
  refine z_iconst (v := 0) B dX9_in_14 (by decide) ?_
  exact z_zret B hr (by decide) (by decide) (by decide) dX9_in_15 ⟨rfl, rfl⟩
set_option maxRecDepth 100000 in
set_option maxHeartbeats 4000000 in
theorem ci_X9_isStep_56 (l : Launch) {g : gx_T} {σ : sx_T} {b : Nat} (hK : lay b σ) (w1 : Int32) (q1_w1 : (-2147483648 : Int) ≤ w1.toInt) (q2_w1 : w1.toInt ≤ (-1 : Int))  : Met l yX9_isStep (.code yX9_isStep cX9_isStep 2 (some .boolean) :: lw_g) { frames := 1, cells := 0, slots := 0, locals := 22 } (va_Pc [.int 0, .int w1] (zx_w g σ)) (va_Qi (fun r u => r = 0 ∧ u = σ) (zx_w g) (gx_Q g)) 0 0 (gx_Q g) := by
  refine z_met (by decide) (Nat.le_of_ble_eq_true rfl) (fun p e s m below meth c B hr hin => ?_)
  refine z_eqs (σ' := (ap b σ [] [] [])) rfl ?_
  show zx p l e _ s m _ below meth c g 2 0 0 _ _ 0 [(0, .int 0), (1, .int w1)] []
  refine z_iload_n B dX9_isStep_0 rfl 0 rfl ?_
  refine z_iconst (v := 0) B dX9_isStep_1 (by decide) ?_
  refine z_iconst (v := 5) B dX9_isStep_2 (by decide) ?_
  refine z_cSi (As := [.int 0, .int 0, .int 5]) (rest := []) B cw_X9_96 dX9_isStep_3 (ci_X9_in_54 l (σ := (ap b σ [] [] [])) (b := b) (lyA hK) ) rfl (by decide) rfl (Nat.le_of_ble_eq_true rfl) (by decide) (fun r u hu => ?_)
  refine z_eqs (σ' := (ap b σ [] [] [])) hu.2 ?_
  show zx p l e _ s m _ below meth c g 2 0 0 _ _ 6 [(0, .int 0), (1, .int w1)] _
  refine z_seti (y := 1) hu.1 ?_
  refine z_if_eq (tgt := 23) B dX9_isStep_6 (by decide) (fun h => absurd h (by decide)) (fun _ => ?_)
  refine z_iload_n B dX9_isStep_9 rfl 1 rfl ?_
  refine z_iconst (v := 0) B dX9_isStep_10 (by decide) ?_
  refine z_bipush (v := 19) B dX9_isStep_11 (by decide) ?_
  refine z_cSi (As := [.int w1, .int 0, .int 19]) (rest := []) B cw_X9_96 dX9_isStep_13 (ci_X9_in_55 l (σ := (ap b σ [] [] [])) (b := b) (lyA hK) w1 q1_w1 q2_w1) rfl (by decide) rfl (Nat.le_of_ble_eq_true rfl) (by decide) (fun r u hu => ?_)
  refine z_eqs (σ' := (ap b σ [] [] [])) hu.2 ?_
  show zx p l e _ s m _ below meth c g 2 0 0 _ _ 16 [(0, .int 0), (1, .int w1)] _
  refine z_seti (y := 0) hu.1 ?_
  refine z_if_eq (tgt := 23) B dX9_isStep_16 (by decide) (fun _ => ?_) (fun h => absurd (by decide) h)
  refine z_iconst (v := 0) B dX9_isStep_23 (by decide) ?_
  exact z_zret B hr (by decide) (by decide) (by decide) dX9_isStep_24 ⟨rfl, rfl⟩
set_option maxRecDepth 100000 in
set_option maxHeartbeats 4000000 in
theorem ci_X9_set_57 (l : Launch) {g : gx_T} {σ : sx_T} {b : Nat} (hK : lay b σ) (w1 : Int32) (w2 : Int32) (w3 : Int32) (w4 : Int32) (q1_w1 : (-2147483648 : Int) ≤ w1.toInt) (q2_w1 : w1.toInt ≤ (-1 : Int)) (q1_w2 : (-2147483648 : Int) ≤ w2.toInt) (q2_w2 : w2.toInt ≤ (-1 : Int))  : Met l yX9_set (.code yX9_set cX9_set 7 (some .int) :: lw_g) { frames := 2, cells := 0, slots := 0, locals := 44 } (va_Pc [.ref (b + 405), .int 0, .int w1, .int w2, .int w3, .int w4] (zx_w g σ)) (va_Qi (fun r u => r = 0 ∧ u = (ap b σ [(405, 0, 1)] [] [])) (zx_w g) (gx_Q g)) 0 0 (gx_Q g) := by
  refine z_met (by decide) (Nat.le_of_ble_eq_true rfl) (fun p e s m below meth c B hr hin => ?_)
  refine z_eqs (σ' := (ap b σ [] [] [])) rfl ?_
  show zx p l e _ s m _ below meth c g 7 0 0 _ _ 0 [(0, .ref (b + 405)), (1, .int 0), (2, .int w1), (3, .int w2), (4, .int w3), (5, .int w4)] []
  refine z_aload_n B dX9_set_0 rfl 0 rfl ?_
  refine z_iload_n B dX9_set_1 rfl 1 rfl ?_
  refine z_iload_n B dX9_set_2 rfl 2 rfl ?_
  refine z_cSi (As := [.int 0, .int w1]) (rest := [.ref (b + 405)]) B cw_X9_238 dX9_set_3 (ci_X9_isStep_56 l (σ := (ap b σ [] [] [])) (b := b) (lyA hK) w1 q1_w1 q2_w1) rfl (by decide) rfl (Nat.le_of_ble_eq_true rfl) (by decide) (fun r u hu => ?_)
  refine z_eqs (σ' := (ap b σ [] [] [])) hu.2 ?_
  show zx p l e _ s m _ below meth c g 7 0 0 _ _ 6 [(0, .ref (b + 405)), (1, .int 0), (2, .int w1), (3, .int w2), (4, .int w3), (5, .int w4)] _
  refine z_seti (y := 0) hu.1 ?_
  refine z_iload_n B dX9_set_6 rfl 3 rfl ?_
  refine z_iload B dX9_set_7 4 rfl ?_
  refine z_iload B dX9_set_9 5 rfl ?_
  refine z_cSi (As := [.int w2, .int w3, .int w4]) (rest := [.int 0, .ref (b + 405)]) B cw_X9_242 dX9_set_11 (ci_X9_isOperation_28 l (σ := (ap b σ [] [] [])) (b := b) (lyA hK) w2 w3 w4 q1_w2 q2_w2) rfl (by decide) rfl (Nat.le_of_ble_eq_true rfl) (by decide) (fun r u hu => ?_)
  refine z_eqs (σ' := (ap b σ [] [] [])) hu.2 ?_
  show zx p l e _ s m _ below meth c g 7 0 0 _ _ 14 [(0, .ref (b + 405)), (1, .int 0), (2, .int w1), (3, .int w2), (4, .int w3), (5, .int w4)] _
  refine z_seti (y := 0) hu.1 ?_
  refine z_cVi (As := [.int 0, .int 0]) (rest := []) B cw_X9_245 cx_10 dX9_set_14 (ci_X9_needs__29 l (σ := (ap b σ [] [] [])) (b := b) (lyA hK) ) (lKA (hk_K hK 405 rfl rfl)) rfl (by decide) rfl (Nat.le_of_ble_eq_true rfl) (by decide) (fun r u hu => ?_)
  refine z_eqs (σ' := (ap b σ [(405, 0, 1)] [] [])) (hu.2.trans ap_ap) ?_
  show zx p l e _ s m _ below meth c g 7 0 0 _ _ 17 [(0, .ref (b + 405)), (1, .int 0), (2, .int w1), (3, .int w2), (4, .int w3), (5, .int w4)] _
  refine z_seti (y := 0) hu.1 ?_
  refine z_if_ne (tgt := 22) B dX9_set_17 (by decide) (fun h => absurd (by decide) h) (fun _ => ?_)
  refine z_iconst (v := 0) B dX9_set_20 (by decide) ?_
  exact z_iret B hr (by decide) (by decide) dX9_set_21 ⟨rfl, rfl⟩
set_option maxRecDepth 100000 in
set_option maxHeartbeats 4000000 in
theorem ci_X9_set_58 (l : Launch) {g : gx_T} {σ : sx_T} {b : Nat} (hK : lay b σ) (w1 : Int32) (w2 : Int32) (w3 : Int32) (w4 : Int32) (q1_w1 : (-2147483648 : Int) ≤ w1.toInt) (q2_w1 : w1.toInt ≤ (-1 : Int)) (q1_w2 : (0 : Int) ≤ w2.toInt) (q2_w2 : w2.toInt ≤ (17 : Int)) (q1_w3 : (-2147483648 : Int) ≤ w3.toInt) (q2_w3 : w3.toInt ≤ (-1 : Int))  : Met l yX9_set (.code yX9_set cX9_set 7 (some .int) :: lw_g) { frames := 2, cells := 0, slots := 0, locals := 44 } (va_Pc [.ref (b + 405), .int 0, .int w1, .int w2, .int w3, .int w4] (zx_w g σ)) (va_Qi (fun r u => r = 0 ∧ u = (ap b σ [(405, 0, 1)] [] [])) (zx_w g) (gx_Q g)) 0 0 (gx_Q g) := by
  refine z_met (by decide) (Nat.le_of_ble_eq_true rfl) (fun p e s m below meth c B hr hin => ?_)
  refine z_eqs (σ' := (ap b σ [] [] [])) rfl ?_
  show zx p l e _ s m _ below meth c g 7 0 0 _ _ 0 [(0, .ref (b + 405)), (1, .int 0), (2, .int w1), (3, .int w2), (4, .int w3), (5, .int w4)] []
  refine z_aload_n B dX9_set_0 rfl 0 rfl ?_
  refine z_iload_n B dX9_set_1 rfl 1 rfl ?_
  refine z_iload_n B dX9_set_2 rfl 2 rfl ?_
  refine z_cSi (As := [.int 0, .int w1]) (rest := [.ref (b + 405)]) B cw_X9_238 dX9_set_3 (ci_X9_isStep_56 l (σ := (ap b σ [] [] [])) (b := b) (lyA hK) w1 q1_w1 q2_w1) rfl (by decide) rfl (Nat.le_of_ble_eq_true rfl) (by decide) (fun r u hu => ?_)
  refine z_eqs (σ' := (ap b σ [] [] [])) hu.2 ?_
  show zx p l e _ s m _ below meth c g 7 0 0 _ _ 6 [(0, .ref (b + 405)), (1, .int 0), (2, .int w1), (3, .int w2), (4, .int w3), (5, .int w4)] _
  refine z_seti (y := 0) hu.1 ?_
  refine z_iload_n B dX9_set_6 rfl 3 rfl ?_
  refine z_iload B dX9_set_7 4 rfl ?_
  refine z_iload B dX9_set_9 5 rfl ?_
  refine z_cSi (As := [.int w2, .int w3, .int w4]) (rest := [.int 0, .ref (b + 405)]) B cw_X9_242 dX9_set_11 (ci_X9_isOperation_34 l (σ := (ap b σ [] [] [])) (b := b) (lyA hK) w2 w3 w4 q1_w2 q2_w2 q1_w3 q2_w3) rfl (by decide) rfl (Nat.le_of_ble_eq_true rfl) (by decide) (fun r u hu => ?_)
  refine z_eqs (σ' := (ap b σ [] [] [])) hu.2 ?_
  show zx p l e _ s m _ below meth c g 7 0 0 _ _ 14 [(0, .ref (b + 405)), (1, .int 0), (2, .int w1), (3, .int w2), (4, .int w3), (5, .int w4)] _
  refine z_seti (y := 0) hu.1 ?_
  refine z_cVi (As := [.int 0, .int 0]) (rest := []) B cw_X9_245 cx_10 dX9_set_14 (ci_X9_needs__29 l (σ := (ap b σ [] [] [])) (b := b) (lyA hK) ) (lKA (hk_K hK 405 rfl rfl)) rfl (by decide) rfl (Nat.le_of_ble_eq_true rfl) (by decide) (fun r u hu => ?_)
  refine z_eqs (σ' := (ap b σ [(405, 0, 1)] [] [])) (hu.2.trans ap_ap) ?_
  show zx p l e _ s m _ below meth c g 7 0 0 _ _ 17 [(0, .ref (b + 405)), (1, .int 0), (2, .int w1), (3, .int w2), (4, .int w3), (5, .int w4)] _
  refine z_seti (y := 0) hu.1 ?_
  refine z_if_ne (tgt := 22) B dX9_set_17 (by decide) (fun h => absurd (by decide) h) (fun _ => ?_)
  refine z_iconst (v := 0) B dX9_set_20 (by decide) ?_
  exact z_iret B hr (by decide) (by decide) dX9_set_21 ⟨rfl, rfl⟩
set_option maxRecDepth 100000 in
set_option maxHeartbeats 4000000 in
theorem ci_X9_set_59 (l : Launch) {g : gx_T} {σ : sx_T} {b : Nat} (hK : lay b σ) (w1 : Int32) (w2 : Int32) (w3 : Int32) (w4 : Int32) (q1_w1 : (-2147483648 : Int) ≤ w1.toInt) (q2_w1 : w1.toInt ≤ (-1 : Int)) (q1_w2 : (0 : Int) ≤ w2.toInt) (q2_w2 : w2.toInt ≤ (17 : Int)) (q1_w3 : (0 : Int) ≤ w3.toInt) (q2_w3 : w3.toInt ≤ (99 : Int)) (q1_w4 : (-2147483648 : Int) ≤ w4.toInt) (q2_w4 : w4.toInt ≤ (-1 : Int))  : Met l yX9_set (.code yX9_set cX9_set 7 (some .int) :: lw_g) { frames := 2, cells := 0, slots := 0, locals := 44 } (va_Pc [.ref (b + 405), .int 0, .int w1, .int w2, .int w3, .int w4] (zx_w g σ)) (va_Qi (fun r u => r = 0 ∧ u = (ap b σ [(405, 0, 1)] [] [])) (zx_w g) (gx_Q g)) 0 0 (gx_Q g) := by
  refine z_met (by decide) (Nat.le_of_ble_eq_true rfl) (fun p e s m below meth c B hr hin => ?_)
  refine z_eqs (σ' := (ap b σ [] [] [])) rfl ?_
  show zx p l e _ s m _ below meth c g 7 0 0 _ _ 0 [(0, .ref (b + 405)), (1, .int 0), (2, .int w1), (3, .int w2), (4, .int w3), (5, .int w4)] []
  refine z_aload_n B dX9_set_0 rfl 0 rfl ?_
  refine z_iload_n B dX9_set_1 rfl 1 rfl ?_
  refine z_iload_n B dX9_set_2 rfl 2 rfl ?_
  refine z_cSi (As := [.int 0, .int w1]) (rest := [.ref (b + 405)]) B cw_X9_238 dX9_set_3 (ci_X9_isStep_56 l (σ := (ap b σ [] [] [])) (b := b) (lyA hK) w1 q1_w1 q2_w1) rfl (by decide) rfl (Nat.le_of_ble_eq_true rfl) (by decide) (fun r u hu => ?_)
  refine z_eqs (σ' := (ap b σ [] [] [])) hu.2 ?_
  show zx p l e _ s m _ below meth c g 7 0 0 _ _ 6 [(0, .ref (b + 405)), (1, .int 0), (2, .int w1), (3, .int w2), (4, .int w3), (5, .int w4)] _
  refine z_seti (y := 0) hu.1 ?_
  refine z_iload_n B dX9_set_6 rfl 3 rfl ?_
  refine z_iload B dX9_set_7 4 rfl ?_
  refine z_iload B dX9_set_9 5 rfl ?_
  refine z_cSi (As := [.int w2, .int w3, .int w4]) (rest := [.int 0, .ref (b + 405)]) B cw_X9_242 dX9_set_11 (ci_X9_isOperation_37 l (σ := (ap b σ [] [] [])) (b := b) (lyA hK) w2 w3 w4 q1_w2 q2_w2 q1_w3 q2_w3 q1_w4 q2_w4) rfl (by decide) rfl (Nat.le_of_ble_eq_true rfl) (by decide) (fun r u hu => ?_)
  refine z_eqs (σ' := (ap b σ [] [] [])) hu.2 ?_
  show zx p l e _ s m _ below meth c g 7 0 0 _ _ 14 [(0, .ref (b + 405)), (1, .int 0), (2, .int w1), (3, .int w2), (4, .int w3), (5, .int w4)] _
  refine z_seti (y := 0) hu.1 ?_
  refine z_cVi (As := [.int 0, .int 0]) (rest := []) B cw_X9_245 cx_10 dX9_set_14 (ci_X9_needs__29 l (σ := (ap b σ [] [] [])) (b := b) (lyA hK) ) (lKA (hk_K hK 405 rfl rfl)) rfl (by decide) rfl (Nat.le_of_ble_eq_true rfl) (by decide) (fun r u hu => ?_)
  refine z_eqs (σ' := (ap b σ [(405, 0, 1)] [] [])) (hu.2.trans ap_ap) ?_
  show zx p l e _ s m _ below meth c g 7 0 0 _ _ 17 [(0, .ref (b + 405)), (1, .int 0), (2, .int w1), (3, .int w2), (4, .int w3), (5, .int w4)] _
  refine z_seti (y := 0) hu.1 ?_
  refine z_if_ne (tgt := 22) B dX9_set_17 (by decide) (fun h => absurd (by decide) h) (fun _ => ?_)
  refine z_iconst (v := 0) B dX9_set_20 (by decide) ?_
  exact z_iret B hr (by decide) (by decide) dX9_set_21 ⟨rfl, rfl⟩
set_option maxRecDepth 100000 in
set_option maxHeartbeats 4000000 in
theorem ci_X9_set_60 (l : Launch) {g : gx_T} {σ : sx_T} {b : Nat} (hK : lay b σ) (w1 : Int32) (w2 : Int32) (w3 : Int32) (w4 : Int32) (q1_w1 : (-2147483648 : Int) ≤ w1.toInt) (q2_w1 : w1.toInt ≤ (-1 : Int)) (q1_w2 : (0 : Int) ≤ w2.toInt) (q2_w2 : w2.toInt ≤ (17 : Int)) (q1_w3 : (0 : Int) ≤ w3.toInt) (q2_w3 : w3.toInt ≤ (99 : Int)) (q1_w4 : (0 : Int) ≤ w4.toInt) (q2_w4 : w4.toInt ≤ (99 : Int))  : Met l yX9_set (.code yX9_set cX9_set 7 (some .int) :: lw_g) { frames := 2, cells := 0, slots := 0, locals := 44 } (va_Pc [.ref (b + 405), .int 0, .int w1, .int w2, .int w3, .int w4] (zx_w g σ)) (va_Qi (fun r u => r = 0 ∧ u = (ap b σ [(405, 0, 1)] [] [])) (zx_w g) (gx_Q g)) 0 0 (gx_Q g) := by
  refine z_met (by decide) (Nat.le_of_ble_eq_true rfl) (fun p e s m below meth c B hr hin => ?_)
  refine z_eqs (σ' := (ap b σ [] [] [])) rfl ?_
  show zx p l e _ s m _ below meth c g 7 0 0 _ _ 0 [(0, .ref (b + 405)), (1, .int 0), (2, .int w1), (3, .int w2), (4, .int w3), (5, .int w4)] []
  refine z_aload_n B dX9_set_0 rfl 0 rfl ?_
  refine z_iload_n B dX9_set_1 rfl 1 rfl ?_
  refine z_iload_n B dX9_set_2 rfl 2 rfl ?_
  refine z_cSi (As := [.int 0, .int w1]) (rest := [.ref (b + 405)]) B cw_X9_238 dX9_set_3 (ci_X9_isStep_56 l (σ := (ap b σ [] [] [])) (b := b) (lyA hK) w1 q1_w1 q2_w1) rfl (by decide) rfl (Nat.le_of_ble_eq_true rfl) (by decide) (fun r u hu => ?_)
  refine z_eqs (σ' := (ap b σ [] [] [])) hu.2 ?_
  show zx p l e _ s m _ below meth c g 7 0 0 _ _ 6 [(0, .ref (b + 405)), (1, .int 0), (2, .int w1), (3, .int w2), (4, .int w3), (5, .int w4)] _
  refine z_seti (y := 0) hu.1 ?_
  refine z_iload_n B dX9_set_6 rfl 3 rfl ?_
  refine z_iload B dX9_set_7 4 rfl ?_
  refine z_iload B dX9_set_9 5 rfl ?_
  refine z_cSi (As := [.int w2, .int w3, .int w4]) (rest := [.int 0, .ref (b + 405)]) B cw_X9_242 dX9_set_11 (ci_X9_isOperation_39 l (σ := (ap b σ [] [] [])) (b := b) (lyA hK) w2 w3 w4 q1_w2 q2_w2 q1_w3 q2_w3 q1_w4 q2_w4) rfl (by decide) rfl (Nat.le_of_ble_eq_true rfl) (by decide) (fun r u hu => ?_)
  refine z_eqs (σ' := (ap b σ [] [] [])) hu.2 ?_
  show zx p l e _ s m _ below meth c g 7 0 0 _ _ 14 [(0, .ref (b + 405)), (1, .int 0), (2, .int w1), (3, .int w2), (4, .int w3), (5, .int w4)] _
  refine z_seti (y := 1) hu.1 ?_
  refine z_cVi (As := [.int 0, .int 1]) (rest := []) B cw_X9_245 cx_10 dX9_set_14 (ci_X9_needs__40 l (σ := (ap b σ [] [] [])) (b := b) (lyA hK) ) (lKA (hk_K hK 405 rfl rfl)) rfl (by decide) rfl (Nat.le_of_ble_eq_true rfl) (by decide) (fun r u hu => ?_)
  refine z_eqs (σ' := (ap b σ [(405, 0, 1)] [] [])) (hu.2.trans ap_ap) ?_
  show zx p l e _ s m _ below meth c g 7 0 0 _ _ 17 [(0, .ref (b + 405)), (1, .int 0), (2, .int w1), (3, .int w2), (4, .int w3), (5, .int w4)] _
  refine z_seti (y := 0) hu.1 ?_
  refine z_if_ne (tgt := 22) B dX9_set_17 (by decide) (fun h => absurd (by decide) h) (fun _ => ?_)
  refine z_iconst (v := 0) B dX9_set_20 (by decide) ?_
  exact z_iret B hr (by decide) (by decide) dX9_set_21 ⟨rfl, rfl⟩
set_option maxRecDepth 100000 in
set_option maxHeartbeats 4000000 in
theorem ci_X9_set_61 (l : Launch) {g : gx_T} {σ : sx_T} {b : Nat} (hK : lay b σ) (w1 : Int32) (w2 : Int32) (w3 : Int32) (w4 : Int32) (q1_w1 : (-2147483648 : Int) ≤ w1.toInt) (q2_w1 : w1.toInt ≤ (-1 : Int)) (q1_w2 : (0 : Int) ≤ w2.toInt) (q2_w2 : w2.toInt ≤ (17 : Int)) (q1_w3 : (0 : Int) ≤ w3.toInt) (q2_w3 : w3.toInt ≤ (99 : Int)) (q1_w4 : (100 : Int) ≤ w4.toInt) (q2_w4 : w4.toInt ≤ (2147483647 : Int))  : Met l yX9_set (.code yX9_set cX9_set 7 (some .int) :: lw_g) { frames := 2, cells := 0, slots := 0, locals := 44 } (va_Pc [.ref (b + 405), .int 0, .int w1, .int w2, .int w3, .int w4] (zx_w g σ)) (va_Qi (fun r u => r = 0 ∧ u = (ap b σ [(405, 0, 1)] [] [])) (zx_w g) (gx_Q g)) 0 0 (gx_Q g) := by
  refine z_met (by decide) (Nat.le_of_ble_eq_true rfl) (fun p e s m below meth c B hr hin => ?_)
  refine z_eqs (σ' := (ap b σ [] [] [])) rfl ?_
  show zx p l e _ s m _ below meth c g 7 0 0 _ _ 0 [(0, .ref (b + 405)), (1, .int 0), (2, .int w1), (3, .int w2), (4, .int w3), (5, .int w4)] []
  refine z_aload_n B dX9_set_0 rfl 0 rfl ?_
  refine z_iload_n B dX9_set_1 rfl 1 rfl ?_
  refine z_iload_n B dX9_set_2 rfl 2 rfl ?_
  refine z_cSi (As := [.int 0, .int w1]) (rest := [.ref (b + 405)]) B cw_X9_238 dX9_set_3 (ci_X9_isStep_56 l (σ := (ap b σ [] [] [])) (b := b) (lyA hK) w1 q1_w1 q2_w1) rfl (by decide) rfl (Nat.le_of_ble_eq_true rfl) (by decide) (fun r u hu => ?_)
  refine z_eqs (σ' := (ap b σ [] [] [])) hu.2 ?_
  show zx p l e _ s m _ below meth c g 7 0 0 _ _ 6 [(0, .ref (b + 405)), (1, .int 0), (2, .int w1), (3, .int w2), (4, .int w3), (5, .int w4)] _
  refine z_seti (y := 0) hu.1 ?_
  refine z_iload_n B dX9_set_6 rfl 3 rfl ?_
  refine z_iload B dX9_set_7 4 rfl ?_
  refine z_iload B dX9_set_9 5 rfl ?_
  refine z_cSi (As := [.int w2, .int w3, .int w4]) (rest := [.int 0, .ref (b + 405)]) B cw_X9_242 dX9_set_11 (ci_X9_isOperation_43 l (σ := (ap b σ [] [] [])) (b := b) (lyA hK) w2 w3 w4 q1_w2 q2_w2 q1_w3 q2_w3 q1_w4 q2_w4) rfl (by decide) rfl (Nat.le_of_ble_eq_true rfl) (by decide) (fun r u hu => ?_)
  refine z_eqs (σ' := (ap b σ [] [] [])) hu.2 ?_
  show zx p l e _ s m _ below meth c g 7 0 0 _ _ 14 [(0, .ref (b + 405)), (1, .int 0), (2, .int w1), (3, .int w2), (4, .int w3), (5, .int w4)] _
  refine z_seti (y := 0) hu.1 ?_
  refine z_cVi (As := [.int 0, .int 0]) (rest := []) B cw_X9_245 cx_10 dX9_set_14 (ci_X9_needs__29 l (σ := (ap b σ [] [] [])) (b := b) (lyA hK) ) (lKA (hk_K hK 405 rfl rfl)) rfl (by decide) rfl (Nat.le_of_ble_eq_true rfl) (by decide) (fun r u hu => ?_)
  refine z_eqs (σ' := (ap b σ [(405, 0, 1)] [] [])) (hu.2.trans ap_ap) ?_
  show zx p l e _ s m _ below meth c g 7 0 0 _ _ 17 [(0, .ref (b + 405)), (1, .int 0), (2, .int w1), (3, .int w2), (4, .int w3), (5, .int w4)] _
  refine z_seti (y := 0) hu.1 ?_
  refine z_if_ne (tgt := 22) B dX9_set_17 (by decide) (fun h => absurd (by decide) h) (fun _ => ?_)
  refine z_iconst (v := 0) B dX9_set_20 (by decide) ?_
  exact z_iret B hr (by decide) (by decide) dX9_set_21 ⟨rfl, rfl⟩
set_option maxRecDepth 100000 in
set_option maxHeartbeats 4000000 in
theorem ci_X9_set_62 (l : Launch) {g : gx_T} {σ : sx_T} {b : Nat} (hK : lay b σ) (w1 : Int32) (w2 : Int32) (w3 : Int32) (w4 : Int32) (q1_w1 : (-2147483648 : Int) ≤ w1.toInt) (q2_w1 : w1.toInt ≤ (-1 : Int)) (q1_w2 : (0 : Int) ≤ w2.toInt) (q2_w2 : w2.toInt ≤ (17 : Int)) (q1_w3 : (100 : Int) ≤ w3.toInt) (q2_w3 : w3.toInt ≤ (2147483647 : Int))  : Met l yX9_set (.code yX9_set cX9_set 7 (some .int) :: lw_g) { frames := 2, cells := 0, slots := 0, locals := 44 } (va_Pc [.ref (b + 405), .int 0, .int w1, .int w2, .int w3, .int w4] (zx_w g σ)) (va_Qi (fun r u => r = 0 ∧ u = (ap b σ [(405, 0, 1)] [] [])) (zx_w g) (gx_Q g)) 0 0 (gx_Q g) := by
  refine z_met (by decide) (Nat.le_of_ble_eq_true rfl) (fun p e s m below meth c B hr hin => ?_)
  refine z_eqs (σ' := (ap b σ [] [] [])) rfl ?_
  show zx p l e _ s m _ below meth c g 7 0 0 _ _ 0 [(0, .ref (b + 405)), (1, .int 0), (2, .int w1), (3, .int w2), (4, .int w3), (5, .int w4)] []
  refine z_aload_n B dX9_set_0 rfl 0 rfl ?_
  refine z_iload_n B dX9_set_1 rfl 1 rfl ?_
  refine z_iload_n B dX9_set_2 rfl 2 rfl ?_
  refine z_cSi (As := [.int 0, .int w1]) (rest := [.ref (b + 405)]) B cw_X9_238 dX9_set_3 (ci_X9_isStep_56 l (σ := (ap b σ [] [] [])) (b := b) (lyA hK) w1 q1_w1 q2_w1) rfl (by decide) rfl (Nat.le_of_ble_eq_true rfl) (by decide) (fun r u hu => ?_)
  refine z_eqs (σ' := (ap b σ [] [] [])) hu.2 ?_
  show zx p l e _ s m _ below meth c g 7 0 0 _ _ 6 [(0, .ref (b + 405)), (1, .int 0), (2, .int w1), (3, .int w2), (4, .int w3), (5, .int w4)] _
  refine z_seti (y := 0) hu.1 ?_
  refine z_iload_n B dX9_set_6 rfl 3 rfl ?_
  refine z_iload B dX9_set_7 4 rfl ?_
  refine z_iload B dX9_set_9 5 rfl ?_
  refine z_cSi (As := [.int w2, .int w3, .int w4]) (rest := [.int 0, .ref (b + 405)]) B cw_X9_242 dX9_set_11 (ci_X9_isOperation_45 l (σ := (ap b σ [] [] [])) (b := b) (lyA hK) w2 w3 w4 q1_w2 q2_w2 q1_w3 q2_w3) rfl (by decide) rfl (Nat.le_of_ble_eq_true rfl) (by decide) (fun r u hu => ?_)
  refine z_eqs (σ' := (ap b σ [] [] [])) hu.2 ?_
  show zx p l e _ s m _ below meth c g 7 0 0 _ _ 14 [(0, .ref (b + 405)), (1, .int 0), (2, .int w1), (3, .int w2), (4, .int w3), (5, .int w4)] _
  refine z_seti (y := 0) hu.1 ?_
  refine z_cVi (As := [.int 0, .int 0]) (rest := []) B cw_X9_245 cx_10 dX9_set_14 (ci_X9_needs__29 l (σ := (ap b σ [] [] [])) (b := b) (lyA hK) ) (lKA (hk_K hK 405 rfl rfl)) rfl (by decide) rfl (Nat.le_of_ble_eq_true rfl) (by decide) (fun r u hu => ?_)
  refine z_eqs (σ' := (ap b σ [(405, 0, 1)] [] [])) (hu.2.trans ap_ap) ?_
  show zx p l e _ s m _ below meth c g 7 0 0 _ _ 17 [(0, .ref (b + 405)), (1, .int 0), (2, .int w1), (3, .int w2), (4, .int w3), (5, .int w4)] _
  refine z_seti (y := 0) hu.1 ?_
  refine z_if_ne (tgt := 22) B dX9_set_17 (by decide) (fun h => absurd (by decide) h) (fun _ => ?_)
  refine z_iconst (v := 0) B dX9_set_20 (by decide) ?_
  exact z_iret B hr (by decide) (by decide) dX9_set_21 ⟨rfl, rfl⟩
set_option maxRecDepth 100000 in
set_option maxHeartbeats 4000000 in
theorem ci_X9_set_63 (l : Launch) {g : gx_T} {σ : sx_T} {b : Nat} (hK : lay b σ) (w1 : Int32) (w2 : Int32) (w3 : Int32) (w4 : Int32) (q1_w1 : (-2147483648 : Int) ≤ w1.toInt) (q2_w1 : w1.toInt ≤ (-1 : Int)) (q1_w2 : (18 : Int) ≤ w2.toInt) (q2_w2 : w2.toInt ≤ (2147483647 : Int))  : Met l yX9_set (.code yX9_set cX9_set 7 (some .int) :: lw_g) { frames := 2, cells := 0, slots := 0, locals := 44 } (va_Pc [.ref (b + 405), .int 0, .int w1, .int w2, .int w3, .int w4] (zx_w g σ)) (va_Qi (fun r u => r = 0 ∧ u = (ap b σ [(405, 0, 1)] [] [])) (zx_w g) (gx_Q g)) 0 0 (gx_Q g) := by
  refine z_met (by decide) (Nat.le_of_ble_eq_true rfl) (fun p e s m below meth c B hr hin => ?_)
  refine z_eqs (σ' := (ap b σ [] [] [])) rfl ?_
  show zx p l e _ s m _ below meth c g 7 0 0 _ _ 0 [(0, .ref (b + 405)), (1, .int 0), (2, .int w1), (3, .int w2), (4, .int w3), (5, .int w4)] []
  refine z_aload_n B dX9_set_0 rfl 0 rfl ?_
  refine z_iload_n B dX9_set_1 rfl 1 rfl ?_
  refine z_iload_n B dX9_set_2 rfl 2 rfl ?_
  refine z_cSi (As := [.int 0, .int w1]) (rest := [.ref (b + 405)]) B cw_X9_238 dX9_set_3 (ci_X9_isStep_56 l (σ := (ap b σ [] [] [])) (b := b) (lyA hK) w1 q1_w1 q2_w1) rfl (by decide) rfl (Nat.le_of_ble_eq_true rfl) (by decide) (fun r u hu => ?_)
  refine z_eqs (σ' := (ap b σ [] [] [])) hu.2 ?_
  show zx p l e _ s m _ below meth c g 7 0 0 _ _ 6 [(0, .ref (b + 405)), (1, .int 0), (2, .int w1), (3, .int w2), (4, .int w3), (5, .int w4)] _
  refine z_seti (y := 0) hu.1 ?_
  refine z_iload_n B dX9_set_6 rfl 3 rfl ?_
  refine z_iload B dX9_set_7 4 rfl ?_
  refine z_iload B dX9_set_9 5 rfl ?_
  refine z_cSi (As := [.int w2, .int w3, .int w4]) (rest := [.int 0, .ref (b + 405)]) B cw_X9_242 dX9_set_11 (ci_X9_isOperation_48 l (σ := (ap b σ [] [] [])) (b := b) (lyA hK) w2 w3 w4 q1_w2 q2_w2) rfl (by decide) rfl (Nat.le_of_ble_eq_true rfl) (by decide) (fun r u hu => ?_)
  refine z_eqs (σ' := (ap b σ [] [] [])) hu.2 ?_
  show zx p l e _ s m _ below meth c g 7 0 0 _ _ 14 [(0, .ref (b + 405)), (1, .int 0), (2, .int w1), (3, .int w2), (4, .int w3), (5, .int w4)] _
  refine z_seti (y := 0) hu.1 ?_
  refine z_cVi (As := [.int 0, .int 0]) (rest := []) B cw_X9_245 cx_10 dX9_set_14 (ci_X9_needs__29 l (σ := (ap b σ [] [] [])) (b := b) (lyA hK) ) (lKA (hk_K hK 405 rfl rfl)) rfl (by decide) rfl (Nat.le_of_ble_eq_true rfl) (by decide) (fun r u hu => ?_)
  refine z_eqs (σ' := (ap b σ [(405, 0, 1)] [] [])) (hu.2.trans ap_ap) ?_
  show zx p l e _ s m _ below meth c g 7 0 0 _ _ 17 [(0, .ref (b + 405)), (1, .int 0), (2, .int w1), (3, .int w2), (4, .int w3), (5, .int w4)] _
  refine z_seti (y := 0) hu.1 ?_
  refine z_if_ne (tgt := 22) B dX9_set_17 (by decide) (fun h => absurd (by decide) h) (fun _ => ?_)
  refine z_iconst (v := 0) B dX9_set_20 (by decide) ?_
  exact z_iret B hr (by decide) (by decide) dX9_set_21 ⟨rfl, rfl⟩
set_option maxRecDepth 100000 in
set_option maxHeartbeats 4000000 in
theorem ci_X8_isBelow_64 (l : Launch) {g : gx_T} {σ : sx_T} {b : Nat} (hK : lay b σ) (w1 : Int32) (q1_w1 : (0 : Int) ≤ w1.toInt) (q2_w1 : w1.toInt ≤ (19 : Int))  : Met l yX8_isBelow (.code yX8_isBelow cX8_isBelow 2 (some .boolean) :: lw_g) { frames := 0, cells := 0, slots := 0, locals := 0 } (va_Pc [.int w1, .int 20] (zx_w g σ)) (va_Qi (fun r u => r = 1 ∧ u = σ) (zx_w g) (gx_Q g)) 0 0 (gx_Q g) := by
  refine z_met (by decide) (Nat.le_of_ble_eq_true rfl) (fun p e s m below meth c B hr hin => ?_)
  refine z_eqs (σ' := (ap b σ [] [] [])) rfl ?_
  show zx p l e _ s m _ below meth c g 2 0 0 _ _ 0 [(0, .int w1), (1, .int 20)] []
  refine z_iload_n B dX8_isBelow_0 rfl 0 rfl ?_
  refine z_if_lt (tgt := 13) B dX8_isBelow_1 (by decide) (fun h => absurd h (iv_nlt q1_w1 (by decide))) (fun _ => ?_)
  refine z_iload_n B dX8_isBelow_4 rfl 0 rfl ?_
  refine z_iload_n B dX8_isBelow_5 rfl 1 rfl ?_
  refine z_icmp_ge (tgt := 13) B dX8_isBelow_6 (by decide) (fun h => absurd h (iv_nge q2_w1 (by decide))) (fun _ => ?_)
  refine z_iconst (v := 1) B dX8_isBelow_9 (by decide) ?_
  refine z_goto (tgt := 14) B dX8_isBelow_10 (by decide) ?_
  exact z_zret B hr (by decide) (by decide) (by decide) dX8_isBelow_14 ⟨rfl, rfl⟩
set_option maxRecDepth 100000 in
set_option maxHeartbeats 4000000 in
theorem ci_X8_isBelow_65 (l : Launch) {g : gx_T} {σ : sx_T} {b : Nat} (hK : lay b σ) (w1 : Int32) (q1_w1 : (-2147483648 : Int) ≤ w1.toInt) (q2_w1 : w1.toInt ≤ (-1 : Int))  : Met l yX8_isBelow (.code yX8_isBelow cX8_isBelow 2 (some .boolean) :: lw_g) { frames := 0, cells := 0, slots := 0, locals := 0 } (va_Pc [.int w1, .int 18] (zx_w g σ)) (va_Qi (fun r u => r = 0 ∧ u = σ) (zx_w g) (gx_Q g)) 0 0 (gx_Q g) := by
  refine z_met (by decide) (Nat.le_of_ble_eq_true rfl) (fun p e s m below meth c B hr hin => ?_)
  refine z_eqs (σ' := (ap b σ [] [] [])) rfl ?_
  show zx p l e _ s m _ below meth c g 2 0 0 _ _ 0 [(0, .int w1), (1, .int 18)] []
  refine z_iload_n B dX8_isBelow_0 rfl 0 rfl ?_
  refine z_if_lt (tgt := 13) B dX8_isBelow_1 (by decide) (fun _ => ?_) (fun h => absurd (iv_lt q2_w1 (by decide)) h)
  refine z_iconst (v := 0) B dX8_isBelow_13 (by decide) ?_
  exact z_zret B hr (by decide) (by decide) (by decide) dX8_isBelow_14 ⟨rfl, rfl⟩
set_option maxRecDepth 100000 in
set_option maxHeartbeats 4000000 in
theorem ci_X8_isStep_66 (l : Launch) {g : gx_T} {σ : sx_T} {b : Nat} (hK : lay b σ) (w1 : Int32) (w2 : Int32) (w3 : Int32) (q1_w1 : (-2147483648 : Int) ≤ w1.toInt) (q2_w1 : w1.toInt ≤ (-1 : Int))  : Met l yX8_isStep (.code yX8_isStep cX8_isStep 3 (some .boolean) :: lw_g) { frames := 1, cells := 0, slots := 0, locals := 21 } (va_Pc [.int w1, .int w2, .int w3] (zx_w g σ)) (va_Qi (fun r u => r = 0 ∧ u = σ) (zx_w g) (gx_Q g)) 0 0 (gx_Q g) := by
  refine z_met (by decide) (Nat.le_of_ble_eq_true rfl) (fun p e s m below meth c B hr hin => ?_)
  refine z_eqs (σ' := (ap b σ [] [] [])) rfl ?_
  show zx p l e _ s m _ below meth c g 3 0 0 _ _ 0 [(0, .int w1), (1, .int w2), (2, .int w3)] []
  refine z_iload_n B dX8_isStep_0 rfl 0 rfl ?_
  refine z_bipush (v := 18) B dX8_isStep_1 (by decide) ?_
  refine z_cSi (As := [.int w1, .int 18]) (rest := []) B cw_X8_68 dX8_isStep_3 (ci_X8_isBelow_65 l (σ := (ap b σ [] [] [])) (b := b) (lyA hK) w1 q1_w1 q2_w1) rfl (by decide) rfl (Nat.le_of_ble_eq_true rfl) (by decide) (fun r u hu => ?_)
  refine z_eqs (σ' := (ap b σ [] [] [])) hu.2 ?_
  show zx p l e _ s m _ below meth c g 3 0 0 _ _ 6 [(0, .int w1), (1, .int w2), (2, .int w3)] _
  refine z_seti (y := 0) hu.1 ?_
  refine z_if_eq (tgt := 31) B dX8_isStep_6 (by decide) (fun _ => ?_) (fun h => absurd (by decide) h)
  refine z_iconst (v := 0) B dX8_isStep_31 (by decide) ?_
  exact z_zret B hr (by decide) (by decide) (by decide) dX8_isStep_32 ⟨rfl, rfl⟩
set_option maxRecDepth 100000 in
set_option maxHeartbeats 4000000 in
theorem ci_X8_set_67 (l : Launch) (hlt : l.stackTraces = false) {g : gx_T} {σ : sx_T} {b : Nat} (hK : lay b σ) (w1 : Int32) (w2 : Int32) (w3 : Int32) (w4 : Int32) (q1_w1 : (0 : Int) ≤ w1.toInt) (q2_w1 : w1.toInt ≤ (19 : Int)) (q1_w2 : (-2147483648 : Int) ≤ w2.toInt) (q2_w2 : w2.toInt ≤ (-1 : Int)) (hR_0_0 : sx_R σ (b + 0) 0 = (some (b + 1))) (hR_1_0 : sx_R σ (b + 1) 0 = (some (b + 9))) : vx_Met l yX8_set (.code yX8_set cX8_set 9 (some .int) :: lw_g) { frames := 7, cells := 1, slots := 6, locals := 136 } (va_Pc [.ref (b + 0), .int 0, .int w1, .int w2, .int w3, .int w4] (zx_w g σ)) (va_Qi (S := sx_T) (fun _ _ => False) (zx_w g) (gx_Q g)) (vx_X (fun u : sx_T => ∃ z, u = wx_Z σ z) (fun E u t => E = "java/lang/IllegalArgumentException" ∧ zx_h g u t.heap) (gx_Q g)) 1 6 (gx_Q g) := by
  refine z_metX (by decide) (Nat.le_of_ble_eq_true rfl) (fun p e s m below meth c B hr hin hout => ?_)
  refine z_eqs (σ' := (ap b σ [] [] [])) rfl ?_
  show zx p l e _ s m _ below meth c g 9 0 0 _ _ 0 [(0, .ref (b + 0)), (1, .int 0), (2, .int w1), (3, .int w2), (4, .int w3), (5, .int w4)] []
  refine z_aload_n B dX8_set_0 rfl 0 rfl ?_
  refine z_iload_n B dX8_set_1 rfl 1 rfl ?_
  refine z_cVq (As := [.int 0]) (rest := []) B cw_X8_64 cx_9 dX8_set_2 (ci_X8_programAt_50 l (σ := (ap b σ [] [] [])) (b := b) (lyA hK) (rR_at 0 0 hR_0_0) (rR_at 1 0 hR_1_0)) (lKA (hk_K hK 0 rfl rfl)) rfl (by decide) rfl (Nat.le_of_ble_eq_true rfl) (by decide) (fun r u hu => ?_)
  refine z_eqs (σ' := (ap b σ [] [] [])) hu.2 ?_
  show zx p l e _ s m _ below meth c g 9 0 0 _ _ 5 [(0, .ref (b + 0)), (1, .int 0), (2, .int w1), (3, .int w2), (4, .int w3), (5, .int w4)] _
  refine z_setr (y := (some (b + 9))) hu.1 ?_
  refine z_astore (lv' := [(6, .ref (b + 9)), (0, .ref (b + 0)), (1, .int 0), (2, .int w1), (3, .int w2), (4, .int w3), (5, .int w4)]) B dX8_set_5 (by decide) rfl ?_
  refine z_aload B dX8_set_7 0 rfl ?_
  refine z_ifnull (r := (some (b + 9))) (tgt := 21) B dX8_set_9 (by decide) (fun h => nomatch h) (fun _ _ => ?_)
  refine z_iload_n B dX8_set_12 rfl 3 rfl ?_
  refine z_bipush (v := 20) B dX8_set_13 (by decide) ?_
  refine z_cSi (As := [.int w1, .int 20]) (rest := []) B cw_X8_68 dX8_set_15 (ci_X8_isBelow_64 l (σ := (ap b σ [] [] [])) (b := b) (lyA hK) w1 q1_w1 q2_w1) rfl (by decide) rfl (Nat.le_of_ble_eq_true rfl) (by decide) (fun r u hu => ?_)
  refine z_eqs (σ' := (ap b σ [] [] [])) hu.2 ?_
  show zx p l e _ s m _ below meth c g 9 0 0 _ _ 18 [(6, .ref (b + 9)), (0, .ref (b + 0)), (1, .int 0), (2, .int w1), (3, .int w2), (4, .int w3), (5, .int w4)] _
  refine z_seti (y := 1) hu.1 ?_
  refine z_if_ne (tgt := 31) B dX8_set_18 (by decide) (fun _ => ?_) (fun h => absurd h (by decide))
  refine z_iload_n B dX8_set_31 rfl 4 rfl ?_
  refine z_iload B dX8_set_32 5 rfl ?_
  refine z_iload B dX8_set_34 6 rfl ?_
  refine z_cSi (As := [.int w2, .int w3, .int w4]) (rest := []) B cw_X8_79 dX8_set_36 (ci_X8_isStep_66 l (σ := (ap b σ [] [] [])) (b := b) (lyA hK) w2 w3 w4 q1_w2 q2_w2) rfl (by decide) rfl (Nat.le_of_ble_eq_true rfl) (by decide) (fun r u hu => ?_)
  refine z_eqs (σ' := (ap b σ [] [] [])) hu.2 ?_
  show zx p l e _ s m _ below meth c g 9 0 0 _ _ 39 [(6, .ref (b + 9)), (0, .ref (b + 0)), (1, .int 0), (2, .int w1), (3, .int w2), (4, .int w3), (5, .int w4)] _
  refine z_seti (y := 0) hu.1 ?_
  refine z_if_ne (tgt := 52) B dX8_set_39 (by decide) (fun h => absurd (by decide) h) (fun _ => ?_)
  exact z_throw B hlt hout (cls := "java/lang/IllegalArgumentException") (text := "no such operation") tw_X8_83_85_87 dX8_set_42 dX8_set_45 dX8_set_46 dX8_set_48 dX8_set_51 (by decide) (by decide) (by decide) (by decide) (by decide) (by decide) (fun z => ⟨z, rfl⟩)
set_option maxRecDepth 100000 in
set_option maxHeartbeats 4000000 in
theorem ci_L_set_68 (l : Launch) (hlt : l.stackTraces = false) {g : gx_T} {σ : sx_T} {b : Nat} (hK : lay b σ) (w1 : Int32) (w2 : Int32) (w3 : Int32) (w4 : Int32) (q1_w1 : (0 : Int) ≤ w1.toInt) (q2_w1 : w1.toInt ≤ (19 : Int)) (q1_w2 : (-2147483648 : Int) ≤ w2.toInt) (q2_w2 : w2.toInt ≤ (-1 : Int)) (hR_0_0 : sx_R σ (b + 0) 0 = (some (b + 1))) (hR_1_0 : sx_R σ (b + 1) 0 = (some (b + 9))) : Met l yL_set (.codeWith yL_set cL_set 8 (some .int) [(0, 16, 19, 13), (0, 16, 23, 15)] :: lw_g) { frames := 8, cells := 1, slots := 6, locals := 164 } (va_Pc [.ref (b + 0), .int 0, .int w1, .int w2, .int w3, .int w4, .ref (b + 431)] (zx_w g σ)) (va_Qi (fun r u => r = 2 ∧ ∃ z, u = (ap b (wx_Z σ z) [] [] [])) (zx_w g) (gx_Q g)) 1 6 (gx_Q g) := by
  refine z_metW (by decide) (Nat.le_of_ble_eq_true rfl) (fun p e s m below meth c B hr htab => ?_)
  refine z_eqs (σ' := (ap b σ [] [] [])) rfl ?_
  show zx p l e _ s m _ below meth c g 8 0 0 _ _ 0 [(0, .ref (b + 0)), (1, .int 0), (2, .int w1), (3, .int w2), (4, .int w3), (5, .int w4), (6, .ref (b + 431))] []
  refine z_aload B dL_set_0 6 rfl ?_
  refine z_iconst (v := 0) B dL_set_2 (by decide) ?_
  refine z_aload_n B dL_set_3 rfl 0 rfl ?_
  refine z_iload_n B dL_set_4 rfl 1 rfl ?_
  refine z_iload_n B dL_set_5 rfl 2 rfl ?_
  refine z_iload_n B dL_set_6 rfl 3 rfl ?_
  refine z_iload B dL_set_7 4 rfl ?_
  refine z_iload B dL_set_9 5 rfl ?_
  refine z_cXi (As := [.int 0, .int w1, .int w2, .int w3, .int w4]) (rest := [.int 0, .ref (b + 431)]) B htab tc_set_11_IllegalArgumentException cw_L_7 cx_9 dL_set_11 (ci_X8_set_67 l hlt (σ := (ap b σ [] [] [])) (b := b) (lyA hK) w1 w2 w3 w4 q1_w1 q2_w1 q1_w2 q2_w2 (rR_at 0 0 hR_0_0) (rR_at 1 0 hR_1_0)) (lKA (hk_K hK 0 rfl rfl)) rfl (by decide) rfl (Nat.le_of_ble_eq_true rfl) (by decide) (fun z q => ?_)
  refine z_eqs (σ' := (ap b (wx_Z σ z) [] [] [])) rfl ?_
  show zx p l e _ s m _ below meth c g 8 _ _ _ _ 23 [(0, .ref (b + 0)), (1, .int 0), (2, .int w1), (3, .int w2), (4, .int w3), (5, .int w4), (6, .ref (b + 431))] _
  refine z_astore (lv' := [(7, .ref q), (0, .ref (b + 0)), (1, .int 0), (2, .int w1), (3, .int w2), (4, .int w3), (5, .int w4), (6, .ref (b + 431))]) B dL_set_23 (by decide) rfl ?_
  refine z_iconst (v := 2) B dL_set_25 (by decide) ?_
  exact z_iret B hr (by decide) (by decide) dL_set_26 ⟨rfl, _, rfl⟩
set_option maxRecDepth 100000 in
set_option maxHeartbeats 4000000 in
theorem ci_X9_in_69 (l : Launch) {g : gx_T} {σ : sx_T} {b : Nat} (hK : lay b σ) (w1 : Int32) (q1_w1 : (0 : Int) ≤ w1.toInt) (q2_w1 : w1.toInt ≤ (19 : Int))  : Met l yX9_in (.code yX9_in cX9_in 3 (some .boolean) :: lw_g) { frames := 0, cells := 0, slots := 0, locals := 0 } (va_Pc [.int w1, .int 0, .int 19] (zx_w g σ)) (va_Qi (fun r u => r = 1 ∧ u = σ) (zx_w g) (gx_Q g)) 0 0 (gx_Q g) := by
  refine z_met (by decide) (Nat.le_of_ble_eq_true rfl) (fun p e s m below meth c B hr hin => ?_)
  refine z_eqs (σ' := (ap b σ [] [] [])) rfl ?_
  show zx p l e _ s m _ below meth c g 3 0 0 _ _ 0 [(0, .int w1), (1, .int 0), (2, .int 19)] []
  refine z_iload_n B dX9_in_0 rfl 0 rfl ?_
  refine z_iload_n B dX9_in_1 rfl 1 rfl ?_
  refine z_icmp_lt (tgt := 14) B dX9_in_2 (by decide) (fun h => absurd h (iv_nlt q1_w1 (by decide))) (fun _ => ?_)
  refine z_iload_n B dX9_in_5 rfl 0 rfl ?_
  refine z_iload_n B dX9_in_6 rfl 2 rfl ?_
  refine z_icmp_gt (tgt := 14) B dX9_in_7 (by decide) (fun h => absurd h (iv_ngt q2_w1 (by decide))) (fun _ => ?_)
  refine z_iconst (v := 1) B dX9_in_10 (by decide) ?_
  refine z_goto (tgt := 15) B dX9_in_11 (by decide) ?_
  exact z_zret B hr (by decide) (by decide) (by decide) dX9_in_15 ⟨rfl, rfl⟩
set_option maxRecDepth 100000 in
set_option maxHeartbeats 4000000 in
theorem ci_X9_isStep_70 (l : Launch) {g : gx_T} {σ : sx_T} {b : Nat} (hK : lay b σ) (w1 : Int32) (q1_w1 : (0 : Int) ≤ w1.toInt) (q2_w1 : w1.toInt ≤ (19 : Int))  : Met l yX9_isStep (.code yX9_isStep cX9_isStep 2 (some .boolean) :: lw_g) { frames := 1, cells := 0, slots := 0, locals := 22 } (va_Pc [.int 0, .int w1] (zx_w g σ)) (va_Qi (fun r u => r = 1 ∧ u = σ) (zx_w g) (gx_Q g)) 0 0 (gx_Q g) := by
  refine z_met (by decide) (Nat.le_of_ble_eq_true rfl) (fun p e s m below meth c B hr hin => ?_)
  refine z_eqs (σ' := (ap b σ [] [] [])) rfl ?_
  show zx p l e _ s m _ below meth c g 2 0 0 _ _ 0 [(0, .int 0), (1, .int w1)] []
  refine z_iload_n B dX9_isStep_0 rfl 0 rfl ?_
  refine z_iconst (v := 0) B dX9_isStep_1 (by decide) ?_
  refine z_iconst (v := 5) B dX9_isStep_2 (by decide) ?_
  refine z_cSi (As := [.int 0, .int 0, .int 5]) (rest := []) B cw_X9_96 dX9_isStep_3 (ci_X9_in_54 l (σ := (ap b σ [] [] [])) (b := b) (lyA hK) ) rfl (by decide) rfl (Nat.le_of_ble_eq_true rfl) (by decide) (fun r u hu => ?_)
  refine z_eqs (σ' := (ap b σ [] [] [])) hu.2 ?_
  show zx p l e _ s m _ below meth c g 2 0 0 _ _ 6 [(0, .int 0), (1, .int w1)] _
  refine z_seti (y := 1) hu.1 ?_
  refine z_if_eq (tgt := 23) B dX9_isStep_6 (by decide) (fun h => absurd h (by decide)) (fun _ => ?_)
  refine z_iload_n B dX9_isStep_9 rfl 1 rfl ?_
  refine z_iconst (v := 0) B dX9_isStep_10 (by decide) ?_
  refine z_bipush (v := 19) B dX9_isStep_11 (by decide) ?_
  refine z_cSi (As := [.int w1, .int 0, .int 19]) (rest := []) B cw_X9_96 dX9_isStep_13 (ci_X9_in_69 l (σ := (ap b σ [] [] [])) (b := b) (lyA hK) w1 q1_w1 q2_w1) rfl (by decide) rfl (Nat.le_of_ble_eq_true rfl) (by decide) (fun r u hu => ?_)
  refine z_eqs (σ' := (ap b σ [] [] [])) hu.2 ?_
  show zx p l e _ s m _ below meth c g 2 0 0 _ _ 16 [(0, .int 0), (1, .int w1)] _
  refine z_seti (y := 1) hu.1 ?_
  refine z_if_eq (tgt := 23) B dX9_isStep_16 (by decide) (fun h => absurd h (by decide)) (fun _ => ?_)
  refine z_iconst (v := 1) B dX9_isStep_19 (by decide) ?_
  refine z_goto (tgt := 24) B dX9_isStep_20 (by decide) ?_
  exact z_zret B hr (by decide) (by decide) (by decide) dX9_isStep_24 ⟨rfl, rfl⟩
set_option maxRecDepth 100000 in
set_option maxHeartbeats 4000000 in
theorem ci_X9_needs__71 (l : Launch) {g : gx_T} {σ : sx_T} {b : Nat} (hK : lay b σ)    : Met l yX9_needs_ (.code yX9_needs_ cX9_needs_ 3 (some .boolean) :: lw_g) { frames := 0, cells := 0, slots := 0, locals := 0 } (va_Pc [.ref (b + 405), .int 1, .int 0] (zx_w g σ)) (va_Qi (fun r u => r = 0 ∧ u = (ap b σ [(405, 0, 2)] [] [])) (zx_w g) (gx_Q g)) 0 0 (gx_Q g) := by
  refine z_met (by decide) (Nat.le_of_ble_eq_true rfl) (fun p e s m below meth c B hr hin => ?_)
  refine z_eqs (σ' := (ap b σ [] [] [])) rfl ?_
  show zx p l e _ s m _ below meth c g 3 0 0 _ _ 0 [(0, .ref (b + 405)), (1, .int 1), (2, .int 0)] []
  refine z_aload_n B dX9_needs__0 rfl 0 rfl ?_
  refine z_iload_n B dX9_needs__1 rfl 1 rfl ?_
  refine z_if_ne (tgt := 9) B dX9_needs__2 (by decide) (fun _ => ?_) (fun h => absurd h (by decide))
  refine z_iload_n B dX9_needs__9 rfl 2 rfl ?_
  refine z_if_eq (tgt := 17) B dX9_needs__10 (by decide) (fun _ => ?_) (fun h => absurd (by decide) h)
  refine z_iconst (v := 2) B dX9_needs__17 (by decide) ?_
  refine pf_X9_90 (x := 2) (σ' := (ap b σ [(405, 0, 2)] [] [])) B (lKA (hk_K hK 405 rfl rfl)) wI_ap dX9_needs__18 ?_
  refine z_aload_n B dX9_needs__21 rfl 0 rfl ?_
  refine gf_X9_90 (x := 2) B (lKA (hk_K hK 405 rfl rfl)) (rI_at 405 0 rfl) dX9_needs__22 ?_
  refine z_if_ne (tgt := 32) B dX9_needs__25 (by decide) (fun _ => ?_) (fun h => absurd h (by decide))
  refine z_iconst (v := 0) B dX9_needs__32 (by decide) ?_
  exact z_zret B hr (by decide) (by decide) (by decide) dX9_needs__33 ⟨rfl, rfl⟩
set_option maxRecDepth 100000 in
set_option maxHeartbeats 4000000 in
theorem ci_X9_set_72 (l : Launch) {g : gx_T} {σ : sx_T} {b : Nat} (hK : lay b σ) (w1 : Int32) (w2 : Int32) (w3 : Int32) (w4 : Int32) (q1_w1 : (0 : Int) ≤ w1.toInt) (q2_w1 : w1.toInt ≤ (19 : Int)) (q1_w2 : (-2147483648 : Int) ≤ w2.toInt) (q2_w2 : w2.toInt ≤ (-1 : Int))  : Met l yX9_set (.code yX9_set cX9_set 7 (some .int) :: lw_g) { frames := 2, cells := 0, slots := 0, locals := 44 } (va_Pc [.ref (b + 405), .int 0, .int w1, .int w2, .int w3, .int w4] (zx_w g σ)) (va_Qi (fun r u => r = 0 ∧ u = (ap b σ [(405, 0, 2)] [] [])) (zx_w g) (gx_Q g)) 0 0 (gx_Q g) := by
  refine z_met (by decide) (Nat.le_of_ble_eq_true rfl) (fun p e s m below meth c B hr hin => ?_)
  refine z_eqs (σ' := (ap b σ [] [] [])) rfl ?_
  show zx p l e _ s m _ below meth c g 7 0 0 _ _ 0 [(0, .ref (b + 405)), (1, .int 0), (2, .int w1), (3, .int w2), (4, .int w3), (5, .int w4)] []
  refine z_aload_n B dX9_set_0 rfl 0 rfl ?_
  refine z_iload_n B dX9_set_1 rfl 1 rfl ?_
  refine z_iload_n B dX9_set_2 rfl 2 rfl ?_
  refine z_cSi (As := [.int 0, .int w1]) (rest := [.ref (b + 405)]) B cw_X9_238 dX9_set_3 (ci_X9_isStep_70 l (σ := (ap b σ [] [] [])) (b := b) (lyA hK) w1 q1_w1 q2_w1) rfl (by decide) rfl (Nat.le_of_ble_eq_true rfl) (by decide) (fun r u hu => ?_)
  refine z_eqs (σ' := (ap b σ [] [] [])) hu.2 ?_
  show zx p l e _ s m _ below meth c g 7 0 0 _ _ 6 [(0, .ref (b + 405)), (1, .int 0), (2, .int w1), (3, .int w2), (4, .int w3), (5, .int w4)] _
  refine z_seti (y := 1) hu.1 ?_
  refine z_iload_n B dX9_set_6 rfl 3 rfl ?_
  refine z_iload B dX9_set_7 4 rfl ?_
  refine z_iload B dX9_set_9 5 rfl ?_
  refine z_cSi (As := [.int w2, .int w3, .int w4]) (rest := [.int 1, .ref (b + 405)]) B cw_X9_242 dX9_set_11 (ci_X9_isOperation_28 l (σ := (ap b σ [] [] [])) (b := b) (lyA hK) w2 w3 w4 q1_w2 q2_w2) rfl (by decide) rfl (Nat.le_of_ble_eq_true rfl) (by decide) (fun r u hu => ?_)
  refine z_eqs (σ' := (ap b σ [] [] [])) hu.2 ?_
  show zx p l e _ s m _ below meth c g 7 0 0 _ _ 14 [(0, .ref (b + 405)), (1, .int 0), (2, .int w1), (3, .int w2), (4, .int w3), (5, .int w4)] _
  refine z_seti (y := 0) hu.1 ?_
  refine z_cVi (As := [.int 1, .int 0]) (rest := []) B cw_X9_245 cx_10 dX9_set_14 (ci_X9_needs__71 l (σ := (ap b σ [] [] [])) (b := b) (lyA hK) ) (lKA (hk_K hK 405 rfl rfl)) rfl (by decide) rfl (Nat.le_of_ble_eq_true rfl) (by decide) (fun r u hu => ?_)
  refine z_eqs (σ' := (ap b σ [(405, 0, 2)] [] [])) (hu.2.trans ap_ap) ?_
  show zx p l e _ s m _ below meth c g 7 0 0 _ _ 17 [(0, .ref (b + 405)), (1, .int 0), (2, .int w1), (3, .int w2), (4, .int w3), (5, .int w4)] _
  refine z_seti (y := 0) hu.1 ?_
  refine z_if_ne (tgt := 22) B dX9_set_17 (by decide) (fun h => absurd (by decide) h) (fun _ => ?_)
  refine z_iconst (v := 0) B dX9_set_20 (by decide) ?_
  exact z_iret B hr (by decide) (by decide) dX9_set_21 ⟨rfl, rfl⟩
set_option maxRecDepth 100000 in
set_option maxHeartbeats 4000000 in
theorem ci_X9_thrown_73 (l : Launch) {g : gx_T} {σ : sx_T} {b : Nat} (hK : lay b σ)   (hI_405_0 : sx_I σ (b + 405) 0 = 2) : Met l yX9_thrown (.code yX9_thrown cX9_thrown 1 (some .int) :: lw_g) { frames := 0, cells := 0, slots := 0, locals := 0 } (va_Pc [.ref (b + 405)] (zx_w g σ)) (va_Qi (fun r u => r = 2 ∧ u = σ) (zx_w g) (gx_Q g)) 0 0 (gx_Q g) := by
  refine z_met (by decide) (Nat.le_of_ble_eq_true rfl) (fun p e s m below meth c B hr hin => ?_)
  refine z_eqs (σ' := (ap b σ [] [] [])) rfl ?_
  show zx p l e _ s m _ below meth c g 1 0 0 _ _ 0 [(0, .ref (b + 405))] []
  refine z_aload_n B dX9_thrown_0 rfl 0 rfl ?_
  refine gf_X9_90 (x := 2) B (lKA (hk_K hK 405 rfl rfl)) (rI_at 405 0 hI_405_0) dX9_thrown_1 ?_
  exact z_iret B hr (by decide) (by decide) dX9_thrown_4 ⟨rfl, rfl⟩
set_option maxRecDepth 100000 in
set_option maxHeartbeats 4000000 in
theorem ci_X8_isBelow_74 (l : Launch) {g : gx_T} {σ : sx_T} {b : Nat} (hK : lay b σ) (w1 : Int32) (q1_w1 : (0 : Int) ≤ w1.toInt) (q2_w1 : w1.toInt ≤ (17 : Int))  : Met l yX8_isBelow (.code yX8_isBelow cX8_isBelow 2 (some .boolean) :: lw_g) { frames := 0, cells := 0, slots := 0, locals := 0 } (va_Pc [.int w1, .int 18] (zx_w g σ)) (va_Qi (fun r u => r = 1 ∧ u = σ) (zx_w g) (gx_Q g)) 0 0 (gx_Q g) := by
  refine z_met (by decide) (Nat.le_of_ble_eq_true rfl) (fun p e s m below meth c B hr hin => ?_)
  refine z_eqs (σ' := (ap b σ [] [] [])) rfl ?_
  show zx p l e _ s m _ below meth c g 2 0 0 _ _ 0 [(0, .int w1), (1, .int 18)] []
  refine z_iload_n B dX8_isBelow_0 rfl 0 rfl ?_
  refine z_if_lt (tgt := 13) B dX8_isBelow_1 (by decide) (fun h => absurd h (iv_nlt q1_w1 (by decide))) (fun _ => ?_)
  refine z_iload_n B dX8_isBelow_4 rfl 0 rfl ?_
  refine z_iload_n B dX8_isBelow_5 rfl 1 rfl ?_
  refine z_icmp_ge (tgt := 13) B dX8_isBelow_6 (by decide) (fun h => absurd h (iv_nge q2_w1 (by decide))) (fun _ => ?_)
  refine z_iconst (v := 1) B dX8_isBelow_9 (by decide) ?_
  refine z_goto (tgt := 14) B dX8_isBelow_10 (by decide) ?_
  exact z_zret B hr (by decide) (by decide) (by decide) dX8_isBelow_14 ⟨rfl, rfl⟩
set_option maxRecDepth 100000 in
set_option maxHeartbeats 4000000 in
theorem ci_X8_isBelow_75 (l : Launch) {g : gx_T} {σ : sx_T} {b : Nat} (hK : lay b σ) (w1 : Int32) (q1_w1 : (-2147483648 : Int) ≤ w1.toInt) (q2_w1 : w1.toInt ≤ (-1 : Int))  : Met l yX8_isBelow (.code yX8_isBelow cX8_isBelow 2 (some .boolean) :: lw_g) { frames := 0, cells := 0, slots := 0, locals := 0 } (va_Pc [.int w1, .int 100] (zx_w g σ)) (va_Qi (fun r u => r = 0 ∧ u = σ) (zx_w g) (gx_Q g)) 0 0 (gx_Q g) := by
  refine z_met (by decide) (Nat.le_of_ble_eq_true rfl) (fun p e s m below meth c B hr hin => ?_)
  refine z_eqs (σ' := (ap b σ [] [] [])) rfl ?_
  show zx p l e _ s m _ below meth c g 2 0 0 _ _ 0 [(0, .int w1), (1, .int 100)] []
  refine z_iload_n B dX8_isBelow_0 rfl 0 rfl ?_
  refine z_if_lt (tgt := 13) B dX8_isBelow_1 (by decide) (fun _ => ?_) (fun h => absurd (iv_lt q2_w1 (by decide)) h)
  refine z_iconst (v := 0) B dX8_isBelow_13 (by decide) ?_
  exact z_zret B hr (by decide) (by decide) (by decide) dX8_isBelow_14 ⟨rfl, rfl⟩
set_option maxRecDepth 100000 in
set_option maxHeartbeats 4000000 in
theorem ci_X8_isStep_76 (l : Launch) {g : gx_T} {σ : sx_T} {b : Nat} (hK : lay b σ) (w1 : Int32) (w2 : Int32) (w3 : Int32) (q1_w1 : (0 : Int) ≤ w1.toInt) (q2_w1 : w1.toInt ≤ (17 : Int)) (q1_w2 : (-2147483648 : Int) ≤ w2.toInt) (q2_w2 : w2.toInt ≤ (-1 : Int))  : Met l yX8_isStep (.code yX8_isStep cX8_isStep 3 (some .boolean) :: lw_g) { frames := 1, cells := 0, slots := 0, locals := 21 } (va_Pc [.int w1, .int w2, .int w3] (zx_w g σ)) (va_Qi (fun r u => r = 0 ∧ u = σ) (zx_w g) (gx_Q g)) 0 0 (gx_Q g) := by
  refine z_met (by decide) (Nat.le_of_ble_eq_true rfl) (fun p e s m below meth c B hr hin => ?_)
  refine z_eqs (σ' := (ap b σ [] [] [])) rfl ?_
  show zx p l e _ s m _ below meth c g 3 0 0 _ _ 0 [(0, .int w1), (1, .int w2), (2, .int w3)] []
  refine z_iload_n B dX8_isStep_0 rfl 0 rfl ?_
  refine z_bipush (v := 18) B dX8_isStep_1 (by decide) ?_
  refine z_cSi (As := [.int w1, .int 18]) (rest := []) B cw_X8_68 dX8_isStep_3 (ci_X8_isBelow_74 l (σ := (ap b σ [] [] [])) (b := b) (lyA hK) w1 q1_w1 q2_w1) rfl (by decide) rfl (Nat.le_of_ble_eq_true rfl) (by decide) (fun r u hu => ?_)
  refine z_eqs (σ' := (ap b σ [] [] [])) hu.2 ?_
  show zx p l e _ s m _ below meth c g 3 0 0 _ _ 6 [(0, .int w1), (1, .int w2), (2, .int w3)] _
  refine z_seti (y := 1) hu.1 ?_
  refine z_if_eq (tgt := 31) B dX8_isStep_6 (by decide) (fun h => absurd h (by decide)) (fun _ => ?_)
  refine z_iload_n B dX8_isStep_9 rfl 1 rfl ?_
  refine z_bipush (v := 100) B dX8_isStep_10 (by decide) ?_
  refine z_cSi (As := [.int w2, .int 100]) (rest := []) B cw_X8_68 dX8_isStep_12 (ci_X8_isBelow_75 l (σ := (ap b σ [] [] [])) (b := b) (lyA hK) w2 q1_w2 q2_w2) rfl (by decide) rfl (Nat.le_of_ble_eq_true rfl) (by decide) (fun r u hu => ?_)
  refine z_eqs (σ' := (ap b σ [] [] [])) hu.2 ?_
  show zx p l e _ s m _ below meth c g 3 0 0 _ _ 15 [(0, .int w1), (1, .int w2), (2, .int w3)] _
  refine z_seti (y := 0) hu.1 ?_
  refine z_if_eq (tgt := 31) B dX8_isStep_15 (by decide) (fun _ => ?_) (fun h => absurd (by decide) h)
  refine z_iconst (v := 0) B dX8_isStep_31 (by decide) ?_
  exact z_zret B hr (by decide) (by decide) (by decide) dX8_isStep_32 ⟨rfl, rfl⟩
set_option maxRecDepth 100000 in
set_option maxHeartbeats 4000000 in
theorem ci_X8_set_77 (l : Launch) (hlt : l.stackTraces = false) {g : gx_T} {σ : sx_T} {b : Nat} (hK : lay b σ) (w1 : Int32) (w2 : Int32) (w3 : Int32) (w4 : Int32) (q1_w1 : (0 : Int) ≤ w1.toInt) (q2_w1 : w1.toInt ≤ (19 : Int)) (q1_w2 : (0 : Int) ≤ w2.toInt) (q2_w2 : w2.toInt ≤ (17 : Int)) (q1_w3 : (-2147483648 : Int) ≤ w3.toInt) (q2_w3 : w3.toInt ≤ (-1 : Int)) (hR_0_0 : sx_R σ (b + 0) 0 = (some (b + 1))) (hR_1_0 : sx_R σ (b + 1) 0 = (some (b + 9))) : vx_Met l yX8_set (.code yX8_set cX8_set 9 (some .int) :: lw_g) { frames := 7, cells := 1, slots := 6, locals := 136 } (va_Pc [.ref (b + 0), .int 0, .int w1, .int w2, .int w3, .int w4] (zx_w g σ)) (va_Qi (S := sx_T) (fun _ _ => False) (zx_w g) (gx_Q g)) (vx_X (fun u : sx_T => ∃ z, u = wx_Z σ z) (fun E u t => E = "java/lang/IllegalArgumentException" ∧ zx_h g u t.heap) (gx_Q g)) 1 6 (gx_Q g) := by
  refine z_metX (by decide) (Nat.le_of_ble_eq_true rfl) (fun p e s m below meth c B hr hin hout => ?_)
  refine z_eqs (σ' := (ap b σ [] [] [])) rfl ?_
  show zx p l e _ s m _ below meth c g 9 0 0 _ _ 0 [(0, .ref (b + 0)), (1, .int 0), (2, .int w1), (3, .int w2), (4, .int w3), (5, .int w4)] []
  refine z_aload_n B dX8_set_0 rfl 0 rfl ?_
  refine z_iload_n B dX8_set_1 rfl 1 rfl ?_
  refine z_cVq (As := [.int 0]) (rest := []) B cw_X8_64 cx_9 dX8_set_2 (ci_X8_programAt_50 l (σ := (ap b σ [] [] [])) (b := b) (lyA hK) (rR_at 0 0 hR_0_0) (rR_at 1 0 hR_1_0)) (lKA (hk_K hK 0 rfl rfl)) rfl (by decide) rfl (Nat.le_of_ble_eq_true rfl) (by decide) (fun r u hu => ?_)
  refine z_eqs (σ' := (ap b σ [] [] [])) hu.2 ?_
  show zx p l e _ s m _ below meth c g 9 0 0 _ _ 5 [(0, .ref (b + 0)), (1, .int 0), (2, .int w1), (3, .int w2), (4, .int w3), (5, .int w4)] _
  refine z_setr (y := (some (b + 9))) hu.1 ?_
  refine z_astore (lv' := [(6, .ref (b + 9)), (0, .ref (b + 0)), (1, .int 0), (2, .int w1), (3, .int w2), (4, .int w3), (5, .int w4)]) B dX8_set_5 (by decide) rfl ?_
  refine z_aload B dX8_set_7 0 rfl ?_
  refine z_ifnull (r := (some (b + 9))) (tgt := 21) B dX8_set_9 (by decide) (fun h => nomatch h) (fun _ _ => ?_)
  refine z_iload_n B dX8_set_12 rfl 3 rfl ?_
  refine z_bipush (v := 20) B dX8_set_13 (by decide) ?_
  refine z_cSi (As := [.int w1, .int 20]) (rest := []) B cw_X8_68 dX8_set_15 (ci_X8_isBelow_64 l (σ := (ap b σ [] [] [])) (b := b) (lyA hK) w1 q1_w1 q2_w1) rfl (by decide) rfl (Nat.le_of_ble_eq_true rfl) (by decide) (fun r u hu => ?_)
  refine z_eqs (σ' := (ap b σ [] [] [])) hu.2 ?_
  show zx p l e _ s m _ below meth c g 9 0 0 _ _ 18 [(6, .ref (b + 9)), (0, .ref (b + 0)), (1, .int 0), (2, .int w1), (3, .int w2), (4, .int w3), (5, .int w4)] _
  refine z_seti (y := 1) hu.1 ?_
  refine z_if_ne (tgt := 31) B dX8_set_18 (by decide) (fun _ => ?_) (fun h => absurd h (by decide))
  refine z_iload_n B dX8_set_31 rfl 4 rfl ?_
  refine z_iload B dX8_set_32 5 rfl ?_
  refine z_iload B dX8_set_34 6 rfl ?_
  refine z_cSi (As := [.int w2, .int w3, .int w4]) (rest := []) B cw_X8_79 dX8_set_36 (ci_X8_isStep_76 l (σ := (ap b σ [] [] [])) (b := b) (lyA hK) w2 w3 w4 q1_w2 q2_w2 q1_w3 q2_w3) rfl (by decide) rfl (Nat.le_of_ble_eq_true rfl) (by decide) (fun r u hu => ?_)
  refine z_eqs (σ' := (ap b σ [] [] [])) hu.2 ?_
  show zx p l e _ s m _ below meth c g 9 0 0 _ _ 39 [(6, .ref (b + 9)), (0, .ref (b + 0)), (1, .int 0), (2, .int w1), (3, .int w2), (4, .int w3), (5, .int w4)] _
  refine z_seti (y := 0) hu.1 ?_
  refine z_if_ne (tgt := 52) B dX8_set_39 (by decide) (fun h => absurd (by decide) h) (fun _ => ?_)
  exact z_throw B hlt hout (cls := "java/lang/IllegalArgumentException") (text := "no such operation") tw_X8_83_85_87 dX8_set_42 dX8_set_45 dX8_set_46 dX8_set_48 dX8_set_51 (by decide) (by decide) (by decide) (by decide) (by decide) (by decide) (fun z => ⟨z, rfl⟩)
set_option maxRecDepth 100000 in
set_option maxHeartbeats 4000000 in
theorem ci_L_set_78 (l : Launch) (hlt : l.stackTraces = false) {g : gx_T} {σ : sx_T} {b : Nat} (hK : lay b σ) (w1 : Int32) (w2 : Int32) (w3 : Int32) (w4 : Int32) (q1_w1 : (0 : Int) ≤ w1.toInt) (q2_w1 : w1.toInt ≤ (19 : Int)) (q1_w2 : (0 : Int) ≤ w2.toInt) (q2_w2 : w2.toInt ≤ (17 : Int)) (q1_w3 : (-2147483648 : Int) ≤ w3.toInt) (q2_w3 : w3.toInt ≤ (-1 : Int)) (hR_0_0 : sx_R σ (b + 0) 0 = (some (b + 1))) (hR_1_0 : sx_R σ (b + 1) 0 = (some (b + 9))) : Met l yL_set (.codeWith yL_set cL_set 8 (some .int) [(0, 16, 19, 13), (0, 16, 23, 15)] :: lw_g) { frames := 8, cells := 1, slots := 6, locals := 164 } (va_Pc [.ref (b + 0), .int 0, .int w1, .int w2, .int w3, .int w4, .ref (b + 431)] (zx_w g σ)) (va_Qi (fun r u => r = 2 ∧ ∃ z, u = (ap b (wx_Z σ z) [] [] [])) (zx_w g) (gx_Q g)) 1 6 (gx_Q g) := by
  refine z_metW (by decide) (Nat.le_of_ble_eq_true rfl) (fun p e s m below meth c B hr htab => ?_)
  refine z_eqs (σ' := (ap b σ [] [] [])) rfl ?_
  show zx p l e _ s m _ below meth c g 8 0 0 _ _ 0 [(0, .ref (b + 0)), (1, .int 0), (2, .int w1), (3, .int w2), (4, .int w3), (5, .int w4), (6, .ref (b + 431))] []
  refine z_aload B dL_set_0 6 rfl ?_
  refine z_iconst (v := 0) B dL_set_2 (by decide) ?_
  refine z_aload_n B dL_set_3 rfl 0 rfl ?_
  refine z_iload_n B dL_set_4 rfl 1 rfl ?_
  refine z_iload_n B dL_set_5 rfl 2 rfl ?_
  refine z_iload_n B dL_set_6 rfl 3 rfl ?_
  refine z_iload B dL_set_7 4 rfl ?_
  refine z_iload B dL_set_9 5 rfl ?_
  refine z_cXi (As := [.int 0, .int w1, .int w2, .int w3, .int w4]) (rest := [.int 0, .ref (b + 431)]) B htab tc_set_11_IllegalArgumentException cw_L_7 cx_9 dL_set_11 (ci_X8_set_77 l hlt (σ := (ap b σ [] [] [])) (b := b) (lyA hK) w1 w2 w3 w4 q1_w1 q2_w1 q1_w2 q2_w2 q1_w3 q2_w3 (rR_at 0 0 hR_0_0) (rR_at 1 0 hR_1_0)) (lKA (hk_K hK 0 rfl rfl)) rfl (by decide) rfl (Nat.le_of_ble_eq_true rfl) (by decide) (fun z q => ?_)
  refine z_eqs (σ' := (ap b (wx_Z σ z) [] [] [])) rfl ?_
  show zx p l e _ s m _ below meth c g 8 _ _ _ _ 23 [(0, .ref (b + 0)), (1, .int 0), (2, .int w1), (3, .int w2), (4, .int w3), (5, .int w4), (6, .ref (b + 431))] _
  refine z_astore (lv' := [(7, .ref q), (0, .ref (b + 0)), (1, .int 0), (2, .int w1), (3, .int w2), (4, .int w3), (5, .int w4), (6, .ref (b + 431))]) B dL_set_23 (by decide) rfl ?_
  refine z_iconst (v := 2) B dL_set_25 (by decide) ?_
  exact z_iret B hr (by decide) (by decide) dL_set_26 ⟨rfl, _, rfl⟩
set_option maxRecDepth 100000 in
set_option maxHeartbeats 4000000 in
theorem ci_X9_set_79 (l : Launch) {g : gx_T} {σ : sx_T} {b : Nat} (hK : lay b σ) (w1 : Int32) (w2 : Int32) (w3 : Int32) (w4 : Int32) (q1_w1 : (0 : Int) ≤ w1.toInt) (q2_w1 : w1.toInt ≤ (19 : Int)) (q1_w2 : (0 : Int) ≤ w2.toInt) (q2_w2 : w2.toInt ≤ (17 : Int)) (q1_w3 : (-2147483648 : Int) ≤ w3.toInt) (q2_w3 : w3.toInt ≤ (-1 : Int))  : Met l yX9_set (.code yX9_set cX9_set 7 (some .int) :: lw_g) { frames := 2, cells := 0, slots := 0, locals := 44 } (va_Pc [.ref (b + 405), .int 0, .int w1, .int w2, .int w3, .int w4] (zx_w g σ)) (va_Qi (fun r u => r = 0 ∧ u = (ap b σ [(405, 0, 2)] [] [])) (zx_w g) (gx_Q g)) 0 0 (gx_Q g) := by
  refine z_met (by decide) (Nat.le_of_ble_eq_true rfl) (fun p e s m below meth c B hr hin => ?_)
  refine z_eqs (σ' := (ap b σ [] [] [])) rfl ?_
  show zx p l e _ s m _ below meth c g 7 0 0 _ _ 0 [(0, .ref (b + 405)), (1, .int 0), (2, .int w1), (3, .int w2), (4, .int w3), (5, .int w4)] []
  refine z_aload_n B dX9_set_0 rfl 0 rfl ?_
  refine z_iload_n B dX9_set_1 rfl 1 rfl ?_
  refine z_iload_n B dX9_set_2 rfl 2 rfl ?_
  refine z_cSi (As := [.int 0, .int w1]) (rest := [.ref (b + 405)]) B cw_X9_238 dX9_set_3 (ci_X9_isStep_70 l (σ := (ap b σ [] [] [])) (b := b) (lyA hK) w1 q1_w1 q2_w1) rfl (by decide) rfl (Nat.le_of_ble_eq_true rfl) (by decide) (fun r u hu => ?_)
  refine z_eqs (σ' := (ap b σ [] [] [])) hu.2 ?_
  show zx p l e _ s m _ below meth c g 7 0 0 _ _ 6 [(0, .ref (b + 405)), (1, .int 0), (2, .int w1), (3, .int w2), (4, .int w3), (5, .int w4)] _
  refine z_seti (y := 1) hu.1 ?_
  refine z_iload_n B dX9_set_6 rfl 3 rfl ?_
  refine z_iload B dX9_set_7 4 rfl ?_
  refine z_iload B dX9_set_9 5 rfl ?_
  refine z_cSi (As := [.int w2, .int w3, .int w4]) (rest := [.int 1, .ref (b + 405)]) B cw_X9_242 dX9_set_11 (ci_X9_isOperation_34 l (σ := (ap b σ [] [] [])) (b := b) (lyA hK) w2 w3 w4 q1_w2 q2_w2 q1_w3 q2_w3) rfl (by decide) rfl (Nat.le_of_ble_eq_true rfl) (by decide) (fun r u hu => ?_)
  refine z_eqs (σ' := (ap b σ [] [] [])) hu.2 ?_
  show zx p l e _ s m _ below meth c g 7 0 0 _ _ 14 [(0, .ref (b + 405)), (1, .int 0), (2, .int w1), (3, .int w2), (4, .int w3), (5, .int w4)] _
  refine z_seti (y := 0) hu.1 ?_
  refine z_cVi (As := [.int 1, .int 0]) (rest := []) B cw_X9_245 cx_10 dX9_set_14 (ci_X9_needs__71 l (σ := (ap b σ [] [] [])) (b := b) (lyA hK) ) (lKA (hk_K hK 405 rfl rfl)) rfl (by decide) rfl (Nat.le_of_ble_eq_true rfl) (by decide) (fun r u hu => ?_)
  refine z_eqs (σ' := (ap b σ [(405, 0, 2)] [] [])) (hu.2.trans ap_ap) ?_
  show zx p l e _ s m _ below meth c g 7 0 0 _ _ 17 [(0, .ref (b + 405)), (1, .int 0), (2, .int w1), (3, .int w2), (4, .int w3), (5, .int w4)] _
  refine z_seti (y := 0) hu.1 ?_
  refine z_if_ne (tgt := 22) B dX9_set_17 (by decide) (fun h => absurd (by decide) h) (fun _ => ?_)
  refine z_iconst (v := 0) B dX9_set_20 (by decide) ?_
  exact z_iret B hr (by decide) (by decide) dX9_set_21 ⟨rfl, rfl⟩
set_option maxRecDepth 100000 in
set_option maxHeartbeats 4000000 in
theorem ci_X8_isBelow_80 (l : Launch) {g : gx_T} {σ : sx_T} {b : Nat} (hK : lay b σ) (w1 : Int32) (q1_w1 : (0 : Int) ≤ w1.toInt) (q2_w1 : w1.toInt ≤ (99 : Int))  : Met l yX8_isBelow (.code yX8_isBelow cX8_isBelow 2 (some .boolean) :: lw_g) { frames := 0, cells := 0, slots := 0, locals := 0 } (va_Pc [.int w1, .int 100] (zx_w g σ)) (va_Qi (fun r u => r = 1 ∧ u = σ) (zx_w g) (gx_Q g)) 0 0 (gx_Q g) := by
  refine z_met (by decide) (Nat.le_of_ble_eq_true rfl) (fun p e s m below meth c B hr hin => ?_)
  refine z_eqs (σ' := (ap b σ [] [] [])) rfl ?_
  show zx p l e _ s m _ below meth c g 2 0 0 _ _ 0 [(0, .int w1), (1, .int 100)] []
  refine z_iload_n B dX8_isBelow_0 rfl 0 rfl ?_
  refine z_if_lt (tgt := 13) B dX8_isBelow_1 (by decide) (fun h => absurd h (iv_nlt q1_w1 (by decide))) (fun _ => ?_)
  refine z_iload_n B dX8_isBelow_4 rfl 0 rfl ?_
  refine z_iload_n B dX8_isBelow_5 rfl 1 rfl ?_
  refine z_icmp_ge (tgt := 13) B dX8_isBelow_6 (by decide) (fun h => absurd h (iv_nge q2_w1 (by decide))) (fun _ => ?_)
  refine z_iconst (v := 1) B dX8_isBelow_9 (by decide) ?_
  refine z_goto (tgt := 14) B dX8_isBelow_10 (by decide) ?_
  exact z_zret B hr (by decide) (by decide) (by decide) dX8_isBelow_14 ⟨rfl, rfl⟩
set_option maxRecDepth 100000 in
set_option maxHeartbeats 4000000 in
theorem ci_X8_isStep_81 (l : Launch) {g : gx_T} {σ : sx_T} {b : Nat} (hK : lay b σ) (w1 : Int32) (w2 : Int32) (w3 : Int32) (q1_w1 : (0 : Int) ≤ w1.toInt) (q2_w1 : w1.toInt ≤ (17 : Int)) (q1_w2 : (0 : Int) ≤ w2.toInt) (q2_w2 : w2.toInt ≤ (99 : Int)) (q1_w3 : (-2147483648 : Int) ≤ w3.toInt) (q2_w3 : w3.toInt ≤ (-1 : Int))  : Met l yX8_isStep (.code yX8_isStep cX8_isStep 3 (some .boolean) :: lw_g) { frames := 1, cells := 0, slots := 0, locals := 21 } (va_Pc [.int w1, .int w2, .int w3] (zx_w g σ)) (va_Qi (fun r u => r = 0 ∧ u = σ) (zx_w g) (gx_Q g)) 0 0 (gx_Q g) := by
  refine z_met (by decide) (Nat.le_of_ble_eq_true rfl) (fun p e s m below meth c B hr hin => ?_)
  refine z_eqs (σ' := (ap b σ [] [] [])) rfl ?_
  show zx p l e _ s m _ below meth c g 3 0 0 _ _ 0 [(0, .int w1), (1, .int w2), (2, .int w3)] []
  refine z_iload_n B dX8_isStep_0 rfl 0 rfl ?_
  refine z_bipush (v := 18) B dX8_isStep_1 (by decide) ?_
  refine z_cSi (As := [.int w1, .int 18]) (rest := []) B cw_X8_68 dX8_isStep_3 (ci_X8_isBelow_74 l (σ := (ap b σ [] [] [])) (b := b) (lyA hK) w1 q1_w1 q2_w1) rfl (by decide) rfl (Nat.le_of_ble_eq_true rfl) (by decide) (fun r u hu => ?_)
  refine z_eqs (σ' := (ap b σ [] [] [])) hu.2 ?_
  show zx p l e _ s m _ below meth c g 3 0 0 _ _ 6 [(0, .int w1), (1, .int w2), (2, .int w3)] _
  refine z_seti (y := 1) hu.1 ?_
  refine z_if_eq (tgt := 31) B dX8_isStep_6 (by decide) (fun h => absurd h (by decide)) (fun _ => ?_)
  refine z_iload_n B dX8_isStep_9 rfl 1 rfl ?_
  refine z_bipush (v := 100) B dX8_isStep_10 (by decide) ?_
  refine z_cSi (As := [.int w2, .int 100]) (rest := []) B cw_X8_68 dX8_isStep_12 (ci_X8_isBelow_80 l (σ := (ap b σ [] [] [])) (b := b) (lyA hK) w2 q1_w2 q2_w2) rfl (by decide) rfl (Nat.le_of_ble_eq_true rfl) (by decide) (fun r u hu => ?_)
  refine z_eqs (σ' := (ap b σ [] [] [])) hu.2 ?_
  show zx p l e _ s m _ below meth c g 3 0 0 _ _ 15 [(0, .int w1), (1, .int w2), (2, .int w3)] _
  refine z_seti (y := 1) hu.1 ?_
  refine z_if_eq (tgt := 31) B dX8_isStep_15 (by decide) (fun h => absurd h (by decide)) (fun _ => ?_)
  refine z_iload_n B dX8_isStep_18 rfl 2 rfl ?_
  refine z_bipush (v := 100) B dX8_isStep_19 (by decide) ?_
  refine z_cSi (As := [.int w3, .int 100]) (rest := []) B cw_X8_68 dX8_isStep_21 (ci_X8_isBelow_75 l (σ := (ap b σ [] [] [])) (b := b) (lyA hK) w3 q1_w3 q2_w3) rfl (by decide) rfl (Nat.le_of_ble_eq_true rfl) (by decide) (fun r u hu => ?_)
  refine z_eqs (σ' := (ap b σ [] [] [])) hu.2 ?_
  show zx p l e _ s m _ below meth c g 3 0 0 _ _ 24 [(0, .int w1), (1, .int w2), (2, .int w3)] _
  refine z_seti (y := 0) hu.1 ?_
  refine z_if_eq (tgt := 31) B dX8_isStep_24 (by decide) (fun _ => ?_) (fun h => absurd (by decide) h)
  refine z_iconst (v := 0) B dX8_isStep_31 (by decide) ?_
  exact z_zret B hr (by decide) (by decide) (by decide) dX8_isStep_32 ⟨rfl, rfl⟩
set_option maxRecDepth 100000 in
set_option maxHeartbeats 4000000 in
theorem ci_X8_set_82 (l : Launch) (hlt : l.stackTraces = false) {g : gx_T} {σ : sx_T} {b : Nat} (hK : lay b σ) (w1 : Int32) (w2 : Int32) (w3 : Int32) (w4 : Int32) (q1_w1 : (0 : Int) ≤ w1.toInt) (q2_w1 : w1.toInt ≤ (19 : Int)) (q1_w2 : (0 : Int) ≤ w2.toInt) (q2_w2 : w2.toInt ≤ (17 : Int)) (q1_w3 : (0 : Int) ≤ w3.toInt) (q2_w3 : w3.toInt ≤ (99 : Int)) (q1_w4 : (-2147483648 : Int) ≤ w4.toInt) (q2_w4 : w4.toInt ≤ (-1 : Int)) (hR_0_0 : sx_R σ (b + 0) 0 = (some (b + 1))) (hR_1_0 : sx_R σ (b + 1) 0 = (some (b + 9))) : vx_Met l yX8_set (.code yX8_set cX8_set 9 (some .int) :: lw_g) { frames := 7, cells := 1, slots := 6, locals := 136 } (va_Pc [.ref (b + 0), .int 0, .int w1, .int w2, .int w3, .int w4] (zx_w g σ)) (va_Qi (S := sx_T) (fun _ _ => False) (zx_w g) (gx_Q g)) (vx_X (fun u : sx_T => ∃ z, u = wx_Z σ z) (fun E u t => E = "java/lang/IllegalArgumentException" ∧ zx_h g u t.heap) (gx_Q g)) 1 6 (gx_Q g) := by
  refine z_metX (by decide) (Nat.le_of_ble_eq_true rfl) (fun p e s m below meth c B hr hin hout => ?_)
  refine z_eqs (σ' := (ap b σ [] [] [])) rfl ?_
  show zx p l e _ s m _ below meth c g 9 0 0 _ _ 0 [(0, .ref (b + 0)), (1, .int 0), (2, .int w1), (3, .int w2), (4, .int w3), (5, .int w4)] []
  refine z_aload_n B dX8_set_0 rfl 0 rfl ?_
  refine z_iload_n B dX8_set_1 rfl 1 rfl ?_
  refine z_cVq (As := [.int 0]) (rest := []) B cw_X8_64 cx_9 dX8_set_2 (ci_X8_programAt_50 l (σ := (ap b σ [] [] [])) (b := b) (lyA hK) (rR_at 0 0 hR_0_0) (rR_at 1 0 hR_1_0)) (lKA (hk_K hK 0 rfl rfl)) rfl (by decide) rfl (Nat.le_of_ble_eq_true rfl) (by decide) (fun r u hu => ?_)
  refine z_eqs (σ' := (ap b σ [] [] [])) hu.2 ?_
  show zx p l e _ s m _ below meth c g 9 0 0 _ _ 5 [(0, .ref (b + 0)), (1, .int 0), (2, .int w1), (3, .int w2), (4, .int w3), (5, .int w4)] _
  refine z_setr (y := (some (b + 9))) hu.1 ?_
  refine z_astore (lv' := [(6, .ref (b + 9)), (0, .ref (b + 0)), (1, .int 0), (2, .int w1), (3, .int w2), (4, .int w3), (5, .int w4)]) B dX8_set_5 (by decide) rfl ?_
  refine z_aload B dX8_set_7 0 rfl ?_
  refine z_ifnull (r := (some (b + 9))) (tgt := 21) B dX8_set_9 (by decide) (fun h => nomatch h) (fun _ _ => ?_)
  refine z_iload_n B dX8_set_12 rfl 3 rfl ?_
  refine z_bipush (v := 20) B dX8_set_13 (by decide) ?_
  refine z_cSi (As := [.int w1, .int 20]) (rest := []) B cw_X8_68 dX8_set_15 (ci_X8_isBelow_64 l (σ := (ap b σ [] [] [])) (b := b) (lyA hK) w1 q1_w1 q2_w1) rfl (by decide) rfl (Nat.le_of_ble_eq_true rfl) (by decide) (fun r u hu => ?_)
  refine z_eqs (σ' := (ap b σ [] [] [])) hu.2 ?_
  show zx p l e _ s m _ below meth c g 9 0 0 _ _ 18 [(6, .ref (b + 9)), (0, .ref (b + 0)), (1, .int 0), (2, .int w1), (3, .int w2), (4, .int w3), (5, .int w4)] _
  refine z_seti (y := 1) hu.1 ?_
  refine z_if_ne (tgt := 31) B dX8_set_18 (by decide) (fun _ => ?_) (fun h => absurd h (by decide))
  refine z_iload_n B dX8_set_31 rfl 4 rfl ?_
  refine z_iload B dX8_set_32 5 rfl ?_
  refine z_iload B dX8_set_34 6 rfl ?_
  refine z_cSi (As := [.int w2, .int w3, .int w4]) (rest := []) B cw_X8_79 dX8_set_36 (ci_X8_isStep_81 l (σ := (ap b σ [] [] [])) (b := b) (lyA hK) w2 w3 w4 q1_w2 q2_w2 q1_w3 q2_w3 q1_w4 q2_w4) rfl (by decide) rfl (Nat.le_of_ble_eq_true rfl) (by decide) (fun r u hu => ?_)
  refine z_eqs (σ' := (ap b σ [] [] [])) hu.2 ?_
  show zx p l e _ s m _ below meth c g 9 0 0 _ _ 39 [(6, .ref (b + 9)), (0, .ref (b + 0)), (1, .int 0), (2, .int w1), (3, .int w2), (4, .int w3), (5, .int w4)] _
  refine z_seti (y := 0) hu.1 ?_
  refine z_if_ne (tgt := 52) B dX8_set_39 (by decide) (fun h => absurd (by decide) h) (fun _ => ?_)
  exact z_throw B hlt hout (cls := "java/lang/IllegalArgumentException") (text := "no such operation") tw_X8_83_85_87 dX8_set_42 dX8_set_45 dX8_set_46 dX8_set_48 dX8_set_51 (by decide) (by decide) (by decide) (by decide) (by decide) (by decide) (fun z => ⟨z, rfl⟩)
set_option maxRecDepth 100000 in
set_option maxHeartbeats 4000000 in
theorem ci_L_set_83 (l : Launch) (hlt : l.stackTraces = false) {g : gx_T} {σ : sx_T} {b : Nat} (hK : lay b σ) (w1 : Int32) (w2 : Int32) (w3 : Int32) (w4 : Int32) (q1_w1 : (0 : Int) ≤ w1.toInt) (q2_w1 : w1.toInt ≤ (19 : Int)) (q1_w2 : (0 : Int) ≤ w2.toInt) (q2_w2 : w2.toInt ≤ (17 : Int)) (q1_w3 : (0 : Int) ≤ w3.toInt) (q2_w3 : w3.toInt ≤ (99 : Int)) (q1_w4 : (-2147483648 : Int) ≤ w4.toInt) (q2_w4 : w4.toInt ≤ (-1 : Int)) (hR_0_0 : sx_R σ (b + 0) 0 = (some (b + 1))) (hR_1_0 : sx_R σ (b + 1) 0 = (some (b + 9))) : Met l yL_set (.codeWith yL_set cL_set 8 (some .int) [(0, 16, 19, 13), (0, 16, 23, 15)] :: lw_g) { frames := 8, cells := 1, slots := 6, locals := 164 } (va_Pc [.ref (b + 0), .int 0, .int w1, .int w2, .int w3, .int w4, .ref (b + 431)] (zx_w g σ)) (va_Qi (fun r u => r = 2 ∧ ∃ z, u = (ap b (wx_Z σ z) [] [] [])) (zx_w g) (gx_Q g)) 1 6 (gx_Q g) := by
  refine z_metW (by decide) (Nat.le_of_ble_eq_true rfl) (fun p e s m below meth c B hr htab => ?_)
  refine z_eqs (σ' := (ap b σ [] [] [])) rfl ?_
  show zx p l e _ s m _ below meth c g 8 0 0 _ _ 0 [(0, .ref (b + 0)), (1, .int 0), (2, .int w1), (3, .int w2), (4, .int w3), (5, .int w4), (6, .ref (b + 431))] []
  refine z_aload B dL_set_0 6 rfl ?_
  refine z_iconst (v := 0) B dL_set_2 (by decide) ?_
  refine z_aload_n B dL_set_3 rfl 0 rfl ?_
  refine z_iload_n B dL_set_4 rfl 1 rfl ?_
  refine z_iload_n B dL_set_5 rfl 2 rfl ?_
  refine z_iload_n B dL_set_6 rfl 3 rfl ?_
  refine z_iload B dL_set_7 4 rfl ?_
  refine z_iload B dL_set_9 5 rfl ?_
  refine z_cXi (As := [.int 0, .int w1, .int w2, .int w3, .int w4]) (rest := [.int 0, .ref (b + 431)]) B htab tc_set_11_IllegalArgumentException cw_L_7 cx_9 dL_set_11 (ci_X8_set_82 l hlt (σ := (ap b σ [] [] [])) (b := b) (lyA hK) w1 w2 w3 w4 q1_w1 q2_w1 q1_w2 q2_w2 q1_w3 q2_w3 q1_w4 q2_w4 (rR_at 0 0 hR_0_0) (rR_at 1 0 hR_1_0)) (lKA (hk_K hK 0 rfl rfl)) rfl (by decide) rfl (Nat.le_of_ble_eq_true rfl) (by decide) (fun z q => ?_)
  refine z_eqs (σ' := (ap b (wx_Z σ z) [] [] [])) rfl ?_
  show zx p l e _ s m _ below meth c g 8 _ _ _ _ 23 [(0, .ref (b + 0)), (1, .int 0), (2, .int w1), (3, .int w2), (4, .int w3), (5, .int w4), (6, .ref (b + 431))] _
  refine z_astore (lv' := [(7, .ref q), (0, .ref (b + 0)), (1, .int 0), (2, .int w1), (3, .int w2), (4, .int w3), (5, .int w4), (6, .ref (b + 431))]) B dL_set_23 (by decide) rfl ?_
  refine z_iconst (v := 2) B dL_set_25 (by decide) ?_
  exact z_iret B hr (by decide) (by decide) dL_set_26 ⟨rfl, _, rfl⟩
set_option maxRecDepth 100000 in
set_option maxHeartbeats 4000000 in
theorem ci_X9_set_84 (l : Launch) {g : gx_T} {σ : sx_T} {b : Nat} (hK : lay b σ) (w1 : Int32) (w2 : Int32) (w3 : Int32) (w4 : Int32) (q1_w1 : (0 : Int) ≤ w1.toInt) (q2_w1 : w1.toInt ≤ (19 : Int)) (q1_w2 : (0 : Int) ≤ w2.toInt) (q2_w2 : w2.toInt ≤ (17 : Int)) (q1_w3 : (0 : Int) ≤ w3.toInt) (q2_w3 : w3.toInt ≤ (99 : Int)) (q1_w4 : (-2147483648 : Int) ≤ w4.toInt) (q2_w4 : w4.toInt ≤ (-1 : Int))  : Met l yX9_set (.code yX9_set cX9_set 7 (some .int) :: lw_g) { frames := 2, cells := 0, slots := 0, locals := 44 } (va_Pc [.ref (b + 405), .int 0, .int w1, .int w2, .int w3, .int w4] (zx_w g σ)) (va_Qi (fun r u => r = 0 ∧ u = (ap b σ [(405, 0, 2)] [] [])) (zx_w g) (gx_Q g)) 0 0 (gx_Q g) := by
  refine z_met (by decide) (Nat.le_of_ble_eq_true rfl) (fun p e s m below meth c B hr hin => ?_)
  refine z_eqs (σ' := (ap b σ [] [] [])) rfl ?_
  show zx p l e _ s m _ below meth c g 7 0 0 _ _ 0 [(0, .ref (b + 405)), (1, .int 0), (2, .int w1), (3, .int w2), (4, .int w3), (5, .int w4)] []
  refine z_aload_n B dX9_set_0 rfl 0 rfl ?_
  refine z_iload_n B dX9_set_1 rfl 1 rfl ?_
  refine z_iload_n B dX9_set_2 rfl 2 rfl ?_
  refine z_cSi (As := [.int 0, .int w1]) (rest := [.ref (b + 405)]) B cw_X9_238 dX9_set_3 (ci_X9_isStep_70 l (σ := (ap b σ [] [] [])) (b := b) (lyA hK) w1 q1_w1 q2_w1) rfl (by decide) rfl (Nat.le_of_ble_eq_true rfl) (by decide) (fun r u hu => ?_)
  refine z_eqs (σ' := (ap b σ [] [] [])) hu.2 ?_
  show zx p l e _ s m _ below meth c g 7 0 0 _ _ 6 [(0, .ref (b + 405)), (1, .int 0), (2, .int w1), (3, .int w2), (4, .int w3), (5, .int w4)] _
  refine z_seti (y := 1) hu.1 ?_
  refine z_iload_n B dX9_set_6 rfl 3 rfl ?_
  refine z_iload B dX9_set_7 4 rfl ?_
  refine z_iload B dX9_set_9 5 rfl ?_
  refine z_cSi (As := [.int w2, .int w3, .int w4]) (rest := [.int 1, .ref (b + 405)]) B cw_X9_242 dX9_set_11 (ci_X9_isOperation_37 l (σ := (ap b σ [] [] [])) (b := b) (lyA hK) w2 w3 w4 q1_w2 q2_w2 q1_w3 q2_w3 q1_w4 q2_w4) rfl (by decide) rfl (Nat.le_of_ble_eq_true rfl) (by decide) (fun r u hu => ?_)
  refine z_eqs (σ' := (ap b σ [] [] [])) hu.2 ?_
  show zx p l e _ s m _ below meth c g 7 0 0 _ _ 14 [(0, .ref (b + 405)), (1, .int 0), (2, .int w1), (3, .int w2), (4, .int w3), (5, .int w4)] _
  refine z_seti (y := 0) hu.1 ?_
  refine z_cVi (As := [.int 1, .int 0]) (rest := []) B cw_X9_245 cx_10 dX9_set_14 (ci_X9_needs__71 l (σ := (ap b σ [] [] [])) (b := b) (lyA hK) ) (lKA (hk_K hK 405 rfl rfl)) rfl (by decide) rfl (Nat.le_of_ble_eq_true rfl) (by decide) (fun r u hu => ?_)
  refine z_eqs (σ' := (ap b σ [(405, 0, 2)] [] [])) (hu.2.trans ap_ap) ?_
  show zx p l e _ s m _ below meth c g 7 0 0 _ _ 17 [(0, .ref (b + 405)), (1, .int 0), (2, .int w1), (3, .int w2), (4, .int w3), (5, .int w4)] _
  refine z_seti (y := 0) hu.1 ?_
  refine z_if_ne (tgt := 22) B dX9_set_17 (by decide) (fun h => absurd (by decide) h) (fun _ => ?_)
  refine z_iconst (v := 0) B dX9_set_20 (by decide) ?_
  exact z_iret B hr (by decide) (by decide) dX9_set_21 ⟨rfl, rfl⟩
set_option maxRecDepth 100000 in
set_option maxHeartbeats 4000000 in
theorem ci_X8_isStep_85 (l : Launch) {g : gx_T} {σ : sx_T} {b : Nat} (hK : lay b σ) (w1 : Int32) (w2 : Int32) (w3 : Int32) (q1_w1 : (0 : Int) ≤ w1.toInt) (q2_w1 : w1.toInt ≤ (17 : Int)) (q1_w2 : (0 : Int) ≤ w2.toInt) (q2_w2 : w2.toInt ≤ (99 : Int)) (q1_w3 : (0 : Int) ≤ w3.toInt) (q2_w3 : w3.toInt ≤ (99 : Int))  : Met l yX8_isStep (.code yX8_isStep cX8_isStep 3 (some .boolean) :: lw_g) { frames := 1, cells := 0, slots := 0, locals := 21 } (va_Pc [.int w1, .int w2, .int w3] (zx_w g σ)) (va_Qi (fun r u => r = 1 ∧ u = σ) (zx_w g) (gx_Q g)) 0 0 (gx_Q g) := by
  refine z_met (by decide) (Nat.le_of_ble_eq_true rfl) (fun p e s m below meth c B hr hin => ?_)
  refine z_eqs (σ' := (ap b σ [] [] [])) rfl ?_
  show zx p l e _ s m _ below meth c g 3 0 0 _ _ 0 [(0, .int w1), (1, .int w2), (2, .int w3)] []
  refine z_iload_n B dX8_isStep_0 rfl 0 rfl ?_
  refine z_bipush (v := 18) B dX8_isStep_1 (by decide) ?_
  refine z_cSi (As := [.int w1, .int 18]) (rest := []) B cw_X8_68 dX8_isStep_3 (ci_X8_isBelow_74 l (σ := (ap b σ [] [] [])) (b := b) (lyA hK) w1 q1_w1 q2_w1) rfl (by decide) rfl (Nat.le_of_ble_eq_true rfl) (by decide) (fun r u hu => ?_)
  refine z_eqs (σ' := (ap b σ [] [] [])) hu.2 ?_
  show zx p l e _ s m _ below meth c g 3 0 0 _ _ 6 [(0, .int w1), (1, .int w2), (2, .int w3)] _
  refine z_seti (y := 1) hu.1 ?_
  refine z_if_eq (tgt := 31) B dX8_isStep_6 (by decide) (fun h => absurd h (by decide)) (fun _ => ?_)
  refine z_iload_n B dX8_isStep_9 rfl 1 rfl ?_
  refine z_bipush (v := 100) B dX8_isStep_10 (by decide) ?_
  refine z_cSi (As := [.int w2, .int 100]) (rest := []) B cw_X8_68 dX8_isStep_12 (ci_X8_isBelow_80 l (σ := (ap b σ [] [] [])) (b := b) (lyA hK) w2 q1_w2 q2_w2) rfl (by decide) rfl (Nat.le_of_ble_eq_true rfl) (by decide) (fun r u hu => ?_)
  refine z_eqs (σ' := (ap b σ [] [] [])) hu.2 ?_
  show zx p l e _ s m _ below meth c g 3 0 0 _ _ 15 [(0, .int w1), (1, .int w2), (2, .int w3)] _
  refine z_seti (y := 1) hu.1 ?_
  refine z_if_eq (tgt := 31) B dX8_isStep_15 (by decide) (fun h => absurd h (by decide)) (fun _ => ?_)
  refine z_iload_n B dX8_isStep_18 rfl 2 rfl ?_
  refine z_bipush (v := 100) B dX8_isStep_19 (by decide) ?_
  refine z_cSi (As := [.int w3, .int 100]) (rest := []) B cw_X8_68 dX8_isStep_21 (ci_X8_isBelow_80 l (σ := (ap b σ [] [] [])) (b := b) (lyA hK) w3 q1_w3 q2_w3) rfl (by decide) rfl (Nat.le_of_ble_eq_true rfl) (by decide) (fun r u hu => ?_)
  refine z_eqs (σ' := (ap b σ [] [] [])) hu.2 ?_
  show zx p l e _ s m _ below meth c g 3 0 0 _ _ 24 [(0, .int w1), (1, .int w2), (2, .int w3)] _
  refine z_seti (y := 1) hu.1 ?_
  refine z_if_eq (tgt := 31) B dX8_isStep_24 (by decide) (fun h => absurd h (by decide)) (fun _ => ?_)
  refine z_iconst (v := 1) B dX8_isStep_27 (by decide) ?_
  refine z_goto (tgt := 32) B dX8_isStep_28 (by decide) ?_
  exact z_zret B hr (by decide) (by decide) (by decide) dX8_isStep_32 ⟨rfl, rfl⟩
set_option maxRecDepth 100000 in
set_option maxHeartbeats 4000000 in
theorem ci_X4_put_86 (l : Launch) {g : gx_T} {σ : sx_T} {b : Nat} (hK : lay b σ) (w1 : Int32) (w2 : Int32) (w3 : Int32) (w4 : Int32) (q1_w1 : (0 : Int) ≤ w1.toInt) (q2_w1 : w1.toInt ≤ (19 : Int)) (hR_9_1 : sx_R σ (b + 9) 1 = (some (b + 10))) (hR_9_2 : sx_R σ (b + 9) 2 = (some (b + 11))) (hR_9_3 : sx_R σ (b + 9) 3 = (some (b + 12))) : Met l yX4_put (.code yX4_put cX4_put 5 none :: lw_g) { frames := 0, cells := 0, slots := 0, locals := 0 } (va_Pc [.ref (b + 9), .int w1, .int w2, .int w3, .int w4] (zx_w g σ)) (va_Qv (fun u => u = (ap b (wx_I (ap b (wx_I (ap b (wx_I (ap b σ [] [] []) (b + 10) w1.toNatClampNeg w2) [] [] []) (b + 11) w1.toNatClampNeg w3) [] [] []) (b + 12) w1.toNatClampNeg w4) [] [] [])) (zx_w g) (gx_Q g)) 0 0 (gx_Q g) := by
  refine z_met (by decide) (Nat.le_of_ble_eq_true rfl) (fun p e s m below meth c B hr hin => ?_)
  refine z_eqs (σ' := (ap b σ [] [] [])) rfl ?_
  show zx p l e _ s m _ below meth c g 5 0 0 _ _ 0 [(0, .ref (b + 9)), (1, .int w1), (2, .int w2), (3, .int w3), (4, .int w4)] []
  refine z_iload_n B dX4_put_0 rfl 1 rfl ?_
  refine z_if_lt (tgt := 53) B dX4_put_1 (by decide) (fun h => absurd h (iv_nlt q1_w1 (by decide))) (fun _ => ?_)
  refine z_iload_n B dX4_put_4 rfl 1 rfl ?_
  refine z_aload_n B dX4_put_5 rfl 0 rfl ?_
  refine gf_X4_9 (x := (some (b + 10))) B (lKA (hk_K hK 9 rfl rfl)) (rR_at 9 1 hR_9_1) dX4_put_6 ?_
  refine z_alen (kd := 13) (ti := 1) (v := 20) B (lKA (hk_K hK 10 rfl rfl)) (by decide) rfl (congrArg Int32.ofNat (lNA (hk_N hK 10 rfl rfl))) dX4_put_9 ?_
  refine z_icmp_ge (tgt := 53) B dX4_put_10 (by decide) (fun h => absurd h (iv_nge q2_w1 (by decide))) (fun _ => ?_)
  refine z_iload_n B dX4_put_13 rfl 1 rfl ?_
  refine z_aload_n B dX4_put_14 rfl 0 rfl ?_
  refine gf_X4_15 (x := (some (b + 11))) B (lKA (hk_K hK 9 rfl rfl)) (rR_at 9 2 hR_9_2) dX4_put_15 ?_
  refine z_alen (kd := 13) (ti := 1) (v := 20) B (lKA (hk_K hK 11 rfl rfl)) (by decide) rfl (congrArg Int32.ofNat (lNA (hk_N hK 11 rfl rfl))) dX4_put_18 ?_
  refine z_icmp_ge (tgt := 53) B dX4_put_19 (by decide) (fun h => absurd h (iv_nge q2_w1 (by decide))) (fun _ => ?_)
  refine z_iload_n B dX4_put_22 rfl 1 rfl ?_
  refine z_aload_n B dX4_put_23 rfl 0 rfl ?_
  refine gf_X4_18 (x := (some (b + 12))) B (lKA (hk_K hK 9 rfl rfl)) (rR_at 9 3 hR_9_3) dX4_put_24 ?_
  refine z_alen (kd := 13) (ti := 1) (v := 20) B (lKA (hk_K hK 12 rfl rfl)) (by decide) rfl (congrArg Int32.ofNat (lNA (hk_N hK 12 rfl rfl))) dX4_put_27 ?_
  refine z_icmp_ge (tgt := 53) B dX4_put_28 (by decide) (fun h => absurd h (iv_nge q2_w1 (by decide))) (fun _ => ?_)
  refine z_aload_n B dX4_put_31 rfl 0 rfl ?_
  refine gf_X4_9 (x := (some (b + 10))) B (lKA (hk_K hK 9 rfl rfl)) (rR_at 9 1 hR_9_1) dX4_put_32 ?_
  refine z_iload_n B dX4_put_35 rfl 1 rfl ?_
  refine z_iload_n B dX4_put_36 rfl 2 rfl ?_
  refine z_iast (j := w1.toNatClampNeg) (σ' := (wx_I (ap b σ [] [] []) (b + 10) w1.toNatClampNeg w2)) B (lKA (hk_K hK 10 rfl rfl)) rfl (in_of (lNA (hk_N hK 10 rfl rfl)) (iv_in q1_w1 q2_w1 (by decide) (by decide))) rfl dX4_put_37 ?_
  refine z_eqs (σ' := (ap b (wx_I (ap b σ [] [] []) (b + 10) w1.toNatClampNeg w2) [] [] [])) ap_nil ?_
  refine z_aload_n B dX4_put_38 rfl 0 rfl ?_
  refine gf_X4_15 (x := (some (b + 11))) B (lKA (lKW (lKA (hk_K hK 9 rfl rfl)))) (rR_at 9 2 (rR_w (rR_at 9 2 hR_9_2))) dX4_put_39 ?_
  refine z_iload_n B dX4_put_42 rfl 1 rfl ?_
  refine z_iload_n B dX4_put_43 rfl 3 rfl ?_
  refine z_iast (j := w1.toNatClampNeg) (σ' := (wx_I (ap b (wx_I (ap b σ [] [] []) (b + 10) w1.toNatClampNeg w2) [] [] []) (b + 11) w1.toNatClampNeg w3)) B (lKA (lKW (lKA (hk_K hK 11 rfl rfl)))) rfl (in_of (lNA (lNW (lNA (hk_N hK 11 rfl rfl)))) (iv_in q1_w1 q2_w1 (by decide) (by decide))) rfl dX4_put_44 ?_
  refine z_eqs (σ' := (ap b (wx_I (ap b (wx_I (ap b σ [] [] []) (b + 10) w1.toNatClampNeg w2) [] [] []) (b + 11) w1.toNatClampNeg w3) [] [] [])) ap_nil ?_
  refine z_aload_n B dX4_put_45 rfl 0 rfl ?_
  refine gf_X4_18 (x := (some (b + 12))) B (lKA (lKW (lKA (lKW (lKA (hk_K hK 9 rfl rfl)))))) (rR_at 9 3 (rR_w (rR_at 9 3 (rR_w (rR_at 9 3 hR_9_3))))) dX4_put_46 ?_
  refine z_iload_n B dX4_put_49 rfl 1 rfl ?_
  refine z_iload B dX4_put_50 4 rfl ?_
  refine z_iast (j := w1.toNatClampNeg) (σ' := (wx_I (ap b (wx_I (ap b (wx_I (ap b σ [] [] []) (b + 10) w1.toNatClampNeg w2) [] [] []) (b + 11) w1.toNatClampNeg w3) [] [] []) (b + 12) w1.toNatClampNeg w4)) B (lKA (lKW (lKA (lKW (lKA (hk_K hK 12 rfl rfl)))))) rfl (in_of (lNA (lNW (lNA (lNW (lNA (hk_N hK 12 rfl rfl)))))) (iv_in q1_w1 q2_w1 (by decide) (by decide))) rfl dX4_put_52 ?_
  refine z_eqs (σ' := (ap b (wx_I (ap b (wx_I (ap b (wx_I (ap b σ [] [] []) (b + 10) w1.toNatClampNeg w2) [] [] []) (b + 11) w1.toNatClampNeg w3) [] [] []) (b + 12) w1.toNatClampNeg w4) [] [] [])) ap_nil ?_
  exact z_vret B hr (by decide) (by decide) dX4_put_53 rfl
set_option maxRecDepth 100000 in
set_option maxHeartbeats 4000000 in
theorem ci_X8_findAgain_87 (l : Launch) {g : gx_T} {σ : sx_T} {b : Nat} (hK : lay b σ)   (hI_0_7 : sx_I σ (b + 0) 7 = 0) : Met l yX8_findAgain (.code yX8_findAgain cX8_findAgain 4 none :: lw_g) { frames := 0, cells := 0, slots := 0, locals := 0 } (va_Pc [.ref (b + 0), .ref (b + 9)] (zx_w g σ)) (va_Qv (fun u => u = σ) (zx_w g) (gx_Q g)) 0 0 (gx_Q g) := by
  refine z_met (by decide) (Nat.le_of_ble_eq_true rfl) (fun p e s m below meth c B hr hin => ?_)
  refine z_eqs (σ' := (ap b σ [] [] [])) rfl ?_
  show zx p l e _ s m _ below meth c g 4 0 0 _ _ 0 [(0, .ref (b + 0)), (1, .ref (b + 9))] []
  refine z_iconst (v := 0) B dX8_findAgain_0 (by decide) ?_
  refine z_istore_n (lv' := [(2, .int 0), (0, .ref (b + 0)), (1, .ref (b + 9))]) B dX8_findAgain_1 rfl (by decide) rfl ?_
  refine z_iload_n B dX8_findAgain_2 rfl 0 rfl ?_
  refine z_aload_n B dX8_findAgain_3 rfl 1 rfl ?_
  refine gf_X8_96 (x := 0) B (lKA (hk_K hK 0 rfl rfl)) (rI_at 0 7 hI_0_7) dX8_findAgain_4 ?_
  refine z_icmp_ge (tgt := 45) B dX8_findAgain_7 (by decide) (fun _ => ?_) (fun h => absurd (by decide) h)
  exact z_vret B hr (by decide) (by decide) dX8_findAgain_45 rfl
set_option maxRecDepth 100000 in
set_option maxHeartbeats 4000000 in
theorem ci_X8_countAstray_88 (l : Launch) {g : gx_T} {σ : sx_T} {b : Nat} (hK : lay b σ)   (hI_0_7 : sx_I σ (b + 0) 7 = 0) : Met l yX8_countAstray (.code yX8_countAstray cX8_countAstray 5 (some .int) :: lw_g) { frames := 0, cells := 0, slots := 0, locals := 0 } (va_Pc [.ref (b + 0), .ref (b + 9)] (zx_w g σ)) (va_Qi (fun r u => r = 0 ∧ u = σ) (zx_w g) (gx_Q g)) 0 0 (gx_Q g) := by
  refine z_met (by decide) (Nat.le_of_ble_eq_true rfl) (fun p e s m below meth c B hr hin => ?_)
  refine z_eqs (σ' := (ap b σ [] [] [])) rfl ?_
  show zx p l e _ s m _ below meth c g 5 0 0 _ _ 0 [(0, .ref (b + 0)), (1, .ref (b + 9))] []
  refine z_iconst (v := 0) B dX8_countAstray_0 (by decide) ?_
  refine z_istore_n (lv' := [(2, .int 0), (0, .ref (b + 0)), (1, .ref (b + 9))]) B dX8_countAstray_1 rfl (by decide) rfl ?_
  refine z_iconst (v := 0) B dX8_countAstray_2 (by decide) ?_
  refine z_istore_n (lv' := [(3, .int 0), (2, .int 0), (0, .ref (b + 0)), (1, .ref (b + 9))]) B dX8_countAstray_3 rfl (by decide) rfl ?_
  refine z_iload_n B dX8_countAstray_4 rfl 0 rfl ?_
  refine z_aload_n B dX8_countAstray_5 rfl 2 rfl ?_
  refine gf_X8_96 (x := 0) B (lKA (hk_K hK 0 rfl rfl)) (rI_at 0 7 hI_0_7) dX8_countAstray_6 ?_
  refine z_icmp_ge (tgt := 61) B dX8_countAstray_9 (by decide) (fun _ => ?_) (fun h => absurd (by decide) h)
  refine z_iload_n B dX8_countAstray_61 rfl 1 rfl ?_
  exact z_iret B hr (by decide) (by decide) dX8_countAstray_62 ⟨rfl, rfl⟩
set_option maxRecDepth 100000 in
set_option maxHeartbeats 4000000 in
theorem ci_X8_set_89 (l : Launch) {g : gx_T} {σ : sx_T} {b : Nat} (hK : lay b σ) (w1 : Int32) (w2 : Int32) (w3 : Int32) (w4 : Int32) (q1_w1 : (0 : Int) ≤ w1.toInt) (q2_w1 : w1.toInt ≤ (19 : Int)) (q1_w2 : (0 : Int) ≤ w2.toInt) (q2_w2 : w2.toInt ≤ (17 : Int)) (q1_w3 : (0 : Int) ≤ w3.toInt) (q2_w3 : w3.toInt ≤ (99 : Int)) (q1_w4 : (0 : Int) ≤ w4.toInt) (q2_w4 : w4.toInt ≤ (99 : Int)) (hI_0_7 : sx_I σ (b + 0) 7 = 0) (hR_0_0 : sx_R σ (b + 0) 0 = (some (b + 1))) (hR_1_0 : sx_R σ (b + 1) 0 = (some (b + 9))) (hR_9_1 : sx_R σ (b + 9) 1 = (some (b + 10))) (hR_9_2 : sx_R σ (b + 9) 2 = (some (b + 11))) (hR_9_3 : sx_R σ (b + 9) 3 = (some (b + 12))) : Met l yX8_set (.code yX8_set cX8_set 9 (some .int) :: lw_g) { frames := 2, cells := 0, slots := 0, locals := 43 } (va_Pc [.ref (b + 0), .int 0, .int w1, .int w2, .int w3, .int w4] (zx_w g σ)) (va_Qi (fun r u => r = 0 ∧ u = (ap b (wx_I (ap b (wx_I (ap b (wx_I (ap b (ap b σ [] [] []) [] [] []) (b + 10) w1.toNatClampNeg w2) [] [] []) (b + 11) w1.toNatClampNeg w3) [] [] []) (b + 12) w1.toNatClampNeg w4) [] [] [])) (zx_w g) (gx_Q g)) 0 0 (gx_Q g) := by
  refine z_met (by decide) (Nat.le_of_ble_eq_true rfl) (fun p e s m below meth c B hr hin => ?_)
  refine z_eqs (σ' := (ap b σ [] [] [])) rfl ?_
  show zx p l e _ s m _ below meth c g 9 0 0 _ _ 0 [(0, .ref (b + 0)), (1, .int 0), (2, .int w1), (3, .int w2), (4, .int w3), (5, .int w4)] []
  refine z_aload_n B dX8_set_0 rfl 0 rfl ?_
  refine z_iload_n B dX8_set_1 rfl 1 rfl ?_
  refine z_cVq (As := [.int 0]) (rest := []) B cw_X8_64 cx_9 dX8_set_2 (ci_X8_programAt_50 l (σ := (ap b σ [] [] [])) (b := b) (lyA hK) (rR_at 0 0 hR_0_0) (rR_at 1 0 hR_1_0)) (lKA (hk_K hK 0 rfl rfl)) rfl (by decide) rfl (Nat.le_of_ble_eq_true rfl) (by decide) (fun r u hu => ?_)
  refine z_eqs (σ' := (ap b σ [] [] [])) hu.2 ?_
  show zx p l e _ s m _ below meth c g 9 0 0 _ _ 5 [(0, .ref (b + 0)), (1, .int 0), (2, .int w1), (3, .int w2), (4, .int w3), (5, .int w4)] _
  refine z_setr (y := (some (b + 9))) hu.1 ?_
  refine z_astore (lv' := [(6, .ref (b + 9)), (0, .ref (b + 0)), (1, .int 0), (2, .int w1), (3, .int w2), (4, .int w3), (5, .int w4)]) B dX8_set_5 (by decide) rfl ?_
  refine z_aload B dX8_set_7 0 rfl ?_
  refine z_ifnull (r := (some (b + 9))) (tgt := 21) B dX8_set_9 (by decide) (fun h => nomatch h) (fun _ _ => ?_)
  refine z_iload_n B dX8_set_12 rfl 3 rfl ?_
  refine z_bipush (v := 20) B dX8_set_13 (by decide) ?_
  refine z_cSi (As := [.int w1, .int 20]) (rest := []) B cw_X8_68 dX8_set_15 (ci_X8_isBelow_64 l (σ := (ap b σ [] [] [])) (b := b) (lyA hK) w1 q1_w1 q2_w1) rfl (by decide) rfl (Nat.le_of_ble_eq_true rfl) (by decide) (fun r u hu => ?_)
  refine z_eqs (σ' := (ap b σ [] [] [])) hu.2 ?_
  show zx p l e _ s m _ below meth c g 9 0 0 _ _ 18 [(6, .ref (b + 9)), (0, .ref (b + 0)), (1, .int 0), (2, .int w1), (3, .int w2), (4, .int w3), (5, .int w4)] _
  refine z_seti (y := 1) hu.1 ?_
  refine z_if_ne (tgt := 31) B dX8_set_18 (by decide) (fun _ => ?_) (fun h => absurd h (by decide))
  refine z_iload_n B dX8_set_31 rfl 4 rfl ?_
  refine z_iload B dX8_set_32 5 rfl ?_
  refine z_iload B dX8_set_34 6 rfl ?_
  refine z_cSi (As := [.int w2, .int w3, .int w4]) (rest := []) B cw_X8_79 dX8_set_36 (ci_X8_isStep_85 l (σ := (ap b σ [] [] [])) (b := b) (lyA hK) w2 w3 w4 q1_w2 q2_w2 q1_w3 q2_w3 q1_w4 q2_w4) rfl (by decide) rfl (Nat.le_of_ble_eq_true rfl) (by decide) (fun r u hu => ?_)
  refine z_eqs (σ' := (ap b σ [] [] [])) hu.2 ?_
  show zx p l e _ s m _ below meth c g 9 0 0 _ _ 39 [(6, .ref (b + 9)), (0, .ref (b + 0)), (1, .int 0), (2, .int w1), (3, .int w2), (4, .int w3), (5, .int w4)] _
  refine z_seti (y := 1) hu.1 ?_
  refine z_if_ne (tgt := 52) B dX8_set_39 (by decide) (fun _ => ?_) (fun h => absurd h (by decide))
  refine z_aload B dX8_set_52 0 rfl ?_
  refine z_iload_n B dX8_set_54 rfl 3 rfl ?_
  refine z_iload_n B dX8_set_55 rfl 4 rfl ?_
  refine z_iload B dX8_set_56 5 rfl ?_
  refine z_iload B dX8_set_58 6 rfl ?_
  refine z_cVv (As := [.int w1, .int w2, .int w3, .int w4]) (rest := []) B cw_X8_88 cx_5 dX8_set_60 (ci_X4_put_86 l (σ := (ap b σ [] [] [])) (b := b) (lyA hK) w1 w2 w3 w4 q1_w1 q2_w1 (rR_at 9 1 hR_9_1) (rR_at 9 2 hR_9_2) (rR_at 9 3 hR_9_3)) (lKA (hk_K hK 9 rfl rfl)) rfl (by decide) rfl (Nat.le_of_ble_eq_true rfl) (by decide) (fun u hu => ?_)
  refine z_eqs (σ' := (ap b (wx_I (ap b (wx_I (ap b (wx_I (ap b (ap b σ [] [] []) [] [] []) (b + 10) w1.toNatClampNeg w2) [] [] []) (b + 11) w1.toNatClampNeg w3) [] [] []) (b + 12) w1.toNatClampNeg w4) [] [] [])) hu ?_
  show zx p l e _ s m _ below meth c g 9 0 0 _ _ 63 [(6, .ref (b + 9)), (0, .ref (b + 0)), (1, .int 0), (2, .int w1), (3, .int w2), (4, .int w3), (5, .int w4)] _
  refine z_aload_n B dX8_set_63 rfl 1 rfl ?_
  refine z_aload B dX8_set_64 0 rfl ?_
  refine z_cVv (As := [.ref (b + 9)]) (rest := []) B cw_X8_92 cx_9 dX8_set_66 (ci_X8_findAgain_87 l (σ := (ap b (wx_I (ap b (wx_I (ap b (wx_I (ap b (ap b σ [] [] []) [] [] []) (b + 10) w1.toNatClampNeg w2) [] [] []) (b + 11) w1.toNatClampNeg w3) [] [] []) (b + 12) w1.toNatClampNeg w4) [] [] [])) (b := b) (lyA (lyW (lyA (lyW (lyA (lyW (lyA (lyA hK)))))))) (rI_at 0 7 ((ux_a (by omega)).trans (rI_at 0 7 ((ux_a (by omega)).trans (rI_at 0 7 ((ux_a (by omega)).trans (rI_at 0 7 (rI_at 0 7 hI_0_7))))))))) (lKA (lKW (lKA (lKW (lKA (lKW (lKA (lKA (hk_K hK 0 rfl rfl))))))))) rfl (by decide) rfl (Nat.le_of_ble_eq_true rfl) (by decide) (fun u hu => ?_)
  refine z_eqs (σ' := (ap b (wx_I (ap b (wx_I (ap b (wx_I (ap b (ap b σ [] [] []) [] [] []) (b + 10) w1.toNatClampNeg w2) [] [] []) (b + 11) w1.toNatClampNeg w3) [] [] []) (b + 12) w1.toNatClampNeg w4) [] [] [])) hu ?_
  show zx p l e _ s m _ below meth c g 9 0 0 _ _ 69 [(6, .ref (b + 9)), (0, .ref (b + 0)), (1, .int 0), (2, .int w1), (3, .int w2), (4, .int w3), (5, .int w4)] _
  refine z_iconst (v := 0) B dX8_set_69 (by decide) ?_
  refine z_istore (lv' := [(7, .int 0), (6, .ref (b + 9)), (0, .ref (b + 0)), (1, .int 0), (2, .int w1), (3, .int w2), (4, .int w3), (5, .int w4)]) B dX8_set_70 (by decide) rfl ?_
  refine z_iload B dX8_set_72 0 rfl ?_
  refine z_aload_n B dX8_set_74 rfl 2 rfl ?_
  refine gf_X8_96 (x := 0) B (lKA (lKW (lKA (lKW (lKA (lKW (lKA (lKA (hk_K hK 0 rfl rfl))))))))) (rI_at 0 7 ((ux_a (by omega)).trans (rI_at 0 7 ((ux_a (by omega)).trans (rI_at 0 7 ((ux_a (by omega)).trans (rI_at 0 7 (rI_at 0 7 hI_0_7)))))))) dX8_set_75 ?_
  refine z_icmp_ge (tgt := 124) B dX8_set_78 (by decide) (fun _ => ?_) (fun h => absurd (by decide) h)
  refine z_aload_n B dX8_set_124 rfl 2 rfl ?_
  refine z_aload B dX8_set_125 1 rfl ?_
  refine z_cVi (As := [.ref (b + 9)]) (rest := []) B cw_X8_115 cx_9 dX8_set_127 (ci_X8_countAstray_88 l (σ := (ap b (wx_I (ap b (wx_I (ap b (wx_I (ap b (ap b σ [] [] []) [] [] []) (b + 10) w1.toNatClampNeg w2) [] [] []) (b + 11) w1.toNatClampNeg w3) [] [] []) (b + 12) w1.toNatClampNeg w4) [] [] [])) (b := b) (lyA (lyW (lyA (lyW (lyA (lyW (lyA (lyA hK)))))))) (rI_at 0 7 ((ux_a (by omega)).trans (rI_at 0 7 ((ux_a (by omega)).trans (rI_at 0 7 ((ux_a (by omega)).trans (rI_at 0 7 (rI_at 0 7 hI_0_7))))))))) (lKA (lKW (lKA (lKW (lKA (lKW (lKA (lKA (hk_K hK 0 rfl rfl))))))))) rfl (by decide) rfl (Nat.le_of_ble_eq_true rfl) (by decide) (fun r u hu => ?_)
  refine z_eqs (σ' := (ap b (wx_I (ap b (wx_I (ap b (wx_I (ap b (ap b σ [] [] []) [] [] []) (b + 10) w1.toNatClampNeg w2) [] [] []) (b + 11) w1.toNatClampNeg w3) [] [] []) (b + 12) w1.toNatClampNeg w4) [] [] [])) hu.2 ?_
  show zx p l e _ s m _ below meth c g 9 0 0 _ _ 130 [(7, .int 0), (6, .ref (b + 9)), (0, .ref (b + 0)), (1, .int 0), (2, .int w1), (3, .int w2), (4, .int w3), (5, .int w4)] _
  refine z_seti (y := 0) hu.1 ?_
  exact z_iret B hr (by decide) (by decide) dX8_set_130 ⟨rfl, rfl⟩
set_option maxRecDepth 100000 in
set_option maxHeartbeats 4000000 in
theorem ci_L_set_90 (l : Launch) {g : gx_T} {σ : sx_T} {b : Nat} (hK : lay b σ) (w1 : Int32) (w2 : Int32) (w3 : Int32) (w4 : Int32) (q1_w1 : (0 : Int) ≤ w1.toInt) (q2_w1 : w1.toInt ≤ (19 : Int)) (q1_w2 : (0 : Int) ≤ w2.toInt) (q2_w2 : w2.toInt ≤ (17 : Int)) (q1_w3 : (0 : Int) ≤ w3.toInt) (q2_w3 : w3.toInt ≤ (99 : Int)) (q1_w4 : (0 : Int) ≤ w4.toInt) (q2_w4 : w4.toInt ≤ (99 : Int)) (hI_0_7 : sx_I σ (b + 0) 7 = 0) (hR_0_0 : sx_R σ (b + 0) 0 = (some (b + 1))) (hR_1_0 : sx_R σ (b + 1) 0 = (some (b + 9))) (hR_9_1 : sx_R σ (b + 9) 1 = (some (b + 10))) (hR_9_2 : sx_R σ (b + 9) 2 = (some (b + 11))) (hR_9_3 : sx_R σ (b + 9) 3 = (some (b + 12))) : Met l yL_set (.codeWith yL_set cL_set 8 (some .int) [(0, 16, 19, 13), (0, 16, 23, 15)] :: lw_g) { frames := 3, cells := 0, slots := 0, locals := 71 } (va_Pc [.ref (b + 0), .int 0, .int w1, .int w2, .int w3, .int w4, .ref (b + 431)] (zx_w g σ)) (va_Qi (fun r u => r = 0 ∧ u = (ap b (wx_I (ap b (wx_I (ap b (wx_I (ap b (ap b (ap b σ [] [] []) [] [] []) [] [] []) (b + 10) w1.toNatClampNeg w2) [] [] []) (b + 11) w1.toNatClampNeg w3) [] [] []) (b + 12) w1.toNatClampNeg w4) [] [(431, 0, 0)] [])) (zx_w g) (gx_Q g)) 0 0 (gx_Q g) := by
  refine z_metW (by decide) (Nat.le_of_ble_eq_true rfl) (fun p e s m below meth c B hr htab => ?_)
  refine z_eqs (σ' := (ap b σ [] [] [])) rfl ?_
  show zx p l e _ s m _ below meth c g 8 0 0 _ _ 0 [(0, .ref (b + 0)), (1, .int 0), (2, .int w1), (3, .int w2), (4, .int w3), (5, .int w4), (6, .ref (b + 431))] []
  refine z_aload B dL_set_0 6 rfl ?_
  refine z_iconst (v := 0) B dL_set_2 (by decide) ?_
  refine z_aload_n B dL_set_3 rfl 0 rfl ?_
  refine z_iload_n B dL_set_4 rfl 1 rfl ?_
  refine z_iload_n B dL_set_5 rfl 2 rfl ?_
  refine z_iload_n B dL_set_6 rfl 3 rfl ?_
  refine z_iload B dL_set_7 4 rfl ?_
  refine z_iload B dL_set_9 5 rfl ?_
  refine z_cVi (As := [.int 0, .int w1, .int w2, .int w3, .int w4]) (rest := [.int 0, .ref (b + 431)]) B cw_L_7 cx_9 dL_set_11 (ci_X8_set_89 l (σ := (ap b σ [] [] [])) (b := b) (lyA hK) w1 w2 w3 w4 q1_w1 q2_w1 q1_w2 q2_w2 q1_w3 q2_w3 q1_w4 q2_w4 (rI_at 0 7 hI_0_7) (rR_at 0 0 hR_0_0) (rR_at 1 0 hR_1_0) (rR_at 9 1 hR_9_1) (rR_at 9 2 hR_9_2) (rR_at 9 3 hR_9_3)) (lKA (hk_K hK 0 rfl rfl)) rfl (by decide) rfl (Nat.le_of_ble_eq_true rfl) (by decide) (fun r u hu => ?_)
  refine z_eqs (σ' := (ap b (wx_I (ap b (wx_I (ap b (wx_I (ap b (ap b (ap b σ [] [] []) [] [] []) [] [] []) (b + 10) w1.toNatClampNeg w2) [] [] []) (b + 11) w1.toNatClampNeg w3) [] [] []) (b + 12) w1.toNatClampNeg w4) [] [] [])) hu.2 ?_
  show zx p l e _ s m _ below meth c g 8 0 0 _ _ 14 [(0, .ref (b + 0)), (1, .int 0), (2, .int w1), (3, .int w2), (4, .int w3), (5, .int w4), (6, .ref (b + 431))] _
  refine z_seti (y := 0) hu.1 ?_
  refine z_i2l (v := 0) B dL_set_14 (by decide) ?_
  refine z_last (j := 0) (σ' := (ap b (wx_I (ap b (wx_I (ap b (wx_I (ap b (ap b (ap b σ [] [] []) [] [] []) [] [] []) (b + 10) w1.toNatClampNeg w2) [] [] []) (b + 11) w1.toNatClampNeg w3) [] [] []) (b + 12) w1.toNatClampNeg w4) [] [(431, 0, 0)] [])) B (lKA (lKW (lKA (lKW (lKA (lKW (lKA (lKA (lKA (hk_K hK 431 rfl rfl)))))))))) (by decide) (in_of (lNA (lNW (lNA (lNW (lNA (lNW (lNA (lNA (lNA (hk_N hK 431 rfl rfl)))))))))) (show ¬ ((0 : Int32) < 0 ∨ 1 ≤ (0 : Int32).toNatClampNeg) by decide)) wJ_ap dL_set_15 ?_
  refine z_goto (tgt := 27) B dL_set_16 (by decide) ?_
  refine z_iconst (v := 0) B dL_set_27 (by decide) ?_
  exact z_iret B hr (by decide) (by decide) dL_set_28 ⟨rfl, rfl⟩
set_option maxRecDepth 100000 in
set_option maxHeartbeats 4000000 in
theorem ci_X9_needs__91 (l : Launch) {g : gx_T} {σ : sx_T} {b : Nat} (hK : lay b σ)    : Met l yX9_needs_ (.code yX9_needs_ cX9_needs_ 3 (some .boolean) :: lw_g) { frames := 0, cells := 0, slots := 0, locals := 0 } (va_Pc [.ref (b + 405), .int 1, .int 1] (zx_w g σ)) (va_Qi (fun r u => r = 1 ∧ u = (ap b σ [(405, 0, 0)] [] [])) (zx_w g) (gx_Q g)) 0 0 (gx_Q g) := by
  refine z_met (by decide) (Nat.le_of_ble_eq_true rfl) (fun p e s m below meth c B hr hin => ?_)
  refine z_eqs (σ' := (ap b σ [] [] [])) rfl ?_
  show zx p l e _ s m _ below meth c g 3 0 0 _ _ 0 [(0, .ref (b + 405)), (1, .int 1), (2, .int 1)] []
  refine z_aload_n B dX9_needs__0 rfl 0 rfl ?_
  refine z_iload_n B dX9_needs__1 rfl 1 rfl ?_
  refine z_if_ne (tgt := 9) B dX9_needs__2 (by decide) (fun _ => ?_) (fun h => absurd h (by decide))
  refine z_iload_n B dX9_needs__9 rfl 2 rfl ?_
  refine z_if_eq (tgt := 17) B dX9_needs__10 (by decide) (fun h => absurd h (by decide)) (fun _ => ?_)
  refine z_iconst (v := 0) B dX9_needs__13 (by decide) ?_
  refine z_goto (tgt := 18) B dX9_needs__14 (by decide) ?_
  refine pf_X9_90 (x := 0) (σ' := (ap b σ [(405, 0, 0)] [] [])) B (lKA (hk_K hK 405 rfl rfl)) wI_ap dX9_needs__18 ?_
  refine z_aload_n B dX9_needs__21 rfl 0 rfl ?_
  refine gf_X9_90 (x := 0) B (lKA (hk_K hK 405 rfl rfl)) (rI_at 405 0 rfl) dX9_needs__22 ?_
  refine z_if_ne (tgt := 32) B dX9_needs__25 (by decide) (fun h => absurd (by decide) h) (fun _ => ?_)
  refine z_iconst (v := 1) B dX9_needs__28 (by decide) ?_
  refine z_goto (tgt := 33) B dX9_needs__29 (by decide) ?_
  exact z_zret B hr (by decide) (by decide) (by decide) dX9_needs__33 ⟨rfl, rfl⟩
set_option maxRecDepth 100000 in
set_option maxHeartbeats 4000000 in
theorem ci_X9_lays_92 (l : Launch) {g : gx_T} {σ : sx_T} {b : Nat} (hK : lay b σ) (w1 : Int32) (w2 : Int32) (w3 : Int32) (w4 : Int32) (q1_w1 : (0 : Int) ≤ w1.toInt) (q2_w1 : w1.toInt ≤ (19 : Int)) (hR_405_3 : sx_R σ (b + 405) 3 = (some (b + 406))) (hR_405_4 : sx_R σ (b + 405) 4 = (some (b + 407))) (hR_405_5 : sx_R σ (b + 405) 5 = (some (b + 408))) : Met l yX9_lays (.code yX9_lays cX9_lays 6 none :: lw_g) { frames := 0, cells := 0, slots := 0, locals := 0 } (va_Pc [.ref (b + 405), .int 0, .int w1, .int w2, .int w3, .int w4] (zx_w g σ)) (va_Qv (fun u => u = (ap b (wx_I (ap b (wx_I (ap b (wx_I (ap b σ [] [] []) (b + 406) (0 + w1).toNatClampNeg w2) [] [] []) (b + 407) (0 + w1).toNatClampNeg w3) [] [] []) (b + 408) (0 + w1).toNatClampNeg w4) [] [] [])) (zx_w g) (gx_Q g)) 0 0 (gx_Q g) := by
  refine z_met (by decide) (Nat.le_of_ble_eq_true rfl) (fun p e s m below meth c B hr hin => ?_)
  refine z_eqs (σ' := (ap b σ [] [] [])) rfl ?_
  show zx p l e _ s m _ below meth c g 6 0 0 _ _ 0 [(0, .ref (b + 405)), (1, .int 0), (2, .int w1), (3, .int w2), (4, .int w3), (5, .int w4)] []
  refine z_aload_n B dX9_lays_0 rfl 0 rfl ?_
  refine gf_X9_13 (x := (some (b + 406))) B (lKA (hk_K hK 405 rfl rfl)) (rR_at 405 3 hR_405_3) dX9_lays_1 ?_
  refine z_bipush (v := 20) B dX9_lays_4 (by decide) ?_
  refine z_iload_n B dX9_lays_6 rfl 1 rfl ?_
  refine z_imul B dX9_lays_7 ?_
  refine z_seti (y := 0) (by decide) ?_
  refine z_iload_n B dX9_lays_8 rfl 2 rfl ?_
  refine z_iadd B dX9_lays_9 ?_
  refine z_iload_n B dX9_lays_10 rfl 3 rfl ?_
  refine z_iast (j := (0 + w1).toNatClampNeg) (σ' := (wx_I (ap b σ [] [] []) (b + 406) (0 + w1).toNatClampNeg w2)) B (lKA (hk_K hK 406 rfl rfl)) rfl (in_of (lNA (hk_N hK 406 rfl rfl)) (iv_inadd q1_w1 q2_w1 (by decide) (by decide))) rfl dX9_lays_11 ?_
  refine z_eqs (σ' := (ap b (wx_I (ap b σ [] [] []) (b + 406) (0 + w1).toNatClampNeg w2) [] [] [])) ap_nil ?_
  refine z_aload_n B dX9_lays_12 rfl 0 rfl ?_
  refine gf_X9_17 (x := (some (b + 407))) B (lKA (lKW (lKA (hk_K hK 405 rfl rfl)))) (rR_at 405 4 (rR_w (rR_at 405 4 hR_405_4))) dX9_lays_13 ?_
  refine z_bipush (v := 20) B dX9_lays_16 (by decide) ?_
  refine z_iload_n B dX9_lays_18 rfl 1 rfl ?_
  refine z_imul B dX9_lays_19 ?_
  refine z_seti (y := 0) (by decide) ?_
  refine z_iload_n B dX9_lays_20 rfl 2 rfl ?_
  refine z_iadd B dX9_lays_21 ?_
  refine z_iload B dX9_lays_22 4 rfl ?_
  refine z_iast (j := (0 + w1).toNatClampNeg) (σ' := (wx_I (ap b (wx_I (ap b σ [] [] []) (b + 406) (0 + w1).toNatClampNeg w2) [] [] []) (b + 407) (0 + w1).toNatClampNeg w3)) B (lKA (lKW (lKA (hk_K hK 407 rfl rfl)))) rfl (in_of (lNA (lNW (lNA (hk_N hK 407 rfl rfl)))) (iv_inadd q1_w1 q2_w1 (by decide) (by decide))) rfl dX9_lays_24 ?_
  refine z_eqs (σ' := (ap b (wx_I (ap b (wx_I (ap b σ [] [] []) (b + 406) (0 + w1).toNatClampNeg w2) [] [] []) (b + 407) (0 + w1).toNatClampNeg w3) [] [] [])) ap_nil ?_
  refine z_aload_n B dX9_lays_25 rfl 0 rfl ?_
  refine gf_X9_20 (x := (some (b + 408))) B (lKA (lKW (lKA (lKW (lKA (hk_K hK 405 rfl rfl)))))) (rR_at 405 5 (rR_w (rR_at 405 5 (rR_w (rR_at 405 5 hR_405_5))))) dX9_lays_26 ?_
  refine z_bipush (v := 20) B dX9_lays_29 (by decide) ?_
  refine z_iload_n B dX9_lays_31 rfl 1 rfl ?_
  refine z_imul B dX9_lays_32 ?_
  refine z_seti (y := 0) (by decide) ?_
  refine z_iload_n B dX9_lays_33 rfl 2 rfl ?_
  refine z_iadd B dX9_lays_34 ?_
  refine z_iload B dX9_lays_35 5 rfl ?_
  refine z_iast (j := (0 + w1).toNatClampNeg) (σ' := (wx_I (ap b (wx_I (ap b (wx_I (ap b σ [] [] []) (b + 406) (0 + w1).toNatClampNeg w2) [] [] []) (b + 407) (0 + w1).toNatClampNeg w3) [] [] []) (b + 408) (0 + w1).toNatClampNeg w4)) B (lKA (lKW (lKA (lKW (lKA (hk_K hK 408 rfl rfl)))))) rfl (in_of (lNA (lNW (lNA (lNW (lNA (hk_N hK 408 rfl rfl)))))) (iv_inadd q1_w1 q2_w1 (by decide) (by decide))) rfl dX9_lays_37 ?_
  refine z_eqs (σ' := (ap b (wx_I (ap b (wx_I (ap b (wx_I (ap b σ [] [] []) (b + 406) (0 + w1).toNatClampNeg w2) [] [] []) (b + 407) (0 + w1).toNatClampNeg w3) [] [] []) (b + 408) (0 + w1).toNatClampNeg w4) [] [] [])) ap_nil ?_
  exact z_vret B hr (by decide) (by decide) dX9_lays_38 rfl
set_option maxRecDepth 100000 in
set_option maxHeartbeats 4000000 in
theorem ci_X9_unfit_93 (l : Launch) {g : gx_T} {σ : sx_T} {b : Nat} (hK : lay b σ)   (hI_405_6 : sx_I σ (b + 405) 6 = 0) : Met l yX9_unfit (.code yX9_unfit cX9_unfit 4 (some .int) :: lw_g) { frames := 0, cells := 0, slots := 0, locals := 0 } (va_Pc [.ref (b + 405), .int 0] (zx_w g σ)) (va_Qi (fun r u => r = 0 ∧ u = σ) (zx_w g) (gx_Q g)) 0 0 (gx_Q g) := by
  refine z_met (by decide) (Nat.le_of_ble_eq_true rfl) (fun p e s m below meth c B hr hin => ?_)
  refine z_eqs (σ' := (ap b σ [] [] [])) rfl ?_
  show zx p l e _ s m _ below meth c g 4 0 0 _ _ 0 [(0, .ref (b + 405)), (1, .int 0)] []
  refine z_iconst (v := 0) B dX9_unfit_0 (by decide) ?_
  refine z_istore_n (lv' := [(2, .int 0), (0, .ref (b + 405)), (1, .int 0)]) B dX9_unfit_1 rfl (by decide) rfl ?_
  refine z_iconst (v := 0) B dX9_unfit_2 (by decide) ?_
  refine z_istore_n (lv' := [(3, .int 0), (2, .int 0), (0, .ref (b + 405)), (1, .int 0)]) B dX9_unfit_3 rfl (by decide) rfl ?_
  refine z_iload_n B dX9_unfit_4 rfl 0 rfl ?_
  refine z_aload_n B dX9_unfit_5 rfl 2 rfl ?_
  refine gf_X9_93 (x := 0) B (lKA (hk_K hK 405 rfl rfl)) (rI_at 405 6 hI_405_6) dX9_unfit_6 ?_
  refine z_icmp_ge (tgt := 53) B dX9_unfit_9 (by decide) (fun _ => ?_) (fun h => absurd (by decide) h)
  refine z_iload_n B dX9_unfit_53 rfl 1 rfl ?_
  exact z_iret B hr (by decide) (by decide) dX9_unfit_54 ⟨rfl, rfl⟩
set_option maxRecDepth 100000 in
set_option maxHeartbeats 4000000 in
theorem ci_X9_set_94 (l : Launch) {g : gx_T} {σ : sx_T} {b : Nat} (hK : lay b σ) (w1 : Int32) (w2 : Int32) (w3 : Int32) (w4 : Int32) (q1_w1 : (0 : Int) ≤ w1.toInt) (q2_w1 : w1.toInt ≤ (19 : Int)) (q1_w2 : (0 : Int) ≤ w2.toInt) (q2_w2 : w2.toInt ≤ (17 : Int)) (q1_w3 : (0 : Int) ≤ w3.toInt) (q2_w3 : w3.toInt ≤ (99 : Int)) (q1_w4 : (0 : Int) ≤ w4.toInt) (q2_w4 : w4.toInt ≤ (99 : Int)) (hI_405_6 : sx_I σ (b + 405) 6 = 0) (hR_405_3 : sx_R σ (b + 405) 3 = (some (b + 406))) (hR_405_4 : sx_R σ (b + 405) 4 = (some (b + 407))) (hR_405_5 : sx_R σ (b + 405) 5 = (some (b + 408))) : Met l yX9_set (.code yX9_set cX9_set 7 (some .int) :: lw_g) { frames := 2, cells := 0, slots := 0, locals := 44 } (va_Pc [.ref (b + 405), .int 0, .int w1, .int w2, .int w3, .int w4] (zx_w g σ)) (va_Qi (fun r u => r = 0 ∧ u = (ap b (wx_I (ap b (wx_I (ap b (wx_I (ap b (ap b σ [(405, 0, 0)] [] []) [] [] []) (b + 406) (0 + w1).toNatClampNeg w2) [] [] []) (b + 407) (0 + w1).toNatClampNeg w3) [] [] []) (b + 408) (0 + w1).toNatClampNeg w4) [] [] [])) (zx_w g) (gx_Q g)) 0 0 (gx_Q g) := by
  refine z_met (by decide) (Nat.le_of_ble_eq_true rfl) (fun p e s m below meth c B hr hin => ?_)
  refine z_eqs (σ' := (ap b σ [] [] [])) rfl ?_
  show zx p l e _ s m _ below meth c g 7 0 0 _ _ 0 [(0, .ref (b + 405)), (1, .int 0), (2, .int w1), (3, .int w2), (4, .int w3), (5, .int w4)] []
  refine z_aload_n B dX9_set_0 rfl 0 rfl ?_
  refine z_iload_n B dX9_set_1 rfl 1 rfl ?_
  refine z_iload_n B dX9_set_2 rfl 2 rfl ?_
  refine z_cSi (As := [.int 0, .int w1]) (rest := [.ref (b + 405)]) B cw_X9_238 dX9_set_3 (ci_X9_isStep_70 l (σ := (ap b σ [] [] [])) (b := b) (lyA hK) w1 q1_w1 q2_w1) rfl (by decide) rfl (Nat.le_of_ble_eq_true rfl) (by decide) (fun r u hu => ?_)
  refine z_eqs (σ' := (ap b σ [] [] [])) hu.2 ?_
  show zx p l e _ s m _ below meth c g 7 0 0 _ _ 6 [(0, .ref (b + 405)), (1, .int 0), (2, .int w1), (3, .int w2), (4, .int w3), (5, .int w4)] _
  refine z_seti (y := 1) hu.1 ?_
  refine z_iload_n B dX9_set_6 rfl 3 rfl ?_
  refine z_iload B dX9_set_7 4 rfl ?_
  refine z_iload B dX9_set_9 5 rfl ?_
  refine z_cSi (As := [.int w2, .int w3, .int w4]) (rest := [.int 1, .ref (b + 405)]) B cw_X9_242 dX9_set_11 (ci_X9_isOperation_39 l (σ := (ap b σ [] [] [])) (b := b) (lyA hK) w2 w3 w4 q1_w2 q2_w2 q1_w3 q2_w3 q1_w4 q2_w4) rfl (by decide) rfl (Nat.le_of_ble_eq_true rfl) (by decide) (fun r u hu => ?_)
  refine z_eqs (σ' := (ap b σ [] [] [])) hu.2 ?_
  show zx p l e _ s m _ below meth c g 7 0 0 _ _ 14 [(0, .ref (b + 405)), (1, .int 0), (2, .int w1), (3, .int w2), (4, .int w3), (5, .int w4)] _
  refine z_seti (y := 1) hu.1 ?_
  refine z_cVi (As := [.int 1, .int 1]) (rest := []) B cw_X9_245 cx_10 dX9_set_14 (ci_X9_needs__91 l (σ := (ap b σ [] [] [])) (b := b) (lyA hK) ) (lKA (hk_K hK 405 rfl rfl)) rfl (by decide) rfl (Nat.le_of_ble_eq_true rfl) (by decide) (fun r u hu => ?_)
  refine z_eqs (σ' := (ap b σ [(405, 0, 0)] [] [])) (hu.2.trans ap_ap) ?_
  show zx p l e _ s m _ below meth c g 7 0 0 _ _ 17 [(0, .ref (b + 405)), (1, .int 0), (2, .int w1), (3, .int w2), (4, .int w3), (5, .int w4)] _
  refine z_seti (y := 1) hu.1 ?_
  refine z_if_ne (tgt := 22) B dX9_set_17 (by decide) (fun _ => ?_) (fun h => absurd h (by decide))
  refine z_aload_n B dX9_set_22 rfl 0 rfl ?_
  refine z_iload_n B dX9_set_23 rfl 1 rfl ?_
  refine z_iload_n B dX9_set_24 rfl 2 rfl ?_
  refine z_iload_n B dX9_set_25 rfl 3 rfl ?_
  refine z_iload B dX9_set_26 4 rfl ?_
  refine z_iload B dX9_set_28 5 rfl ?_
  refine z_cVv (As := [.int 0, .int w1, .int w2, .int w3, .int w4]) (rest := []) B cw_X9_249 cx_10 dX9_set_30 (ci_X9_lays_92 l (σ := (ap b σ [(405, 0, 0)] [] [])) (b := b) (lyA hK) w1 w2 w3 w4 q1_w1 q2_w1 (rR_at 405 3 hR_405_3) (rR_at 405 4 hR_405_4) (rR_at 405 5 hR_405_5)) (lKA (hk_K hK 405 rfl rfl)) rfl (by decide) rfl (Nat.le_of_ble_eq_true rfl) (by decide) (fun u hu => ?_)
  refine z_eqs (σ' := (ap b (wx_I (ap b (wx_I (ap b (wx_I (ap b (ap b σ [(405, 0, 0)] [] []) [] [] []) (b + 406) (0 + w1).toNatClampNeg w2) [] [] []) (b + 407) (0 + w1).toNatClampNeg w3) [] [] []) (b + 408) (0 + w1).toNatClampNeg w4) [] [] [])) hu ?_
  show zx p l e _ s m _ below meth c g 7 0 0 _ _ 33 [(0, .ref (b + 405)), (1, .int 0), (2, .int w1), (3, .int w2), (4, .int w3), (5, .int w4)] _
  refine z_iconst (v := 0) B dX9_set_33 (by decide) ?_
  refine z_istore (lv' := [(6, .int 0), (0, .ref (b + 405)), (1, .int 0), (2, .int w1), (3, .int w2), (4, .int w3), (5, .int w4)]) B dX9_set_34 (by decide) rfl ?_
  refine z_iload B dX9_set_36 0 rfl ?_
  refine z_aload_n B dX9_set_38 rfl 1 rfl ?_
  refine gf_X9_93 (x := 0) B (lKA (lKW (lKA (lKW (lKA (lKW (lKA (lKA (hk_K hK 405 rfl rfl))))))))) (rI_at 405 6 ((ux_a (by omega)).trans (rI_at 405 6 ((ux_a (by omega)).trans (rI_at 405 6 ((ux_a (by omega)).trans (rI_at 405 6 (rI_at 405 6 hI_405_6)))))))) dX9_set_39 ?_
  refine z_icmp_ge (tgt := 87) B dX9_set_42 (by decide) (fun _ => ?_) (fun h => absurd (by decide) h)
  refine z_aload_n B dX9_set_87 rfl 1 rfl ?_
  refine z_iload_n B dX9_set_88 rfl 2 rfl ?_
  refine z_cVi (As := [.int 0]) (rest := []) B cw_X9_256 cx_10 dX9_set_89 (ci_X9_unfit_93 l (σ := (ap b (wx_I (ap b (wx_I (ap b (wx_I (ap b (ap b σ [(405, 0, 0)] [] []) [] [] []) (b + 406) (0 + w1).toNatClampNeg w2) [] [] []) (b + 407) (0 + w1).toNatClampNeg w3) [] [] []) (b + 408) (0 + w1).toNatClampNeg w4) [] [] [])) (b := b) (lyA (lyW (lyA (lyW (lyA (lyW (lyA (lyA hK)))))))) (rI_at 405 6 ((ux_a (by omega)).trans (rI_at 405 6 ((ux_a (by omega)).trans (rI_at 405 6 ((ux_a (by omega)).trans (rI_at 405 6 (rI_at 405 6 hI_405_6))))))))) (lKA (lKW (lKA (lKW (lKA (lKW (lKA (lKA (hk_K hK 405 rfl rfl))))))))) rfl (by decide) rfl (Nat.le_of_ble_eq_true rfl) (by decide) (fun r u hu => ?_)
  refine z_eqs (σ' := (ap b (wx_I (ap b (wx_I (ap b (wx_I (ap b (ap b σ [(405, 0, 0)] [] []) [] [] []) (b + 406) (0 + w1).toNatClampNeg w2) [] [] []) (b + 407) (0 + w1).toNatClampNeg w3) [] [] []) (b + 408) (0 + w1).toNatClampNeg w4) [] [] [])) hu.2 ?_
  show zx p l e _ s m _ below meth c g 7 0 0 _ _ 92 [(6, .int 0), (0, .ref (b + 405)), (1, .int 0), (2, .int w1), (3, .int w2), (4, .int w3), (5, .int w4)] _
  refine z_seti (y := 0) hu.1 ?_
  exact z_iret B hr (by decide) (by decide) dX9_set_92 ⟨rfl, rfl⟩
set_option maxRecDepth 100000 in
set_option maxHeartbeats 4000000 in
theorem ci_X9_thrown_95 (l : Launch) {g : gx_T} {σ : sx_T} {b : Nat} (hK : lay b σ)   (hI_405_0 : sx_I σ (b + 405) 0 = 0) : Met l yX9_thrown (.code yX9_thrown cX9_thrown 1 (some .int) :: lw_g) { frames := 0, cells := 0, slots := 0, locals := 0 } (va_Pc [.ref (b + 405)] (zx_w g σ)) (va_Qi (fun r u => r = 0 ∧ u = σ) (zx_w g) (gx_Q g)) 0 0 (gx_Q g) := by
  refine z_met (by decide) (Nat.le_of_ble_eq_true rfl) (fun p e s m below meth c B hr hin => ?_)
  refine z_eqs (σ' := (ap b σ [] [] [])) rfl ?_
  show zx p l e _ s m _ below meth c g 1 0 0 _ _ 0 [(0, .ref (b + 405))] []
  refine z_aload_n B dX9_thrown_0 rfl 0 rfl ?_
  refine gf_X9_90 (x := 0) B (lKA (hk_K hK 405 rfl rfl)) (rI_at 405 0 hI_405_0) dX9_thrown_1 ?_
  exact z_iret B hr (by decide) (by decide) dX9_thrown_4 ⟨rfl, rfl⟩
set_option maxRecDepth 100000 in
set_option maxHeartbeats 4000000 in
theorem ci_X8_isBelow_96 (l : Launch) {g : gx_T} {σ : sx_T} {b : Nat} (hK : lay b σ) (w1 : Int32) (q1_w1 : (100 : Int) ≤ w1.toInt) (q2_w1 : w1.toInt ≤ (2147483647 : Int))  : Met l yX8_isBelow (.code yX8_isBelow cX8_isBelow 2 (some .boolean) :: lw_g) { frames := 0, cells := 0, slots := 0, locals := 0 } (va_Pc [.int w1, .int 100] (zx_w g σ)) (va_Qi (fun r u => r = 0 ∧ u = σ) (zx_w g) (gx_Q g)) 0 0 (gx_Q g) := by
  refine z_met (by decide) (Nat.le_of_ble_eq_true rfl) (fun p e s m below meth c B hr hin => ?_)
  refine z_eqs (σ' := (ap b σ [] [] [])) rfl ?_
  show zx p l e _ s m _ below meth c g 2 0 0 _ _ 0 [(0, .int w1), (1, .int 100)] []
  refine z_iload_n B dX8_isBelow_0 rfl 0 rfl ?_
  refine z_if_lt (tgt := 13) B dX8_isBelow_1 (by decide) (fun h => absurd h (iv_nlt q1_w1 (by decide))) (fun _ => ?_)
  refine z_iload_n B dX8_isBelow_4 rfl 0 rfl ?_
  refine z_iload_n B dX8_isBelow_5 rfl 1 rfl ?_
  refine z_icmp_ge (tgt := 13) B dX8_isBelow_6 (by decide) (fun _ => ?_) (fun h => absurd (iv_ge q1_w1 (by decide)) h)
  refine z_iconst (v := 0) B dX8_isBelow_13 (by decide) ?_
  exact z_zret B hr (by decide) (by decide) (by decide) dX8_isBelow_14 ⟨rfl, rfl⟩
set_option maxRecDepth 100000 in
set_option maxHeartbeats 4000000 in
theorem ci_X8_isStep_97 (l : Launch) {g : gx_T} {σ : sx_T} {b : Nat} (hK : lay b σ) (w1 : Int32) (w2 : Int32) (w3 : Int32) (q1_w1 : (0 : Int) ≤ w1.toInt) (q2_w1 : w1.toInt ≤ (17 : Int)) (q1_w2 : (0 : Int) ≤ w2.toInt) (q2_w2 : w2.toInt ≤ (99 : Int)) (q1_w3 : (100 : Int) ≤ w3.toInt) (q2_w3 : w3.toInt ≤ (2147483647 : Int))  : Met l yX8_isStep (.code yX8_isStep cX8_isStep 3 (some .boolean) :: lw_g) { frames := 1, cells := 0, slots := 0, locals := 21 } (va_Pc [.int w1, .int w2, .int w3] (zx_w g σ)) (va_Qi (fun r u => r = 0 ∧ u = σ) (zx_w g) (gx_Q g)) 0 0 (gx_Q g) := by
  refine z_met (by decide) (Nat.le_of_ble_eq_true rfl) (fun p e s m below meth c B hr hin => ?_)
  refine z_eqs (σ' := (ap b σ [] [] [])) rfl ?_
  show zx p l e _ s m _ below meth c g 3 0 0 _ _ 0 [(0, .int w1), (1, .int w2), (2, .int w3)] []
  refine z_iload_n B dX8_isStep_0 rfl 0 rfl ?_
  refine z_bipush (v := 18) B dX8_isStep_1 (by decide) ?_
  refine z_cSi (As := [.int w1, .int 18]) (rest := []) B cw_X8_68 dX8_isStep_3 (ci_X8_isBelow_74 l (σ := (ap b σ [] [] [])) (b := b) (lyA hK) w1 q1_w1 q2_w1) rfl (by decide) rfl (Nat.le_of_ble_eq_true rfl) (by decide) (fun r u hu => ?_)
  refine z_eqs (σ' := (ap b σ [] [] [])) hu.2 ?_
  show zx p l e _ s m _ below meth c g 3 0 0 _ _ 6 [(0, .int w1), (1, .int w2), (2, .int w3)] _
  refine z_seti (y := 1) hu.1 ?_
  refine z_if_eq (tgt := 31) B dX8_isStep_6 (by decide) (fun h => absurd h (by decide)) (fun _ => ?_)
  refine z_iload_n B dX8_isStep_9 rfl 1 rfl ?_
  refine z_bipush (v := 100) B dX8_isStep_10 (by decide) ?_
  refine z_cSi (As := [.int w2, .int 100]) (rest := []) B cw_X8_68 dX8_isStep_12 (ci_X8_isBelow_80 l (σ := (ap b σ [] [] [])) (b := b) (lyA hK) w2 q1_w2 q2_w2) rfl (by decide) rfl (Nat.le_of_ble_eq_true rfl) (by decide) (fun r u hu => ?_)
  refine z_eqs (σ' := (ap b σ [] [] [])) hu.2 ?_
  show zx p l e _ s m _ below meth c g 3 0 0 _ _ 15 [(0, .int w1), (1, .int w2), (2, .int w3)] _
  refine z_seti (y := 1) hu.1 ?_
  refine z_if_eq (tgt := 31) B dX8_isStep_15 (by decide) (fun h => absurd h (by decide)) (fun _ => ?_)
  refine z_iload_n B dX8_isStep_18 rfl 2 rfl ?_
  refine z_bipush (v := 100) B dX8_isStep_19 (by decide) ?_
  refine z_cSi (As := [.int w3, .int 100]) (rest := []) B cw_X8_68 dX8_isStep_21 (ci_X8_isBelow_96 l (σ := (ap b σ [] [] [])) (b := b) (lyA hK) w3 q1_w3 q2_w3) rfl (by decide) rfl (Nat.le_of_ble_eq_true rfl) (by decide) (fun r u hu => ?_)
  refine z_eqs (σ' := (ap b σ [] [] [])) hu.2 ?_
  show zx p l e _ s m _ below meth c g 3 0 0 _ _ 24 [(0, .int w1), (1, .int w2), (2, .int w3)] _
  refine z_seti (y := 0) hu.1 ?_
  refine z_if_eq (tgt := 31) B dX8_isStep_24 (by decide) (fun _ => ?_) (fun h => absurd (by decide) h)
  refine z_iconst (v := 0) B dX8_isStep_31 (by decide) ?_
  exact z_zret B hr (by decide) (by decide) (by decide) dX8_isStep_32 ⟨rfl, rfl⟩
set_option maxRecDepth 100000 in
set_option maxHeartbeats 4000000 in
theorem ci_X8_set_98 (l : Launch) (hlt : l.stackTraces = false) {g : gx_T} {σ : sx_T} {b : Nat} (hK : lay b σ) (w1 : Int32) (w2 : Int32) (w3 : Int32) (w4 : Int32) (q1_w1 : (0 : Int) ≤ w1.toInt) (q2_w1 : w1.toInt ≤ (19 : Int)) (q1_w2 : (0 : Int) ≤ w2.toInt) (q2_w2 : w2.toInt ≤ (17 : Int)) (q1_w3 : (0 : Int) ≤ w3.toInt) (q2_w3 : w3.toInt ≤ (99 : Int)) (q1_w4 : (100 : Int) ≤ w4.toInt) (q2_w4 : w4.toInt ≤ (2147483647 : Int)) (hR_0_0 : sx_R σ (b + 0) 0 = (some (b + 1))) (hR_1_0 : sx_R σ (b + 1) 0 = (some (b + 9))) : vx_Met l yX8_set (.code yX8_set cX8_set 9 (some .int) :: lw_g) { frames := 7, cells := 1, slots := 6, locals := 136 } (va_Pc [.ref (b + 0), .int 0, .int w1, .int w2, .int w3, .int w4] (zx_w g σ)) (va_Qi (S := sx_T) (fun _ _ => False) (zx_w g) (gx_Q g)) (vx_X (fun u : sx_T => ∃ z, u = wx_Z σ z) (fun E u t => E = "java/lang/IllegalArgumentException" ∧ zx_h g u t.heap) (gx_Q g)) 1 6 (gx_Q g) := by
  refine z_metX (by decide) (Nat.le_of_ble_eq_true rfl) (fun p e s m below meth c B hr hin hout => ?_)
  refine z_eqs (σ' := (ap b σ [] [] [])) rfl ?_
  show zx p l e _ s m _ below meth c g 9 0 0 _ _ 0 [(0, .ref (b + 0)), (1, .int 0), (2, .int w1), (3, .int w2), (4, .int w3), (5, .int w4)] []
  refine z_aload_n B dX8_set_0 rfl 0 rfl ?_
  refine z_iload_n B dX8_set_1 rfl 1 rfl ?_
  refine z_cVq (As := [.int 0]) (rest := []) B cw_X8_64 cx_9 dX8_set_2 (ci_X8_programAt_50 l (σ := (ap b σ [] [] [])) (b := b) (lyA hK) (rR_at 0 0 hR_0_0) (rR_at 1 0 hR_1_0)) (lKA (hk_K hK 0 rfl rfl)) rfl (by decide) rfl (Nat.le_of_ble_eq_true rfl) (by decide) (fun r u hu => ?_)
  refine z_eqs (σ' := (ap b σ [] [] [])) hu.2 ?_
  show zx p l e _ s m _ below meth c g 9 0 0 _ _ 5 [(0, .ref (b + 0)), (1, .int 0), (2, .int w1), (3, .int w2), (4, .int w3), (5, .int w4)] _
  refine z_setr (y := (some (b + 9))) hu.1 ?_
  refine z_astore (lv' := [(6, .ref (b + 9)), (0, .ref (b + 0)), (1, .int 0), (2, .int w1), (3, .int w2), (4, .int w3), (5, .int w4)]) B dX8_set_5 (by decide) rfl ?_
  refine z_aload B dX8_set_7 0 rfl ?_
  refine z_ifnull (r := (some (b + 9))) (tgt := 21) B dX8_set_9 (by decide) (fun h => nomatch h) (fun _ _ => ?_)
  refine z_iload_n B dX8_set_12 rfl 3 rfl ?_
  refine z_bipush (v := 20) B dX8_set_13 (by decide) ?_
  refine z_cSi (As := [.int w1, .int 20]) (rest := []) B cw_X8_68 dX8_set_15 (ci_X8_isBelow_64 l (σ := (ap b σ [] [] [])) (b := b) (lyA hK) w1 q1_w1 q2_w1) rfl (by decide) rfl (Nat.le_of_ble_eq_true rfl) (by decide) (fun r u hu => ?_)
  refine z_eqs (σ' := (ap b σ [] [] [])) hu.2 ?_
  show zx p l e _ s m _ below meth c g 9 0 0 _ _ 18 [(6, .ref (b + 9)), (0, .ref (b + 0)), (1, .int 0), (2, .int w1), (3, .int w2), (4, .int w3), (5, .int w4)] _
  refine z_seti (y := 1) hu.1 ?_
  refine z_if_ne (tgt := 31) B dX8_set_18 (by decide) (fun _ => ?_) (fun h => absurd h (by decide))
  refine z_iload_n B dX8_set_31 rfl 4 rfl ?_
  refine z_iload B dX8_set_32 5 rfl ?_
  refine z_iload B dX8_set_34 6 rfl ?_
  refine z_cSi (As := [.int w2, .int w3, .int w4]) (rest := []) B cw_X8_79 dX8_set_36 (ci_X8_isStep_97 l (σ := (ap b σ [] [] [])) (b := b) (lyA hK) w2 w3 w4 q1_w2 q2_w2 q1_w3 q2_w3 q1_w4 q2_w4) rfl (by decide) rfl (Nat.le_of_ble_eq_true rfl) (by decide) (fun r u hu => ?_)
  refine z_eqs (σ' := (ap b σ [] [] [])) hu.2 ?_
  show zx p l e _ s m _ below meth c g 9 0 0 _ _ 39 [(6, .ref (b + 9)), (0, .ref (b + 0)), (1, .int 0), (2, .int w1), (3, .int w2), (4, .int w3), (5, .int w4)] _
  refine z_seti (y := 0) hu.1 ?_
  refine z_if_ne (tgt := 52) B dX8_set_39 (by decide) (fun h => absurd (by decide) h) (fun _ => ?_)
  exact z_throw B hlt hout (cls := "java/lang/IllegalArgumentException") (text := "no such operation") tw_X8_83_85_87 dX8_set_42 dX8_set_45 dX8_set_46 dX8_set_48 dX8_set_51 (by decide) (by decide) (by decide) (by decide) (by decide) (by decide) (fun z => ⟨z, rfl⟩)
set_option maxRecDepth 100000 in
set_option maxHeartbeats 4000000 in
theorem ci_L_set_99 (l : Launch) (hlt : l.stackTraces = false) {g : gx_T} {σ : sx_T} {b : Nat} (hK : lay b σ) (w1 : Int32) (w2 : Int32) (w3 : Int32) (w4 : Int32) (q1_w1 : (0 : Int) ≤ w1.toInt) (q2_w1 : w1.toInt ≤ (19 : Int)) (q1_w2 : (0 : Int) ≤ w2.toInt) (q2_w2 : w2.toInt ≤ (17 : Int)) (q1_w3 : (0 : Int) ≤ w3.toInt) (q2_w3 : w3.toInt ≤ (99 : Int)) (q1_w4 : (100 : Int) ≤ w4.toInt) (q2_w4 : w4.toInt ≤ (2147483647 : Int)) (hR_0_0 : sx_R σ (b + 0) 0 = (some (b + 1))) (hR_1_0 : sx_R σ (b + 1) 0 = (some (b + 9))) : Met l yL_set (.codeWith yL_set cL_set 8 (some .int) [(0, 16, 19, 13), (0, 16, 23, 15)] :: lw_g) { frames := 8, cells := 1, slots := 6, locals := 164 } (va_Pc [.ref (b + 0), .int 0, .int w1, .int w2, .int w3, .int w4, .ref (b + 431)] (zx_w g σ)) (va_Qi (fun r u => r = 2 ∧ ∃ z, u = (ap b (wx_Z σ z) [] [] [])) (zx_w g) (gx_Q g)) 1 6 (gx_Q g) := by
  refine z_metW (by decide) (Nat.le_of_ble_eq_true rfl) (fun p e s m below meth c B hr htab => ?_)
  refine z_eqs (σ' := (ap b σ [] [] [])) rfl ?_
  show zx p l e _ s m _ below meth c g 8 0 0 _ _ 0 [(0, .ref (b + 0)), (1, .int 0), (2, .int w1), (3, .int w2), (4, .int w3), (5, .int w4), (6, .ref (b + 431))] []
  refine z_aload B dL_set_0 6 rfl ?_
  refine z_iconst (v := 0) B dL_set_2 (by decide) ?_
  refine z_aload_n B dL_set_3 rfl 0 rfl ?_
  refine z_iload_n B dL_set_4 rfl 1 rfl ?_
  refine z_iload_n B dL_set_5 rfl 2 rfl ?_
  refine z_iload_n B dL_set_6 rfl 3 rfl ?_
  refine z_iload B dL_set_7 4 rfl ?_
  refine z_iload B dL_set_9 5 rfl ?_
  refine z_cXi (As := [.int 0, .int w1, .int w2, .int w3, .int w4]) (rest := [.int 0, .ref (b + 431)]) B htab tc_set_11_IllegalArgumentException cw_L_7 cx_9 dL_set_11 (ci_X8_set_98 l hlt (σ := (ap b σ [] [] [])) (b := b) (lyA hK) w1 w2 w3 w4 q1_w1 q2_w1 q1_w2 q2_w2 q1_w3 q2_w3 q1_w4 q2_w4 (rR_at 0 0 hR_0_0) (rR_at 1 0 hR_1_0)) (lKA (hk_K hK 0 rfl rfl)) rfl (by decide) rfl (Nat.le_of_ble_eq_true rfl) (by decide) (fun z q => ?_)
  refine z_eqs (σ' := (ap b (wx_Z σ z) [] [] [])) rfl ?_
  show zx p l e _ s m _ below meth c g 8 _ _ _ _ 23 [(0, .ref (b + 0)), (1, .int 0), (2, .int w1), (3, .int w2), (4, .int w3), (5, .int w4), (6, .ref (b + 431))] _
  refine z_astore (lv' := [(7, .ref q), (0, .ref (b + 0)), (1, .int 0), (2, .int w1), (3, .int w2), (4, .int w3), (5, .int w4), (6, .ref (b + 431))]) B dL_set_23 (by decide) rfl ?_
  refine z_iconst (v := 2) B dL_set_25 (by decide) ?_
  exact z_iret B hr (by decide) (by decide) dL_set_26 ⟨rfl, _, rfl⟩
set_option maxRecDepth 100000 in
set_option maxHeartbeats 4000000 in
theorem ci_X9_set_100 (l : Launch) {g : gx_T} {σ : sx_T} {b : Nat} (hK : lay b σ) (w1 : Int32) (w2 : Int32) (w3 : Int32) (w4 : Int32) (q1_w1 : (0 : Int) ≤ w1.toInt) (q2_w1 : w1.toInt ≤ (19 : Int)) (q1_w2 : (0 : Int) ≤ w2.toInt) (q2_w2 : w2.toInt ≤ (17 : Int)) (q1_w3 : (0 : Int) ≤ w3.toInt) (q2_w3 : w3.toInt ≤ (99 : Int)) (q1_w4 : (100 : Int) ≤ w4.toInt) (q2_w4 : w4.toInt ≤ (2147483647 : Int))  : Met l yX9_set (.code yX9_set cX9_set 7 (some .int) :: lw_g) { frames := 2, cells := 0, slots := 0, locals := 44 } (va_Pc [.ref (b + 405), .int 0, .int w1, .int w2, .int w3, .int w4] (zx_w g σ)) (va_Qi (fun r u => r = 0 ∧ u = (ap b σ [(405, 0, 2)] [] [])) (zx_w g) (gx_Q g)) 0 0 (gx_Q g) := by
  refine z_met (by decide) (Nat.le_of_ble_eq_true rfl) (fun p e s m below meth c B hr hin => ?_)
  refine z_eqs (σ' := (ap b σ [] [] [])) rfl ?_
  show zx p l e _ s m _ below meth c g 7 0 0 _ _ 0 [(0, .ref (b + 405)), (1, .int 0), (2, .int w1), (3, .int w2), (4, .int w3), (5, .int w4)] []
  refine z_aload_n B dX9_set_0 rfl 0 rfl ?_
  refine z_iload_n B dX9_set_1 rfl 1 rfl ?_
  refine z_iload_n B dX9_set_2 rfl 2 rfl ?_
  refine z_cSi (As := [.int 0, .int w1]) (rest := [.ref (b + 405)]) B cw_X9_238 dX9_set_3 (ci_X9_isStep_70 l (σ := (ap b σ [] [] [])) (b := b) (lyA hK) w1 q1_w1 q2_w1) rfl (by decide) rfl (Nat.le_of_ble_eq_true rfl) (by decide) (fun r u hu => ?_)
  refine z_eqs (σ' := (ap b σ [] [] [])) hu.2 ?_
  show zx p l e _ s m _ below meth c g 7 0 0 _ _ 6 [(0, .ref (b + 405)), (1, .int 0), (2, .int w1), (3, .int w2), (4, .int w3), (5, .int w4)] _
  refine z_seti (y := 1) hu.1 ?_
  refine z_iload_n B dX9_set_6 rfl 3 rfl ?_
  refine z_iload B dX9_set_7 4 rfl ?_
  refine z_iload B dX9_set_9 5 rfl ?_
  refine z_cSi (As := [.int w2, .int w3, .int w4]) (rest := [.int 1, .ref (b + 405)]) B cw_X9_242 dX9_set_11 (ci_X9_isOperation_43 l (σ := (ap b σ [] [] [])) (b := b) (lyA hK) w2 w3 w4 q1_w2 q2_w2 q1_w3 q2_w3 q1_w4 q2_w4) rfl (by decide) rfl (Nat.le_of_ble_eq_true rfl) (by decide) (fun r u hu => ?_)
  refine z_eqs (σ' := (ap b σ [] [] [])) hu.2 ?_
  show zx p l e _ s m _ below meth c g 7 0 0 _ _ 14 [(0, .ref (b + 405)), (1, .int 0), (2, .int w1), (3, .int w2), (4, .int w3), (5, .int w4)] _
  refine z_seti (y := 0) hu.1 ?_
  refine z_cVi (As := [.int 1, .int 0]) (rest := []) B cw_X9_245 cx_10 dX9_set_14 (ci_X9_needs__71 l (σ := (ap b σ [] [] [])) (b := b) (lyA hK) ) (lKA (hk_K hK 405 rfl rfl)) rfl (by decide) rfl (Nat.le_of_ble_eq_true rfl) (by decide) (fun r u hu => ?_)
  refine z_eqs (σ' := (ap b σ [(405, 0, 2)] [] [])) (hu.2.trans ap_ap) ?_
  show zx p l e _ s m _ below meth c g 7 0 0 _ _ 17 [(0, .ref (b + 405)), (1, .int 0), (2, .int w1), (3, .int w2), (4, .int w3), (5, .int w4)] _
  refine z_seti (y := 0) hu.1 ?_
  refine z_if_ne (tgt := 22) B dX9_set_17 (by decide) (fun h => absurd (by decide) h) (fun _ => ?_)
  refine z_iconst (v := 0) B dX9_set_20 (by decide) ?_
  exact z_iret B hr (by decide) (by decide) dX9_set_21 ⟨rfl, rfl⟩
set_option maxRecDepth 100000 in
set_option maxHeartbeats 4000000 in
theorem ci_X8_isStep_101 (l : Launch) {g : gx_T} {σ : sx_T} {b : Nat} (hK : lay b σ) (w1 : Int32) (w2 : Int32) (w3 : Int32) (q1_w1 : (0 : Int) ≤ w1.toInt) (q2_w1 : w1.toInt ≤ (17 : Int)) (q1_w2 : (100 : Int) ≤ w2.toInt) (q2_w2 : w2.toInt ≤ (2147483647 : Int))  : Met l yX8_isStep (.code yX8_isStep cX8_isStep 3 (some .boolean) :: lw_g) { frames := 1, cells := 0, slots := 0, locals := 21 } (va_Pc [.int w1, .int w2, .int w3] (zx_w g σ)) (va_Qi (fun r u => r = 0 ∧ u = σ) (zx_w g) (gx_Q g)) 0 0 (gx_Q g) := by
  refine z_met (by decide) (Nat.le_of_ble_eq_true rfl) (fun p e s m below meth c B hr hin => ?_)
  refine z_eqs (σ' := (ap b σ [] [] [])) rfl ?_
  show zx p l e _ s m _ below meth c g 3 0 0 _ _ 0 [(0, .int w1), (1, .int w2), (2, .int w3)] []
  refine z_iload_n B dX8_isStep_0 rfl 0 rfl ?_
  refine z_bipush (v := 18) B dX8_isStep_1 (by decide) ?_
  refine z_cSi (As := [.int w1, .int 18]) (rest := []) B cw_X8_68 dX8_isStep_3 (ci_X8_isBelow_74 l (σ := (ap b σ [] [] [])) (b := b) (lyA hK) w1 q1_w1 q2_w1) rfl (by decide) rfl (Nat.le_of_ble_eq_true rfl) (by decide) (fun r u hu => ?_)
  refine z_eqs (σ' := (ap b σ [] [] [])) hu.2 ?_
  show zx p l e _ s m _ below meth c g 3 0 0 _ _ 6 [(0, .int w1), (1, .int w2), (2, .int w3)] _
  refine z_seti (y := 1) hu.1 ?_
  refine z_if_eq (tgt := 31) B dX8_isStep_6 (by decide) (fun h => absurd h (by decide)) (fun _ => ?_)
  refine z_iload_n B dX8_isStep_9 rfl 1 rfl ?_
  refine z_bipush (v := 100) B dX8_isStep_10 (by decide) ?_
  refine z_cSi (As := [.int w2, .int 100]) (rest := []) B cw_X8_68 dX8_isStep_12 (ci_X8_isBelow_96 l (σ := (ap b σ [] [] [])) (b := b) (lyA hK) w2 q1_w2 q2_w2) rfl (by decide) rfl (Nat.le_of_ble_eq_true rfl) (by decide) (fun r u hu => ?_)
  refine z_eqs (σ' := (ap b σ [] [] [])) hu.2 ?_
  show zx p l e _ s m _ below meth c g 3 0 0 _ _ 15 [(0, .int w1), (1, .int w2), (2, .int w3)] _
  refine z_seti (y := 0) hu.1 ?_
  refine z_if_eq (tgt := 31) B dX8_isStep_15 (by decide) (fun _ => ?_) (fun h => absurd (by decide) h)
  refine z_iconst (v := 0) B dX8_isStep_31 (by decide) ?_
  exact z_zret B hr (by decide) (by decide) (by decide) dX8_isStep_32 ⟨rfl, rfl⟩
set_option maxRecDepth 100000 in
set_option maxHeartbeats 4000000 in
theorem ci_X8_set_102 (l : Launch) (hlt : l.stackTraces = false) {g : gx_T} {σ : sx_T} {b : Nat} (hK : lay b σ) (w1 : Int32) (w2 : Int32) (w3 : Int32) (w4 : Int32) (q1_w1 : (0 : Int) ≤ w1.toInt) (q2_w1 : w1.toInt ≤ (19 : Int)) (q1_w2 : (0 : Int) ≤ w2.toInt) (q2_w2 : w2.toInt ≤ (17 : Int)) (q1_w3 : (100 : Int) ≤ w3.toInt) (q2_w3 : w3.toInt ≤ (2147483647 : Int)) (hR_0_0 : sx_R σ (b + 0) 0 = (some (b + 1))) (hR_1_0 : sx_R σ (b + 1) 0 = (some (b + 9))) : vx_Met l yX8_set (.code yX8_set cX8_set 9 (some .int) :: lw_g) { frames := 7, cells := 1, slots := 6, locals := 136 } (va_Pc [.ref (b + 0), .int 0, .int w1, .int w2, .int w3, .int w4] (zx_w g σ)) (va_Qi (S := sx_T) (fun _ _ => False) (zx_w g) (gx_Q g)) (vx_X (fun u : sx_T => ∃ z, u = wx_Z σ z) (fun E u t => E = "java/lang/IllegalArgumentException" ∧ zx_h g u t.heap) (gx_Q g)) 1 6 (gx_Q g) := by
  refine z_metX (by decide) (Nat.le_of_ble_eq_true rfl) (fun p e s m below meth c B hr hin hout => ?_)
  refine z_eqs (σ' := (ap b σ [] [] [])) rfl ?_
  show zx p l e _ s m _ below meth c g 9 0 0 _ _ 0 [(0, .ref (b + 0)), (1, .int 0), (2, .int w1), (3, .int w2), (4, .int w3), (5, .int w4)] []
  refine z_aload_n B dX8_set_0 rfl 0 rfl ?_
  refine z_iload_n B dX8_set_1 rfl 1 rfl ?_
  refine z_cVq (As := [.int 0]) (rest := []) B cw_X8_64 cx_9 dX8_set_2 (ci_X8_programAt_50 l (σ := (ap b σ [] [] [])) (b := b) (lyA hK) (rR_at 0 0 hR_0_0) (rR_at 1 0 hR_1_0)) (lKA (hk_K hK 0 rfl rfl)) rfl (by decide) rfl (Nat.le_of_ble_eq_true rfl) (by decide) (fun r u hu => ?_)
  refine z_eqs (σ' := (ap b σ [] [] [])) hu.2 ?_
  show zx p l e _ s m _ below meth c g 9 0 0 _ _ 5 [(0, .ref (b + 0)), (1, .int 0), (2, .int w1), (3, .int w2), (4, .int w3), (5, .int w4)] _
  refine z_setr (y := (some (b + 9))) hu.1 ?_
  refine z_astore (lv' := [(6, .ref (b + 9)), (0, .ref (b + 0)), (1, .int 0), (2, .int w1), (3, .int w2), (4, .int w3), (5, .int w4)]) B dX8_set_5 (by decide) rfl ?_
  refine z_aload B dX8_set_7 0 rfl ?_
  refine z_ifnull (r := (some (b + 9))) (tgt := 21) B dX8_set_9 (by decide) (fun h => nomatch h) (fun _ _ => ?_)
  refine z_iload_n B dX8_set_12 rfl 3 rfl ?_
  refine z_bipush (v := 20) B dX8_set_13 (by decide) ?_
  refine z_cSi (As := [.int w1, .int 20]) (rest := []) B cw_X8_68 dX8_set_15 (ci_X8_isBelow_64 l (σ := (ap b σ [] [] [])) (b := b) (lyA hK) w1 q1_w1 q2_w1) rfl (by decide) rfl (Nat.le_of_ble_eq_true rfl) (by decide) (fun r u hu => ?_)
  refine z_eqs (σ' := (ap b σ [] [] [])) hu.2 ?_
  show zx p l e _ s m _ below meth c g 9 0 0 _ _ 18 [(6, .ref (b + 9)), (0, .ref (b + 0)), (1, .int 0), (2, .int w1), (3, .int w2), (4, .int w3), (5, .int w4)] _
  refine z_seti (y := 1) hu.1 ?_
  refine z_if_ne (tgt := 31) B dX8_set_18 (by decide) (fun _ => ?_) (fun h => absurd h (by decide))
  refine z_iload_n B dX8_set_31 rfl 4 rfl ?_
  refine z_iload B dX8_set_32 5 rfl ?_
  refine z_iload B dX8_set_34 6 rfl ?_
  refine z_cSi (As := [.int w2, .int w3, .int w4]) (rest := []) B cw_X8_79 dX8_set_36 (ci_X8_isStep_101 l (σ := (ap b σ [] [] [])) (b := b) (lyA hK) w2 w3 w4 q1_w2 q2_w2 q1_w3 q2_w3) rfl (by decide) rfl (Nat.le_of_ble_eq_true rfl) (by decide) (fun r u hu => ?_)
  refine z_eqs (σ' := (ap b σ [] [] [])) hu.2 ?_
  show zx p l e _ s m _ below meth c g 9 0 0 _ _ 39 [(6, .ref (b + 9)), (0, .ref (b + 0)), (1, .int 0), (2, .int w1), (3, .int w2), (4, .int w3), (5, .int w4)] _
  refine z_seti (y := 0) hu.1 ?_
  refine z_if_ne (tgt := 52) B dX8_set_39 (by decide) (fun h => absurd (by decide) h) (fun _ => ?_)
  exact z_throw B hlt hout (cls := "java/lang/IllegalArgumentException") (text := "no such operation") tw_X8_83_85_87 dX8_set_42 dX8_set_45 dX8_set_46 dX8_set_48 dX8_set_51 (by decide) (by decide) (by decide) (by decide) (by decide) (by decide) (fun z => ⟨z, rfl⟩)
set_option maxRecDepth 100000 in
set_option maxHeartbeats 4000000 in
theorem ci_L_set_103 (l : Launch) (hlt : l.stackTraces = false) {g : gx_T} {σ : sx_T} {b : Nat} (hK : lay b σ) (w1 : Int32) (w2 : Int32) (w3 : Int32) (w4 : Int32) (q1_w1 : (0 : Int) ≤ w1.toInt) (q2_w1 : w1.toInt ≤ (19 : Int)) (q1_w2 : (0 : Int) ≤ w2.toInt) (q2_w2 : w2.toInt ≤ (17 : Int)) (q1_w3 : (100 : Int) ≤ w3.toInt) (q2_w3 : w3.toInt ≤ (2147483647 : Int)) (hR_0_0 : sx_R σ (b + 0) 0 = (some (b + 1))) (hR_1_0 : sx_R σ (b + 1) 0 = (some (b + 9))) : Met l yL_set (.codeWith yL_set cL_set 8 (some .int) [(0, 16, 19, 13), (0, 16, 23, 15)] :: lw_g) { frames := 8, cells := 1, slots := 6, locals := 164 } (va_Pc [.ref (b + 0), .int 0, .int w1, .int w2, .int w3, .int w4, .ref (b + 431)] (zx_w g σ)) (va_Qi (fun r u => r = 2 ∧ ∃ z, u = (ap b (wx_Z σ z) [] [] [])) (zx_w g) (gx_Q g)) 1 6 (gx_Q g) := by
  refine z_metW (by decide) (Nat.le_of_ble_eq_true rfl) (fun p e s m below meth c B hr htab => ?_)
  refine z_eqs (σ' := (ap b σ [] [] [])) rfl ?_
  show zx p l e _ s m _ below meth c g 8 0 0 _ _ 0 [(0, .ref (b + 0)), (1, .int 0), (2, .int w1), (3, .int w2), (4, .int w3), (5, .int w4), (6, .ref (b + 431))] []
  refine z_aload B dL_set_0 6 rfl ?_
  refine z_iconst (v := 0) B dL_set_2 (by decide) ?_
  refine z_aload_n B dL_set_3 rfl 0 rfl ?_
  refine z_iload_n B dL_set_4 rfl 1 rfl ?_
  refine z_iload_n B dL_set_5 rfl 2 rfl ?_
  refine z_iload_n B dL_set_6 rfl 3 rfl ?_
  refine z_iload B dL_set_7 4 rfl ?_
  refine z_iload B dL_set_9 5 rfl ?_
  refine z_cXi (As := [.int 0, .int w1, .int w2, .int w3, .int w4]) (rest := [.int 0, .ref (b + 431)]) B htab tc_set_11_IllegalArgumentException cw_L_7 cx_9 dL_set_11 (ci_X8_set_102 l hlt (σ := (ap b σ [] [] [])) (b := b) (lyA hK) w1 w2 w3 w4 q1_w1 q2_w1 q1_w2 q2_w2 q1_w3 q2_w3 (rR_at 0 0 hR_0_0) (rR_at 1 0 hR_1_0)) (lKA (hk_K hK 0 rfl rfl)) rfl (by decide) rfl (Nat.le_of_ble_eq_true rfl) (by decide) (fun z q => ?_)
  refine z_eqs (σ' := (ap b (wx_Z σ z) [] [] [])) rfl ?_
  show zx p l e _ s m _ below meth c g 8 _ _ _ _ 23 [(0, .ref (b + 0)), (1, .int 0), (2, .int w1), (3, .int w2), (4, .int w3), (5, .int w4), (6, .ref (b + 431))] _
  refine z_astore (lv' := [(7, .ref q), (0, .ref (b + 0)), (1, .int 0), (2, .int w1), (3, .int w2), (4, .int w3), (5, .int w4), (6, .ref (b + 431))]) B dL_set_23 (by decide) rfl ?_
  refine z_iconst (v := 2) B dL_set_25 (by decide) ?_
  exact z_iret B hr (by decide) (by decide) dL_set_26 ⟨rfl, _, rfl⟩
set_option maxRecDepth 100000 in
set_option maxHeartbeats 4000000 in
theorem ci_X9_set_104 (l : Launch) {g : gx_T} {σ : sx_T} {b : Nat} (hK : lay b σ) (w1 : Int32) (w2 : Int32) (w3 : Int32) (w4 : Int32) (q1_w1 : (0 : Int) ≤ w1.toInt) (q2_w1 : w1.toInt ≤ (19 : Int)) (q1_w2 : (0 : Int) ≤ w2.toInt) (q2_w2 : w2.toInt ≤ (17 : Int)) (q1_w3 : (100 : Int) ≤ w3.toInt) (q2_w3 : w3.toInt ≤ (2147483647 : Int))  : Met l yX9_set (.code yX9_set cX9_set 7 (some .int) :: lw_g) { frames := 2, cells := 0, slots := 0, locals := 44 } (va_Pc [.ref (b + 405), .int 0, .int w1, .int w2, .int w3, .int w4] (zx_w g σ)) (va_Qi (fun r u => r = 0 ∧ u = (ap b σ [(405, 0, 2)] [] [])) (zx_w g) (gx_Q g)) 0 0 (gx_Q g) := by
  refine z_met (by decide) (Nat.le_of_ble_eq_true rfl) (fun p e s m below meth c B hr hin => ?_)
  refine z_eqs (σ' := (ap b σ [] [] [])) rfl ?_
  show zx p l e _ s m _ below meth c g 7 0 0 _ _ 0 [(0, .ref (b + 405)), (1, .int 0), (2, .int w1), (3, .int w2), (4, .int w3), (5, .int w4)] []
  refine z_aload_n B dX9_set_0 rfl 0 rfl ?_
  refine z_iload_n B dX9_set_1 rfl 1 rfl ?_
  refine z_iload_n B dX9_set_2 rfl 2 rfl ?_
  refine z_cSi (As := [.int 0, .int w1]) (rest := [.ref (b + 405)]) B cw_X9_238 dX9_set_3 (ci_X9_isStep_70 l (σ := (ap b σ [] [] [])) (b := b) (lyA hK) w1 q1_w1 q2_w1) rfl (by decide) rfl (Nat.le_of_ble_eq_true rfl) (by decide) (fun r u hu => ?_)
  refine z_eqs (σ' := (ap b σ [] [] [])) hu.2 ?_
  show zx p l e _ s m _ below meth c g 7 0 0 _ _ 6 [(0, .ref (b + 405)), (1, .int 0), (2, .int w1), (3, .int w2), (4, .int w3), (5, .int w4)] _
  refine z_seti (y := 1) hu.1 ?_
  refine z_iload_n B dX9_set_6 rfl 3 rfl ?_
  refine z_iload B dX9_set_7 4 rfl ?_
  refine z_iload B dX9_set_9 5 rfl ?_
  refine z_cSi (As := [.int w2, .int w3, .int w4]) (rest := [.int 1, .ref (b + 405)]) B cw_X9_242 dX9_set_11 (ci_X9_isOperation_45 l (σ := (ap b σ [] [] [])) (b := b) (lyA hK) w2 w3 w4 q1_w2 q2_w2 q1_w3 q2_w3) rfl (by decide) rfl (Nat.le_of_ble_eq_true rfl) (by decide) (fun r u hu => ?_)
  refine z_eqs (σ' := (ap b σ [] [] [])) hu.2 ?_
  show zx p l e _ s m _ below meth c g 7 0 0 _ _ 14 [(0, .ref (b + 405)), (1, .int 0), (2, .int w1), (3, .int w2), (4, .int w3), (5, .int w4)] _
  refine z_seti (y := 0) hu.1 ?_
  refine z_cVi (As := [.int 1, .int 0]) (rest := []) B cw_X9_245 cx_10 dX9_set_14 (ci_X9_needs__71 l (σ := (ap b σ [] [] [])) (b := b) (lyA hK) ) (lKA (hk_K hK 405 rfl rfl)) rfl (by decide) rfl (Nat.le_of_ble_eq_true rfl) (by decide) (fun r u hu => ?_)
  refine z_eqs (σ' := (ap b σ [(405, 0, 2)] [] [])) (hu.2.trans ap_ap) ?_
  show zx p l e _ s m _ below meth c g 7 0 0 _ _ 17 [(0, .ref (b + 405)), (1, .int 0), (2, .int w1), (3, .int w2), (4, .int w3), (5, .int w4)] _
  refine z_seti (y := 0) hu.1 ?_
  refine z_if_ne (tgt := 22) B dX9_set_17 (by decide) (fun h => absurd (by decide) h) (fun _ => ?_)
  refine z_iconst (v := 0) B dX9_set_20 (by decide) ?_
  exact z_iret B hr (by decide) (by decide) dX9_set_21 ⟨rfl, rfl⟩
set_option maxRecDepth 100000 in
set_option maxHeartbeats 4000000 in
theorem ci_X8_isBelow_105 (l : Launch) {g : gx_T} {σ : sx_T} {b : Nat} (hK : lay b σ) (w1 : Int32) (q1_w1 : (18 : Int) ≤ w1.toInt) (q2_w1 : w1.toInt ≤ (2147483647 : Int))  : Met l yX8_isBelow (.code yX8_isBelow cX8_isBelow 2 (some .boolean) :: lw_g) { frames := 0, cells := 0, slots := 0, locals := 0 } (va_Pc [.int w1, .int 18] (zx_w g σ)) (va_Qi (fun r u => r = 0 ∧ u = σ) (zx_w g) (gx_Q g)) 0 0 (gx_Q g) := by
  refine z_met (by decide) (Nat.le_of_ble_eq_true rfl) (fun p e s m below meth c B hr hin => ?_)
  refine z_eqs (σ' := (ap b σ [] [] [])) rfl ?_
  show zx p l e _ s m _ below meth c g 2 0 0 _ _ 0 [(0, .int w1), (1, .int 18)] []
  refine z_iload_n B dX8_isBelow_0 rfl 0 rfl ?_
  refine z_if_lt (tgt := 13) B dX8_isBelow_1 (by decide) (fun h => absurd h (iv_nlt q1_w1 (by decide))) (fun _ => ?_)
  refine z_iload_n B dX8_isBelow_4 rfl 0 rfl ?_
  refine z_iload_n B dX8_isBelow_5 rfl 1 rfl ?_
  refine z_icmp_ge (tgt := 13) B dX8_isBelow_6 (by decide) (fun _ => ?_) (fun h => absurd (iv_ge q1_w1 (by decide)) h)
  refine z_iconst (v := 0) B dX8_isBelow_13 (by decide) ?_
  exact z_zret B hr (by decide) (by decide) (by decide) dX8_isBelow_14 ⟨rfl, rfl⟩
set_option maxRecDepth 100000 in
set_option maxHeartbeats 4000000 in
theorem ci_X8_isStep_106 (l : Launch) {g : gx_T} {σ : sx_T} {b : Nat} (hK : lay b σ) (w1 : Int32) (w2 : Int32) (w3 : Int32) (q1_w1 : (18 : Int) ≤ w1.toInt) (q2_w1 : w1.toInt ≤ (2147483647 : Int))  : Met l yX8_isStep (.code yX8_isStep cX8_isStep 3 (some .boolean) :: lw_g) { frames := 1, cells := 0, slots := 0, locals := 21 } (va_Pc [.int w1, .int w2, .int w3] (zx_w g σ)) (va_Qi (fun r u => r = 0 ∧ u = σ) (zx_w g) (gx_Q g)) 0 0 (gx_Q g) := by
  refine z_met (by decide) (Nat.le_of_ble_eq_true rfl) (fun p e s m below meth c B hr hin => ?_)
  refine z_eqs (σ' := (ap b σ [] [] [])) rfl ?_
  show zx p l e _ s m _ below meth c g 3 0 0 _ _ 0 [(0, .int w1), (1, .int w2), (2, .int w3)] []
  refine z_iload_n B dX8_isStep_0 rfl 0 rfl ?_
  refine z_bipush (v := 18) B dX8_isStep_1 (by decide) ?_
  refine z_cSi (As := [.int w1, .int 18]) (rest := []) B cw_X8_68 dX8_isStep_3 (ci_X8_isBelow_105 l (σ := (ap b σ [] [] [])) (b := b) (lyA hK) w1 q1_w1 q2_w1) rfl (by decide) rfl (Nat.le_of_ble_eq_true rfl) (by decide) (fun r u hu => ?_)
  refine z_eqs (σ' := (ap b σ [] [] [])) hu.2 ?_
  show zx p l e _ s m _ below meth c g 3 0 0 _ _ 6 [(0, .int w1), (1, .int w2), (2, .int w3)] _
  refine z_seti (y := 0) hu.1 ?_
  refine z_if_eq (tgt := 31) B dX8_isStep_6 (by decide) (fun _ => ?_) (fun h => absurd (by decide) h)
  refine z_iconst (v := 0) B dX8_isStep_31 (by decide) ?_
  exact z_zret B hr (by decide) (by decide) (by decide) dX8_isStep_32 ⟨rfl, rfl⟩
set_option maxRecDepth 100000 in
set_option maxHeartbeats 4000000 in
theorem ci_X8_set_107 (l : Launch) (hlt : l.stackTraces = false) {g : gx_T} {σ : sx_T} {b : Nat} (hK : lay b σ) (w1 : Int32) (w2 : Int32) (w3 : Int32) (w4 : Int32) (q1_w1 : (0 : Int) ≤ w1.toInt) (q2_w1 : w1.toInt ≤ (19 : Int)) (q1_w2 : (18 : Int) ≤ w2.toInt) (q2_w2 : w2.toInt ≤ (2147483647 : Int)) (hR_0_0 : sx_R σ (b + 0) 0 = (some (b + 1))) (hR_1_0 : sx_R σ (b + 1) 0 = (some (b + 9))) : vx_Met l yX8_set (.code yX8_set cX8_set 9 (some .int) :: lw_g) { frames := 7, cells := 1, slots := 6, locals := 136 } (va_Pc [.ref (b + 0), .int 0, .int w1, .int w2, .int w3, .int w4] (zx_w g σ)) (va_Qi (S := sx_T) (fun _ _ => False) (zx_w g) (gx_Q g)) (vx_X (fun u : sx_T => ∃ z, u = wx_Z σ z) (fun E u t => E = "java/lang/IllegalArgumentException" ∧ zx_h g u t.heap) (gx_Q g)) 1 6 (gx_Q g) := by
  refine z_metX (by decide) (Nat.le_of_ble_eq_true rfl) (fun p e s m below meth c B hr hin hout => ?_)
  refine z_eqs (σ' := (ap b σ [] [] [])) rfl ?_
  show zx p l e _ s m _ below meth c g 9 0 0 _ _ 0 [(0, .ref (b + 0)), (1, .int 0), (2, .int w1), (3, .int w2), (4, .int w3), (5, .int w4)] []
  refine z_aload_n B dX8_set_0 rfl 0 rfl ?_
  refine z_iload_n B dX8_set_1 rfl 1 rfl ?_
  refine z_cVq (As := [.int 0]) (rest := []) B cw_X8_64 cx_9 dX8_set_2 (ci_X8_programAt_50 l (σ := (ap b σ [] [] [])) (b := b) (lyA hK) (rR_at 0 0 hR_0_0) (rR_at 1 0 hR_1_0)) (lKA (hk_K hK 0 rfl rfl)) rfl (by decide) rfl (Nat.le_of_ble_eq_true rfl) (by decide) (fun r u hu => ?_)
  refine z_eqs (σ' := (ap b σ [] [] [])) hu.2 ?_
  show zx p l e _ s m _ below meth c g 9 0 0 _ _ 5 [(0, .ref (b + 0)), (1, .int 0), (2, .int w1), (3, .int w2), (4, .int w3), (5, .int w4)] _
  refine z_setr (y := (some (b + 9))) hu.1 ?_
  refine z_astore (lv' := [(6, .ref (b + 9)), (0, .ref (b + 0)), (1, .int 0), (2, .int w1), (3, .int w2), (4, .int w3), (5, .int w4)]) B dX8_set_5 (by decide) rfl ?_
  refine z_aload B dX8_set_7 0 rfl ?_
  refine z_ifnull (r := (some (b + 9))) (tgt := 21) B dX8_set_9 (by decide) (fun h => nomatch h) (fun _ _ => ?_)
  refine z_iload_n B dX8_set_12 rfl 3 rfl ?_
  refine z_bipush (v := 20) B dX8_set_13 (by decide) ?_
  refine z_cSi (As := [.int w1, .int 20]) (rest := []) B cw_X8_68 dX8_set_15 (ci_X8_isBelow_64 l (σ := (ap b σ [] [] [])) (b := b) (lyA hK) w1 q1_w1 q2_w1) rfl (by decide) rfl (Nat.le_of_ble_eq_true rfl) (by decide) (fun r u hu => ?_)
  refine z_eqs (σ' := (ap b σ [] [] [])) hu.2 ?_
  show zx p l e _ s m _ below meth c g 9 0 0 _ _ 18 [(6, .ref (b + 9)), (0, .ref (b + 0)), (1, .int 0), (2, .int w1), (3, .int w2), (4, .int w3), (5, .int w4)] _
  refine z_seti (y := 1) hu.1 ?_
  refine z_if_ne (tgt := 31) B dX8_set_18 (by decide) (fun _ => ?_) (fun h => absurd h (by decide))
  refine z_iload_n B dX8_set_31 rfl 4 rfl ?_
  refine z_iload B dX8_set_32 5 rfl ?_
  refine z_iload B dX8_set_34 6 rfl ?_
  refine z_cSi (As := [.int w2, .int w3, .int w4]) (rest := []) B cw_X8_79 dX8_set_36 (ci_X8_isStep_106 l (σ := (ap b σ [] [] [])) (b := b) (lyA hK) w2 w3 w4 q1_w2 q2_w2) rfl (by decide) rfl (Nat.le_of_ble_eq_true rfl) (by decide) (fun r u hu => ?_)
  refine z_eqs (σ' := (ap b σ [] [] [])) hu.2 ?_
  show zx p l e _ s m _ below meth c g 9 0 0 _ _ 39 [(6, .ref (b + 9)), (0, .ref (b + 0)), (1, .int 0), (2, .int w1), (3, .int w2), (4, .int w3), (5, .int w4)] _
  refine z_seti (y := 0) hu.1 ?_
  refine z_if_ne (tgt := 52) B dX8_set_39 (by decide) (fun h => absurd (by decide) h) (fun _ => ?_)
  exact z_throw B hlt hout (cls := "java/lang/IllegalArgumentException") (text := "no such operation") tw_X8_83_85_87 dX8_set_42 dX8_set_45 dX8_set_46 dX8_set_48 dX8_set_51 (by decide) (by decide) (by decide) (by decide) (by decide) (by decide) (fun z => ⟨z, rfl⟩)
set_option maxRecDepth 100000 in
set_option maxHeartbeats 4000000 in
theorem ci_L_set_108 (l : Launch) (hlt : l.stackTraces = false) {g : gx_T} {σ : sx_T} {b : Nat} (hK : lay b σ) (w1 : Int32) (w2 : Int32) (w3 : Int32) (w4 : Int32) (q1_w1 : (0 : Int) ≤ w1.toInt) (q2_w1 : w1.toInt ≤ (19 : Int)) (q1_w2 : (18 : Int) ≤ w2.toInt) (q2_w2 : w2.toInt ≤ (2147483647 : Int)) (hR_0_0 : sx_R σ (b + 0) 0 = (some (b + 1))) (hR_1_0 : sx_R σ (b + 1) 0 = (some (b + 9))) : Met l yL_set (.codeWith yL_set cL_set 8 (some .int) [(0, 16, 19, 13), (0, 16, 23, 15)] :: lw_g) { frames := 8, cells := 1, slots := 6, locals := 164 } (va_Pc [.ref (b + 0), .int 0, .int w1, .int w2, .int w3, .int w4, .ref (b + 431)] (zx_w g σ)) (va_Qi (fun r u => r = 2 ∧ ∃ z, u = (ap b (wx_Z σ z) [] [] [])) (zx_w g) (gx_Q g)) 1 6 (gx_Q g) := by
  refine z_metW (by decide) (Nat.le_of_ble_eq_true rfl) (fun p e s m below meth c B hr htab => ?_)
  refine z_eqs (σ' := (ap b σ [] [] [])) rfl ?_
  show zx p l e _ s m _ below meth c g 8 0 0 _ _ 0 [(0, .ref (b + 0)), (1, .int 0), (2, .int w1), (3, .int w2), (4, .int w3), (5, .int w4), (6, .ref (b + 431))] []
  refine z_aload B dL_set_0 6 rfl ?_
  refine z_iconst (v := 0) B dL_set_2 (by decide) ?_
  refine z_aload_n B dL_set_3 rfl 0 rfl ?_
  refine z_iload_n B dL_set_4 rfl 1 rfl ?_
  refine z_iload_n B dL_set_5 rfl 2 rfl ?_
  refine z_iload_n B dL_set_6 rfl 3 rfl ?_
  refine z_iload B dL_set_7 4 rfl ?_
  refine z_iload B dL_set_9 5 rfl ?_
  refine z_cXi (As := [.int 0, .int w1, .int w2, .int w3, .int w4]) (rest := [.int 0, .ref (b + 431)]) B htab tc_set_11_IllegalArgumentException cw_L_7 cx_9 dL_set_11 (ci_X8_set_107 l hlt (σ := (ap b σ [] [] [])) (b := b) (lyA hK) w1 w2 w3 w4 q1_w1 q2_w1 q1_w2 q2_w2 (rR_at 0 0 hR_0_0) (rR_at 1 0 hR_1_0)) (lKA (hk_K hK 0 rfl rfl)) rfl (by decide) rfl (Nat.le_of_ble_eq_true rfl) (by decide) (fun z q => ?_)
  refine z_eqs (σ' := (ap b (wx_Z σ z) [] [] [])) rfl ?_
  show zx p l e _ s m _ below meth c g 8 _ _ _ _ 23 [(0, .ref (b + 0)), (1, .int 0), (2, .int w1), (3, .int w2), (4, .int w3), (5, .int w4), (6, .ref (b + 431))] _
  refine z_astore (lv' := [(7, .ref q), (0, .ref (b + 0)), (1, .int 0), (2, .int w1), (3, .int w2), (4, .int w3), (5, .int w4), (6, .ref (b + 431))]) B dL_set_23 (by decide) rfl ?_
  refine z_iconst (v := 2) B dL_set_25 (by decide) ?_
  exact z_iret B hr (by decide) (by decide) dL_set_26 ⟨rfl, _, rfl⟩
set_option maxRecDepth 100000 in
set_option maxHeartbeats 4000000 in
theorem ci_X9_set_109 (l : Launch) {g : gx_T} {σ : sx_T} {b : Nat} (hK : lay b σ) (w1 : Int32) (w2 : Int32) (w3 : Int32) (w4 : Int32) (q1_w1 : (0 : Int) ≤ w1.toInt) (q2_w1 : w1.toInt ≤ (19 : Int)) (q1_w2 : (18 : Int) ≤ w2.toInt) (q2_w2 : w2.toInt ≤ (2147483647 : Int))  : Met l yX9_set (.code yX9_set cX9_set 7 (some .int) :: lw_g) { frames := 2, cells := 0, slots := 0, locals := 44 } (va_Pc [.ref (b + 405), .int 0, .int w1, .int w2, .int w3, .int w4] (zx_w g σ)) (va_Qi (fun r u => r = 0 ∧ u = (ap b σ [(405, 0, 2)] [] [])) (zx_w g) (gx_Q g)) 0 0 (gx_Q g) := by
  refine z_met (by decide) (Nat.le_of_ble_eq_true rfl) (fun p e s m below meth c B hr hin => ?_)
  refine z_eqs (σ' := (ap b σ [] [] [])) rfl ?_
  show zx p l e _ s m _ below meth c g 7 0 0 _ _ 0 [(0, .ref (b + 405)), (1, .int 0), (2, .int w1), (3, .int w2), (4, .int w3), (5, .int w4)] []
  refine z_aload_n B dX9_set_0 rfl 0 rfl ?_
  refine z_iload_n B dX9_set_1 rfl 1 rfl ?_
  refine z_iload_n B dX9_set_2 rfl 2 rfl ?_
  refine z_cSi (As := [.int 0, .int w1]) (rest := [.ref (b + 405)]) B cw_X9_238 dX9_set_3 (ci_X9_isStep_70 l (σ := (ap b σ [] [] [])) (b := b) (lyA hK) w1 q1_w1 q2_w1) rfl (by decide) rfl (Nat.le_of_ble_eq_true rfl) (by decide) (fun r u hu => ?_)
  refine z_eqs (σ' := (ap b σ [] [] [])) hu.2 ?_
  show zx p l e _ s m _ below meth c g 7 0 0 _ _ 6 [(0, .ref (b + 405)), (1, .int 0), (2, .int w1), (3, .int w2), (4, .int w3), (5, .int w4)] _
  refine z_seti (y := 1) hu.1 ?_
  refine z_iload_n B dX9_set_6 rfl 3 rfl ?_
  refine z_iload B dX9_set_7 4 rfl ?_
  refine z_iload B dX9_set_9 5 rfl ?_
  refine z_cSi (As := [.int w2, .int w3, .int w4]) (rest := [.int 1, .ref (b + 405)]) B cw_X9_242 dX9_set_11 (ci_X9_isOperation_48 l (σ := (ap b σ [] [] [])) (b := b) (lyA hK) w2 w3 w4 q1_w2 q2_w2) rfl (by decide) rfl (Nat.le_of_ble_eq_true rfl) (by decide) (fun r u hu => ?_)
  refine z_eqs (σ' := (ap b σ [] [] [])) hu.2 ?_
  show zx p l e _ s m _ below meth c g 7 0 0 _ _ 14 [(0, .ref (b + 405)), (1, .int 0), (2, .int w1), (3, .int w2), (4, .int w3), (5, .int w4)] _
  refine z_seti (y := 0) hu.1 ?_
  refine z_cVi (As := [.int 1, .int 0]) (rest := []) B cw_X9_245 cx_10 dX9_set_14 (ci_X9_needs__71 l (σ := (ap b σ [] [] [])) (b := b) (lyA hK) ) (lKA (hk_K hK 405 rfl rfl)) rfl (by decide) rfl (Nat.le_of_ble_eq_true rfl) (by decide) (fun r u hu => ?_)
  refine z_eqs (σ' := (ap b σ [(405, 0, 2)] [] [])) (hu.2.trans ap_ap) ?_
  show zx p l e _ s m _ below meth c g 7 0 0 _ _ 17 [(0, .ref (b + 405)), (1, .int 0), (2, .int w1), (3, .int w2), (4, .int w3), (5, .int w4)] _
  refine z_seti (y := 0) hu.1 ?_
  refine z_if_ne (tgt := 22) B dX9_set_17 (by decide) (fun h => absurd (by decide) h) (fun _ => ?_)
  refine z_iconst (v := 0) B dX9_set_20 (by decide) ?_
  exact z_iret B hr (by decide) (by decide) dX9_set_21 ⟨rfl, rfl⟩
set_option maxRecDepth 100000 in
set_option maxHeartbeats 4000000 in
theorem ci_X8_isBelow_110 (l : Launch) {g : gx_T} {σ : sx_T} {b : Nat} (hK : lay b σ) (w1 : Int32) (q1_w1 : (20 : Int) ≤ w1.toInt) (q2_w1 : w1.toInt ≤ (2147483647 : Int))  : Met l yX8_isBelow (.code yX8_isBelow cX8_isBelow 2 (some .boolean) :: lw_g) { frames := 0, cells := 0, slots := 0, locals := 0 } (va_Pc [.int w1, .int 20] (zx_w g σ)) (va_Qi (fun r u => r = 0 ∧ u = σ) (zx_w g) (gx_Q g)) 0 0 (gx_Q g) := by
  refine z_met (by decide) (Nat.le_of_ble_eq_true rfl) (fun p e s m below meth c B hr hin => ?_)
  refine z_eqs (σ' := (ap b σ [] [] [])) rfl ?_
  show zx p l e _ s m _ below meth c g 2 0 0 _ _ 0 [(0, .int w1), (1, .int 20)] []
  refine z_iload_n B dX8_isBelow_0 rfl 0 rfl ?_
  refine z_if_lt (tgt := 13) B dX8_isBelow_1 (by decide) (fun h => absurd h (iv_nlt q1_w1 (by decide))) (fun _ => ?_)
  refine z_iload_n B dX8_isBelow_4 rfl 0 rfl ?_
  refine z_iload_n B dX8_isBelow_5 rfl 1 rfl ?_
  refine z_icmp_ge (tgt := 13) B dX8_isBelow_6 (by decide) (fun _ => ?_) (fun h => absurd (iv_ge q1_w1 (by decide)) h)
  refine z_iconst (v := 0) B dX8_isBelow_13 (by decide) ?_
  exact z_zret B hr (by decide) (by decide) (by decide) dX8_isBelow_14 ⟨rfl, rfl⟩
set_option maxRecDepth 100000 in
set_option maxHeartbeats 4000000 in
theorem ci_X8_set_111 (l : Launch) (hlt : l.stackTraces = false) {g : gx_T} {σ : sx_T} {b : Nat} (hK : lay b σ) (w1 : Int32) (w2 : Int32) (w3 : Int32) (w4 : Int32) (q1_w1 : (20 : Int) ≤ w1.toInt) (q2_w1 : w1.toInt ≤ (2147483647 : Int)) (hR_0_0 : sx_R σ (b + 0) 0 = (some (b + 1))) (hR_1_0 : sx_R σ (b + 1) 0 = (some (b + 9))) : vx_Met l yX8_set (.code yX8_set cX8_set 9 (some .int) :: lw_g) { frames := 7, cells := 1, slots := 6, locals := 136 } (va_Pc [.ref (b + 0), .int 0, .int w1, .int w2, .int w3, .int w4] (zx_w g σ)) (va_Qi (S := sx_T) (fun _ _ => False) (zx_w g) (gx_Q g)) (vx_X (fun u : sx_T => ∃ z, u = wx_Z σ z) (fun E u t => E = "java/lang/IndexOutOfBoundsException" ∧ zx_h g u t.heap) (gx_Q g)) 1 6 (gx_Q g) := by
  refine z_metX (by decide) (Nat.le_of_ble_eq_true rfl) (fun p e s m below meth c B hr hin hout => ?_)
  refine z_eqs (σ' := (ap b σ [] [] [])) rfl ?_
  show zx p l e _ s m _ below meth c g 9 0 0 _ _ 0 [(0, .ref (b + 0)), (1, .int 0), (2, .int w1), (3, .int w2), (4, .int w3), (5, .int w4)] []
  refine z_aload_n B dX8_set_0 rfl 0 rfl ?_
  refine z_iload_n B dX8_set_1 rfl 1 rfl ?_
  refine z_cVq (As := [.int 0]) (rest := []) B cw_X8_64 cx_9 dX8_set_2 (ci_X8_programAt_50 l (σ := (ap b σ [] [] [])) (b := b) (lyA hK) (rR_at 0 0 hR_0_0) (rR_at 1 0 hR_1_0)) (lKA (hk_K hK 0 rfl rfl)) rfl (by decide) rfl (Nat.le_of_ble_eq_true rfl) (by decide) (fun r u hu => ?_)
  refine z_eqs (σ' := (ap b σ [] [] [])) hu.2 ?_
  show zx p l e _ s m _ below meth c g 9 0 0 _ _ 5 [(0, .ref (b + 0)), (1, .int 0), (2, .int w1), (3, .int w2), (4, .int w3), (5, .int w4)] _
  refine z_setr (y := (some (b + 9))) hu.1 ?_
  refine z_astore (lv' := [(6, .ref (b + 9)), (0, .ref (b + 0)), (1, .int 0), (2, .int w1), (3, .int w2), (4, .int w3), (5, .int w4)]) B dX8_set_5 (by decide) rfl ?_
  refine z_aload B dX8_set_7 0 rfl ?_
  refine z_ifnull (r := (some (b + 9))) (tgt := 21) B dX8_set_9 (by decide) (fun h => nomatch h) (fun _ _ => ?_)
  refine z_iload_n B dX8_set_12 rfl 3 rfl ?_
  refine z_bipush (v := 20) B dX8_set_13 (by decide) ?_
  refine z_cSi (As := [.int w1, .int 20]) (rest := []) B cw_X8_68 dX8_set_15 (ci_X8_isBelow_110 l (σ := (ap b σ [] [] [])) (b := b) (lyA hK) w1 q1_w1 q2_w1) rfl (by decide) rfl (Nat.le_of_ble_eq_true rfl) (by decide) (fun r u hu => ?_)
  refine z_eqs (σ' := (ap b σ [] [] [])) hu.2 ?_
  show zx p l e _ s m _ below meth c g 9 0 0 _ _ 18 [(6, .ref (b + 9)), (0, .ref (b + 0)), (1, .int 0), (2, .int w1), (3, .int w2), (4, .int w3), (5, .int w4)] _
  refine z_seti (y := 0) hu.1 ?_
  refine z_if_ne (tgt := 31) B dX8_set_18 (by decide) (fun h => absurd (by decide) h) (fun _ => ?_)
  exact z_throw B hlt hout (cls := "java/lang/IndexOutOfBoundsException") (text := "no such step") tw_X8_72_74_76 dX8_set_21 dX8_set_24 dX8_set_25 dX8_set_27 dX8_set_30 (by decide) (by decide) (by decide) (by decide) (by decide) (by decide) (fun z => ⟨z, rfl⟩)
set_option maxRecDepth 100000 in
set_option maxHeartbeats 4000000 in
theorem ci_L_set_112 (l : Launch) (hlt : l.stackTraces = false) {g : gx_T} {σ : sx_T} {b : Nat} (hK : lay b σ) (w1 : Int32) (w2 : Int32) (w3 : Int32) (w4 : Int32) (q1_w1 : (20 : Int) ≤ w1.toInt) (q2_w1 : w1.toInt ≤ (2147483647 : Int)) (hR_0_0 : sx_R σ (b + 0) 0 = (some (b + 1))) (hR_1_0 : sx_R σ (b + 1) 0 = (some (b + 9))) : Met l yL_set (.codeWith yL_set cL_set 8 (some .int) [(0, 16, 19, 13), (0, 16, 23, 15)] :: lw_g) { frames := 8, cells := 1, slots := 6, locals := 164 } (va_Pc [.ref (b + 0), .int 0, .int w1, .int w2, .int w3, .int w4, .ref (b + 431)] (zx_w g σ)) (va_Qi (fun r u => r = 1 ∧ ∃ z, u = (ap b (wx_Z σ z) [] [] [])) (zx_w g) (gx_Q g)) 1 6 (gx_Q g) := by
  refine z_metW (by decide) (Nat.le_of_ble_eq_true rfl) (fun p e s m below meth c B hr htab => ?_)
  refine z_eqs (σ' := (ap b σ [] [] [])) rfl ?_
  show zx p l e _ s m _ below meth c g 8 0 0 _ _ 0 [(0, .ref (b + 0)), (1, .int 0), (2, .int w1), (3, .int w2), (4, .int w3), (5, .int w4), (6, .ref (b + 431))] []
  refine z_aload B dL_set_0 6 rfl ?_
  refine z_iconst (v := 0) B dL_set_2 (by decide) ?_
  refine z_aload_n B dL_set_3 rfl 0 rfl ?_
  refine z_iload_n B dL_set_4 rfl 1 rfl ?_
  refine z_iload_n B dL_set_5 rfl 2 rfl ?_
  refine z_iload_n B dL_set_6 rfl 3 rfl ?_
  refine z_iload B dL_set_7 4 rfl ?_
  refine z_iload B dL_set_9 5 rfl ?_
  refine z_cXi (As := [.int 0, .int w1, .int w2, .int w3, .int w4]) (rest := [.int 0, .ref (b + 431)]) B htab tc_set_11_IndexOutOfBoundsException cw_L_7 cx_9 dL_set_11 (ci_X8_set_111 l hlt (σ := (ap b σ [] [] [])) (b := b) (lyA hK) w1 w2 w3 w4 q1_w1 q2_w1 (rR_at 0 0 hR_0_0) (rR_at 1 0 hR_1_0)) (lKA (hk_K hK 0 rfl rfl)) rfl (by decide) rfl (Nat.le_of_ble_eq_true rfl) (by decide) (fun z q => ?_)
  refine z_eqs (σ' := (ap b (wx_Z σ z) [] [] [])) rfl ?_
  show zx p l e _ s m _ below meth c g 8 _ _ _ _ 19 [(0, .ref (b + 0)), (1, .int 0), (2, .int w1), (3, .int w2), (4, .int w3), (5, .int w4), (6, .ref (b + 431))] _
  refine z_astore (lv' := [(7, .ref q), (0, .ref (b + 0)), (1, .int 0), (2, .int w1), (3, .int w2), (4, .int w3), (5, .int w4), (6, .ref (b + 431))]) B dL_set_19 (by decide) rfl ?_
  refine z_iconst (v := 1) B dL_set_21 (by decide) ?_
  exact z_iret B hr (by decide) (by decide) dL_set_22 ⟨rfl, _, rfl⟩
set_option maxRecDepth 100000 in
set_option maxHeartbeats 4000000 in
theorem ci_X9_in_113 (l : Launch) {g : gx_T} {σ : sx_T} {b : Nat} (hK : lay b σ) (w1 : Int32) (q1_w1 : (20 : Int) ≤ w1.toInt) (q2_w1 : w1.toInt ≤ (2147483647 : Int))  : Met l yX9_in (.code yX9_in cX9_in 3 (some .boolean) :: lw_g) { frames := 0, cells := 0, slots := 0, locals := 0 } (va_Pc [.int w1, .int 0, .int 19] (zx_w g σ)) (va_Qi (fun r u => r = 0 ∧ u = σ) (zx_w g) (gx_Q g)) 0 0 (gx_Q g) := by
  refine z_met (by decide) (Nat.le_of_ble_eq_true rfl) (fun p e s m below meth c B hr hin => ?_)
  refine z_eqs (σ' := (ap b σ [] [] [])) rfl ?_
  show zx p l e _ s m _ below meth c g 3 0 0 _ _ 0 [(0, .int w1), (1, .int 0), (2, .int 19)] []
  refine z_iload_n B dX9_in_0 rfl 0 rfl ?_
  refine z_iload_n B dX9_in_1 rfl 1 rfl ?_
  refine z_icmp_lt (tgt := 14) B dX9_in_2 (by decide) (fun h => absurd h (iv_nlt q1_w1 (by decide))) (fun _ => ?_)
  refine z_iload_n B dX9_in_5 rfl 0 rfl ?_
  refine z_iload_n B dX9_in_6 rfl 2 rfl ?_
  refine z_icmp_gt (tgt := 14) B dX9_in_7 (by decide) (fun _ => ?_) (fun h => absurd (iv_gt q1_w1 (by decide)) h)
  refine z_iconst (v := 0) B dX9_in_14 (by decide) ?_
  exact z_zret B hr (by decide) (by decide) (by decide) dX9_in_15 ⟨rfl, rfl⟩
set_option maxRecDepth 100000 in
set_option maxHeartbeats 4000000 in
theorem ci_X9_isStep_114 (l : Launch) {g : gx_T} {σ : sx_T} {b : Nat} (hK : lay b σ) (w1 : Int32) (q1_w1 : (20 : Int) ≤ w1.toInt) (q2_w1 : w1.toInt ≤ (2147483647 : Int))  : Met l yX9_isStep (.code yX9_isStep cX9_isStep 2 (some .boolean) :: lw_g) { frames := 1, cells := 0, slots := 0, locals := 22 } (va_Pc [.int 0, .int w1] (zx_w g σ)) (va_Qi (fun r u => r = 0 ∧ u = σ) (zx_w g) (gx_Q g)) 0 0 (gx_Q g) := by
  refine z_met (by decide) (Nat.le_of_ble_eq_true rfl) (fun p e s m below meth c B hr hin => ?_)
  refine z_eqs (σ' := (ap b σ [] [] [])) rfl ?_
  show zx p l e _ s m _ below meth c g 2 0 0 _ _ 0 [(0, .int 0), (1, .int w1)] []
  refine z_iload_n B dX9_isStep_0 rfl 0 rfl ?_
  refine z_iconst (v := 0) B dX9_isStep_1 (by decide) ?_
  refine z_iconst (v := 5) B dX9_isStep_2 (by decide) ?_
  refine z_cSi (As := [.int 0, .int 0, .int 5]) (rest := []) B cw_X9_96 dX9_isStep_3 (ci_X9_in_54 l (σ := (ap b σ [] [] [])) (b := b) (lyA hK) ) rfl (by decide) rfl (Nat.le_of_ble_eq_true rfl) (by decide) (fun r u hu => ?_)
  refine z_eqs (σ' := (ap b σ [] [] [])) hu.2 ?_
  show zx p l e _ s m _ below meth c g 2 0 0 _ _ 6 [(0, .int 0), (1, .int w1)] _
  refine z_seti (y := 1) hu.1 ?_
  refine z_if_eq (tgt := 23) B dX9_isStep_6 (by decide) (fun h => absurd h (by decide)) (fun _ => ?_)
  refine z_iload_n B dX9_isStep_9 rfl 1 rfl ?_
  refine z_iconst (v := 0) B dX9_isStep_10 (by decide) ?_
  refine z_bipush (v := 19) B dX9_isStep_11 (by decide) ?_
  refine z_cSi (As := [.int w1, .int 0, .int 19]) (rest := []) B cw_X9_96 dX9_isStep_13 (ci_X9_in_113 l (σ := (ap b σ [] [] [])) (b := b) (lyA hK) w1 q1_w1 q2_w1) rfl (by decide) rfl (Nat.le_of_ble_eq_true rfl) (by decide) (fun r u hu => ?_)
  refine z_eqs (σ' := (ap b σ [] [] [])) hu.2 ?_
  show zx p l e _ s m _ below meth c g 2 0 0 _ _ 16 [(0, .int 0), (1, .int w1)] _
  refine z_seti (y := 0) hu.1 ?_
  refine z_if_eq (tgt := 23) B dX9_isStep_16 (by decide) (fun _ => ?_) (fun h => absurd (by decide) h)
  refine z_iconst (v := 0) B dX9_isStep_23 (by decide) ?_
  exact z_zret B hr (by decide) (by decide) (by decide) dX9_isStep_24 ⟨rfl, rfl⟩
set_option maxRecDepth 100000 in
set_option maxHeartbeats 4000000 in
theorem ci_X9_set_115 (l : Launch) {g : gx_T} {σ : sx_T} {b : Nat} (hK : lay b σ) (w1 : Int32) (w2 : Int32) (w3 : Int32) (w4 : Int32) (q1_w1 : (20 : Int) ≤ w1.toInt) (q2_w1 : w1.toInt ≤ (2147483647 : Int)) (q1_w2 : (-2147483648 : Int) ≤ w2.toInt) (q2_w2 : w2.toInt ≤ (-1 : Int))  : Met l yX9_set (.code yX9_set cX9_set 7 (some .int) :: lw_g) { frames := 2, cells := 0, slots := 0, locals := 44 } (va_Pc [.ref (b + 405), .int 0, .int w1, .int w2, .int w3, .int w4] (zx_w g σ)) (va_Qi (fun r u => r = 0 ∧ u = (ap b σ [(405, 0, 1)] [] [])) (zx_w g) (gx_Q g)) 0 0 (gx_Q g) := by
  refine z_met (by decide) (Nat.le_of_ble_eq_true rfl) (fun p e s m below meth c B hr hin => ?_)
  refine z_eqs (σ' := (ap b σ [] [] [])) rfl ?_
  show zx p l e _ s m _ below meth c g 7 0 0 _ _ 0 [(0, .ref (b + 405)), (1, .int 0), (2, .int w1), (3, .int w2), (4, .int w3), (5, .int w4)] []
  refine z_aload_n B dX9_set_0 rfl 0 rfl ?_
  refine z_iload_n B dX9_set_1 rfl 1 rfl ?_
  refine z_iload_n B dX9_set_2 rfl 2 rfl ?_
  refine z_cSi (As := [.int 0, .int w1]) (rest := [.ref (b + 405)]) B cw_X9_238 dX9_set_3 (ci_X9_isStep_114 l (σ := (ap b σ [] [] [])) (b := b) (lyA hK) w1 q1_w1 q2_w1) rfl (by decide) rfl (Nat.le_of_ble_eq_true rfl) (by decide) (fun r u hu => ?_)
  refine z_eqs (σ' := (ap b σ [] [] [])) hu.2 ?_
  show zx p l e _ s m _ below meth c g 7 0 0 _ _ 6 [(0, .ref (b + 405)), (1, .int 0), (2, .int w1), (3, .int w2), (4, .int w3), (5, .int w4)] _
  refine z_seti (y := 0) hu.1 ?_
  refine z_iload_n B dX9_set_6 rfl 3 rfl ?_
  refine z_iload B dX9_set_7 4 rfl ?_
  refine z_iload B dX9_set_9 5 rfl ?_
  refine z_cSi (As := [.int w2, .int w3, .int w4]) (rest := [.int 0, .ref (b + 405)]) B cw_X9_242 dX9_set_11 (ci_X9_isOperation_28 l (σ := (ap b σ [] [] [])) (b := b) (lyA hK) w2 w3 w4 q1_w2 q2_w2) rfl (by decide) rfl (Nat.le_of_ble_eq_true rfl) (by decide) (fun r u hu => ?_)
  refine z_eqs (σ' := (ap b σ [] [] [])) hu.2 ?_
  show zx p l e _ s m _ below meth c g 7 0 0 _ _ 14 [(0, .ref (b + 405)), (1, .int 0), (2, .int w1), (3, .int w2), (4, .int w3), (5, .int w4)] _
  refine z_seti (y := 0) hu.1 ?_
  refine z_cVi (As := [.int 0, .int 0]) (rest := []) B cw_X9_245 cx_10 dX9_set_14 (ci_X9_needs__29 l (σ := (ap b σ [] [] [])) (b := b) (lyA hK) ) (lKA (hk_K hK 405 rfl rfl)) rfl (by decide) rfl (Nat.le_of_ble_eq_true rfl) (by decide) (fun r u hu => ?_)
  refine z_eqs (σ' := (ap b σ [(405, 0, 1)] [] [])) (hu.2.trans ap_ap) ?_
  show zx p l e _ s m _ below meth c g 7 0 0 _ _ 17 [(0, .ref (b + 405)), (1, .int 0), (2, .int w1), (3, .int w2), (4, .int w3), (5, .int w4)] _
  refine z_seti (y := 0) hu.1 ?_
  refine z_if_ne (tgt := 22) B dX9_set_17 (by decide) (fun h => absurd (by decide) h) (fun _ => ?_)
  refine z_iconst (v := 0) B dX9_set_20 (by decide) ?_
  exact z_iret B hr (by decide) (by decide) dX9_set_21 ⟨rfl, rfl⟩
set_option maxRecDepth 100000 in
set_option maxHeartbeats 4000000 in
theorem ci_X9_set_116 (l : Launch) {g : gx_T} {σ : sx_T} {b : Nat} (hK : lay b σ) (w1 : Int32) (w2 : Int32) (w3 : Int32) (w4 : Int32) (q1_w1 : (20 : Int) ≤ w1.toInt) (q2_w1 : w1.toInt ≤ (2147483647 : Int)) (q1_w2 : (0 : Int) ≤ w2.toInt) (q2_w2 : w2.toInt ≤ (17 : Int)) (q1_w3 : (-2147483648 : Int) ≤ w3.toInt) (q2_w3 : w3.toInt ≤ (-1 : Int))  : Met l yX9_set (.code yX9_set cX9_set 7 (some .int) :: lw_g) { frames := 2, cells := 0, slots := 0, locals := 44 } (va_Pc [.ref (b + 405), .int 0, .int w1, .int w2, .int w3, .int w4] (zx_w g σ)) (va_Qi (fun r u => r = 0 ∧ u = (ap b σ [(405, 0, 1)] [] [])) (zx_w g) (gx_Q g)) 0 0 (gx_Q g) := by
  refine z_met (by decide) (Nat.le_of_ble_eq_true rfl) (fun p e s m below meth c B hr hin => ?_)
  refine z_eqs (σ' := (ap b σ [] [] [])) rfl ?_
  show zx p l e _ s m _ below meth c g 7 0 0 _ _ 0 [(0, .ref (b + 405)), (1, .int 0), (2, .int w1), (3, .int w2), (4, .int w3), (5, .int w4)] []
  refine z_aload_n B dX9_set_0 rfl 0 rfl ?_
  refine z_iload_n B dX9_set_1 rfl 1 rfl ?_
  refine z_iload_n B dX9_set_2 rfl 2 rfl ?_
  refine z_cSi (As := [.int 0, .int w1]) (rest := [.ref (b + 405)]) B cw_X9_238 dX9_set_3 (ci_X9_isStep_114 l (σ := (ap b σ [] [] [])) (b := b) (lyA hK) w1 q1_w1 q2_w1) rfl (by decide) rfl (Nat.le_of_ble_eq_true rfl) (by decide) (fun r u hu => ?_)
  refine z_eqs (σ' := (ap b σ [] [] [])) hu.2 ?_
  show zx p l e _ s m _ below meth c g 7 0 0 _ _ 6 [(0, .ref (b + 405)), (1, .int 0), (2, .int w1), (3, .int w2), (4, .int w3), (5, .int w4)] _
  refine z_seti (y := 0) hu.1 ?_
  refine z_iload_n B dX9_set_6 rfl 3 rfl ?_
  refine z_iload B dX9_set_7 4 rfl ?_
  refine z_iload B dX9_set_9 5 rfl ?_
  refine z_cSi (As := [.int w2, .int w3, .int w4]) (rest := [.int 0, .ref (b + 405)]) B cw_X9_242 dX9_set_11 (ci_X9_isOperation_34 l (σ := (ap b σ [] [] [])) (b := b) (lyA hK) w2 w3 w4 q1_w2 q2_w2 q1_w3 q2_w3) rfl (by decide) rfl (Nat.le_of_ble_eq_true rfl) (by decide) (fun r u hu => ?_)
  refine z_eqs (σ' := (ap b σ [] [] [])) hu.2 ?_
  show zx p l e _ s m _ below meth c g 7 0 0 _ _ 14 [(0, .ref (b + 405)), (1, .int 0), (2, .int w1), (3, .int w2), (4, .int w3), (5, .int w4)] _
  refine z_seti (y := 0) hu.1 ?_
  refine z_cVi (As := [.int 0, .int 0]) (rest := []) B cw_X9_245 cx_10 dX9_set_14 (ci_X9_needs__29 l (σ := (ap b σ [] [] [])) (b := b) (lyA hK) ) (lKA (hk_K hK 405 rfl rfl)) rfl (by decide) rfl (Nat.le_of_ble_eq_true rfl) (by decide) (fun r u hu => ?_)
  refine z_eqs (σ' := (ap b σ [(405, 0, 1)] [] [])) (hu.2.trans ap_ap) ?_
  show zx p l e _ s m _ below meth c g 7 0 0 _ _ 17 [(0, .ref (b + 405)), (1, .int 0), (2, .int w1), (3, .int w2), (4, .int w3), (5, .int w4)] _
  refine z_seti (y := 0) hu.1 ?_
  refine z_if_ne (tgt := 22) B dX9_set_17 (by decide) (fun h => absurd (by decide) h) (fun _ => ?_)
  refine z_iconst (v := 0) B dX9_set_20 (by decide) ?_
  exact z_iret B hr (by decide) (by decide) dX9_set_21 ⟨rfl, rfl⟩
set_option maxRecDepth 100000 in
set_option maxHeartbeats 4000000 in
theorem ci_X9_set_117 (l : Launch) {g : gx_T} {σ : sx_T} {b : Nat} (hK : lay b σ) (w1 : Int32) (w2 : Int32) (w3 : Int32) (w4 : Int32) (q1_w1 : (20 : Int) ≤ w1.toInt) (q2_w1 : w1.toInt ≤ (2147483647 : Int)) (q1_w2 : (0 : Int) ≤ w2.toInt) (q2_w2 : w2.toInt ≤ (17 : Int)) (q1_w3 : (0 : Int) ≤ w3.toInt) (q2_w3 : w3.toInt ≤ (99 : Int)) (q1_w4 : (-2147483648 : Int) ≤ w4.toInt) (q2_w4 : w4.toInt ≤ (-1 : Int))  : Met l yX9_set (.code yX9_set cX9_set 7 (some .int) :: lw_g) { frames := 2, cells := 0, slots := 0, locals := 44 } (va_Pc [.ref (b + 405), .int 0, .int w1, .int w2, .int w3, .int w4] (zx_w g σ)) (va_Qi (fun r u => r = 0 ∧ u = (ap b σ [(405, 0, 1)] [] [])) (zx_w g) (gx_Q g)) 0 0 (gx_Q g) := by
  refine z_met (by decide) (Nat.le_of_ble_eq_true rfl) (fun p e s m below meth c B hr hin => ?_)
  refine z_eqs (σ' := (ap b σ [] [] [])) rfl ?_
  show zx p l e _ s m _ below meth c g 7 0 0 _ _ 0 [(0, .ref (b + 405)), (1, .int 0), (2, .int w1), (3, .int w2), (4, .int w3), (5, .int w4)] []
  refine z_aload_n B dX9_set_0 rfl 0 rfl ?_
  refine z_iload_n B dX9_set_1 rfl 1 rfl ?_
  refine z_iload_n B dX9_set_2 rfl 2 rfl ?_
  refine z_cSi (As := [.int 0, .int w1]) (rest := [.ref (b + 405)]) B cw_X9_238 dX9_set_3 (ci_X9_isStep_114 l (σ := (ap b σ [] [] [])) (b := b) (lyA hK) w1 q1_w1 q2_w1) rfl (by decide) rfl (Nat.le_of_ble_eq_true rfl) (by decide) (fun r u hu => ?_)
  refine z_eqs (σ' := (ap b σ [] [] [])) hu.2 ?_
  show zx p l e _ s m _ below meth c g 7 0 0 _ _ 6 [(0, .ref (b + 405)), (1, .int 0), (2, .int w1), (3, .int w2), (4, .int w3), (5, .int w4)] _
  refine z_seti (y := 0) hu.1 ?_
  refine z_iload_n B dX9_set_6 rfl 3 rfl ?_
  refine z_iload B dX9_set_7 4 rfl ?_
  refine z_iload B dX9_set_9 5 rfl ?_
  refine z_cSi (As := [.int w2, .int w3, .int w4]) (rest := [.int 0, .ref (b + 405)]) B cw_X9_242 dX9_set_11 (ci_X9_isOperation_37 l (σ := (ap b σ [] [] [])) (b := b) (lyA hK) w2 w3 w4 q1_w2 q2_w2 q1_w3 q2_w3 q1_w4 q2_w4) rfl (by decide) rfl (Nat.le_of_ble_eq_true rfl) (by decide) (fun r u hu => ?_)
  refine z_eqs (σ' := (ap b σ [] [] [])) hu.2 ?_
  show zx p l e _ s m _ below meth c g 7 0 0 _ _ 14 [(0, .ref (b + 405)), (1, .int 0), (2, .int w1), (3, .int w2), (4, .int w3), (5, .int w4)] _
  refine z_seti (y := 0) hu.1 ?_
  refine z_cVi (As := [.int 0, .int 0]) (rest := []) B cw_X9_245 cx_10 dX9_set_14 (ci_X9_needs__29 l (σ := (ap b σ [] [] [])) (b := b) (lyA hK) ) (lKA (hk_K hK 405 rfl rfl)) rfl (by decide) rfl (Nat.le_of_ble_eq_true rfl) (by decide) (fun r u hu => ?_)
  refine z_eqs (σ' := (ap b σ [(405, 0, 1)] [] [])) (hu.2.trans ap_ap) ?_
  show zx p l e _ s m _ below meth c g 7 0 0 _ _ 17 [(0, .ref (b + 405)), (1, .int 0), (2, .int w1), (3, .int w2), (4, .int w3), (5, .int w4)] _
  refine z_seti (y := 0) hu.1 ?_
  refine z_if_ne (tgt := 22) B dX9_set_17 (by decide) (fun h => absurd (by decide) h) (fun _ => ?_)
  refine z_iconst (v := 0) B dX9_set_20 (by decide) ?_
  exact z_iret B hr (by decide) (by decide) dX9_set_21 ⟨rfl, rfl⟩
set_option maxRecDepth 100000 in
set_option maxHeartbeats 4000000 in
theorem ci_X9_set_118 (l : Launch) {g : gx_T} {σ : sx_T} {b : Nat} (hK : lay b σ) (w1 : Int32) (w2 : Int32) (w3 : Int32) (w4 : Int32) (q1_w1 : (20 : Int) ≤ w1.toInt) (q2_w1 : w1.toInt ≤ (2147483647 : Int)) (q1_w2 : (0 : Int) ≤ w2.toInt) (q2_w2 : w2.toInt ≤ (17 : Int)) (q1_w3 : (0 : Int) ≤ w3.toInt) (q2_w3 : w3.toInt ≤ (99 : Int)) (q1_w4 : (0 : Int) ≤ w4.toInt) (q2_w4 : w4.toInt ≤ (99 : Int))  : Met l yX9_set (.code yX9_set cX9_set 7 (some .int) :: lw_g) { frames := 2, cells := 0, slots := 0, locals := 44 } (va_Pc [.ref (b + 405), .int 0, .int w1, .int w2, .int w3, .int w4] (zx_w g σ)) (va_Qi (fun r u => r = 0 ∧ u = (ap b σ [(405, 0, 1)] [] [])) (zx_w g) (gx_Q g)) 0 0 (gx_Q g) := by
  refine z_met (by decide) (Nat.le_of_ble_eq_true rfl) (fun p e s m below meth c B hr hin => ?_)
  refine z_eqs (σ' := (ap b σ [] [] [])) rfl ?_
  show zx p l e _ s m _ below meth c g 7 0 0 _ _ 0 [(0, .ref (b + 405)), (1, .int 0), (2, .int w1), (3, .int w2), (4, .int w3), (5, .int w4)] []
  refine z_aload_n B dX9_set_0 rfl 0 rfl ?_
  refine z_iload_n B dX9_set_1 rfl 1 rfl ?_
  refine z_iload_n B dX9_set_2 rfl 2 rfl ?_
  refine z_cSi (As := [.int 0, .int w1]) (rest := [.ref (b + 405)]) B cw_X9_238 dX9_set_3 (ci_X9_isStep_114 l (σ := (ap b σ [] [] [])) (b := b) (lyA hK) w1 q1_w1 q2_w1) rfl (by decide) rfl (Nat.le_of_ble_eq_true rfl) (by decide) (fun r u hu => ?_)
  refine z_eqs (σ' := (ap b σ [] [] [])) hu.2 ?_
  show zx p l e _ s m _ below meth c g 7 0 0 _ _ 6 [(0, .ref (b + 405)), (1, .int 0), (2, .int w1), (3, .int w2), (4, .int w3), (5, .int w4)] _
  refine z_seti (y := 0) hu.1 ?_
  refine z_iload_n B dX9_set_6 rfl 3 rfl ?_
  refine z_iload B dX9_set_7 4 rfl ?_
  refine z_iload B dX9_set_9 5 rfl ?_
  refine z_cSi (As := [.int w2, .int w3, .int w4]) (rest := [.int 0, .ref (b + 405)]) B cw_X9_242 dX9_set_11 (ci_X9_isOperation_39 l (σ := (ap b σ [] [] [])) (b := b) (lyA hK) w2 w3 w4 q1_w2 q2_w2 q1_w3 q2_w3 q1_w4 q2_w4) rfl (by decide) rfl (Nat.le_of_ble_eq_true rfl) (by decide) (fun r u hu => ?_)
  refine z_eqs (σ' := (ap b σ [] [] [])) hu.2 ?_
  show zx p l e _ s m _ below meth c g 7 0 0 _ _ 14 [(0, .ref (b + 405)), (1, .int 0), (2, .int w1), (3, .int w2), (4, .int w3), (5, .int w4)] _
  refine z_seti (y := 1) hu.1 ?_
  refine z_cVi (As := [.int 0, .int 1]) (rest := []) B cw_X9_245 cx_10 dX9_set_14 (ci_X9_needs__40 l (σ := (ap b σ [] [] [])) (b := b) (lyA hK) ) (lKA (hk_K hK 405 rfl rfl)) rfl (by decide) rfl (Nat.le_of_ble_eq_true rfl) (by decide) (fun r u hu => ?_)
  refine z_eqs (σ' := (ap b σ [(405, 0, 1)] [] [])) (hu.2.trans ap_ap) ?_
  show zx p l e _ s m _ below meth c g 7 0 0 _ _ 17 [(0, .ref (b + 405)), (1, .int 0), (2, .int w1), (3, .int w2), (4, .int w3), (5, .int w4)] _
  refine z_seti (y := 0) hu.1 ?_
  refine z_if_ne (tgt := 22) B dX9_set_17 (by decide) (fun h => absurd (by decide) h) (fun _ => ?_)
  refine z_iconst (v := 0) B dX9_set_20 (by decide) ?_
  exact z_iret B hr (by decide) (by decide) dX9_set_21 ⟨rfl, rfl⟩
set_option maxRecDepth 100000 in
set_option maxHeartbeats 4000000 in
theorem ci_X9_set_119 (l : Launch) {g : gx_T} {σ : sx_T} {b : Nat} (hK : lay b σ) (w1 : Int32) (w2 : Int32) (w3 : Int32) (w4 : Int32) (q1_w1 : (20 : Int) ≤ w1.toInt) (q2_w1 : w1.toInt ≤ (2147483647 : Int)) (q1_w2 : (0 : Int) ≤ w2.toInt) (q2_w2 : w2.toInt ≤ (17 : Int)) (q1_w3 : (0 : Int) ≤ w3.toInt) (q2_w3 : w3.toInt ≤ (99 : Int)) (q1_w4 : (100 : Int) ≤ w4.toInt) (q2_w4 : w4.toInt ≤ (2147483647 : Int))  : Met l yX9_set (.code yX9_set cX9_set 7 (some .int) :: lw_g) { frames := 2, cells := 0, slots := 0, locals := 44 } (va_Pc [.ref (b + 405), .int 0, .int w1, .int w2, .int w3, .int w4] (zx_w g σ)) (va_Qi (fun r u => r = 0 ∧ u = (ap b σ [(405, 0, 1)] [] [])) (zx_w g) (gx_Q g)) 0 0 (gx_Q g) := by
  refine z_met (by decide) (Nat.le_of_ble_eq_true rfl) (fun p e s m below meth c B hr hin => ?_)
  refine z_eqs (σ' := (ap b σ [] [] [])) rfl ?_
  show zx p l e _ s m _ below meth c g 7 0 0 _ _ 0 [(0, .ref (b + 405)), (1, .int 0), (2, .int w1), (3, .int w2), (4, .int w3), (5, .int w4)] []
  refine z_aload_n B dX9_set_0 rfl 0 rfl ?_
  refine z_iload_n B dX9_set_1 rfl 1 rfl ?_
  refine z_iload_n B dX9_set_2 rfl 2 rfl ?_
  refine z_cSi (As := [.int 0, .int w1]) (rest := [.ref (b + 405)]) B cw_X9_238 dX9_set_3 (ci_X9_isStep_114 l (σ := (ap b σ [] [] [])) (b := b) (lyA hK) w1 q1_w1 q2_w1) rfl (by decide) rfl (Nat.le_of_ble_eq_true rfl) (by decide) (fun r u hu => ?_)
  refine z_eqs (σ' := (ap b σ [] [] [])) hu.2 ?_
  show zx p l e _ s m _ below meth c g 7 0 0 _ _ 6 [(0, .ref (b + 405)), (1, .int 0), (2, .int w1), (3, .int w2), (4, .int w3), (5, .int w4)] _
  refine z_seti (y := 0) hu.1 ?_
  refine z_iload_n B dX9_set_6 rfl 3 rfl ?_
  refine z_iload B dX9_set_7 4 rfl ?_
  refine z_iload B dX9_set_9 5 rfl ?_
  refine z_cSi (As := [.int w2, .int w3, .int w4]) (rest := [.int 0, .ref (b + 405)]) B cw_X9_242 dX9_set_11 (ci_X9_isOperation_43 l (σ := (ap b σ [] [] [])) (b := b) (lyA hK) w2 w3 w4 q1_w2 q2_w2 q1_w3 q2_w3 q1_w4 q2_w4) rfl (by decide) rfl (Nat.le_of_ble_eq_true rfl) (by decide) (fun r u hu => ?_)
  refine z_eqs (σ' := (ap b σ [] [] [])) hu.2 ?_
  show zx p l e _ s m _ below meth c g 7 0 0 _ _ 14 [(0, .ref (b + 405)), (1, .int 0), (2, .int w1), (3, .int w2), (4, .int w3), (5, .int w4)] _
  refine z_seti (y := 0) hu.1 ?_
  refine z_cVi (As := [.int 0, .int 0]) (rest := []) B cw_X9_245 cx_10 dX9_set_14 (ci_X9_needs__29 l (σ := (ap b σ [] [] [])) (b := b) (lyA hK) ) (lKA (hk_K hK 405 rfl rfl)) rfl (by decide) rfl (Nat.le_of_ble_eq_true rfl) (by decide) (fun r u hu => ?_)
  refine z_eqs (σ' := (ap b σ [(405, 0, 1)] [] [])) (hu.2.trans ap_ap) ?_
  show zx p l e _ s m _ below meth c g 7 0 0 _ _ 17 [(0, .ref (b + 405)), (1, .int 0), (2, .int w1), (3, .int w2), (4, .int w3), (5, .int w4)] _
  refine z_seti (y := 0) hu.1 ?_
  refine z_if_ne (tgt := 22) B dX9_set_17 (by decide) (fun h => absurd (by decide) h) (fun _ => ?_)
  refine z_iconst (v := 0) B dX9_set_20 (by decide) ?_
  exact z_iret B hr (by decide) (by decide) dX9_set_21 ⟨rfl, rfl⟩
set_option maxRecDepth 100000 in
set_option maxHeartbeats 4000000 in
theorem ci_X9_set_120 (l : Launch) {g : gx_T} {σ : sx_T} {b : Nat} (hK : lay b σ) (w1 : Int32) (w2 : Int32) (w3 : Int32) (w4 : Int32) (q1_w1 : (20 : Int) ≤ w1.toInt) (q2_w1 : w1.toInt ≤ (2147483647 : Int)) (q1_w2 : (0 : Int) ≤ w2.toInt) (q2_w2 : w2.toInt ≤ (17 : Int)) (q1_w3 : (100 : Int) ≤ w3.toInt) (q2_w3 : w3.toInt ≤ (2147483647 : Int))  : Met l yX9_set (.code yX9_set cX9_set 7 (some .int) :: lw_g) { frames := 2, cells := 0, slots := 0, locals := 44 } (va_Pc [.ref (b + 405), .int 0, .int w1, .int w2, .int w3, .int w4] (zx_w g σ)) (va_Qi (fun r u => r = 0 ∧ u = (ap b σ [(405, 0, 1)] [] [])) (zx_w g) (gx_Q g)) 0 0 (gx_Q g) := by
  refine z_met (by decide) (Nat.le_of_ble_eq_true rfl) (fun p e s m below meth c B hr hin => ?_)
  refine z_eqs (σ' := (ap b σ [] [] [])) rfl ?_
  show zx p l e _ s m _ below meth c g 7 0 0 _ _ 0 [(0, .ref (b + 405)), (1, .int 0), (2, .int w1), (3, .int w2), (4, .int w3), (5, .int w4)] []
  refine z_aload_n B dX9_set_0 rfl 0 rfl ?_
  refine z_iload_n B dX9_set_1 rfl 1 rfl ?_
  refine z_iload_n B dX9_set_2 rfl 2 rfl ?_
  refine z_cSi (As := [.int 0, .int w1]) (rest := [.ref (b + 405)]) B cw_X9_238 dX9_set_3 (ci_X9_isStep_114 l (σ := (ap b σ [] [] [])) (b := b) (lyA hK) w1 q1_w1 q2_w1) rfl (by decide) rfl (Nat.le_of_ble_eq_true rfl) (by decide) (fun r u hu => ?_)
  refine z_eqs (σ' := (ap b σ [] [] [])) hu.2 ?_
  show zx p l e _ s m _ below meth c g 7 0 0 _ _ 6 [(0, .ref (b + 405)), (1, .int 0), (2, .int w1), (3, .int w2), (4, .int w3), (5, .int w4)] _
  refine z_seti (y := 0) hu.1 ?_
  refine z_iload_n B dX9_set_6 rfl 3 rfl ?_
  refine z_iload B dX9_set_7 4 rfl ?_
  refine z_iload B dX9_set_9 5 rfl ?_
  refine z_cSi (As := [.int w2, .int w3, .int w4]) (rest := [.int 0, .ref (b + 405)]) B cw_X9_242 dX9_set_11 (ci_X9_isOperation_45 l (σ := (ap b σ [] [] [])) (b := b) (lyA hK) w2 w3 w4 q1_w2 q2_w2 q1_w3 q2_w3) rfl (by decide) rfl (Nat.le_of_ble_eq_true rfl) (by decide) (fun r u hu => ?_)
  refine z_eqs (σ' := (ap b σ [] [] [])) hu.2 ?_
  show zx p l e _ s m _ below meth c g 7 0 0 _ _ 14 [(0, .ref (b + 405)), (1, .int 0), (2, .int w1), (3, .int w2), (4, .int w3), (5, .int w4)] _
  refine z_seti (y := 0) hu.1 ?_
  refine z_cVi (As := [.int 0, .int 0]) (rest := []) B cw_X9_245 cx_10 dX9_set_14 (ci_X9_needs__29 l (σ := (ap b σ [] [] [])) (b := b) (lyA hK) ) (lKA (hk_K hK 405 rfl rfl)) rfl (by decide) rfl (Nat.le_of_ble_eq_true rfl) (by decide) (fun r u hu => ?_)
  refine z_eqs (σ' := (ap b σ [(405, 0, 1)] [] [])) (hu.2.trans ap_ap) ?_
  show zx p l e _ s m _ below meth c g 7 0 0 _ _ 17 [(0, .ref (b + 405)), (1, .int 0), (2, .int w1), (3, .int w2), (4, .int w3), (5, .int w4)] _
  refine z_seti (y := 0) hu.1 ?_
  refine z_if_ne (tgt := 22) B dX9_set_17 (by decide) (fun h => absurd (by decide) h) (fun _ => ?_)
  refine z_iconst (v := 0) B dX9_set_20 (by decide) ?_
  exact z_iret B hr (by decide) (by decide) dX9_set_21 ⟨rfl, rfl⟩
set_option maxRecDepth 100000 in
set_option maxHeartbeats 4000000 in
theorem ci_X9_set_121 (l : Launch) {g : gx_T} {σ : sx_T} {b : Nat} (hK : lay b σ) (w1 : Int32) (w2 : Int32) (w3 : Int32) (w4 : Int32) (q1_w1 : (20 : Int) ≤ w1.toInt) (q2_w1 : w1.toInt ≤ (2147483647 : Int)) (q1_w2 : (18 : Int) ≤ w2.toInt) (q2_w2 : w2.toInt ≤ (2147483647 : Int))  : Met l yX9_set (.code yX9_set cX9_set 7 (some .int) :: lw_g) { frames := 2, cells := 0, slots := 0, locals := 44 } (va_Pc [.ref (b + 405), .int 0, .int w1, .int w2, .int w3, .int w4] (zx_w g σ)) (va_Qi (fun r u => r = 0 ∧ u = (ap b σ [(405, 0, 1)] [] [])) (zx_w g) (gx_Q g)) 0 0 (gx_Q g) := by
  refine z_met (by decide) (Nat.le_of_ble_eq_true rfl) (fun p e s m below meth c B hr hin => ?_)
  refine z_eqs (σ' := (ap b σ [] [] [])) rfl ?_
  show zx p l e _ s m _ below meth c g 7 0 0 _ _ 0 [(0, .ref (b + 405)), (1, .int 0), (2, .int w1), (3, .int w2), (4, .int w3), (5, .int w4)] []
  refine z_aload_n B dX9_set_0 rfl 0 rfl ?_
  refine z_iload_n B dX9_set_1 rfl 1 rfl ?_
  refine z_iload_n B dX9_set_2 rfl 2 rfl ?_
  refine z_cSi (As := [.int 0, .int w1]) (rest := [.ref (b + 405)]) B cw_X9_238 dX9_set_3 (ci_X9_isStep_114 l (σ := (ap b σ [] [] [])) (b := b) (lyA hK) w1 q1_w1 q2_w1) rfl (by decide) rfl (Nat.le_of_ble_eq_true rfl) (by decide) (fun r u hu => ?_)
  refine z_eqs (σ' := (ap b σ [] [] [])) hu.2 ?_
  show zx p l e _ s m _ below meth c g 7 0 0 _ _ 6 [(0, .ref (b + 405)), (1, .int 0), (2, .int w1), (3, .int w2), (4, .int w3), (5, .int w4)] _
  refine z_seti (y := 0) hu.1 ?_
  refine z_iload_n B dX9_set_6 rfl 3 rfl ?_
  refine z_iload B dX9_set_7 4 rfl ?_
  refine z_iload B dX9_set_9 5 rfl ?_
  refine z_cSi (As := [.int w2, .int w3, .int w4]) (rest := [.int 0, .ref (b + 405)]) B cw_X9_242 dX9_set_11 (ci_X9_isOperation_48 l (σ := (ap b σ [] [] [])) (b := b) (lyA hK) w2 w3 w4 q1_w2 q2_w2) rfl (by decide) rfl (Nat.le_of_ble_eq_true rfl) (by decide) (fun r u hu => ?_)
  refine z_eqs (σ' := (ap b σ [] [] [])) hu.2 ?_
  show zx p l e _ s m _ below meth c g 7 0 0 _ _ 14 [(0, .ref (b + 405)), (1, .int 0), (2, .int w1), (3, .int w2), (4, .int w3), (5, .int w4)] _
  refine z_seti (y := 0) hu.1 ?_
  refine z_cVi (As := [.int 0, .int 0]) (rest := []) B cw_X9_245 cx_10 dX9_set_14 (ci_X9_needs__29 l (σ := (ap b σ [] [] [])) (b := b) (lyA hK) ) (lKA (hk_K hK 405 rfl rfl)) rfl (by decide) rfl (Nat.le_of_ble_eq_true rfl) (by decide) (fun r u hu => ?_)
  refine z_eqs (σ' := (ap b σ [(405, 0, 1)] [] [])) (hu.2.trans ap_ap) ?_
  show zx p l e _ s m _ below meth c g 7 0 0 _ _ 17 [(0, .ref (b + 405)), (1, .int 0), (2, .int w1), (3, .int w2), (4, .int w3), (5, .int w4)] _
  refine z_seti (y := 0) hu.1 ?_
  refine z_if_ne (tgt := 22) B dX9_set_17 (by decide) (fun h => absurd (by decide) h) (fun _ => ?_)
  refine z_iconst (v := 0) B dX9_set_20 (by decide) ?_
  exact z_iret B hr (by decide) (by decide) dX9_set_21 ⟨rfl, rfl⟩
set_option maxRecDepth 100000 in
set_option maxHeartbeats 4000000 in
theorem ci_X8_programAt_122 (l : Launch) {g : gx_T} {σ : sx_T} {b : Nat} (hK : lay b σ)   (hR_0_0 : sx_R σ (b + 0) 0 = (some (b + 1))) (hR_1_1 : sx_R σ (b + 1) 1 = (some (b + 13))) : Met l yX8_programAt (.code yX8_programAt cX8_programAt 2 (some (.object "Loomkeeper$Program")) :: lw_g) { frames := 0, cells := 0, slots := 0, locals := 0 } (va_Pc [.ref (b + 0), .int 1] (zx_w g σ)) (va_Qq (fun r u => r = (some (b + 13)) ∧ u = σ) (zx_w g) (gx_Q g)) 0 0 (gx_Q g) := by
  refine z_met (by decide) (Nat.le_of_ble_eq_true rfl) (fun p e s m below meth c B hr hin => ?_)
  refine z_eqs (σ' := (ap b σ [] [] [])) rfl ?_
  show zx p l e _ s m _ below meth c g 2 0 0 _ _ 0 [(0, .ref (b + 0)), (1, .int 1)] []
  refine z_iload_n B dX8_programAt_0 rfl 1 rfl ?_
  refine z_if_lt (tgt := 22) B dX8_programAt_1 (by decide) (fun h => absurd h (by decide)) (fun _ => ?_)
  refine z_iload_n B dX8_programAt_4 rfl 1 rfl ?_
  refine z_aload_n B dX8_programAt_5 rfl 0 rfl ?_
  refine gf_X8_11 (x := (some (b + 1))) B (lKA (hk_K hK 0 rfl rfl)) (rR_at 0 0 hR_0_0) dX8_programAt_6 ?_
  refine z_alen (kd := 16) (ti := 4) (v := 6) B (lKA (hk_K hK 1 rfl rfl)) (by decide) rfl (congrArg Int32.ofNat (lNA (hk_N hK 1 rfl rfl))) dX8_programAt_9 ?_
  refine z_icmp_ge (tgt := 22) B dX8_programAt_10 (by decide) (fun h => absurd h (by decide)) (fun _ => ?_)
  refine z_aload_n B dX8_programAt_13 rfl 0 rfl ?_
  refine gf_X8_11 (x := (some (b + 1))) B (lKA (hk_K hK 0 rfl rfl)) (rR_at 0 0 hR_0_0) dX8_programAt_14 ?_
  refine z_iload_n B dX8_programAt_17 rfl 1 rfl ?_
  refine z_qald (j := 1) (kd := 16) (ti := 4) (r := (some (b + 13))) B (lKA (hk_K hK 1 rfl rfl)) (by decide) rfl (by decide) (in_of (lNA (hk_N hK 1 rfl rfl)) (show ¬ ((1 : Int32) < 0 ∨ 6 ≤ (1 : Int32).toNatClampNeg) by decide)) (rR_at 1 1 hR_1_1) dX8_programAt_18 ?_
  refine z_goto (tgt := 23) B dX8_programAt_19 (by decide) ?_
  exact z_qret (r := (some (b + 13))) B hr (by decide) (by decide) dX8_programAt_23 ⟨rfl, rfl⟩
set_option maxRecDepth 100000 in
set_option maxHeartbeats 4000000 in
theorem ci_X8_set_123 (l : Launch) (hlt : l.stackTraces = false) {g : gx_T} {σ : sx_T} {b : Nat} (hK : lay b σ) (w1 : Int32) (w2 : Int32) (w3 : Int32) (w4 : Int32) (q1_w1 : (-2147483648 : Int) ≤ w1.toInt) (q2_w1 : w1.toInt ≤ (-1 : Int)) (hR_0_0 : sx_R σ (b + 0) 0 = (some (b + 1))) (hR_1_1 : sx_R σ (b + 1) 1 = (some (b + 13))) : vx_Met l yX8_set (.code yX8_set cX8_set 9 (some .int) :: lw_g) { frames := 7, cells := 1, slots := 6, locals := 136 } (va_Pc [.ref (b + 0), .int 1, .int w1, .int w2, .int w3, .int w4] (zx_w g σ)) (va_Qi (S := sx_T) (fun _ _ => False) (zx_w g) (gx_Q g)) (vx_X (fun u : sx_T => ∃ z, u = wx_Z σ z) (fun E u t => E = "java/lang/IndexOutOfBoundsException" ∧ zx_h g u t.heap) (gx_Q g)) 1 6 (gx_Q g) := by
  refine z_metX (by decide) (Nat.le_of_ble_eq_true rfl) (fun p e s m below meth c B hr hin hout => ?_)
  refine z_eqs (σ' := (ap b σ [] [] [])) rfl ?_
  show zx p l e _ s m _ below meth c g 9 0 0 _ _ 0 [(0, .ref (b + 0)), (1, .int 1), (2, .int w1), (3, .int w2), (4, .int w3), (5, .int w4)] []
  refine z_aload_n B dX8_set_0 rfl 0 rfl ?_
  refine z_iload_n B dX8_set_1 rfl 1 rfl ?_
  refine z_cVq (As := [.int 1]) (rest := []) B cw_X8_64 cx_9 dX8_set_2 (ci_X8_programAt_122 l (σ := (ap b σ [] [] [])) (b := b) (lyA hK) (rR_at 0 0 hR_0_0) (rR_at 1 1 hR_1_1)) (lKA (hk_K hK 0 rfl rfl)) rfl (by decide) rfl (Nat.le_of_ble_eq_true rfl) (by decide) (fun r u hu => ?_)
  refine z_eqs (σ' := (ap b σ [] [] [])) hu.2 ?_
  show zx p l e _ s m _ below meth c g 9 0 0 _ _ 5 [(0, .ref (b + 0)), (1, .int 1), (2, .int w1), (3, .int w2), (4, .int w3), (5, .int w4)] _
  refine z_setr (y := (some (b + 13))) hu.1 ?_
  refine z_astore (lv' := [(6, .ref (b + 13)), (0, .ref (b + 0)), (1, .int 1), (2, .int w1), (3, .int w2), (4, .int w3), (5, .int w4)]) B dX8_set_5 (by decide) rfl ?_
  refine z_aload B dX8_set_7 0 rfl ?_
  refine z_ifnull (r := (some (b + 13))) (tgt := 21) B dX8_set_9 (by decide) (fun h => nomatch h) (fun _ _ => ?_)
  refine z_iload_n B dX8_set_12 rfl 3 rfl ?_
  refine z_bipush (v := 20) B dX8_set_13 (by decide) ?_
  refine z_cSi (As := [.int w1, .int 20]) (rest := []) B cw_X8_68 dX8_set_15 (ci_X8_isBelow_51 l (σ := (ap b σ [] [] [])) (b := b) (lyA hK) w1 q1_w1 q2_w1) rfl (by decide) rfl (Nat.le_of_ble_eq_true rfl) (by decide) (fun r u hu => ?_)
  refine z_eqs (σ' := (ap b σ [] [] [])) hu.2 ?_
  show zx p l e _ s m _ below meth c g 9 0 0 _ _ 18 [(6, .ref (b + 13)), (0, .ref (b + 0)), (1, .int 1), (2, .int w1), (3, .int w2), (4, .int w3), (5, .int w4)] _
  refine z_seti (y := 0) hu.1 ?_
  refine z_if_ne (tgt := 31) B dX8_set_18 (by decide) (fun h => absurd (by decide) h) (fun _ => ?_)
  exact z_throw B hlt hout (cls := "java/lang/IndexOutOfBoundsException") (text := "no such step") tw_X8_72_74_76 dX8_set_21 dX8_set_24 dX8_set_25 dX8_set_27 dX8_set_30 (by decide) (by decide) (by decide) (by decide) (by decide) (by decide) (fun z => ⟨z, rfl⟩)
set_option maxRecDepth 100000 in
set_option maxHeartbeats 4000000 in
theorem ci_L_set_124 (l : Launch) (hlt : l.stackTraces = false) {g : gx_T} {σ : sx_T} {b : Nat} (hK : lay b σ) (w1 : Int32) (w2 : Int32) (w3 : Int32) (w4 : Int32) (q1_w1 : (-2147483648 : Int) ≤ w1.toInt) (q2_w1 : w1.toInt ≤ (-1 : Int)) (hR_0_0 : sx_R σ (b + 0) 0 = (some (b + 1))) (hR_1_1 : sx_R σ (b + 1) 1 = (some (b + 13))) : Met l yL_set (.codeWith yL_set cL_set 8 (some .int) [(0, 16, 19, 13), (0, 16, 23, 15)] :: lw_g) { frames := 8, cells := 1, slots := 6, locals := 164 } (va_Pc [.ref (b + 0), .int 1, .int w1, .int w2, .int w3, .int w4, .ref (b + 431)] (zx_w g σ)) (va_Qi (fun r u => r = 1 ∧ ∃ z, u = (ap b (wx_Z σ z) [] [] [])) (zx_w g) (gx_Q g)) 1 6 (gx_Q g) := by
  refine z_metW (by decide) (Nat.le_of_ble_eq_true rfl) (fun p e s m below meth c B hr htab => ?_)
  refine z_eqs (σ' := (ap b σ [] [] [])) rfl ?_
  show zx p l e _ s m _ below meth c g 8 0 0 _ _ 0 [(0, .ref (b + 0)), (1, .int 1), (2, .int w1), (3, .int w2), (4, .int w3), (5, .int w4), (6, .ref (b + 431))] []
  refine z_aload B dL_set_0 6 rfl ?_
  refine z_iconst (v := 0) B dL_set_2 (by decide) ?_
  refine z_aload_n B dL_set_3 rfl 0 rfl ?_
  refine z_iload_n B dL_set_4 rfl 1 rfl ?_
  refine z_iload_n B dL_set_5 rfl 2 rfl ?_
  refine z_iload_n B dL_set_6 rfl 3 rfl ?_
  refine z_iload B dL_set_7 4 rfl ?_
  refine z_iload B dL_set_9 5 rfl ?_
  refine z_cXi (As := [.int 1, .int w1, .int w2, .int w3, .int w4]) (rest := [.int 0, .ref (b + 431)]) B htab tc_set_11_IndexOutOfBoundsException cw_L_7 cx_9 dL_set_11 (ci_X8_set_123 l hlt (σ := (ap b σ [] [] [])) (b := b) (lyA hK) w1 w2 w3 w4 q1_w1 q2_w1 (rR_at 0 0 hR_0_0) (rR_at 1 1 hR_1_1)) (lKA (hk_K hK 0 rfl rfl)) rfl (by decide) rfl (Nat.le_of_ble_eq_true rfl) (by decide) (fun z q => ?_)
  refine z_eqs (σ' := (ap b (wx_Z σ z) [] [] [])) rfl ?_
  show zx p l e _ s m _ below meth c g 8 _ _ _ _ 19 [(0, .ref (b + 0)), (1, .int 1), (2, .int w1), (3, .int w2), (4, .int w3), (5, .int w4), (6, .ref (b + 431))] _
  refine z_astore (lv' := [(7, .ref q), (0, .ref (b + 0)), (1, .int 1), (2, .int w1), (3, .int w2), (4, .int w3), (5, .int w4), (6, .ref (b + 431))]) B dL_set_19 (by decide) rfl ?_
  refine z_iconst (v := 1) B dL_set_21 (by decide) ?_
  exact z_iret B hr (by decide) (by decide) dL_set_22 ⟨rfl, _, rfl⟩
set_option maxRecDepth 100000 in
set_option maxHeartbeats 4000000 in
theorem ci_X9_in_125 (l : Launch) {g : gx_T} {σ : sx_T} {b : Nat} (hK : lay b σ)    : Met l yX9_in (.code yX9_in cX9_in 3 (some .boolean) :: lw_g) { frames := 0, cells := 0, slots := 0, locals := 0 } (va_Pc [.int 1, .int 0, .int 5] (zx_w g σ)) (va_Qi (fun r u => r = 1 ∧ u = σ) (zx_w g) (gx_Q g)) 0 0 (gx_Q g) := by
  refine z_met (by decide) (Nat.le_of_ble_eq_true rfl) (fun p e s m below meth c B hr hin => ?_)
  refine z_eqs (σ' := (ap b σ [] [] [])) rfl ?_
  show zx p l e _ s m _ below meth c g 3 0 0 _ _ 0 [(0, .int 1), (1, .int 0), (2, .int 5)] []
  refine z_iload_n B dX9_in_0 rfl 0 rfl ?_
  refine z_iload_n B dX9_in_1 rfl 1 rfl ?_
  refine z_icmp_lt (tgt := 14) B dX9_in_2 (by decide) (fun h => absurd h (by decide)) (fun _ => ?_)
  refine z_iload_n B dX9_in_5 rfl 0 rfl ?_
  refine z_iload_n B dX9_in_6 rfl 2 rfl ?_
  refine z_icmp_gt (tgt := 14) B dX9_in_7 (by decide) (fun h => absurd h (by decide)) (fun _ => ?_)
  refine z_iconst (v := 1) B dX9_in_10 (by decide) ?_
  refine z_goto (tgt := 15) B dX9_in_11 (by decide) ?_
  exact z_zret B hr (by decide) (by decide) (by decide) dX9_in_15 ⟨rfl, rfl⟩
set_option maxRecDepth 100000 in
set_option maxHeartbeats 4000000 in
theorem ci_X9_isStep_126 (l : Launch) {g : gx_T} {σ : sx_T} {b : Nat} (hK : lay b σ) (w1 : Int32) (q1_w1 : (-2147483648 : Int) ≤ w1.toInt) (q2_w1 : w1.toInt ≤ (-1 : Int))  : Met l yX9_isStep (.code yX9_isStep cX9_isStep 2 (some .boolean) :: lw_g) { frames := 1, cells := 0, slots := 0, locals := 22 } (va_Pc [.int 1, .int w1] (zx_w g σ)) (va_Qi (fun r u => r = 0 ∧ u = σ) (zx_w g) (gx_Q g)) 0 0 (gx_Q g) := by
  refine z_met (by decide) (Nat.le_of_ble_eq_true rfl) (fun p e s m below meth c B hr hin => ?_)
  refine z_eqs (σ' := (ap b σ [] [] [])) rfl ?_
  show zx p l e _ s m _ below meth c g 2 0 0 _ _ 0 [(0, .int 1), (1, .int w1)] []
  refine z_iload_n B dX9_isStep_0 rfl 0 rfl ?_
  refine z_iconst (v := 0) B dX9_isStep_1 (by decide) ?_
  refine z_iconst (v := 5) B dX9_isStep_2 (by decide) ?_
  refine z_cSi (As := [.int 1, .int 0, .int 5]) (rest := []) B cw_X9_96 dX9_isStep_3 (ci_X9_in_125 l (σ := (ap b σ [] [] [])) (b := b) (lyA hK) ) rfl (by decide) rfl (Nat.le_of_ble_eq_true rfl) (by decide) (fun r u hu => ?_)
  refine z_eqs (σ' := (ap b σ [] [] [])) hu.2 ?_
  show zx p l e _ s m _ below meth c g 2 0 0 _ _ 6 [(0, .int 1), (1, .int w1)] _
  refine z_seti (y := 1) hu.1 ?_
  refine z_if_eq (tgt := 23) B dX9_isStep_6 (by decide) (fun h => absurd h (by decide)) (fun _ => ?_)
  refine z_iload_n B dX9_isStep_9 rfl 1 rfl ?_
  refine z_iconst (v := 0) B dX9_isStep_10 (by decide) ?_
  refine z_bipush (v := 19) B dX9_isStep_11 (by decide) ?_
  refine z_cSi (As := [.int w1, .int 0, .int 19]) (rest := []) B cw_X9_96 dX9_isStep_13 (ci_X9_in_55 l (σ := (ap b σ [] [] [])) (b := b) (lyA hK) w1 q1_w1 q2_w1) rfl (by decide) rfl (Nat.le_of_ble_eq_true rfl) (by decide) (fun r u hu => ?_)
  refine z_eqs (σ' := (ap b σ [] [] [])) hu.2 ?_
  show zx p l e _ s m _ below meth c g 2 0 0 _ _ 16 [(0, .int 1), (1, .int w1)] _
  refine z_seti (y := 0) hu.1 ?_
  refine z_if_eq (tgt := 23) B dX9_isStep_16 (by decide) (fun _ => ?_) (fun h => absurd (by decide) h)
  refine z_iconst (v := 0) B dX9_isStep_23 (by decide) ?_
  exact z_zret B hr (by decide) (by decide) (by decide) dX9_isStep_24 ⟨rfl, rfl⟩
set_option maxRecDepth 100000 in
set_option maxHeartbeats 4000000 in
theorem ci_X9_set_127 (l : Launch) {g : gx_T} {σ : sx_T} {b : Nat} (hK : lay b σ) (w1 : Int32) (w2 : Int32) (w3 : Int32) (w4 : Int32) (q1_w1 : (-2147483648 : Int) ≤ w1.toInt) (q2_w1 : w1.toInt ≤ (-1 : Int)) (q1_w2 : (-2147483648 : Int) ≤ w2.toInt) (q2_w2 : w2.toInt ≤ (-1 : Int))  : Met l yX9_set (.code yX9_set cX9_set 7 (some .int) :: lw_g) { frames := 2, cells := 0, slots := 0, locals := 44 } (va_Pc [.ref (b + 405), .int 1, .int w1, .int w2, .int w3, .int w4] (zx_w g σ)) (va_Qi (fun r u => r = 0 ∧ u = (ap b σ [(405, 0, 1)] [] [])) (zx_w g) (gx_Q g)) 0 0 (gx_Q g) := by
  refine z_met (by decide) (Nat.le_of_ble_eq_true rfl) (fun p e s m below meth c B hr hin => ?_)
  refine z_eqs (σ' := (ap b σ [] [] [])) rfl ?_
  show zx p l e _ s m _ below meth c g 7 0 0 _ _ 0 [(0, .ref (b + 405)), (1, .int 1), (2, .int w1), (3, .int w2), (4, .int w3), (5, .int w4)] []
  refine z_aload_n B dX9_set_0 rfl 0 rfl ?_
  refine z_iload_n B dX9_set_1 rfl 1 rfl ?_
  refine z_iload_n B dX9_set_2 rfl 2 rfl ?_
  refine z_cSi (As := [.int 1, .int w1]) (rest := [.ref (b + 405)]) B cw_X9_238 dX9_set_3 (ci_X9_isStep_126 l (σ := (ap b σ [] [] [])) (b := b) (lyA hK) w1 q1_w1 q2_w1) rfl (by decide) rfl (Nat.le_of_ble_eq_true rfl) (by decide) (fun r u hu => ?_)
  refine z_eqs (σ' := (ap b σ [] [] [])) hu.2 ?_
  show zx p l e _ s m _ below meth c g 7 0 0 _ _ 6 [(0, .ref (b + 405)), (1, .int 1), (2, .int w1), (3, .int w2), (4, .int w3), (5, .int w4)] _
  refine z_seti (y := 0) hu.1 ?_
  refine z_iload_n B dX9_set_6 rfl 3 rfl ?_
  refine z_iload B dX9_set_7 4 rfl ?_
  refine z_iload B dX9_set_9 5 rfl ?_
  refine z_cSi (As := [.int w2, .int w3, .int w4]) (rest := [.int 0, .ref (b + 405)]) B cw_X9_242 dX9_set_11 (ci_X9_isOperation_28 l (σ := (ap b σ [] [] [])) (b := b) (lyA hK) w2 w3 w4 q1_w2 q2_w2) rfl (by decide) rfl (Nat.le_of_ble_eq_true rfl) (by decide) (fun r u hu => ?_)
  refine z_eqs (σ' := (ap b σ [] [] [])) hu.2 ?_
  show zx p l e _ s m _ below meth c g 7 0 0 _ _ 14 [(0, .ref (b + 405)), (1, .int 1), (2, .int w1), (3, .int w2), (4, .int w3), (5, .int w4)] _
  refine z_seti (y := 0) hu.1 ?_
  refine z_cVi (As := [.int 0, .int 0]) (rest := []) B cw_X9_245 cx_10 dX9_set_14 (ci_X9_needs__29 l (σ := (ap b σ [] [] [])) (b := b) (lyA hK) ) (lKA (hk_K hK 405 rfl rfl)) rfl (by decide) rfl (Nat.le_of_ble_eq_true rfl) (by decide) (fun r u hu => ?_)
  refine z_eqs (σ' := (ap b σ [(405, 0, 1)] [] [])) (hu.2.trans ap_ap) ?_
  show zx p l e _ s m _ below meth c g 7 0 0 _ _ 17 [(0, .ref (b + 405)), (1, .int 1), (2, .int w1), (3, .int w2), (4, .int w3), (5, .int w4)] _
  refine z_seti (y := 0) hu.1 ?_
  refine z_if_ne (tgt := 22) B dX9_set_17 (by decide) (fun h => absurd (by decide) h) (fun _ => ?_)
  refine z_iconst (v := 0) B dX9_set_20 (by decide) ?_
  exact z_iret B hr (by decide) (by decide) dX9_set_21 ⟨rfl, rfl⟩
set_option maxRecDepth 100000 in
set_option maxHeartbeats 4000000 in
theorem ci_X9_set_128 (l : Launch) {g : gx_T} {σ : sx_T} {b : Nat} (hK : lay b σ) (w1 : Int32) (w2 : Int32) (w3 : Int32) (w4 : Int32) (q1_w1 : (-2147483648 : Int) ≤ w1.toInt) (q2_w1 : w1.toInt ≤ (-1 : Int)) (q1_w2 : (0 : Int) ≤ w2.toInt) (q2_w2 : w2.toInt ≤ (17 : Int)) (q1_w3 : (-2147483648 : Int) ≤ w3.toInt) (q2_w3 : w3.toInt ≤ (-1 : Int))  : Met l yX9_set (.code yX9_set cX9_set 7 (some .int) :: lw_g) { frames := 2, cells := 0, slots := 0, locals := 44 } (va_Pc [.ref (b + 405), .int 1, .int w1, .int w2, .int w3, .int w4] (zx_w g σ)) (va_Qi (fun r u => r = 0 ∧ u = (ap b σ [(405, 0, 1)] [] [])) (zx_w g) (gx_Q g)) 0 0 (gx_Q g) := by
  refine z_met (by decide) (Nat.le_of_ble_eq_true rfl) (fun p e s m below meth c B hr hin => ?_)
  refine z_eqs (σ' := (ap b σ [] [] [])) rfl ?_
  show zx p l e _ s m _ below meth c g 7 0 0 _ _ 0 [(0, .ref (b + 405)), (1, .int 1), (2, .int w1), (3, .int w2), (4, .int w3), (5, .int w4)] []
  refine z_aload_n B dX9_set_0 rfl 0 rfl ?_
  refine z_iload_n B dX9_set_1 rfl 1 rfl ?_
  refine z_iload_n B dX9_set_2 rfl 2 rfl ?_
  refine z_cSi (As := [.int 1, .int w1]) (rest := [.ref (b + 405)]) B cw_X9_238 dX9_set_3 (ci_X9_isStep_126 l (σ := (ap b σ [] [] [])) (b := b) (lyA hK) w1 q1_w1 q2_w1) rfl (by decide) rfl (Nat.le_of_ble_eq_true rfl) (by decide) (fun r u hu => ?_)
  refine z_eqs (σ' := (ap b σ [] [] [])) hu.2 ?_
  show zx p l e _ s m _ below meth c g 7 0 0 _ _ 6 [(0, .ref (b + 405)), (1, .int 1), (2, .int w1), (3, .int w2), (4, .int w3), (5, .int w4)] _
  refine z_seti (y := 0) hu.1 ?_
  refine z_iload_n B dX9_set_6 rfl 3 rfl ?_
  refine z_iload B dX9_set_7 4 rfl ?_
  refine z_iload B dX9_set_9 5 rfl ?_
  refine z_cSi (As := [.int w2, .int w3, .int w4]) (rest := [.int 0, .ref (b + 405)]) B cw_X9_242 dX9_set_11 (ci_X9_isOperation_34 l (σ := (ap b σ [] [] [])) (b := b) (lyA hK) w2 w3 w4 q1_w2 q2_w2 q1_w3 q2_w3) rfl (by decide) rfl (Nat.le_of_ble_eq_true rfl) (by decide) (fun r u hu => ?_)
  refine z_eqs (σ' := (ap b σ [] [] [])) hu.2 ?_
  show zx p l e _ s m _ below meth c g 7 0 0 _ _ 14 [(0, .ref (b + 405)), (1, .int 1), (2, .int w1), (3, .int w2), (4, .int w3), (5, .int w4)] _
  refine z_seti (y := 0) hu.1 ?_
  refine z_cVi (As := [.int 0, .int 0]) (rest := []) B cw_X9_245 cx_10 dX9_set_14 (ci_X9_needs__29 l (σ := (ap b σ [] [] [])) (b := b) (lyA hK) ) (lKA (hk_K hK 405 rfl rfl)) rfl (by decide) rfl (Nat.le_of_ble_eq_true rfl) (by decide) (fun r u hu => ?_)
  refine z_eqs (σ' := (ap b σ [(405, 0, 1)] [] [])) (hu.2.trans ap_ap) ?_
  show zx p l e _ s m _ below meth c g 7 0 0 _ _ 17 [(0, .ref (b + 405)), (1, .int 1), (2, .int w1), (3, .int w2), (4, .int w3), (5, .int w4)] _
  refine z_seti (y := 0) hu.1 ?_
  refine z_if_ne (tgt := 22) B dX9_set_17 (by decide) (fun h => absurd (by decide) h) (fun _ => ?_)
  refine z_iconst (v := 0) B dX9_set_20 (by decide) ?_
  exact z_iret B hr (by decide) (by decide) dX9_set_21 ⟨rfl, rfl⟩
set_option maxRecDepth 100000 in
set_option maxHeartbeats 4000000 in
theorem ci_X9_set_129 (l : Launch) {g : gx_T} {σ : sx_T} {b : Nat} (hK : lay b σ) (w1 : Int32) (w2 : Int32) (w3 : Int32) (w4 : Int32) (q1_w1 : (-2147483648 : Int) ≤ w1.toInt) (q2_w1 : w1.toInt ≤ (-1 : Int)) (q1_w2 : (0 : Int) ≤ w2.toInt) (q2_w2 : w2.toInt ≤ (17 : Int)) (q1_w3 : (0 : Int) ≤ w3.toInt) (q2_w3 : w3.toInt ≤ (99 : Int)) (q1_w4 : (-2147483648 : Int) ≤ w4.toInt) (q2_w4 : w4.toInt ≤ (-1 : Int))  : Met l yX9_set (.code yX9_set cX9_set 7 (some .int) :: lw_g) { frames := 2, cells := 0, slots := 0, locals := 44 } (va_Pc [.ref (b + 405), .int 1, .int w1, .int w2, .int w3, .int w4] (zx_w g σ)) (va_Qi (fun r u => r = 0 ∧ u = (ap b σ [(405, 0, 1)] [] [])) (zx_w g) (gx_Q g)) 0 0 (gx_Q g) := by
  refine z_met (by decide) (Nat.le_of_ble_eq_true rfl) (fun p e s m below meth c B hr hin => ?_)
  refine z_eqs (σ' := (ap b σ [] [] [])) rfl ?_
  show zx p l e _ s m _ below meth c g 7 0 0 _ _ 0 [(0, .ref (b + 405)), (1, .int 1), (2, .int w1), (3, .int w2), (4, .int w3), (5, .int w4)] []
  refine z_aload_n B dX9_set_0 rfl 0 rfl ?_
  refine z_iload_n B dX9_set_1 rfl 1 rfl ?_
  refine z_iload_n B dX9_set_2 rfl 2 rfl ?_
  refine z_cSi (As := [.int 1, .int w1]) (rest := [.ref (b + 405)]) B cw_X9_238 dX9_set_3 (ci_X9_isStep_126 l (σ := (ap b σ [] [] [])) (b := b) (lyA hK) w1 q1_w1 q2_w1) rfl (by decide) rfl (Nat.le_of_ble_eq_true rfl) (by decide) (fun r u hu => ?_)
  refine z_eqs (σ' := (ap b σ [] [] [])) hu.2 ?_
  show zx p l e _ s m _ below meth c g 7 0 0 _ _ 6 [(0, .ref (b + 405)), (1, .int 1), (2, .int w1), (3, .int w2), (4, .int w3), (5, .int w4)] _
  refine z_seti (y := 0) hu.1 ?_
  refine z_iload_n B dX9_set_6 rfl 3 rfl ?_
  refine z_iload B dX9_set_7 4 rfl ?_
  refine z_iload B dX9_set_9 5 rfl ?_
  refine z_cSi (As := [.int w2, .int w3, .int w4]) (rest := [.int 0, .ref (b + 405)]) B cw_X9_242 dX9_set_11 (ci_X9_isOperation_37 l (σ := (ap b σ [] [] [])) (b := b) (lyA hK) w2 w3 w4 q1_w2 q2_w2 q1_w3 q2_w3 q1_w4 q2_w4) rfl (by decide) rfl (Nat.le_of_ble_eq_true rfl) (by decide) (fun r u hu => ?_)
  refine z_eqs (σ' := (ap b σ [] [] [])) hu.2 ?_
  show zx p l e _ s m _ below meth c g 7 0 0 _ _ 14 [(0, .ref (b + 405)), (1, .int 1), (2, .int w1), (3, .int w2), (4, .int w3), (5, .int w4)] _
  refine z_seti (y := 0) hu.1 ?_
  refine z_cVi (As := [.int 0, .int 0]) (rest := []) B cw_X9_245 cx_10 dX9_set_14 (ci_X9_needs__29 l (σ := (ap b σ [] [] [])) (b := b) (lyA hK) ) (lKA (hk_K hK 405 rfl rfl)) rfl (by decide) rfl (Nat.le_of_ble_eq_true rfl) (by decide) (fun r u hu => ?_)
  refine z_eqs (σ' := (ap b σ [(405, 0, 1)] [] [])) (hu.2.trans ap_ap) ?_
  show zx p l e _ s m _ below meth c g 7 0 0 _ _ 17 [(0, .ref (b + 405)), (1, .int 1), (2, .int w1), (3, .int w2), (4, .int w3), (5, .int w4)] _
  refine z_seti (y := 0) hu.1 ?_
  refine z_if_ne (tgt := 22) B dX9_set_17 (by decide) (fun h => absurd (by decide) h) (fun _ => ?_)
  refine z_iconst (v := 0) B dX9_set_20 (by decide) ?_
  exact z_iret B hr (by decide) (by decide) dX9_set_21 ⟨rfl, rfl⟩
set_option maxRecDepth 100000 in
set_option maxHeartbeats 4000000 in
theorem ci_X9_set_130 (l : Launch) {g : gx_T} {σ : sx_T} {b : Nat} (hK : lay b σ) (w1 : Int32) (w2 : Int32) (w3 : Int32) (w4 : Int32) (q1_w1 : (-2147483648 : Int) ≤ w1.toInt) (q2_w1 : w1.toInt ≤ (-1 : Int)) (q1_w2 : (0 : Int) ≤ w2.toInt) (q2_w2 : w2.toInt ≤ (17 : Int)) (q1_w3 : (0 : Int) ≤ w3.toInt) (q2_w3 : w3.toInt ≤ (99 : Int)) (q1_w4 : (0 : Int) ≤ w4.toInt) (q2_w4 : w4.toInt ≤ (99 : Int))  : Met l yX9_set (.code yX9_set cX9_set 7 (some .int) :: lw_g) { frames := 2, cells := 0, slots := 0, locals := 44 } (va_Pc [.ref (b + 405), .int 1, .int w1, .int w2, .int w3, .int w4] (zx_w g σ)) (va_Qi (fun r u => r = 0 ∧ u = (ap b σ [(405, 0, 1)] [] [])) (zx_w g) (gx_Q g)) 0 0 (gx_Q g) := by
  refine z_met (by decide) (Nat.le_of_ble_eq_true rfl) (fun p e s m below meth c B hr hin => ?_)
  refine z_eqs (σ' := (ap b σ [] [] [])) rfl ?_
  show zx p l e _ s m _ below meth c g 7 0 0 _ _ 0 [(0, .ref (b + 405)), (1, .int 1), (2, .int w1), (3, .int w2), (4, .int w3), (5, .int w4)] []
  refine z_aload_n B dX9_set_0 rfl 0 rfl ?_
  refine z_iload_n B dX9_set_1 rfl 1 rfl ?_
  refine z_iload_n B dX9_set_2 rfl 2 rfl ?_
  refine z_cSi (As := [.int 1, .int w1]) (rest := [.ref (b + 405)]) B cw_X9_238 dX9_set_3 (ci_X9_isStep_126 l (σ := (ap b σ [] [] [])) (b := b) (lyA hK) w1 q1_w1 q2_w1) rfl (by decide) rfl (Nat.le_of_ble_eq_true rfl) (by decide) (fun r u hu => ?_)
  refine z_eqs (σ' := (ap b σ [] [] [])) hu.2 ?_
  show zx p l e _ s m _ below meth c g 7 0 0 _ _ 6 [(0, .ref (b + 405)), (1, .int 1), (2, .int w1), (3, .int w2), (4, .int w3), (5, .int w4)] _
  refine z_seti (y := 0) hu.1 ?_
  refine z_iload_n B dX9_set_6 rfl 3 rfl ?_
  refine z_iload B dX9_set_7 4 rfl ?_
  refine z_iload B dX9_set_9 5 rfl ?_
  refine z_cSi (As := [.int w2, .int w3, .int w4]) (rest := [.int 0, .ref (b + 405)]) B cw_X9_242 dX9_set_11 (ci_X9_isOperation_39 l (σ := (ap b σ [] [] [])) (b := b) (lyA hK) w2 w3 w4 q1_w2 q2_w2 q1_w3 q2_w3 q1_w4 q2_w4) rfl (by decide) rfl (Nat.le_of_ble_eq_true rfl) (by decide) (fun r u hu => ?_)
  refine z_eqs (σ' := (ap b σ [] [] [])) hu.2 ?_
  show zx p l e _ s m _ below meth c g 7 0 0 _ _ 14 [(0, .ref (b + 405)), (1, .int 1), (2, .int w1), (3, .int w2), (4, .int w3), (5, .int w4)] _
  refine z_seti (y := 1) hu.1 ?_
  refine z_cVi (As := [.int 0, .int 1]) (rest := []) B cw_X9_245 cx_10 dX9_set_14 (ci_X9_needs__40 l (σ := (ap b σ [] [] [])) (b := b) (lyA hK) ) (lKA (hk_K hK 405 rfl rfl)) rfl (by decide) rfl (Nat.le_of_ble_eq_true rfl) (by decide) (fun r u hu => ?_)
  refine z_eqs (σ' := (ap b σ [(405, 0, 1)] [] [])) (hu.2.trans ap_ap) ?_
  show zx p l e _ s m _ below meth c g 7 0 0 _ _ 17 [(0, .ref (b + 405)), (1, .int 1), (2, .int w1), (3, .int w2), (4, .int w3), (5, .int w4)] _
  refine z_seti (y := 0) hu.1 ?_
  refine z_if_ne (tgt := 22) B dX9_set_17 (by decide) (fun h => absurd (by decide) h) (fun _ => ?_)
  refine z_iconst (v := 0) B dX9_set_20 (by decide) ?_
  exact z_iret B hr (by decide) (by decide) dX9_set_21 ⟨rfl, rfl⟩
set_option maxRecDepth 100000 in
set_option maxHeartbeats 4000000 in
theorem ci_X9_set_131 (l : Launch) {g : gx_T} {σ : sx_T} {b : Nat} (hK : lay b σ) (w1 : Int32) (w2 : Int32) (w3 : Int32) (w4 : Int32) (q1_w1 : (-2147483648 : Int) ≤ w1.toInt) (q2_w1 : w1.toInt ≤ (-1 : Int)) (q1_w2 : (0 : Int) ≤ w2.toInt) (q2_w2 : w2.toInt ≤ (17 : Int)) (q1_w3 : (0 : Int) ≤ w3.toInt) (q2_w3 : w3.toInt ≤ (99 : Int)) (q1_w4 : (100 : Int) ≤ w4.toInt) (q2_w4 : w4.toInt ≤ (2147483647 : Int))  : Met l yX9_set (.code yX9_set cX9_set 7 (some .int) :: lw_g) { frames := 2, cells := 0, slots := 0, locals := 44 } (va_Pc [.ref (b + 405), .int 1, .int w1, .int w2, .int w3, .int w4] (zx_w g σ)) (va_Qi (fun r u => r = 0 ∧ u = (ap b σ [(405, 0, 1)] [] [])) (zx_w g) (gx_Q g)) 0 0 (gx_Q g) := by
  refine z_met (by decide) (Nat.le_of_ble_eq_true rfl) (fun p e s m below meth c B hr hin => ?_)
  refine z_eqs (σ' := (ap b σ [] [] [])) rfl ?_
  show zx p l e _ s m _ below meth c g 7 0 0 _ _ 0 [(0, .ref (b + 405)), (1, .int 1), (2, .int w1), (3, .int w2), (4, .int w3), (5, .int w4)] []
  refine z_aload_n B dX9_set_0 rfl 0 rfl ?_
  refine z_iload_n B dX9_set_1 rfl 1 rfl ?_
  refine z_iload_n B dX9_set_2 rfl 2 rfl ?_
  refine z_cSi (As := [.int 1, .int w1]) (rest := [.ref (b + 405)]) B cw_X9_238 dX9_set_3 (ci_X9_isStep_126 l (σ := (ap b σ [] [] [])) (b := b) (lyA hK) w1 q1_w1 q2_w1) rfl (by decide) rfl (Nat.le_of_ble_eq_true rfl) (by decide) (fun r u hu => ?_)
  refine z_eqs (σ' := (ap b σ [] [] [])) hu.2 ?_
  show zx p l e _ s m _ below meth c g 7 0 0 _ _ 6 [(0, .ref (b + 405)), (1, .int 1), (2, .int w1), (3, .int w2), (4, .int w3), (5, .int w4)] _
  refine z_seti (y := 0) hu.1 ?_
  refine z_iload_n B dX9_set_6 rfl 3 rfl ?_
  refine z_iload B dX9_set_7 4 rfl ?_
  refine z_iload B dX9_set_9 5 rfl ?_
  refine z_cSi (As := [.int w2, .int w3, .int w4]) (rest := [.int 0, .ref (b + 405)]) B cw_X9_242 dX9_set_11 (ci_X9_isOperation_43 l (σ := (ap b σ [] [] [])) (b := b) (lyA hK) w2 w3 w4 q1_w2 q2_w2 q1_w3 q2_w3 q1_w4 q2_w4) rfl (by decide) rfl (Nat.le_of_ble_eq_true rfl) (by decide) (fun r u hu => ?_)
  refine z_eqs (σ' := (ap b σ [] [] [])) hu.2 ?_
  show zx p l e _ s m _ below meth c g 7 0 0 _ _ 14 [(0, .ref (b + 405)), (1, .int 1), (2, .int w1), (3, .int w2), (4, .int w3), (5, .int w4)] _
  refine z_seti (y := 0) hu.1 ?_
  refine z_cVi (As := [.int 0, .int 0]) (rest := []) B cw_X9_245 cx_10 dX9_set_14 (ci_X9_needs__29 l (σ := (ap b σ [] [] [])) (b := b) (lyA hK) ) (lKA (hk_K hK 405 rfl rfl)) rfl (by decide) rfl (Nat.le_of_ble_eq_true rfl) (by decide) (fun r u hu => ?_)
  refine z_eqs (σ' := (ap b σ [(405, 0, 1)] [] [])) (hu.2.trans ap_ap) ?_
  show zx p l e _ s m _ below meth c g 7 0 0 _ _ 17 [(0, .ref (b + 405)), (1, .int 1), (2, .int w1), (3, .int w2), (4, .int w3), (5, .int w4)] _
  refine z_seti (y := 0) hu.1 ?_
  refine z_if_ne (tgt := 22) B dX9_set_17 (by decide) (fun h => absurd (by decide) h) (fun _ => ?_)
  refine z_iconst (v := 0) B dX9_set_20 (by decide) ?_
  exact z_iret B hr (by decide) (by decide) dX9_set_21 ⟨rfl, rfl⟩
set_option maxRecDepth 100000 in
set_option maxHeartbeats 4000000 in
theorem ci_X9_set_132 (l : Launch) {g : gx_T} {σ : sx_T} {b : Nat} (hK : lay b σ) (w1 : Int32) (w2 : Int32) (w3 : Int32) (w4 : Int32) (q1_w1 : (-2147483648 : Int) ≤ w1.toInt) (q2_w1 : w1.toInt ≤ (-1 : Int)) (q1_w2 : (0 : Int) ≤ w2.toInt) (q2_w2 : w2.toInt ≤ (17 : Int)) (q1_w3 : (100 : Int) ≤ w3.toInt) (q2_w3 : w3.toInt ≤ (2147483647 : Int))  : Met l yX9_set (.code yX9_set cX9_set 7 (some .int) :: lw_g) { frames := 2, cells := 0, slots := 0, locals := 44 } (va_Pc [.ref (b + 405), .int 1, .int w1, .int w2, .int w3, .int w4] (zx_w g σ)) (va_Qi (fun r u => r = 0 ∧ u = (ap b σ [(405, 0, 1)] [] [])) (zx_w g) (gx_Q g)) 0 0 (gx_Q g) := by
  refine z_met (by decide) (Nat.le_of_ble_eq_true rfl) (fun p e s m below meth c B hr hin => ?_)
  refine z_eqs (σ' := (ap b σ [] [] [])) rfl ?_
  show zx p l e _ s m _ below meth c g 7 0 0 _ _ 0 [(0, .ref (b + 405)), (1, .int 1), (2, .int w1), (3, .int w2), (4, .int w3), (5, .int w4)] []
  refine z_aload_n B dX9_set_0 rfl 0 rfl ?_
  refine z_iload_n B dX9_set_1 rfl 1 rfl ?_
  refine z_iload_n B dX9_set_2 rfl 2 rfl ?_
  refine z_cSi (As := [.int 1, .int w1]) (rest := [.ref (b + 405)]) B cw_X9_238 dX9_set_3 (ci_X9_isStep_126 l (σ := (ap b σ [] [] [])) (b := b) (lyA hK) w1 q1_w1 q2_w1) rfl (by decide) rfl (Nat.le_of_ble_eq_true rfl) (by decide) (fun r u hu => ?_)
  refine z_eqs (σ' := (ap b σ [] [] [])) hu.2 ?_
  show zx p l e _ s m _ below meth c g 7 0 0 _ _ 6 [(0, .ref (b + 405)), (1, .int 1), (2, .int w1), (3, .int w2), (4, .int w3), (5, .int w4)] _
  refine z_seti (y := 0) hu.1 ?_
  refine z_iload_n B dX9_set_6 rfl 3 rfl ?_
  refine z_iload B dX9_set_7 4 rfl ?_
  refine z_iload B dX9_set_9 5 rfl ?_
  refine z_cSi (As := [.int w2, .int w3, .int w4]) (rest := [.int 0, .ref (b + 405)]) B cw_X9_242 dX9_set_11 (ci_X9_isOperation_45 l (σ := (ap b σ [] [] [])) (b := b) (lyA hK) w2 w3 w4 q1_w2 q2_w2 q1_w3 q2_w3) rfl (by decide) rfl (Nat.le_of_ble_eq_true rfl) (by decide) (fun r u hu => ?_)
  refine z_eqs (σ' := (ap b σ [] [] [])) hu.2 ?_
  show zx p l e _ s m _ below meth c g 7 0 0 _ _ 14 [(0, .ref (b + 405)), (1, .int 1), (2, .int w1), (3, .int w2), (4, .int w3), (5, .int w4)] _
  refine z_seti (y := 0) hu.1 ?_
  refine z_cVi (As := [.int 0, .int 0]) (rest := []) B cw_X9_245 cx_10 dX9_set_14 (ci_X9_needs__29 l (σ := (ap b σ [] [] [])) (b := b) (lyA hK) ) (lKA (hk_K hK 405 rfl rfl)) rfl (by decide) rfl (Nat.le_of_ble_eq_true rfl) (by decide) (fun r u hu => ?_)
  refine z_eqs (σ' := (ap b σ [(405, 0, 1)] [] [])) (hu.2.trans ap_ap) ?_
  show zx p l e _ s m _ below meth c g 7 0 0 _ _ 17 [(0, .ref (b + 405)), (1, .int 1), (2, .int w1), (3, .int w2), (4, .int w3), (5, .int w4)] _
  refine z_seti (y := 0) hu.1 ?_
  refine z_if_ne (tgt := 22) B dX9_set_17 (by decide) (fun h => absurd (by decide) h) (fun _ => ?_)
  refine z_iconst (v := 0) B dX9_set_20 (by decide) ?_
  exact z_iret B hr (by decide) (by decide) dX9_set_21 ⟨rfl, rfl⟩
set_option maxRecDepth 100000 in
set_option maxHeartbeats 4000000 in
theorem ci_X9_set_133 (l : Launch) {g : gx_T} {σ : sx_T} {b : Nat} (hK : lay b σ) (w1 : Int32) (w2 : Int32) (w3 : Int32) (w4 : Int32) (q1_w1 : (-2147483648 : Int) ≤ w1.toInt) (q2_w1 : w1.toInt ≤ (-1 : Int)) (q1_w2 : (18 : Int) ≤ w2.toInt) (q2_w2 : w2.toInt ≤ (2147483647 : Int))  : Met l yX9_set (.code yX9_set cX9_set 7 (some .int) :: lw_g) { frames := 2, cells := 0, slots := 0, locals := 44 } (va_Pc [.ref (b + 405), .int 1, .int w1, .int w2, .int w3, .int w4] (zx_w g σ)) (va_Qi (fun r u => r = 0 ∧ u = (ap b σ [(405, 0, 1)] [] [])) (zx_w g) (gx_Q g)) 0 0 (gx_Q g) := by
  refine z_met (by decide) (Nat.le_of_ble_eq_true rfl) (fun p e s m below meth c B hr hin => ?_)
  refine z_eqs (σ' := (ap b σ [] [] [])) rfl ?_
  show zx p l e _ s m _ below meth c g 7 0 0 _ _ 0 [(0, .ref (b + 405)), (1, .int 1), (2, .int w1), (3, .int w2), (4, .int w3), (5, .int w4)] []
  refine z_aload_n B dX9_set_0 rfl 0 rfl ?_
  refine z_iload_n B dX9_set_1 rfl 1 rfl ?_
  refine z_iload_n B dX9_set_2 rfl 2 rfl ?_
  refine z_cSi (As := [.int 1, .int w1]) (rest := [.ref (b + 405)]) B cw_X9_238 dX9_set_3 (ci_X9_isStep_126 l (σ := (ap b σ [] [] [])) (b := b) (lyA hK) w1 q1_w1 q2_w1) rfl (by decide) rfl (Nat.le_of_ble_eq_true rfl) (by decide) (fun r u hu => ?_)
  refine z_eqs (σ' := (ap b σ [] [] [])) hu.2 ?_
  show zx p l e _ s m _ below meth c g 7 0 0 _ _ 6 [(0, .ref (b + 405)), (1, .int 1), (2, .int w1), (3, .int w2), (4, .int w3), (5, .int w4)] _
  refine z_seti (y := 0) hu.1 ?_
  refine z_iload_n B dX9_set_6 rfl 3 rfl ?_
  refine z_iload B dX9_set_7 4 rfl ?_
  refine z_iload B dX9_set_9 5 rfl ?_
  refine z_cSi (As := [.int w2, .int w3, .int w4]) (rest := [.int 0, .ref (b + 405)]) B cw_X9_242 dX9_set_11 (ci_X9_isOperation_48 l (σ := (ap b σ [] [] [])) (b := b) (lyA hK) w2 w3 w4 q1_w2 q2_w2) rfl (by decide) rfl (Nat.le_of_ble_eq_true rfl) (by decide) (fun r u hu => ?_)
  refine z_eqs (σ' := (ap b σ [] [] [])) hu.2 ?_
  show zx p l e _ s m _ below meth c g 7 0 0 _ _ 14 [(0, .ref (b + 405)), (1, .int 1), (2, .int w1), (3, .int w2), (4, .int w3), (5, .int w4)] _
  refine z_seti (y := 0) hu.1 ?_
  refine z_cVi (As := [.int 0, .int 0]) (rest := []) B cw_X9_245 cx_10 dX9_set_14 (ci_X9_needs__29 l (σ := (ap b σ [] [] [])) (b := b) (lyA hK) ) (lKA (hk_K hK 405 rfl rfl)) rfl (by decide) rfl (Nat.le_of_ble_eq_true rfl) (by decide) (fun r u hu => ?_)
  refine z_eqs (σ' := (ap b σ [(405, 0, 1)] [] [])) (hu.2.trans ap_ap) ?_
  show zx p l e _ s m _ below meth c g 7 0 0 _ _ 17 [(0, .ref (b + 405)), (1, .int 1), (2, .int w1), (3, .int w2), (4, .int w3), (5, .int w4)] _
  refine z_seti (y := 0) hu.1 ?_
  refine z_if_ne (tgt := 22) B dX9_set_17 (by decide) (fun h => absurd (by decide) h) (fun _ => ?_)
  refine z_iconst (v := 0) B dX9_set_20 (by decide) ?_
  exact z_iret B hr (by decide) (by decide) dX9_set_21 ⟨rfl, rfl⟩
set_option maxRecDepth 100000 in
set_option maxHeartbeats 4000000 in
theorem ci_X8_set_134 (l : Launch) (hlt : l.stackTraces = false) {g : gx_T} {σ : sx_T} {b : Nat} (hK : lay b σ) (w1 : Int32) (w2 : Int32) (w3 : Int32) (w4 : Int32) (q1_w1 : (0 : Int) ≤ w1.toInt) (q2_w1 : w1.toInt ≤ (19 : Int)) (q1_w2 : (-2147483648 : Int) ≤ w2.toInt) (q2_w2 : w2.toInt ≤ (-1 : Int)) (hR_0_0 : sx_R σ (b + 0) 0 = (some (b + 1))) (hR_1_1 : sx_R σ (b + 1) 1 = (some (b + 13))) : vx_Met l yX8_set (.code yX8_set cX8_set 9 (some .int) :: lw_g) { frames := 7, cells := 1, slots := 6, locals := 136 } (va_Pc [.ref (b + 0), .int 1, .int w1, .int w2, .int w3, .int w4] (zx_w g σ)) (va_Qi (S := sx_T) (fun _ _ => False) (zx_w g) (gx_Q g)) (vx_X (fun u : sx_T => ∃ z, u = wx_Z σ z) (fun E u t => E = "java/lang/IllegalArgumentException" ∧ zx_h g u t.heap) (gx_Q g)) 1 6 (gx_Q g) := by
  refine z_metX (by decide) (Nat.le_of_ble_eq_true rfl) (fun p e s m below meth c B hr hin hout => ?_)
  refine z_eqs (σ' := (ap b σ [] [] [])) rfl ?_
  show zx p l e _ s m _ below meth c g 9 0 0 _ _ 0 [(0, .ref (b + 0)), (1, .int 1), (2, .int w1), (3, .int w2), (4, .int w3), (5, .int w4)] []
  refine z_aload_n B dX8_set_0 rfl 0 rfl ?_
  refine z_iload_n B dX8_set_1 rfl 1 rfl ?_
  refine z_cVq (As := [.int 1]) (rest := []) B cw_X8_64 cx_9 dX8_set_2 (ci_X8_programAt_122 l (σ := (ap b σ [] [] [])) (b := b) (lyA hK) (rR_at 0 0 hR_0_0) (rR_at 1 1 hR_1_1)) (lKA (hk_K hK 0 rfl rfl)) rfl (by decide) rfl (Nat.le_of_ble_eq_true rfl) (by decide) (fun r u hu => ?_)
  refine z_eqs (σ' := (ap b σ [] [] [])) hu.2 ?_
  show zx p l e _ s m _ below meth c g 9 0 0 _ _ 5 [(0, .ref (b + 0)), (1, .int 1), (2, .int w1), (3, .int w2), (4, .int w3), (5, .int w4)] _
  refine z_setr (y := (some (b + 13))) hu.1 ?_
  refine z_astore (lv' := [(6, .ref (b + 13)), (0, .ref (b + 0)), (1, .int 1), (2, .int w1), (3, .int w2), (4, .int w3), (5, .int w4)]) B dX8_set_5 (by decide) rfl ?_
  refine z_aload B dX8_set_7 0 rfl ?_
  refine z_ifnull (r := (some (b + 13))) (tgt := 21) B dX8_set_9 (by decide) (fun h => nomatch h) (fun _ _ => ?_)
  refine z_iload_n B dX8_set_12 rfl 3 rfl ?_
  refine z_bipush (v := 20) B dX8_set_13 (by decide) ?_
  refine z_cSi (As := [.int w1, .int 20]) (rest := []) B cw_X8_68 dX8_set_15 (ci_X8_isBelow_64 l (σ := (ap b σ [] [] [])) (b := b) (lyA hK) w1 q1_w1 q2_w1) rfl (by decide) rfl (Nat.le_of_ble_eq_true rfl) (by decide) (fun r u hu => ?_)
  refine z_eqs (σ' := (ap b σ [] [] [])) hu.2 ?_
  show zx p l e _ s m _ below meth c g 9 0 0 _ _ 18 [(6, .ref (b + 13)), (0, .ref (b + 0)), (1, .int 1), (2, .int w1), (3, .int w2), (4, .int w3), (5, .int w4)] _
  refine z_seti (y := 1) hu.1 ?_
  refine z_if_ne (tgt := 31) B dX8_set_18 (by decide) (fun _ => ?_) (fun h => absurd h (by decide))
  refine z_iload_n B dX8_set_31 rfl 4 rfl ?_
  refine z_iload B dX8_set_32 5 rfl ?_
  refine z_iload B dX8_set_34 6 rfl ?_
  refine z_cSi (As := [.int w2, .int w3, .int w4]) (rest := []) B cw_X8_79 dX8_set_36 (ci_X8_isStep_66 l (σ := (ap b σ [] [] [])) (b := b) (lyA hK) w2 w3 w4 q1_w2 q2_w2) rfl (by decide) rfl (Nat.le_of_ble_eq_true rfl) (by decide) (fun r u hu => ?_)
  refine z_eqs (σ' := (ap b σ [] [] [])) hu.2 ?_
  show zx p l e _ s m _ below meth c g 9 0 0 _ _ 39 [(6, .ref (b + 13)), (0, .ref (b + 0)), (1, .int 1), (2, .int w1), (3, .int w2), (4, .int w3), (5, .int w4)] _
  refine z_seti (y := 0) hu.1 ?_
  refine z_if_ne (tgt := 52) B dX8_set_39 (by decide) (fun h => absurd (by decide) h) (fun _ => ?_)
  exact z_throw B hlt hout (cls := "java/lang/IllegalArgumentException") (text := "no such operation") tw_X8_83_85_87 dX8_set_42 dX8_set_45 dX8_set_46 dX8_set_48 dX8_set_51 (by decide) (by decide) (by decide) (by decide) (by decide) (by decide) (fun z => ⟨z, rfl⟩)
set_option maxRecDepth 100000 in
set_option maxHeartbeats 4000000 in
theorem ci_L_set_135 (l : Launch) (hlt : l.stackTraces = false) {g : gx_T} {σ : sx_T} {b : Nat} (hK : lay b σ) (w1 : Int32) (w2 : Int32) (w3 : Int32) (w4 : Int32) (q1_w1 : (0 : Int) ≤ w1.toInt) (q2_w1 : w1.toInt ≤ (19 : Int)) (q1_w2 : (-2147483648 : Int) ≤ w2.toInt) (q2_w2 : w2.toInt ≤ (-1 : Int)) (hR_0_0 : sx_R σ (b + 0) 0 = (some (b + 1))) (hR_1_1 : sx_R σ (b + 1) 1 = (some (b + 13))) : Met l yL_set (.codeWith yL_set cL_set 8 (some .int) [(0, 16, 19, 13), (0, 16, 23, 15)] :: lw_g) { frames := 8, cells := 1, slots := 6, locals := 164 } (va_Pc [.ref (b + 0), .int 1, .int w1, .int w2, .int w3, .int w4, .ref (b + 431)] (zx_w g σ)) (va_Qi (fun r u => r = 2 ∧ ∃ z, u = (ap b (wx_Z σ z) [] [] [])) (zx_w g) (gx_Q g)) 1 6 (gx_Q g) := by
  refine z_metW (by decide) (Nat.le_of_ble_eq_true rfl) (fun p e s m below meth c B hr htab => ?_)
  refine z_eqs (σ' := (ap b σ [] [] [])) rfl ?_
  show zx p l e _ s m _ below meth c g 8 0 0 _ _ 0 [(0, .ref (b + 0)), (1, .int 1), (2, .int w1), (3, .int w2), (4, .int w3), (5, .int w4), (6, .ref (b + 431))] []
  refine z_aload B dL_set_0 6 rfl ?_
  refine z_iconst (v := 0) B dL_set_2 (by decide) ?_
  refine z_aload_n B dL_set_3 rfl 0 rfl ?_
  refine z_iload_n B dL_set_4 rfl 1 rfl ?_
  refine z_iload_n B dL_set_5 rfl 2 rfl ?_
  refine z_iload_n B dL_set_6 rfl 3 rfl ?_
  refine z_iload B dL_set_7 4 rfl ?_
  refine z_iload B dL_set_9 5 rfl ?_
  refine z_cXi (As := [.int 1, .int w1, .int w2, .int w3, .int w4]) (rest := [.int 0, .ref (b + 431)]) B htab tc_set_11_IllegalArgumentException cw_L_7 cx_9 dL_set_11 (ci_X8_set_134 l hlt (σ := (ap b σ [] [] [])) (b := b) (lyA hK) w1 w2 w3 w4 q1_w1 q2_w1 q1_w2 q2_w2 (rR_at 0 0 hR_0_0) (rR_at 1 1 hR_1_1)) (lKA (hk_K hK 0 rfl rfl)) rfl (by decide) rfl (Nat.le_of_ble_eq_true rfl) (by decide) (fun z q => ?_)
  refine z_eqs (σ' := (ap b (wx_Z σ z) [] [] [])) rfl ?_
  show zx p l e _ s m _ below meth c g 8 _ _ _ _ 23 [(0, .ref (b + 0)), (1, .int 1), (2, .int w1), (3, .int w2), (4, .int w3), (5, .int w4), (6, .ref (b + 431))] _
  refine z_astore (lv' := [(7, .ref q), (0, .ref (b + 0)), (1, .int 1), (2, .int w1), (3, .int w2), (4, .int w3), (5, .int w4), (6, .ref (b + 431))]) B dL_set_23 (by decide) rfl ?_
  refine z_iconst (v := 2) B dL_set_25 (by decide) ?_
  exact z_iret B hr (by decide) (by decide) dL_set_26 ⟨rfl, _, rfl⟩
set_option maxRecDepth 100000 in
set_option maxHeartbeats 4000000 in
theorem ci_X9_isStep_136 (l : Launch) {g : gx_T} {σ : sx_T} {b : Nat} (hK : lay b σ) (w1 : Int32) (q1_w1 : (0 : Int) ≤ w1.toInt) (q2_w1 : w1.toInt ≤ (19 : Int))  : Met l yX9_isStep (.code yX9_isStep cX9_isStep 2 (some .boolean) :: lw_g) { frames := 1, cells := 0, slots := 0, locals := 22 } (va_Pc [.int 1, .int w1] (zx_w g σ)) (va_Qi (fun r u => r = 1 ∧ u = σ) (zx_w g) (gx_Q g)) 0 0 (gx_Q g) := by
  refine z_met (by decide) (Nat.le_of_ble_eq_true rfl) (fun p e s m below meth c B hr hin => ?_)
  refine z_eqs (σ' := (ap b σ [] [] [])) rfl ?_
  show zx p l e _ s m _ below meth c g 2 0 0 _ _ 0 [(0, .int 1), (1, .int w1)] []
  refine z_iload_n B dX9_isStep_0 rfl 0 rfl ?_
  refine z_iconst (v := 0) B dX9_isStep_1 (by decide) ?_
  refine z_iconst (v := 5) B dX9_isStep_2 (by decide) ?_
  refine z_cSi (As := [.int 1, .int 0, .int 5]) (rest := []) B cw_X9_96 dX9_isStep_3 (ci_X9_in_125 l (σ := (ap b σ [] [] [])) (b := b) (lyA hK) ) rfl (by decide) rfl (Nat.le_of_ble_eq_true rfl) (by decide) (fun r u hu => ?_)
  refine z_eqs (σ' := (ap b σ [] [] [])) hu.2 ?_
  show zx p l e _ s m _ below meth c g 2 0 0 _ _ 6 [(0, .int 1), (1, .int w1)] _
  refine z_seti (y := 1) hu.1 ?_
  refine z_if_eq (tgt := 23) B dX9_isStep_6 (by decide) (fun h => absurd h (by decide)) (fun _ => ?_)
  refine z_iload_n B dX9_isStep_9 rfl 1 rfl ?_
  refine z_iconst (v := 0) B dX9_isStep_10 (by decide) ?_
  refine z_bipush (v := 19) B dX9_isStep_11 (by decide) ?_
  refine z_cSi (As := [.int w1, .int 0, .int 19]) (rest := []) B cw_X9_96 dX9_isStep_13 (ci_X9_in_69 l (σ := (ap b σ [] [] [])) (b := b) (lyA hK) w1 q1_w1 q2_w1) rfl (by decide) rfl (Nat.le_of_ble_eq_true rfl) (by decide) (fun r u hu => ?_)
  refine z_eqs (σ' := (ap b σ [] [] [])) hu.2 ?_
  show zx p l e _ s m _ below meth c g 2 0 0 _ _ 16 [(0, .int 1), (1, .int w1)] _
  refine z_seti (y := 1) hu.1 ?_
  refine z_if_eq (tgt := 23) B dX9_isStep_16 (by decide) (fun h => absurd h (by decide)) (fun _ => ?_)
  refine z_iconst (v := 1) B dX9_isStep_19 (by decide) ?_
  refine z_goto (tgt := 24) B dX9_isStep_20 (by decide) ?_
  exact z_zret B hr (by decide) (by decide) (by decide) dX9_isStep_24 ⟨rfl, rfl⟩
set_option maxRecDepth 100000 in
set_option maxHeartbeats 4000000 in
theorem ci_X9_set_137 (l : Launch) {g : gx_T} {σ : sx_T} {b : Nat} (hK : lay b σ) (w1 : Int32) (w2 : Int32) (w3 : Int32) (w4 : Int32) (q1_w1 : (0 : Int) ≤ w1.toInt) (q2_w1 : w1.toInt ≤ (19 : Int)) (q1_w2 : (-2147483648 : Int) ≤ w2.toInt) (q2_w2 : w2.toInt ≤ (-1 : Int))  : Met l yX9_set (.code yX9_set cX9_set 7 (some .int) :: lw_g) { frames := 2, cells := 0, slots := 0, locals := 44 } (va_Pc [.ref (b + 405), .int 1, .int w1, .int w2, .int w3, .int w4] (zx_w g σ)) (va_Qi (fun r u => r = 0 ∧ u = (ap b σ [(405, 0, 2)] [] [])) (zx_w g) (gx_Q g)) 0 0 (gx_Q g) := by
  refine z_met (by decide) (Nat.le_of_ble_eq_true rfl) (fun p e s m below meth c B hr hin => ?_)
  refine z_eqs (σ' := (ap b σ [] [] [])) rfl ?_
  show zx p l e _ s m _ below meth c g 7 0 0 _ _ 0 [(0, .ref (b + 405)), (1, .int 1), (2, .int w1), (3, .int w2), (4, .int w3), (5, .int w4)] []
  refine z_aload_n B dX9_set_0 rfl 0 rfl ?_
  refine z_iload_n B dX9_set_1 rfl 1 rfl ?_
  refine z_iload_n B dX9_set_2 rfl 2 rfl ?_
  refine z_cSi (As := [.int 1, .int w1]) (rest := [.ref (b + 405)]) B cw_X9_238 dX9_set_3 (ci_X9_isStep_136 l (σ := (ap b σ [] [] [])) (b := b) (lyA hK) w1 q1_w1 q2_w1) rfl (by decide) rfl (Nat.le_of_ble_eq_true rfl) (by decide) (fun r u hu => ?_)
  refine z_eqs (σ' := (ap b σ [] [] [])) hu.2 ?_
  show zx p l e _ s m _ below meth c g 7 0 0 _ _ 6 [(0, .ref (b + 405)), (1, .int 1), (2, .int w1), (3, .int w2), (4, .int w3), (5, .int w4)] _
  refine z_seti (y := 1) hu.1 ?_
  refine z_iload_n B dX9_set_6 rfl 3 rfl ?_
  refine z_iload B dX9_set_7 4 rfl ?_
  refine z_iload B dX9_set_9 5 rfl ?_
  refine z_cSi (As := [.int w2, .int w3, .int w4]) (rest := [.int 1, .ref (b + 405)]) B cw_X9_242 dX9_set_11 (ci_X9_isOperation_28 l (σ := (ap b σ [] [] [])) (b := b) (lyA hK) w2 w3 w4 q1_w2 q2_w2) rfl (by decide) rfl (Nat.le_of_ble_eq_true rfl) (by decide) (fun r u hu => ?_)
  refine z_eqs (σ' := (ap b σ [] [] [])) hu.2 ?_
  show zx p l e _ s m _ below meth c g 7 0 0 _ _ 14 [(0, .ref (b + 405)), (1, .int 1), (2, .int w1), (3, .int w2), (4, .int w3), (5, .int w4)] _
  refine z_seti (y := 0) hu.1 ?_
  refine z_cVi (As := [.int 1, .int 0]) (rest := []) B cw_X9_245 cx_10 dX9_set_14 (ci_X9_needs__71 l (σ := (ap b σ [] [] [])) (b := b) (lyA hK) ) (lKA (hk_K hK 405 rfl rfl)) rfl (by decide) rfl (Nat.le_of_ble_eq_true rfl) (by decide) (fun r u hu => ?_)
  refine z_eqs (σ' := (ap b σ [(405, 0, 2)] [] [])) (hu.2.trans ap_ap) ?_
  show zx p l e _ s m _ below meth c g 7 0 0 _ _ 17 [(0, .ref (b + 405)), (1, .int 1), (2, .int w1), (3, .int w2), (4, .int w3), (5, .int w4)] _
  refine z_seti (y := 0) hu.1 ?_
  refine z_if_ne (tgt := 22) B dX9_set_17 (by decide) (fun h => absurd (by decide) h) (fun _ => ?_)
  refine z_iconst (v := 0) B dX9_set_20 (by decide) ?_
  exact z_iret B hr (by decide) (by decide) dX9_set_21 ⟨rfl, rfl⟩
set_option maxRecDepth 100000 in
set_option maxHeartbeats 4000000 in
theorem ci_X8_set_138 (l : Launch) (hlt : l.stackTraces = false) {g : gx_T} {σ : sx_T} {b : Nat} (hK : lay b σ) (w1 : Int32) (w2 : Int32) (w3 : Int32) (w4 : Int32) (q1_w1 : (0 : Int) ≤ w1.toInt) (q2_w1 : w1.toInt ≤ (19 : Int)) (q1_w2 : (0 : Int) ≤ w2.toInt) (q2_w2 : w2.toInt ≤ (17 : Int)) (q1_w3 : (-2147483648 : Int) ≤ w3.toInt) (q2_w3 : w3.toInt ≤ (-1 : Int)) (hR_0_0 : sx_R σ (b + 0) 0 = (some (b + 1))) (hR_1_1 : sx_R σ (b + 1) 1 = (some (b + 13))) : vx_Met l yX8_set (.code yX8_set cX8_set 9 (some .int) :: lw_g) { frames := 7, cells := 1, slots := 6, locals := 136 } (va_Pc [.ref (b + 0), .int 1, .int w1, .int w2, .int w3, .int w4] (zx_w g σ)) (va_Qi (S := sx_T) (fun _ _ => False) (zx_w g) (gx_Q g)) (vx_X (fun u : sx_T => ∃ z, u = wx_Z σ z) (fun E u t => E = "java/lang/IllegalArgumentException" ∧ zx_h g u t.heap) (gx_Q g)) 1 6 (gx_Q g) := by
  refine z_metX (by decide) (Nat.le_of_ble_eq_true rfl) (fun p e s m below meth c B hr hin hout => ?_)
  refine z_eqs (σ' := (ap b σ [] [] [])) rfl ?_
  show zx p l e _ s m _ below meth c g 9 0 0 _ _ 0 [(0, .ref (b + 0)), (1, .int 1), (2, .int w1), (3, .int w2), (4, .int w3), (5, .int w4)] []
  refine z_aload_n B dX8_set_0 rfl 0 rfl ?_
  refine z_iload_n B dX8_set_1 rfl 1 rfl ?_
  refine z_cVq (As := [.int 1]) (rest := []) B cw_X8_64 cx_9 dX8_set_2 (ci_X8_programAt_122 l (σ := (ap b σ [] [] [])) (b := b) (lyA hK) (rR_at 0 0 hR_0_0) (rR_at 1 1 hR_1_1)) (lKA (hk_K hK 0 rfl rfl)) rfl (by decide) rfl (Nat.le_of_ble_eq_true rfl) (by decide) (fun r u hu => ?_)
  refine z_eqs (σ' := (ap b σ [] [] [])) hu.2 ?_
  show zx p l e _ s m _ below meth c g 9 0 0 _ _ 5 [(0, .ref (b + 0)), (1, .int 1), (2, .int w1), (3, .int w2), (4, .int w3), (5, .int w4)] _
  refine z_setr (y := (some (b + 13))) hu.1 ?_
  refine z_astore (lv' := [(6, .ref (b + 13)), (0, .ref (b + 0)), (1, .int 1), (2, .int w1), (3, .int w2), (4, .int w3), (5, .int w4)]) B dX8_set_5 (by decide) rfl ?_
  refine z_aload B dX8_set_7 0 rfl ?_
  refine z_ifnull (r := (some (b + 13))) (tgt := 21) B dX8_set_9 (by decide) (fun h => nomatch h) (fun _ _ => ?_)
  refine z_iload_n B dX8_set_12 rfl 3 rfl ?_
  refine z_bipush (v := 20) B dX8_set_13 (by decide) ?_
  refine z_cSi (As := [.int w1, .int 20]) (rest := []) B cw_X8_68 dX8_set_15 (ci_X8_isBelow_64 l (σ := (ap b σ [] [] [])) (b := b) (lyA hK) w1 q1_w1 q2_w1) rfl (by decide) rfl (Nat.le_of_ble_eq_true rfl) (by decide) (fun r u hu => ?_)
  refine z_eqs (σ' := (ap b σ [] [] [])) hu.2 ?_
  show zx p l e _ s m _ below meth c g 9 0 0 _ _ 18 [(6, .ref (b + 13)), (0, .ref (b + 0)), (1, .int 1), (2, .int w1), (3, .int w2), (4, .int w3), (5, .int w4)] _
  refine z_seti (y := 1) hu.1 ?_
  refine z_if_ne (tgt := 31) B dX8_set_18 (by decide) (fun _ => ?_) (fun h => absurd h (by decide))
  refine z_iload_n B dX8_set_31 rfl 4 rfl ?_
  refine z_iload B dX8_set_32 5 rfl ?_
  refine z_iload B dX8_set_34 6 rfl ?_
  refine z_cSi (As := [.int w2, .int w3, .int w4]) (rest := []) B cw_X8_79 dX8_set_36 (ci_X8_isStep_76 l (σ := (ap b σ [] [] [])) (b := b) (lyA hK) w2 w3 w4 q1_w2 q2_w2 q1_w3 q2_w3) rfl (by decide) rfl (Nat.le_of_ble_eq_true rfl) (by decide) (fun r u hu => ?_)
  refine z_eqs (σ' := (ap b σ [] [] [])) hu.2 ?_
  show zx p l e _ s m _ below meth c g 9 0 0 _ _ 39 [(6, .ref (b + 13)), (0, .ref (b + 0)), (1, .int 1), (2, .int w1), (3, .int w2), (4, .int w3), (5, .int w4)] _
  refine z_seti (y := 0) hu.1 ?_
  refine z_if_ne (tgt := 52) B dX8_set_39 (by decide) (fun h => absurd (by decide) h) (fun _ => ?_)
  exact z_throw B hlt hout (cls := "java/lang/IllegalArgumentException") (text := "no such operation") tw_X8_83_85_87 dX8_set_42 dX8_set_45 dX8_set_46 dX8_set_48 dX8_set_51 (by decide) (by decide) (by decide) (by decide) (by decide) (by decide) (fun z => ⟨z, rfl⟩)
set_option maxRecDepth 100000 in
set_option maxHeartbeats 4000000 in
theorem ci_L_set_139 (l : Launch) (hlt : l.stackTraces = false) {g : gx_T} {σ : sx_T} {b : Nat} (hK : lay b σ) (w1 : Int32) (w2 : Int32) (w3 : Int32) (w4 : Int32) (q1_w1 : (0 : Int) ≤ w1.toInt) (q2_w1 : w1.toInt ≤ (19 : Int)) (q1_w2 : (0 : Int) ≤ w2.toInt) (q2_w2 : w2.toInt ≤ (17 : Int)) (q1_w3 : (-2147483648 : Int) ≤ w3.toInt) (q2_w3 : w3.toInt ≤ (-1 : Int)) (hR_0_0 : sx_R σ (b + 0) 0 = (some (b + 1))) (hR_1_1 : sx_R σ (b + 1) 1 = (some (b + 13))) : Met l yL_set (.codeWith yL_set cL_set 8 (some .int) [(0, 16, 19, 13), (0, 16, 23, 15)] :: lw_g) { frames := 8, cells := 1, slots := 6, locals := 164 } (va_Pc [.ref (b + 0), .int 1, .int w1, .int w2, .int w3, .int w4, .ref (b + 431)] (zx_w g σ)) (va_Qi (fun r u => r = 2 ∧ ∃ z, u = (ap b (wx_Z σ z) [] [] [])) (zx_w g) (gx_Q g)) 1 6 (gx_Q g) := by
  refine z_metW (by decide) (Nat.le_of_ble_eq_true rfl) (fun p e s m below meth c B hr htab => ?_)
  refine z_eqs (σ' := (ap b σ [] [] [])) rfl ?_
  show zx p l e _ s m _ below meth c g 8 0 0 _ _ 0 [(0, .ref (b + 0)), (1, .int 1), (2, .int w1), (3, .int w2), (4, .int w3), (5, .int w4), (6, .ref (b + 431))] []
  refine z_aload B dL_set_0 6 rfl ?_
  refine z_iconst (v := 0) B dL_set_2 (by decide) ?_
  refine z_aload_n B dL_set_3 rfl 0 rfl ?_
  refine z_iload_n B dL_set_4 rfl 1 rfl ?_
  refine z_iload_n B dL_set_5 rfl 2 rfl ?_
  refine z_iload_n B dL_set_6 rfl 3 rfl ?_
  refine z_iload B dL_set_7 4 rfl ?_
  refine z_iload B dL_set_9 5 rfl ?_
  refine z_cXi (As := [.int 1, .int w1, .int w2, .int w3, .int w4]) (rest := [.int 0, .ref (b + 431)]) B htab tc_set_11_IllegalArgumentException cw_L_7 cx_9 dL_set_11 (ci_X8_set_138 l hlt (σ := (ap b σ [] [] [])) (b := b) (lyA hK) w1 w2 w3 w4 q1_w1 q2_w1 q1_w2 q2_w2 q1_w3 q2_w3 (rR_at 0 0 hR_0_0) (rR_at 1 1 hR_1_1)) (lKA (hk_K hK 0 rfl rfl)) rfl (by decide) rfl (Nat.le_of_ble_eq_true rfl) (by decide) (fun z q => ?_)
  refine z_eqs (σ' := (ap b (wx_Z σ z) [] [] [])) rfl ?_
  show zx p l e _ s m _ below meth c g 8 _ _ _ _ 23 [(0, .ref (b + 0)), (1, .int 1), (2, .int w1), (3, .int w2), (4, .int w3), (5, .int w4), (6, .ref (b + 431))] _
  refine z_astore (lv' := [(7, .ref q), (0, .ref (b + 0)), (1, .int 1), (2, .int w1), (3, .int w2), (4, .int w3), (5, .int w4), (6, .ref (b + 431))]) B dL_set_23 (by decide) rfl ?_
  refine z_iconst (v := 2) B dL_set_25 (by decide) ?_
  exact z_iret B hr (by decide) (by decide) dL_set_26 ⟨rfl, _, rfl⟩
set_option maxRecDepth 100000 in
set_option maxHeartbeats 4000000 in
theorem ci_X9_set_140 (l : Launch) {g : gx_T} {σ : sx_T} {b : Nat} (hK : lay b σ) (w1 : Int32) (w2 : Int32) (w3 : Int32) (w4 : Int32) (q1_w1 : (0 : Int) ≤ w1.toInt) (q2_w1 : w1.toInt ≤ (19 : Int)) (q1_w2 : (0 : Int) ≤ w2.toInt) (q2_w2 : w2.toInt ≤ (17 : Int)) (q1_w3 : (-2147483648 : Int) ≤ w3.toInt) (q2_w3 : w3.toInt ≤ (-1 : Int))  : Met l yX9_set (.code yX9_set cX9_set 7 (some .int) :: lw_g) { frames := 2, cells := 0, slots := 0, locals := 44 } (va_Pc [.ref (b + 405), .int 1, .int w1, .int w2, .int w3, .int w4] (zx_w g σ)) (va_Qi (fun r u => r = 0 ∧ u = (ap b σ [(405, 0, 2)] [] [])) (zx_w g) (gx_Q g)) 0 0 (gx_Q g) := by
  refine z_met (by decide) (Nat.le_of_ble_eq_true rfl) (fun p e s m below meth c B hr hin => ?_)
  refine z_eqs (σ' := (ap b σ [] [] [])) rfl ?_
  show zx p l e _ s m _ below meth c g 7 0 0 _ _ 0 [(0, .ref (b + 405)), (1, .int 1), (2, .int w1), (3, .int w2), (4, .int w3), (5, .int w4)] []
  refine z_aload_n B dX9_set_0 rfl 0 rfl ?_
  refine z_iload_n B dX9_set_1 rfl 1 rfl ?_
  refine z_iload_n B dX9_set_2 rfl 2 rfl ?_
  refine z_cSi (As := [.int 1, .int w1]) (rest := [.ref (b + 405)]) B cw_X9_238 dX9_set_3 (ci_X9_isStep_136 l (σ := (ap b σ [] [] [])) (b := b) (lyA hK) w1 q1_w1 q2_w1) rfl (by decide) rfl (Nat.le_of_ble_eq_true rfl) (by decide) (fun r u hu => ?_)
  refine z_eqs (σ' := (ap b σ [] [] [])) hu.2 ?_
  show zx p l e _ s m _ below meth c g 7 0 0 _ _ 6 [(0, .ref (b + 405)), (1, .int 1), (2, .int w1), (3, .int w2), (4, .int w3), (5, .int w4)] _
  refine z_seti (y := 1) hu.1 ?_
  refine z_iload_n B dX9_set_6 rfl 3 rfl ?_
  refine z_iload B dX9_set_7 4 rfl ?_
  refine z_iload B dX9_set_9 5 rfl ?_
  refine z_cSi (As := [.int w2, .int w3, .int w4]) (rest := [.int 1, .ref (b + 405)]) B cw_X9_242 dX9_set_11 (ci_X9_isOperation_34 l (σ := (ap b σ [] [] [])) (b := b) (lyA hK) w2 w3 w4 q1_w2 q2_w2 q1_w3 q2_w3) rfl (by decide) rfl (Nat.le_of_ble_eq_true rfl) (by decide) (fun r u hu => ?_)
  refine z_eqs (σ' := (ap b σ [] [] [])) hu.2 ?_
  show zx p l e _ s m _ below meth c g 7 0 0 _ _ 14 [(0, .ref (b + 405)), (1, .int 1), (2, .int w1), (3, .int w2), (4, .int w3), (5, .int w4)] _
  refine z_seti (y := 0) hu.1 ?_
  refine z_cVi (As := [.int 1, .int 0]) (rest := []) B cw_X9_245 cx_10 dX9_set_14 (ci_X9_needs__71 l (σ := (ap b σ [] [] [])) (b := b) (lyA hK) ) (lKA (hk_K hK 405 rfl rfl)) rfl (by decide) rfl (Nat.le_of_ble_eq_true rfl) (by decide) (fun r u hu => ?_)
  refine z_eqs (σ' := (ap b σ [(405, 0, 2)] [] [])) (hu.2.trans ap_ap) ?_
  show zx p l e _ s m _ below meth c g 7 0 0 _ _ 17 [(0, .ref (b + 405)), (1, .int 1), (2, .int w1), (3, .int w2), (4, .int w3), (5, .int w4)] _
  refine z_seti (y := 0) hu.1 ?_
  refine z_if_ne (tgt := 22) B dX9_set_17 (by decide) (fun h => absurd (by decide) h) (fun _ => ?_)
  refine z_iconst (v := 0) B dX9_set_20 (by decide) ?_
  exact z_iret B hr (by decide) (by decide) dX9_set_21 ⟨rfl, rfl⟩
set_option maxRecDepth 100000 in
set_option maxHeartbeats 4000000 in
theorem ci_X8_set_141 (l : Launch) (hlt : l.stackTraces = false) {g : gx_T} {σ : sx_T} {b : Nat} (hK : lay b σ) (w1 : Int32) (w2 : Int32) (w3 : Int32) (w4 : Int32) (q1_w1 : (0 : Int) ≤ w1.toInt) (q2_w1 : w1.toInt ≤ (19 : Int)) (q1_w2 : (0 : Int) ≤ w2.toInt) (q2_w2 : w2.toInt ≤ (17 : Int)) (q1_w3 : (0 : Int) ≤ w3.toInt) (q2_w3 : w3.toInt ≤ (99 : Int)) (q1_w4 : (-2147483648 : Int) ≤ w4.toInt) (q2_w4 : w4.toInt ≤ (-1 : Int)) (hR_0_0 : sx_R σ (b + 0) 0 = (some (b + 1))) (hR_1_1 : sx_R σ (b + 1) 1 = (some (b + 13))) : vx_Met l yX8_set (.code yX8_set cX8_set 9 (some .int) :: lw_g) { frames := 7, cells := 1, slots := 6, locals := 136 } (va_Pc [.ref (b + 0), .int 1, .int w1, .int w2, .int w3, .int w4] (zx_w g σ)) (va_Qi (S := sx_T) (fun _ _ => False) (zx_w g) (gx_Q g)) (vx_X (fun u : sx_T => ∃ z, u = wx_Z σ z) (fun E u t => E = "java/lang/IllegalArgumentException" ∧ zx_h g u t.heap) (gx_Q g)) 1 6 (gx_Q g) := by
  refine z_metX (by decide) (Nat.le_of_ble_eq_true rfl) (fun p e s m below meth c B hr hin hout => ?_)
  refine z_eqs (σ' := (ap b σ [] [] [])) rfl ?_
  show zx p l e _ s m _ below meth c g 9 0 0 _ _ 0 [(0, .ref (b + 0)), (1, .int 1), (2, .int w1), (3, .int w2), (4, .int w3), (5, .int w4)] []
  refine z_aload_n B dX8_set_0 rfl 0 rfl ?_
  refine z_iload_n B dX8_set_1 rfl 1 rfl ?_
  refine z_cVq (As := [.int 1]) (rest := []) B cw_X8_64 cx_9 dX8_set_2 (ci_X8_programAt_122 l (σ := (ap b σ [] [] [])) (b := b) (lyA hK) (rR_at 0 0 hR_0_0) (rR_at 1 1 hR_1_1)) (lKA (hk_K hK 0 rfl rfl)) rfl (by decide) rfl (Nat.le_of_ble_eq_true rfl) (by decide) (fun r u hu => ?_)
  refine z_eqs (σ' := (ap b σ [] [] [])) hu.2 ?_
  show zx p l e _ s m _ below meth c g 9 0 0 _ _ 5 [(0, .ref (b + 0)), (1, .int 1), (2, .int w1), (3, .int w2), (4, .int w3), (5, .int w4)] _
  refine z_setr (y := (some (b + 13))) hu.1 ?_
  refine z_astore (lv' := [(6, .ref (b + 13)), (0, .ref (b + 0)), (1, .int 1), (2, .int w1), (3, .int w2), (4, .int w3), (5, .int w4)]) B dX8_set_5 (by decide) rfl ?_
  refine z_aload B dX8_set_7 0 rfl ?_
  refine z_ifnull (r := (some (b + 13))) (tgt := 21) B dX8_set_9 (by decide) (fun h => nomatch h) (fun _ _ => ?_)
  refine z_iload_n B dX8_set_12 rfl 3 rfl ?_
  refine z_bipush (v := 20) B dX8_set_13 (by decide) ?_
  refine z_cSi (As := [.int w1, .int 20]) (rest := []) B cw_X8_68 dX8_set_15 (ci_X8_isBelow_64 l (σ := (ap b σ [] [] [])) (b := b) (lyA hK) w1 q1_w1 q2_w1) rfl (by decide) rfl (Nat.le_of_ble_eq_true rfl) (by decide) (fun r u hu => ?_)
  refine z_eqs (σ' := (ap b σ [] [] [])) hu.2 ?_
  show zx p l e _ s m _ below meth c g 9 0 0 _ _ 18 [(6, .ref (b + 13)), (0, .ref (b + 0)), (1, .int 1), (2, .int w1), (3, .int w2), (4, .int w3), (5, .int w4)] _
  refine z_seti (y := 1) hu.1 ?_
  refine z_if_ne (tgt := 31) B dX8_set_18 (by decide) (fun _ => ?_) (fun h => absurd h (by decide))
  refine z_iload_n B dX8_set_31 rfl 4 rfl ?_
  refine z_iload B dX8_set_32 5 rfl ?_
  refine z_iload B dX8_set_34 6 rfl ?_
  refine z_cSi (As := [.int w2, .int w3, .int w4]) (rest := []) B cw_X8_79 dX8_set_36 (ci_X8_isStep_81 l (σ := (ap b σ [] [] [])) (b := b) (lyA hK) w2 w3 w4 q1_w2 q2_w2 q1_w3 q2_w3 q1_w4 q2_w4) rfl (by decide) rfl (Nat.le_of_ble_eq_true rfl) (by decide) (fun r u hu => ?_)
  refine z_eqs (σ' := (ap b σ [] [] [])) hu.2 ?_
  show zx p l e _ s m _ below meth c g 9 0 0 _ _ 39 [(6, .ref (b + 13)), (0, .ref (b + 0)), (1, .int 1), (2, .int w1), (3, .int w2), (4, .int w3), (5, .int w4)] _
  refine z_seti (y := 0) hu.1 ?_
  refine z_if_ne (tgt := 52) B dX8_set_39 (by decide) (fun h => absurd (by decide) h) (fun _ => ?_)
  exact z_throw B hlt hout (cls := "java/lang/IllegalArgumentException") (text := "no such operation") tw_X8_83_85_87 dX8_set_42 dX8_set_45 dX8_set_46 dX8_set_48 dX8_set_51 (by decide) (by decide) (by decide) (by decide) (by decide) (by decide) (fun z => ⟨z, rfl⟩)
set_option maxRecDepth 100000 in
set_option maxHeartbeats 4000000 in
theorem ci_L_set_142 (l : Launch) (hlt : l.stackTraces = false) {g : gx_T} {σ : sx_T} {b : Nat} (hK : lay b σ) (w1 : Int32) (w2 : Int32) (w3 : Int32) (w4 : Int32) (q1_w1 : (0 : Int) ≤ w1.toInt) (q2_w1 : w1.toInt ≤ (19 : Int)) (q1_w2 : (0 : Int) ≤ w2.toInt) (q2_w2 : w2.toInt ≤ (17 : Int)) (q1_w3 : (0 : Int) ≤ w3.toInt) (q2_w3 : w3.toInt ≤ (99 : Int)) (q1_w4 : (-2147483648 : Int) ≤ w4.toInt) (q2_w4 : w4.toInt ≤ (-1 : Int)) (hR_0_0 : sx_R σ (b + 0) 0 = (some (b + 1))) (hR_1_1 : sx_R σ (b + 1) 1 = (some (b + 13))) : Met l yL_set (.codeWith yL_set cL_set 8 (some .int) [(0, 16, 19, 13), (0, 16, 23, 15)] :: lw_g) { frames := 8, cells := 1, slots := 6, locals := 164 } (va_Pc [.ref (b + 0), .int 1, .int w1, .int w2, .int w3, .int w4, .ref (b + 431)] (zx_w g σ)) (va_Qi (fun r u => r = 2 ∧ ∃ z, u = (ap b (wx_Z σ z) [] [] [])) (zx_w g) (gx_Q g)) 1 6 (gx_Q g) := by
  refine z_metW (by decide) (Nat.le_of_ble_eq_true rfl) (fun p e s m below meth c B hr htab => ?_)
  refine z_eqs (σ' := (ap b σ [] [] [])) rfl ?_
  show zx p l e _ s m _ below meth c g 8 0 0 _ _ 0 [(0, .ref (b + 0)), (1, .int 1), (2, .int w1), (3, .int w2), (4, .int w3), (5, .int w4), (6, .ref (b + 431))] []
  refine z_aload B dL_set_0 6 rfl ?_
  refine z_iconst (v := 0) B dL_set_2 (by decide) ?_
  refine z_aload_n B dL_set_3 rfl 0 rfl ?_
  refine z_iload_n B dL_set_4 rfl 1 rfl ?_
  refine z_iload_n B dL_set_5 rfl 2 rfl ?_
  refine z_iload_n B dL_set_6 rfl 3 rfl ?_
  refine z_iload B dL_set_7 4 rfl ?_
  refine z_iload B dL_set_9 5 rfl ?_
  refine z_cXi (As := [.int 1, .int w1, .int w2, .int w3, .int w4]) (rest := [.int 0, .ref (b + 431)]) B htab tc_set_11_IllegalArgumentException cw_L_7 cx_9 dL_set_11 (ci_X8_set_141 l hlt (σ := (ap b σ [] [] [])) (b := b) (lyA hK) w1 w2 w3 w4 q1_w1 q2_w1 q1_w2 q2_w2 q1_w3 q2_w3 q1_w4 q2_w4 (rR_at 0 0 hR_0_0) (rR_at 1 1 hR_1_1)) (lKA (hk_K hK 0 rfl rfl)) rfl (by decide) rfl (Nat.le_of_ble_eq_true rfl) (by decide) (fun z q => ?_)
  refine z_eqs (σ' := (ap b (wx_Z σ z) [] [] [])) rfl ?_
  show zx p l e _ s m _ below meth c g 8 _ _ _ _ 23 [(0, .ref (b + 0)), (1, .int 1), (2, .int w1), (3, .int w2), (4, .int w3), (5, .int w4), (6, .ref (b + 431))] _
  refine z_astore (lv' := [(7, .ref q), (0, .ref (b + 0)), (1, .int 1), (2, .int w1), (3, .int w2), (4, .int w3), (5, .int w4), (6, .ref (b + 431))]) B dL_set_23 (by decide) rfl ?_
  refine z_iconst (v := 2) B dL_set_25 (by decide) ?_
  exact z_iret B hr (by decide) (by decide) dL_set_26 ⟨rfl, _, rfl⟩
set_option maxRecDepth 100000 in
set_option maxHeartbeats 4000000 in
theorem ci_X9_set_143 (l : Launch) {g : gx_T} {σ : sx_T} {b : Nat} (hK : lay b σ) (w1 : Int32) (w2 : Int32) (w3 : Int32) (w4 : Int32) (q1_w1 : (0 : Int) ≤ w1.toInt) (q2_w1 : w1.toInt ≤ (19 : Int)) (q1_w2 : (0 : Int) ≤ w2.toInt) (q2_w2 : w2.toInt ≤ (17 : Int)) (q1_w3 : (0 : Int) ≤ w3.toInt) (q2_w3 : w3.toInt ≤ (99 : Int)) (q1_w4 : (-2147483648 : Int) ≤ w4.toInt) (q2_w4 : w4.toInt ≤ (-1 : Int))  : Met l yX9_set (.code yX9_set cX9_set 7 (some .int) :: lw_g) { frames := 2, cells := 0, slots := 0, locals := 44 } (va_Pc [.ref (b + 405), .int 1, .int w1, .int w2, .int w3, .int w4] (zx_w g σ)) (va_Qi (fun r u => r = 0 ∧ u = (ap b σ [(405, 0, 2)] [] [])) (zx_w g) (gx_Q g)) 0 0 (gx_Q g) := by
  refine z_met (by decide) (Nat.le_of_ble_eq_true rfl) (fun p e s m below meth c B hr hin => ?_)
  refine z_eqs (σ' := (ap b σ [] [] [])) rfl ?_
  show zx p l e _ s m _ below meth c g 7 0 0 _ _ 0 [(0, .ref (b + 405)), (1, .int 1), (2, .int w1), (3, .int w2), (4, .int w3), (5, .int w4)] []
  refine z_aload_n B dX9_set_0 rfl 0 rfl ?_
  refine z_iload_n B dX9_set_1 rfl 1 rfl ?_
  refine z_iload_n B dX9_set_2 rfl 2 rfl ?_
  refine z_cSi (As := [.int 1, .int w1]) (rest := [.ref (b + 405)]) B cw_X9_238 dX9_set_3 (ci_X9_isStep_136 l (σ := (ap b σ [] [] [])) (b := b) (lyA hK) w1 q1_w1 q2_w1) rfl (by decide) rfl (Nat.le_of_ble_eq_true rfl) (by decide) (fun r u hu => ?_)
  refine z_eqs (σ' := (ap b σ [] [] [])) hu.2 ?_
  show zx p l e _ s m _ below meth c g 7 0 0 _ _ 6 [(0, .ref (b + 405)), (1, .int 1), (2, .int w1), (3, .int w2), (4, .int w3), (5, .int w4)] _
  refine z_seti (y := 1) hu.1 ?_
  refine z_iload_n B dX9_set_6 rfl 3 rfl ?_
  refine z_iload B dX9_set_7 4 rfl ?_
  refine z_iload B dX9_set_9 5 rfl ?_
  refine z_cSi (As := [.int w2, .int w3, .int w4]) (rest := [.int 1, .ref (b + 405)]) B cw_X9_242 dX9_set_11 (ci_X9_isOperation_37 l (σ := (ap b σ [] [] [])) (b := b) (lyA hK) w2 w3 w4 q1_w2 q2_w2 q1_w3 q2_w3 q1_w4 q2_w4) rfl (by decide) rfl (Nat.le_of_ble_eq_true rfl) (by decide) (fun r u hu => ?_)
  refine z_eqs (σ' := (ap b σ [] [] [])) hu.2 ?_
  show zx p l e _ s m _ below meth c g 7 0 0 _ _ 14 [(0, .ref (b + 405)), (1, .int 1), (2, .int w1), (3, .int w2), (4, .int w3), (5, .int w4)] _
  refine z_seti (y := 0) hu.1 ?_
  refine z_cVi (As := [.int 1, .int 0]) (rest := []) B cw_X9_245 cx_10 dX9_set_14 (ci_X9_needs__71 l (σ := (ap b σ [] [] [])) (b := b) (lyA hK) ) (lKA (hk_K hK 405 rfl rfl)) rfl (by decide) rfl (Nat.le_of_ble_eq_true rfl) (by decide) (fun r u hu => ?_)
  refine z_eqs (σ' := (ap b σ [(405, 0, 2)] [] [])) (hu.2.trans ap_ap) ?_
  show zx p l e _ s m _ below meth c g 7 0 0 _ _ 17 [(0, .ref (b + 405)), (1, .int 1), (2, .int w1), (3, .int w2), (4, .int w3), (5, .int w4)] _
  refine z_seti (y := 0) hu.1 ?_
  refine z_if_ne (tgt := 22) B dX9_set_17 (by decide) (fun h => absurd (by decide) h) (fun _ => ?_)
  refine z_iconst (v := 0) B dX9_set_20 (by decide) ?_
  exact z_iret B hr (by decide) (by decide) dX9_set_21 ⟨rfl, rfl⟩
set_option maxRecDepth 100000 in
set_option maxHeartbeats 4000000 in
theorem ci_X4_put_144 (l : Launch) {g : gx_T} {σ : sx_T} {b : Nat} (hK : lay b σ) (w1 : Int32) (w2 : Int32) (w3 : Int32) (w4 : Int32) (q1_w1 : (0 : Int) ≤ w1.toInt) (q2_w1 : w1.toInt ≤ (19 : Int)) (hR_13_1 : sx_R σ (b + 13) 1 = (some (b + 14))) (hR_13_2 : sx_R σ (b + 13) 2 = (some (b + 15))) (hR_13_3 : sx_R σ (b + 13) 3 = (some (b + 16))) : Met l yX4_put (.code yX4_put cX4_put 5 none :: lw_g) { frames := 0, cells := 0, slots := 0, locals := 0 } (va_Pc [.ref (b + 13), .int w1, .int w2, .int w3, .int w4] (zx_w g σ)) (va_Qv (fun u => u = (ap b (wx_I (ap b (wx_I (ap b (wx_I (ap b σ [] [] []) (b + 14) w1.toNatClampNeg w2) [] [] []) (b + 15) w1.toNatClampNeg w3) [] [] []) (b + 16) w1.toNatClampNeg w4) [] [] [])) (zx_w g) (gx_Q g)) 0 0 (gx_Q g) := by
  refine z_met (by decide) (Nat.le_of_ble_eq_true rfl) (fun p e s m below meth c B hr hin => ?_)
  refine z_eqs (σ' := (ap b σ [] [] [])) rfl ?_
  show zx p l e _ s m _ below meth c g 5 0 0 _ _ 0 [(0, .ref (b + 13)), (1, .int w1), (2, .int w2), (3, .int w3), (4, .int w4)] []
  refine z_iload_n B dX4_put_0 rfl 1 rfl ?_
  refine z_if_lt (tgt := 53) B dX4_put_1 (by decide) (fun h => absurd h (iv_nlt q1_w1 (by decide))) (fun _ => ?_)
  refine z_iload_n B dX4_put_4 rfl 1 rfl ?_
  refine z_aload_n B dX4_put_5 rfl 0 rfl ?_
  refine gf_X4_9 (x := (some (b + 14))) B (lKA (hk_K hK 13 rfl rfl)) (rR_at 13 1 hR_13_1) dX4_put_6 ?_
  refine z_alen (kd := 13) (ti := 1) (v := 20) B (lKA (hk_K hK 14 rfl rfl)) (by decide) rfl (congrArg Int32.ofNat (lNA (hk_N hK 14 rfl rfl))) dX4_put_9 ?_
  refine z_icmp_ge (tgt := 53) B dX4_put_10 (by decide) (fun h => absurd h (iv_nge q2_w1 (by decide))) (fun _ => ?_)
  refine z_iload_n B dX4_put_13 rfl 1 rfl ?_
  refine z_aload_n B dX4_put_14 rfl 0 rfl ?_
  refine gf_X4_15 (x := (some (b + 15))) B (lKA (hk_K hK 13 rfl rfl)) (rR_at 13 2 hR_13_2) dX4_put_15 ?_
  refine z_alen (kd := 13) (ti := 1) (v := 20) B (lKA (hk_K hK 15 rfl rfl)) (by decide) rfl (congrArg Int32.ofNat (lNA (hk_N hK 15 rfl rfl))) dX4_put_18 ?_
  refine z_icmp_ge (tgt := 53) B dX4_put_19 (by decide) (fun h => absurd h (iv_nge q2_w1 (by decide))) (fun _ => ?_)
  refine z_iload_n B dX4_put_22 rfl 1 rfl ?_
  refine z_aload_n B dX4_put_23 rfl 0 rfl ?_
  refine gf_X4_18 (x := (some (b + 16))) B (lKA (hk_K hK 13 rfl rfl)) (rR_at 13 3 hR_13_3) dX4_put_24 ?_
  refine z_alen (kd := 13) (ti := 1) (v := 20) B (lKA (hk_K hK 16 rfl rfl)) (by decide) rfl (congrArg Int32.ofNat (lNA (hk_N hK 16 rfl rfl))) dX4_put_27 ?_
  refine z_icmp_ge (tgt := 53) B dX4_put_28 (by decide) (fun h => absurd h (iv_nge q2_w1 (by decide))) (fun _ => ?_)
  refine z_aload_n B dX4_put_31 rfl 0 rfl ?_
  refine gf_X4_9 (x := (some (b + 14))) B (lKA (hk_K hK 13 rfl rfl)) (rR_at 13 1 hR_13_1) dX4_put_32 ?_
  refine z_iload_n B dX4_put_35 rfl 1 rfl ?_
  refine z_iload_n B dX4_put_36 rfl 2 rfl ?_
  refine z_iast (j := w1.toNatClampNeg) (σ' := (wx_I (ap b σ [] [] []) (b + 14) w1.toNatClampNeg w2)) B (lKA (hk_K hK 14 rfl rfl)) rfl (in_of (lNA (hk_N hK 14 rfl rfl)) (iv_in q1_w1 q2_w1 (by decide) (by decide))) rfl dX4_put_37 ?_
  refine z_eqs (σ' := (ap b (wx_I (ap b σ [] [] []) (b + 14) w1.toNatClampNeg w2) [] [] [])) ap_nil ?_
  refine z_aload_n B dX4_put_38 rfl 0 rfl ?_
  refine gf_X4_15 (x := (some (b + 15))) B (lKA (lKW (lKA (hk_K hK 13 rfl rfl)))) (rR_at 13 2 (rR_w (rR_at 13 2 hR_13_2))) dX4_put_39 ?_
  refine z_iload_n B dX4_put_42 rfl 1 rfl ?_
  refine z_iload_n B dX4_put_43 rfl 3 rfl ?_
  refine z_iast (j := w1.toNatClampNeg) (σ' := (wx_I (ap b (wx_I (ap b σ [] [] []) (b + 14) w1.toNatClampNeg w2) [] [] []) (b + 15) w1.toNatClampNeg w3)) B (lKA (lKW (lKA (hk_K hK 15 rfl rfl)))) rfl (in_of (lNA (lNW (lNA (hk_N hK 15 rfl rfl)))) (iv_in q1_w1 q2_w1 (by decide) (by decide))) rfl dX4_put_44 ?_
  refine z_eqs (σ' := (ap b (wx_I (ap b (wx_I (ap b σ [] [] []) (b + 14) w1.toNatClampNeg w2) [] [] []) (b + 15) w1.toNatClampNeg w3) [] [] [])) ap_nil ?_
  refine z_aload_n B dX4_put_45 rfl 0 rfl ?_
  refine gf_X4_18 (x := (some (b + 16))) B (lKA (lKW (lKA (lKW (lKA (hk_K hK 13 rfl rfl)))))) (rR_at 13 3 (rR_w (rR_at 13 3 (rR_w (rR_at 13 3 hR_13_3))))) dX4_put_46 ?_
  refine z_iload_n B dX4_put_49 rfl 1 rfl ?_
  refine z_iload B dX4_put_50 4 rfl ?_
  refine z_iast (j := w1.toNatClampNeg) (σ' := (wx_I (ap b (wx_I (ap b (wx_I (ap b σ [] [] []) (b + 14) w1.toNatClampNeg w2) [] [] []) (b + 15) w1.toNatClampNeg w3) [] [] []) (b + 16) w1.toNatClampNeg w4)) B (lKA (lKW (lKA (lKW (lKA (hk_K hK 16 rfl rfl)))))) rfl (in_of (lNA (lNW (lNA (lNW (lNA (hk_N hK 16 rfl rfl)))))) (iv_in q1_w1 q2_w1 (by decide) (by decide))) rfl dX4_put_52 ?_
  refine z_eqs (σ' := (ap b (wx_I (ap b (wx_I (ap b (wx_I (ap b σ [] [] []) (b + 14) w1.toNatClampNeg w2) [] [] []) (b + 15) w1.toNatClampNeg w3) [] [] []) (b + 16) w1.toNatClampNeg w4) [] [] [])) ap_nil ?_
  exact z_vret B hr (by decide) (by decide) dX4_put_53 rfl
set_option maxRecDepth 100000 in
set_option maxHeartbeats 4000000 in
theorem ci_X8_findAgain_145 (l : Launch) {g : gx_T} {σ : sx_T} {b : Nat} (hK : lay b σ)   (hI_0_7 : sx_I σ (b + 0) 7 = 0) : Met l yX8_findAgain (.code yX8_findAgain cX8_findAgain 4 none :: lw_g) { frames := 0, cells := 0, slots := 0, locals := 0 } (va_Pc [.ref (b + 0), .ref (b + 13)] (zx_w g σ)) (va_Qv (fun u => u = σ) (zx_w g) (gx_Q g)) 0 0 (gx_Q g) := by
  refine z_met (by decide) (Nat.le_of_ble_eq_true rfl) (fun p e s m below meth c B hr hin => ?_)
  refine z_eqs (σ' := (ap b σ [] [] [])) rfl ?_
  show zx p l e _ s m _ below meth c g 4 0 0 _ _ 0 [(0, .ref (b + 0)), (1, .ref (b + 13))] []
  refine z_iconst (v := 0) B dX8_findAgain_0 (by decide) ?_
  refine z_istore_n (lv' := [(2, .int 0), (0, .ref (b + 0)), (1, .ref (b + 13))]) B dX8_findAgain_1 rfl (by decide) rfl ?_
  refine z_iload_n B dX8_findAgain_2 rfl 0 rfl ?_
  refine z_aload_n B dX8_findAgain_3 rfl 1 rfl ?_
  refine gf_X8_96 (x := 0) B (lKA (hk_K hK 0 rfl rfl)) (rI_at 0 7 hI_0_7) dX8_findAgain_4 ?_
  refine z_icmp_ge (tgt := 45) B dX8_findAgain_7 (by decide) (fun _ => ?_) (fun h => absurd (by decide) h)
  exact z_vret B hr (by decide) (by decide) dX8_findAgain_45 rfl
set_option maxRecDepth 100000 in
set_option maxHeartbeats 4000000 in
theorem ci_X8_countAstray_146 (l : Launch) {g : gx_T} {σ : sx_T} {b : Nat} (hK : lay b σ)   (hI_0_7 : sx_I σ (b + 0) 7 = 0) : Met l yX8_countAstray (.code yX8_countAstray cX8_countAstray 5 (some .int) :: lw_g) { frames := 0, cells := 0, slots := 0, locals := 0 } (va_Pc [.ref (b + 0), .ref (b + 13)] (zx_w g σ)) (va_Qi (fun r u => r = 0 ∧ u = σ) (zx_w g) (gx_Q g)) 0 0 (gx_Q g) := by
  refine z_met (by decide) (Nat.le_of_ble_eq_true rfl) (fun p e s m below meth c B hr hin => ?_)
  refine z_eqs (σ' := (ap b σ [] [] [])) rfl ?_
  show zx p l e _ s m _ below meth c g 5 0 0 _ _ 0 [(0, .ref (b + 0)), (1, .ref (b + 13))] []
  refine z_iconst (v := 0) B dX8_countAstray_0 (by decide) ?_
  refine z_istore_n (lv' := [(2, .int 0), (0, .ref (b + 0)), (1, .ref (b + 13))]) B dX8_countAstray_1 rfl (by decide) rfl ?_
  refine z_iconst (v := 0) B dX8_countAstray_2 (by decide) ?_
  refine z_istore_n (lv' := [(3, .int 0), (2, .int 0), (0, .ref (b + 0)), (1, .ref (b + 13))]) B dX8_countAstray_3 rfl (by decide) rfl ?_
  refine z_iload_n B dX8_countAstray_4 rfl 0 rfl ?_
  refine z_aload_n B dX8_countAstray_5 rfl 2 rfl ?_
  refine gf_X8_96 (x := 0) B (lKA (hk_K hK 0 rfl rfl)) (rI_at 0 7 hI_0_7) dX8_countAstray_6 ?_
  refine z_icmp_ge (tgt := 61) B dX8_countAstray_9 (by decide) (fun _ => ?_) (fun h => absurd (by decide) h)
  refine z_iload_n B dX8_countAstray_61 rfl 1 rfl ?_
  exact z_iret B hr (by decide) (by decide) dX8_countAstray_62 ⟨rfl, rfl⟩
set_option maxRecDepth 100000 in
set_option maxHeartbeats 4000000 in
theorem ci_X8_set_147 (l : Launch) {g : gx_T} {σ : sx_T} {b : Nat} (hK : lay b σ) (w1 : Int32) (w2 : Int32) (w3 : Int32) (w4 : Int32) (q1_w1 : (0 : Int) ≤ w1.toInt) (q2_w1 : w1.toInt ≤ (19 : Int)) (q1_w2 : (0 : Int) ≤ w2.toInt) (q2_w2 : w2.toInt ≤ (17 : Int)) (q1_w3 : (0 : Int) ≤ w3.toInt) (q2_w3 : w3.toInt ≤ (99 : Int)) (q1_w4 : (0 : Int) ≤ w4.toInt) (q2_w4 : w4.toInt ≤ (99 : Int)) (hI_0_7 : sx_I σ (b + 0) 7 = 0) (hR_0_0 : sx_R σ (b + 0) 0 = (some (b + 1))) (hR_1_1 : sx_R σ (b + 1) 1 = (some (b + 13))) (hR_13_1 : sx_R σ (b + 13) 1 = (some (b + 14))) (hR_13_2 : sx_R σ (b + 13) 2 = (some (b + 15))) (hR_13_3 : sx_R σ (b + 13) 3 = (some (b + 16))) : Met l yX8_set (.code yX8_set cX8_set 9 (some .int) :: lw_g) { frames := 2, cells := 0, slots := 0, locals := 43 } (va_Pc [.ref (b + 0), .int 1, .int w1, .int w2, .int w3, .int w4] (zx_w g σ)) (va_Qi (fun r u => r = 0 ∧ u = (ap b (wx_I (ap b (wx_I (ap b (wx_I (ap b (ap b σ [] [] []) [] [] []) (b + 14) w1.toNatClampNeg w2) [] [] []) (b + 15) w1.toNatClampNeg w3) [] [] []) (b + 16) w1.toNatClampNeg w4) [] [] [])) (zx_w g) (gx_Q g)) 0 0 (gx_Q g) := by
  refine z_met (by decide) (Nat.le_of_ble_eq_true rfl) (fun p e s m below meth c B hr hin => ?_)
  refine z_eqs (σ' := (ap b σ [] [] [])) rfl ?_
  show zx p l e _ s m _ below meth c g 9 0 0 _ _ 0 [(0, .ref (b + 0)), (1, .int 1), (2, .int w1), (3, .int w2), (4, .int w3), (5, .int w4)] []
  refine z_aload_n B dX8_set_0 rfl 0 rfl ?_
  refine z_iload_n B dX8_set_1 rfl 1 rfl ?_
  refine z_cVq (As := [.int 1]) (rest := []) B cw_X8_64 cx_9 dX8_set_2 (ci_X8_programAt_122 l (σ := (ap b σ [] [] [])) (b := b) (lyA hK) (rR_at 0 0 hR_0_0) (rR_at 1 1 hR_1_1)) (lKA (hk_K hK 0 rfl rfl)) rfl (by decide) rfl (Nat.le_of_ble_eq_true rfl) (by decide) (fun r u hu => ?_)
  refine z_eqs (σ' := (ap b σ [] [] [])) hu.2 ?_
  show zx p l e _ s m _ below meth c g 9 0 0 _ _ 5 [(0, .ref (b + 0)), (1, .int 1), (2, .int w1), (3, .int w2), (4, .int w3), (5, .int w4)] _
  refine z_setr (y := (some (b + 13))) hu.1 ?_
  refine z_astore (lv' := [(6, .ref (b + 13)), (0, .ref (b + 0)), (1, .int 1), (2, .int w1), (3, .int w2), (4, .int w3), (5, .int w4)]) B dX8_set_5 (by decide) rfl ?_
  refine z_aload B dX8_set_7 0 rfl ?_
  refine z_ifnull (r := (some (b + 13))) (tgt := 21) B dX8_set_9 (by decide) (fun h => nomatch h) (fun _ _ => ?_)
  refine z_iload_n B dX8_set_12 rfl 3 rfl ?_
  refine z_bipush (v := 20) B dX8_set_13 (by decide) ?_
  refine z_cSi (As := [.int w1, .int 20]) (rest := []) B cw_X8_68 dX8_set_15 (ci_X8_isBelow_64 l (σ := (ap b σ [] [] [])) (b := b) (lyA hK) w1 q1_w1 q2_w1) rfl (by decide) rfl (Nat.le_of_ble_eq_true rfl) (by decide) (fun r u hu => ?_)
  refine z_eqs (σ' := (ap b σ [] [] [])) hu.2 ?_
  show zx p l e _ s m _ below meth c g 9 0 0 _ _ 18 [(6, .ref (b + 13)), (0, .ref (b + 0)), (1, .int 1), (2, .int w1), (3, .int w2), (4, .int w3), (5, .int w4)] _
  refine z_seti (y := 1) hu.1 ?_
  refine z_if_ne (tgt := 31) B dX8_set_18 (by decide) (fun _ => ?_) (fun h => absurd h (by decide))
  refine z_iload_n B dX8_set_31 rfl 4 rfl ?_
  refine z_iload B dX8_set_32 5 rfl ?_
  refine z_iload B dX8_set_34 6 rfl ?_
  refine z_cSi (As := [.int w2, .int w3, .int w4]) (rest := []) B cw_X8_79 dX8_set_36 (ci_X8_isStep_85 l (σ := (ap b σ [] [] [])) (b := b) (lyA hK) w2 w3 w4 q1_w2 q2_w2 q1_w3 q2_w3 q1_w4 q2_w4) rfl (by decide) rfl (Nat.le_of_ble_eq_true rfl) (by decide) (fun r u hu => ?_)
  refine z_eqs (σ' := (ap b σ [] [] [])) hu.2 ?_
  show zx p l e _ s m _ below meth c g 9 0 0 _ _ 39 [(6, .ref (b + 13)), (0, .ref (b + 0)), (1, .int 1), (2, .int w1), (3, .int w2), (4, .int w3), (5, .int w4)] _
  refine z_seti (y := 1) hu.1 ?_
  refine z_if_ne (tgt := 52) B dX8_set_39 (by decide) (fun _ => ?_) (fun h => absurd h (by decide))
  refine z_aload B dX8_set_52 0 rfl ?_
  refine z_iload_n B dX8_set_54 rfl 3 rfl ?_
  refine z_iload_n B dX8_set_55 rfl 4 rfl ?_
  refine z_iload B dX8_set_56 5 rfl ?_
  refine z_iload B dX8_set_58 6 rfl ?_
  refine z_cVv (As := [.int w1, .int w2, .int w3, .int w4]) (rest := []) B cw_X8_88 cx_5 dX8_set_60 (ci_X4_put_144 l (σ := (ap b σ [] [] [])) (b := b) (lyA hK) w1 w2 w3 w4 q1_w1 q2_w1 (rR_at 13 1 hR_13_1) (rR_at 13 2 hR_13_2) (rR_at 13 3 hR_13_3)) (lKA (hk_K hK 13 rfl rfl)) rfl (by decide) rfl (Nat.le_of_ble_eq_true rfl) (by decide) (fun u hu => ?_)
  refine z_eqs (σ' := (ap b (wx_I (ap b (wx_I (ap b (wx_I (ap b (ap b σ [] [] []) [] [] []) (b + 14) w1.toNatClampNeg w2) [] [] []) (b + 15) w1.toNatClampNeg w3) [] [] []) (b + 16) w1.toNatClampNeg w4) [] [] [])) hu ?_
  show zx p l e _ s m _ below meth c g 9 0 0 _ _ 63 [(6, .ref (b + 13)), (0, .ref (b + 0)), (1, .int 1), (2, .int w1), (3, .int w2), (4, .int w3), (5, .int w4)] _
  refine z_aload_n B dX8_set_63 rfl 1 rfl ?_
  refine z_aload B dX8_set_64 0 rfl ?_
  refine z_cVv (As := [.ref (b + 13)]) (rest := []) B cw_X8_92 cx_9 dX8_set_66 (ci_X8_findAgain_145 l (σ := (ap b (wx_I (ap b (wx_I (ap b (wx_I (ap b (ap b σ [] [] []) [] [] []) (b + 14) w1.toNatClampNeg w2) [] [] []) (b + 15) w1.toNatClampNeg w3) [] [] []) (b + 16) w1.toNatClampNeg w4) [] [] [])) (b := b) (lyA (lyW (lyA (lyW (lyA (lyW (lyA (lyA hK)))))))) (rI_at 0 7 ((ux_a (by omega)).trans (rI_at 0 7 ((ux_a (by omega)).trans (rI_at 0 7 ((ux_a (by omega)).trans (rI_at 0 7 (rI_at 0 7 hI_0_7))))))))) (lKA (lKW (lKA (lKW (lKA (lKW (lKA (lKA (hk_K hK 0 rfl rfl))))))))) rfl (by decide) rfl (Nat.le_of_ble_eq_true rfl) (by decide) (fun u hu => ?_)
  refine z_eqs (σ' := (ap b (wx_I (ap b (wx_I (ap b (wx_I (ap b (ap b σ [] [] []) [] [] []) (b + 14) w1.toNatClampNeg w2) [] [] []) (b + 15) w1.toNatClampNeg w3) [] [] []) (b + 16) w1.toNatClampNeg w4) [] [] [])) hu ?_
  show zx p l e _ s m _ below meth c g 9 0 0 _ _ 69 [(6, .ref (b + 13)), (0, .ref (b + 0)), (1, .int 1), (2, .int w1), (3, .int w2), (4, .int w3), (5, .int w4)] _
  refine z_iconst (v := 0) B dX8_set_69 (by decide) ?_
  refine z_istore (lv' := [(7, .int 0), (6, .ref (b + 13)), (0, .ref (b + 0)), (1, .int 1), (2, .int w1), (3, .int w2), (4, .int w3), (5, .int w4)]) B dX8_set_70 (by decide) rfl ?_
  refine z_iload B dX8_set_72 0 rfl ?_
  refine z_aload_n B dX8_set_74 rfl 2 rfl ?_
  refine gf_X8_96 (x := 0) B (lKA (lKW (lKA (lKW (lKA (lKW (lKA (lKA (hk_K hK 0 rfl rfl))))))))) (rI_at 0 7 ((ux_a (by omega)).trans (rI_at 0 7 ((ux_a (by omega)).trans (rI_at 0 7 ((ux_a (by omega)).trans (rI_at 0 7 (rI_at 0 7 hI_0_7)))))))) dX8_set_75 ?_
  refine z_icmp_ge (tgt := 124) B dX8_set_78 (by decide) (fun _ => ?_) (fun h => absurd (by decide) h)
  refine z_aload_n B dX8_set_124 rfl 2 rfl ?_
  refine z_aload B dX8_set_125 1 rfl ?_
  refine z_cVi (As := [.ref (b + 13)]) (rest := []) B cw_X8_115 cx_9 dX8_set_127 (ci_X8_countAstray_146 l (σ := (ap b (wx_I (ap b (wx_I (ap b (wx_I (ap b (ap b σ [] [] []) [] [] []) (b + 14) w1.toNatClampNeg w2) [] [] []) (b + 15) w1.toNatClampNeg w3) [] [] []) (b + 16) w1.toNatClampNeg w4) [] [] [])) (b := b) (lyA (lyW (lyA (lyW (lyA (lyW (lyA (lyA hK)))))))) (rI_at 0 7 ((ux_a (by omega)).trans (rI_at 0 7 ((ux_a (by omega)).trans (rI_at 0 7 ((ux_a (by omega)).trans (rI_at 0 7 (rI_at 0 7 hI_0_7))))))))) (lKA (lKW (lKA (lKW (lKA (lKW (lKA (lKA (hk_K hK 0 rfl rfl))))))))) rfl (by decide) rfl (Nat.le_of_ble_eq_true rfl) (by decide) (fun r u hu => ?_)
  refine z_eqs (σ' := (ap b (wx_I (ap b (wx_I (ap b (wx_I (ap b (ap b σ [] [] []) [] [] []) (b + 14) w1.toNatClampNeg w2) [] [] []) (b + 15) w1.toNatClampNeg w3) [] [] []) (b + 16) w1.toNatClampNeg w4) [] [] [])) hu.2 ?_
  show zx p l e _ s m _ below meth c g 9 0 0 _ _ 130 [(7, .int 0), (6, .ref (b + 13)), (0, .ref (b + 0)), (1, .int 1), (2, .int w1), (3, .int w2), (4, .int w3), (5, .int w4)] _
  refine z_seti (y := 0) hu.1 ?_
  exact z_iret B hr (by decide) (by decide) dX8_set_130 ⟨rfl, rfl⟩
set_option maxRecDepth 100000 in
set_option maxHeartbeats 4000000 in
theorem ci_L_set_148 (l : Launch) {g : gx_T} {σ : sx_T} {b : Nat} (hK : lay b σ) (w1 : Int32) (w2 : Int32) (w3 : Int32) (w4 : Int32) (q1_w1 : (0 : Int) ≤ w1.toInt) (q2_w1 : w1.toInt ≤ (19 : Int)) (q1_w2 : (0 : Int) ≤ w2.toInt) (q2_w2 : w2.toInt ≤ (17 : Int)) (q1_w3 : (0 : Int) ≤ w3.toInt) (q2_w3 : w3.toInt ≤ (99 : Int)) (q1_w4 : (0 : Int) ≤ w4.toInt) (q2_w4 : w4.toInt ≤ (99 : Int)) (hI_0_7 : sx_I σ (b + 0) 7 = 0) (hR_0_0 : sx_R σ (b + 0) 0 = (some (b + 1))) (hR_1_1 : sx_R σ (b + 1) 1 = (some (b + 13))) (hR_13_1 : sx_R σ (b + 13) 1 = (some (b + 14))) (hR_13_2 : sx_R σ (b + 13) 2 = (some (b + 15))) (hR_13_3 : sx_R σ (b + 13) 3 = (some (b + 16))) : Met l yL_set (.codeWith yL_set cL_set 8 (some .int) [(0, 16, 19, 13), (0, 16, 23, 15)] :: lw_g) { frames := 3, cells := 0, slots := 0, locals := 71 } (va_Pc [.ref (b + 0), .int 1, .int w1, .int w2, .int w3, .int w4, .ref (b + 431)] (zx_w g σ)) (va_Qi (fun r u => r = 0 ∧ u = (ap b (wx_I (ap b (wx_I (ap b (wx_I (ap b (ap b (ap b σ [] [] []) [] [] []) [] [] []) (b + 14) w1.toNatClampNeg w2) [] [] []) (b + 15) w1.toNatClampNeg w3) [] [] []) (b + 16) w1.toNatClampNeg w4) [] [(431, 0, 0)] [])) (zx_w g) (gx_Q g)) 0 0 (gx_Q g) := by
  refine z_metW (by decide) (Nat.le_of_ble_eq_true rfl) (fun p e s m below meth c B hr htab => ?_)
  refine z_eqs (σ' := (ap b σ [] [] [])) rfl ?_
  show zx p l e _ s m _ below meth c g 8 0 0 _ _ 0 [(0, .ref (b + 0)), (1, .int 1), (2, .int w1), (3, .int w2), (4, .int w3), (5, .int w4), (6, .ref (b + 431))] []
  refine z_aload B dL_set_0 6 rfl ?_
  refine z_iconst (v := 0) B dL_set_2 (by decide) ?_
  refine z_aload_n B dL_set_3 rfl 0 rfl ?_
  refine z_iload_n B dL_set_4 rfl 1 rfl ?_
  refine z_iload_n B dL_set_5 rfl 2 rfl ?_
  refine z_iload_n B dL_set_6 rfl 3 rfl ?_
  refine z_iload B dL_set_7 4 rfl ?_
  refine z_iload B dL_set_9 5 rfl ?_
  refine z_cVi (As := [.int 1, .int w1, .int w2, .int w3, .int w4]) (rest := [.int 0, .ref (b + 431)]) B cw_L_7 cx_9 dL_set_11 (ci_X8_set_147 l (σ := (ap b σ [] [] [])) (b := b) (lyA hK) w1 w2 w3 w4 q1_w1 q2_w1 q1_w2 q2_w2 q1_w3 q2_w3 q1_w4 q2_w4 (rI_at 0 7 hI_0_7) (rR_at 0 0 hR_0_0) (rR_at 1 1 hR_1_1) (rR_at 13 1 hR_13_1) (rR_at 13 2 hR_13_2) (rR_at 13 3 hR_13_3)) (lKA (hk_K hK 0 rfl rfl)) rfl (by decide) rfl (Nat.le_of_ble_eq_true rfl) (by decide) (fun r u hu => ?_)
  refine z_eqs (σ' := (ap b (wx_I (ap b (wx_I (ap b (wx_I (ap b (ap b (ap b σ [] [] []) [] [] []) [] [] []) (b + 14) w1.toNatClampNeg w2) [] [] []) (b + 15) w1.toNatClampNeg w3) [] [] []) (b + 16) w1.toNatClampNeg w4) [] [] [])) hu.2 ?_
  show zx p l e _ s m _ below meth c g 8 0 0 _ _ 14 [(0, .ref (b + 0)), (1, .int 1), (2, .int w1), (3, .int w2), (4, .int w3), (5, .int w4), (6, .ref (b + 431))] _
  refine z_seti (y := 0) hu.1 ?_
  refine z_i2l (v := 0) B dL_set_14 (by decide) ?_
  refine z_last (j := 0) (σ' := (ap b (wx_I (ap b (wx_I (ap b (wx_I (ap b (ap b (ap b σ [] [] []) [] [] []) [] [] []) (b + 14) w1.toNatClampNeg w2) [] [] []) (b + 15) w1.toNatClampNeg w3) [] [] []) (b + 16) w1.toNatClampNeg w4) [] [(431, 0, 0)] [])) B (lKA (lKW (lKA (lKW (lKA (lKW (lKA (lKA (lKA (hk_K hK 431 rfl rfl)))))))))) (by decide) (in_of (lNA (lNW (lNA (lNW (lNA (lNW (lNA (lNA (lNA (hk_N hK 431 rfl rfl)))))))))) (show ¬ ((0 : Int32) < 0 ∨ 1 ≤ (0 : Int32).toNatClampNeg) by decide)) wJ_ap dL_set_15 ?_
  refine z_goto (tgt := 27) B dL_set_16 (by decide) ?_
  refine z_iconst (v := 0) B dL_set_27 (by decide) ?_
  exact z_iret B hr (by decide) (by decide) dL_set_28 ⟨rfl, rfl⟩
set_option maxRecDepth 100000 in
set_option maxHeartbeats 4000000 in
theorem ci_X9_lays_149 (l : Launch) {g : gx_T} {σ : sx_T} {b : Nat} (hK : lay b σ) (w1 : Int32) (w2 : Int32) (w3 : Int32) (w4 : Int32) (q1_w1 : (0 : Int) ≤ w1.toInt) (q2_w1 : w1.toInt ≤ (19 : Int)) (hR_405_3 : sx_R σ (b + 405) 3 = (some (b + 406))) (hR_405_4 : sx_R σ (b + 405) 4 = (some (b + 407))) (hR_405_5 : sx_R σ (b + 405) 5 = (some (b + 408))) : Met l yX9_lays (.code yX9_lays cX9_lays 6 none :: lw_g) { frames := 0, cells := 0, slots := 0, locals := 0 } (va_Pc [.ref (b + 405), .int 1, .int w1, .int w2, .int w3, .int w4] (zx_w g σ)) (va_Qv (fun u => u = (ap b (wx_I (ap b (wx_I (ap b (wx_I (ap b σ [] [] []) (b + 406) (20 + w1).toNatClampNeg w2) [] [] []) (b + 407) (20 + w1).toNatClampNeg w3) [] [] []) (b + 408) (20 + w1).toNatClampNeg w4) [] [] [])) (zx_w g) (gx_Q g)) 0 0 (gx_Q g) := by
  refine z_met (by decide) (Nat.le_of_ble_eq_true rfl) (fun p e s m below meth c B hr hin => ?_)
  refine z_eqs (σ' := (ap b σ [] [] [])) rfl ?_
  show zx p l e _ s m _ below meth c g 6 0 0 _ _ 0 [(0, .ref (b + 405)), (1, .int 1), (2, .int w1), (3, .int w2), (4, .int w3), (5, .int w4)] []
  refine z_aload_n B dX9_lays_0 rfl 0 rfl ?_
  refine gf_X9_13 (x := (some (b + 406))) B (lKA (hk_K hK 405 rfl rfl)) (rR_at 405 3 hR_405_3) dX9_lays_1 ?_
  refine z_bipush (v := 20) B dX9_lays_4 (by decide) ?_
  refine z_iload_n B dX9_lays_6 rfl 1 rfl ?_
  refine z_imul B dX9_lays_7 ?_
  refine z_seti (y := 20) (by decide) ?_
  refine z_iload_n B dX9_lays_8 rfl 2 rfl ?_
  refine z_iadd B dX9_lays_9 ?_
  refine z_iload_n B dX9_lays_10 rfl 3 rfl ?_
  refine z_iast (j := (20 + w1).toNatClampNeg) (σ' := (wx_I (ap b σ [] [] []) (b + 406) (20 + w1).toNatClampNeg w2)) B (lKA (hk_K hK 406 rfl rfl)) rfl (in_of (lNA (hk_N hK 406 rfl rfl)) (iv_inadd q1_w1 q2_w1 (by decide) (by decide))) rfl dX9_lays_11 ?_
  refine z_eqs (σ' := (ap b (wx_I (ap b σ [] [] []) (b + 406) (20 + w1).toNatClampNeg w2) [] [] [])) ap_nil ?_
  refine z_aload_n B dX9_lays_12 rfl 0 rfl ?_
  refine gf_X9_17 (x := (some (b + 407))) B (lKA (lKW (lKA (hk_K hK 405 rfl rfl)))) (rR_at 405 4 (rR_w (rR_at 405 4 hR_405_4))) dX9_lays_13 ?_
  refine z_bipush (v := 20) B dX9_lays_16 (by decide) ?_
  refine z_iload_n B dX9_lays_18 rfl 1 rfl ?_
  refine z_imul B dX9_lays_19 ?_
  refine z_seti (y := 20) (by decide) ?_
  refine z_iload_n B dX9_lays_20 rfl 2 rfl ?_
  refine z_iadd B dX9_lays_21 ?_
  refine z_iload B dX9_lays_22 4 rfl ?_
  refine z_iast (j := (20 + w1).toNatClampNeg) (σ' := (wx_I (ap b (wx_I (ap b σ [] [] []) (b + 406) (20 + w1).toNatClampNeg w2) [] [] []) (b + 407) (20 + w1).toNatClampNeg w3)) B (lKA (lKW (lKA (hk_K hK 407 rfl rfl)))) rfl (in_of (lNA (lNW (lNA (hk_N hK 407 rfl rfl)))) (iv_inadd q1_w1 q2_w1 (by decide) (by decide))) rfl dX9_lays_24 ?_
  refine z_eqs (σ' := (ap b (wx_I (ap b (wx_I (ap b σ [] [] []) (b + 406) (20 + w1).toNatClampNeg w2) [] [] []) (b + 407) (20 + w1).toNatClampNeg w3) [] [] [])) ap_nil ?_
  refine z_aload_n B dX9_lays_25 rfl 0 rfl ?_
  refine gf_X9_20 (x := (some (b + 408))) B (lKA (lKW (lKA (lKW (lKA (hk_K hK 405 rfl rfl)))))) (rR_at 405 5 (rR_w (rR_at 405 5 (rR_w (rR_at 405 5 hR_405_5))))) dX9_lays_26 ?_
  refine z_bipush (v := 20) B dX9_lays_29 (by decide) ?_
  refine z_iload_n B dX9_lays_31 rfl 1 rfl ?_
  refine z_imul B dX9_lays_32 ?_
  refine z_seti (y := 20) (by decide) ?_
  refine z_iload_n B dX9_lays_33 rfl 2 rfl ?_
  refine z_iadd B dX9_lays_34 ?_
  refine z_iload B dX9_lays_35 5 rfl ?_
  refine z_iast (j := (20 + w1).toNatClampNeg) (σ' := (wx_I (ap b (wx_I (ap b (wx_I (ap b σ [] [] []) (b + 406) (20 + w1).toNatClampNeg w2) [] [] []) (b + 407) (20 + w1).toNatClampNeg w3) [] [] []) (b + 408) (20 + w1).toNatClampNeg w4)) B (lKA (lKW (lKA (lKW (lKA (hk_K hK 408 rfl rfl)))))) rfl (in_of (lNA (lNW (lNA (lNW (lNA (hk_N hK 408 rfl rfl)))))) (iv_inadd q1_w1 q2_w1 (by decide) (by decide))) rfl dX9_lays_37 ?_
  refine z_eqs (σ' := (ap b (wx_I (ap b (wx_I (ap b (wx_I (ap b σ [] [] []) (b + 406) (20 + w1).toNatClampNeg w2) [] [] []) (b + 407) (20 + w1).toNatClampNeg w3) [] [] []) (b + 408) (20 + w1).toNatClampNeg w4) [] [] [])) ap_nil ?_
  exact z_vret B hr (by decide) (by decide) dX9_lays_38 rfl
set_option maxRecDepth 100000 in
set_option maxHeartbeats 4000000 in
theorem ci_X9_unfit_150 (l : Launch) {g : gx_T} {σ : sx_T} {b : Nat} (hK : lay b σ)   (hI_405_6 : sx_I σ (b + 405) 6 = 0) : Met l yX9_unfit (.code yX9_unfit cX9_unfit 4 (some .int) :: lw_g) { frames := 0, cells := 0, slots := 0, locals := 0 } (va_Pc [.ref (b + 405), .int 1] (zx_w g σ)) (va_Qi (fun r u => r = 0 ∧ u = σ) (zx_w g) (gx_Q g)) 0 0 (gx_Q g) := by
  refine z_met (by decide) (Nat.le_of_ble_eq_true rfl) (fun p e s m below meth c B hr hin => ?_)
  refine z_eqs (σ' := (ap b σ [] [] [])) rfl ?_
  show zx p l e _ s m _ below meth c g 4 0 0 _ _ 0 [(0, .ref (b + 405)), (1, .int 1)] []
  refine z_iconst (v := 0) B dX9_unfit_0 (by decide) ?_
  refine z_istore_n (lv' := [(2, .int 0), (0, .ref (b + 405)), (1, .int 1)]) B dX9_unfit_1 rfl (by decide) rfl ?_
  refine z_iconst (v := 0) B dX9_unfit_2 (by decide) ?_
  refine z_istore_n (lv' := [(3, .int 0), (2, .int 0), (0, .ref (b + 405)), (1, .int 1)]) B dX9_unfit_3 rfl (by decide) rfl ?_
  refine z_iload_n B dX9_unfit_4 rfl 0 rfl ?_
  refine z_aload_n B dX9_unfit_5 rfl 2 rfl ?_
  refine gf_X9_93 (x := 0) B (lKA (hk_K hK 405 rfl rfl)) (rI_at 405 6 hI_405_6) dX9_unfit_6 ?_
  refine z_icmp_ge (tgt := 53) B dX9_unfit_9 (by decide) (fun _ => ?_) (fun h => absurd (by decide) h)
  refine z_iload_n B dX9_unfit_53 rfl 1 rfl ?_
  exact z_iret B hr (by decide) (by decide) dX9_unfit_54 ⟨rfl, rfl⟩
set_option maxRecDepth 100000 in
set_option maxHeartbeats 4000000 in
theorem ci_X9_set_151 (l : Launch) {g : gx_T} {σ : sx_T} {b : Nat} (hK : lay b σ) (w1 : Int32) (w2 : Int32) (w3 : Int32) (w4 : Int32) (q1_w1 : (0 : Int) ≤ w1.toInt) (q2_w1 : w1.toInt ≤ (19 : Int)) (q1_w2 : (0 : Int) ≤ w2.toInt) (q2_w2 : w2.toInt ≤ (17 : Int)) (q1_w3 : (0 : Int) ≤ w3.toInt) (q2_w3 : w3.toInt ≤ (99 : Int)) (q1_w4 : (0 : Int) ≤ w4.toInt) (q2_w4 : w4.toInt ≤ (99 : Int)) (hI_405_6 : sx_I σ (b + 405) 6 = 0) (hR_405_3 : sx_R σ (b + 405) 3 = (some (b + 406))) (hR_405_4 : sx_R σ (b + 405) 4 = (some (b + 407))) (hR_405_5 : sx_R σ (b + 405) 5 = (some (b + 408))) : Met l yX9_set (.code yX9_set cX9_set 7 (some .int) :: lw_g) { frames := 2, cells := 0, slots := 0, locals := 44 } (va_Pc [.ref (b + 405), .int 1, .int w1, .int w2, .int w3, .int w4] (zx_w g σ)) (va_Qi (fun r u => r = 0 ∧ u = (ap b (wx_I (ap b (wx_I (ap b (wx_I (ap b (ap b σ [(405, 0, 0)] [] []) [] [] []) (b + 406) (20 + w1).toNatClampNeg w2) [] [] []) (b + 407) (20 + w1).toNatClampNeg w3) [] [] []) (b + 408) (20 + w1).toNatClampNeg w4) [] [] [])) (zx_w g) (gx_Q g)) 0 0 (gx_Q g) := by
  refine z_met (by decide) (Nat.le_of_ble_eq_true rfl) (fun p e s m below meth c B hr hin => ?_)
  refine z_eqs (σ' := (ap b σ [] [] [])) rfl ?_
  show zx p l e _ s m _ below meth c g 7 0 0 _ _ 0 [(0, .ref (b + 405)), (1, .int 1), (2, .int w1), (3, .int w2), (4, .int w3), (5, .int w4)] []
  refine z_aload_n B dX9_set_0 rfl 0 rfl ?_
  refine z_iload_n B dX9_set_1 rfl 1 rfl ?_
  refine z_iload_n B dX9_set_2 rfl 2 rfl ?_
  refine z_cSi (As := [.int 1, .int w1]) (rest := [.ref (b + 405)]) B cw_X9_238 dX9_set_3 (ci_X9_isStep_136 l (σ := (ap b σ [] [] [])) (b := b) (lyA hK) w1 q1_w1 q2_w1) rfl (by decide) rfl (Nat.le_of_ble_eq_true rfl) (by decide) (fun r u hu => ?_)
  refine z_eqs (σ' := (ap b σ [] [] [])) hu.2 ?_
  show zx p l e _ s m _ below meth c g 7 0 0 _ _ 6 [(0, .ref (b + 405)), (1, .int 1), (2, .int w1), (3, .int w2), (4, .int w3), (5, .int w4)] _
  refine z_seti (y := 1) hu.1 ?_
  refine z_iload_n B dX9_set_6 rfl 3 rfl ?_
  refine z_iload B dX9_set_7 4 rfl ?_
  refine z_iload B dX9_set_9 5 rfl ?_
  refine z_cSi (As := [.int w2, .int w3, .int w4]) (rest := [.int 1, .ref (b + 405)]) B cw_X9_242 dX9_set_11 (ci_X9_isOperation_39 l (σ := (ap b σ [] [] [])) (b := b) (lyA hK) w2 w3 w4 q1_w2 q2_w2 q1_w3 q2_w3 q1_w4 q2_w4) rfl (by decide) rfl (Nat.le_of_ble_eq_true rfl) (by decide) (fun r u hu => ?_)
  refine z_eqs (σ' := (ap b σ [] [] [])) hu.2 ?_
  show zx p l e _ s m _ below meth c g 7 0 0 _ _ 14 [(0, .ref (b + 405)), (1, .int 1), (2, .int w1), (3, .int w2), (4, .int w3), (5, .int w4)] _
  refine z_seti (y := 1) hu.1 ?_
  refine z_cVi (As := [.int 1, .int 1]) (rest := []) B cw_X9_245 cx_10 dX9_set_14 (ci_X9_needs__91 l (σ := (ap b σ [] [] [])) (b := b) (lyA hK) ) (lKA (hk_K hK 405 rfl rfl)) rfl (by decide) rfl (Nat.le_of_ble_eq_true rfl) (by decide) (fun r u hu => ?_)
  refine z_eqs (σ' := (ap b σ [(405, 0, 0)] [] [])) (hu.2.trans ap_ap) ?_
  show zx p l e _ s m _ below meth c g 7 0 0 _ _ 17 [(0, .ref (b + 405)), (1, .int 1), (2, .int w1), (3, .int w2), (4, .int w3), (5, .int w4)] _
  refine z_seti (y := 1) hu.1 ?_
  refine z_if_ne (tgt := 22) B dX9_set_17 (by decide) (fun _ => ?_) (fun h => absurd h (by decide))
  refine z_aload_n B dX9_set_22 rfl 0 rfl ?_
  refine z_iload_n B dX9_set_23 rfl 1 rfl ?_
  refine z_iload_n B dX9_set_24 rfl 2 rfl ?_
  refine z_iload_n B dX9_set_25 rfl 3 rfl ?_
  refine z_iload B dX9_set_26 4 rfl ?_
  refine z_iload B dX9_set_28 5 rfl ?_
  refine z_cVv (As := [.int 1, .int w1, .int w2, .int w3, .int w4]) (rest := []) B cw_X9_249 cx_10 dX9_set_30 (ci_X9_lays_149 l (σ := (ap b σ [(405, 0, 0)] [] [])) (b := b) (lyA hK) w1 w2 w3 w4 q1_w1 q2_w1 (rR_at 405 3 hR_405_3) (rR_at 405 4 hR_405_4) (rR_at 405 5 hR_405_5)) (lKA (hk_K hK 405 rfl rfl)) rfl (by decide) rfl (Nat.le_of_ble_eq_true rfl) (by decide) (fun u hu => ?_)
  refine z_eqs (σ' := (ap b (wx_I (ap b (wx_I (ap b (wx_I (ap b (ap b σ [(405, 0, 0)] [] []) [] [] []) (b + 406) (20 + w1).toNatClampNeg w2) [] [] []) (b + 407) (20 + w1).toNatClampNeg w3) [] [] []) (b + 408) (20 + w1).toNatClampNeg w4) [] [] [])) hu ?_
  show zx p l e _ s m _ below meth c g 7 0 0 _ _ 33 [(0, .ref (b + 405)), (1, .int 1), (2, .int w1), (3, .int w2), (4, .int w3), (5, .int w4)] _
  refine z_iconst (v := 0) B dX9_set_33 (by decide) ?_
  refine z_istore (lv' := [(6, .int 0), (0, .ref (b + 405)), (1, .int 1), (2, .int w1), (3, .int w2), (4, .int w3), (5, .int w4)]) B dX9_set_34 (by decide) rfl ?_
  refine z_iload B dX9_set_36 0 rfl ?_
  refine z_aload_n B dX9_set_38 rfl 1 rfl ?_
  refine gf_X9_93 (x := 0) B (lKA (lKW (lKA (lKW (lKA (lKW (lKA (lKA (hk_K hK 405 rfl rfl))))))))) (rI_at 405 6 ((ux_a (by omega)).trans (rI_at 405 6 ((ux_a (by omega)).trans (rI_at 405 6 ((ux_a (by omega)).trans (rI_at 405 6 (rI_at 405 6 hI_405_6)))))))) dX9_set_39 ?_
  refine z_icmp_ge (tgt := 87) B dX9_set_42 (by decide) (fun _ => ?_) (fun h => absurd (by decide) h)
  refine z_aload_n B dX9_set_87 rfl 1 rfl ?_
  refine z_iload_n B dX9_set_88 rfl 2 rfl ?_
  refine z_cVi (As := [.int 1]) (rest := []) B cw_X9_256 cx_10 dX9_set_89 (ci_X9_unfit_150 l (σ := (ap b (wx_I (ap b (wx_I (ap b (wx_I (ap b (ap b σ [(405, 0, 0)] [] []) [] [] []) (b + 406) (20 + w1).toNatClampNeg w2) [] [] []) (b + 407) (20 + w1).toNatClampNeg w3) [] [] []) (b + 408) (20 + w1).toNatClampNeg w4) [] [] [])) (b := b) (lyA (lyW (lyA (lyW (lyA (lyW (lyA (lyA hK)))))))) (rI_at 405 6 ((ux_a (by omega)).trans (rI_at 405 6 ((ux_a (by omega)).trans (rI_at 405 6 ((ux_a (by omega)).trans (rI_at 405 6 (rI_at 405 6 hI_405_6))))))))) (lKA (lKW (lKA (lKW (lKA (lKW (lKA (lKA (hk_K hK 405 rfl rfl))))))))) rfl (by decide) rfl (Nat.le_of_ble_eq_true rfl) (by decide) (fun r u hu => ?_)
  refine z_eqs (σ' := (ap b (wx_I (ap b (wx_I (ap b (wx_I (ap b (ap b σ [(405, 0, 0)] [] []) [] [] []) (b + 406) (20 + w1).toNatClampNeg w2) [] [] []) (b + 407) (20 + w1).toNatClampNeg w3) [] [] []) (b + 408) (20 + w1).toNatClampNeg w4) [] [] [])) hu.2 ?_
  show zx p l e _ s m _ below meth c g 7 0 0 _ _ 92 [(6, .int 0), (0, .ref (b + 405)), (1, .int 1), (2, .int w1), (3, .int w2), (4, .int w3), (5, .int w4)] _
  refine z_seti (y := 0) hu.1 ?_
  exact z_iret B hr (by decide) (by decide) dX9_set_92 ⟨rfl, rfl⟩
set_option maxRecDepth 100000 in
set_option maxHeartbeats 4000000 in
theorem ci_X8_set_152 (l : Launch) (hlt : l.stackTraces = false) {g : gx_T} {σ : sx_T} {b : Nat} (hK : lay b σ) (w1 : Int32) (w2 : Int32) (w3 : Int32) (w4 : Int32) (q1_w1 : (0 : Int) ≤ w1.toInt) (q2_w1 : w1.toInt ≤ (19 : Int)) (q1_w2 : (0 : Int) ≤ w2.toInt) (q2_w2 : w2.toInt ≤ (17 : Int)) (q1_w3 : (0 : Int) ≤ w3.toInt) (q2_w3 : w3.toInt ≤ (99 : Int)) (q1_w4 : (100 : Int) ≤ w4.toInt) (q2_w4 : w4.toInt ≤ (2147483647 : Int)) (hR_0_0 : sx_R σ (b + 0) 0 = (some (b + 1))) (hR_1_1 : sx_R σ (b + 1) 1 = (some (b + 13))) : vx_Met l yX8_set (.code yX8_set cX8_set 9 (some .int) :: lw_g) { frames := 7, cells := 1, slots := 6, locals := 136 } (va_Pc [.ref (b + 0), .int 1, .int w1, .int w2, .int w3, .int w4] (zx_w g σ)) (va_Qi (S := sx_T) (fun _ _ => False) (zx_w g) (gx_Q g)) (vx_X (fun u : sx_T => ∃ z, u = wx_Z σ z) (fun E u t => E = "java/lang/IllegalArgumentException" ∧ zx_h g u t.heap) (gx_Q g)) 1 6 (gx_Q g) := by
  refine z_metX (by decide) (Nat.le_of_ble_eq_true rfl) (fun p e s m below meth c B hr hin hout => ?_)
  refine z_eqs (σ' := (ap b σ [] [] [])) rfl ?_
  show zx p l e _ s m _ below meth c g 9 0 0 _ _ 0 [(0, .ref (b + 0)), (1, .int 1), (2, .int w1), (3, .int w2), (4, .int w3), (5, .int w4)] []
  refine z_aload_n B dX8_set_0 rfl 0 rfl ?_
  refine z_iload_n B dX8_set_1 rfl 1 rfl ?_
  refine z_cVq (As := [.int 1]) (rest := []) B cw_X8_64 cx_9 dX8_set_2 (ci_X8_programAt_122 l (σ := (ap b σ [] [] [])) (b := b) (lyA hK) (rR_at 0 0 hR_0_0) (rR_at 1 1 hR_1_1)) (lKA (hk_K hK 0 rfl rfl)) rfl (by decide) rfl (Nat.le_of_ble_eq_true rfl) (by decide) (fun r u hu => ?_)
  refine z_eqs (σ' := (ap b σ [] [] [])) hu.2 ?_
  show zx p l e _ s m _ below meth c g 9 0 0 _ _ 5 [(0, .ref (b + 0)), (1, .int 1), (2, .int w1), (3, .int w2), (4, .int w3), (5, .int w4)] _
  refine z_setr (y := (some (b + 13))) hu.1 ?_
  refine z_astore (lv' := [(6, .ref (b + 13)), (0, .ref (b + 0)), (1, .int 1), (2, .int w1), (3, .int w2), (4, .int w3), (5, .int w4)]) B dX8_set_5 (by decide) rfl ?_
  refine z_aload B dX8_set_7 0 rfl ?_
  refine z_ifnull (r := (some (b + 13))) (tgt := 21) B dX8_set_9 (by decide) (fun h => nomatch h) (fun _ _ => ?_)
  refine z_iload_n B dX8_set_12 rfl 3 rfl ?_
  refine z_bipush (v := 20) B dX8_set_13 (by decide) ?_
  refine z_cSi (As := [.int w1, .int 20]) (rest := []) B cw_X8_68 dX8_set_15 (ci_X8_isBelow_64 l (σ := (ap b σ [] [] [])) (b := b) (lyA hK) w1 q1_w1 q2_w1) rfl (by decide) rfl (Nat.le_of_ble_eq_true rfl) (by decide) (fun r u hu => ?_)
  refine z_eqs (σ' := (ap b σ [] [] [])) hu.2 ?_
  show zx p l e _ s m _ below meth c g 9 0 0 _ _ 18 [(6, .ref (b + 13)), (0, .ref (b + 0)), (1, .int 1), (2, .int w1), (3, .int w2), (4, .int w3), (5, .int w4)] _
  refine z_seti (y := 1) hu.1 ?_
  refine z_if_ne (tgt := 31) B dX8_set_18 (by decide) (fun _ => ?_) (fun h => absurd h (by decide))
  refine z_iload_n B dX8_set_31 rfl 4 rfl ?_
  refine z_iload B dX8_set_32 5 rfl ?_
  refine z_iload B dX8_set_34 6 rfl ?_
  refine z_cSi (As := [.int w2, .int w3, .int w4]) (rest := []) B cw_X8_79 dX8_set_36 (ci_X8_isStep_97 l (σ := (ap b σ [] [] [])) (b := b) (lyA hK) w2 w3 w4 q1_w2 q2_w2 q1_w3 q2_w3 q1_w4 q2_w4) rfl (by decide) rfl (Nat.le_of_ble_eq_true rfl) (by decide) (fun r u hu => ?_)
  refine z_eqs (σ' := (ap b σ [] [] [])) hu.2 ?_
  show zx p l e _ s m _ below meth c g 9 0 0 _ _ 39 [(6, .ref (b + 13)), (0, .ref (b + 0)), (1, .int 1), (2, .int w1), (3, .int w2), (4, .int w3), (5, .int w4)] _
  refine z_seti (y := 0) hu.1 ?_
  refine z_if_ne (tgt := 52) B dX8_set_39 (by decide) (fun h => absurd (by decide) h) (fun _ => ?_)
  exact z_throw B hlt hout (cls := "java/lang/IllegalArgumentException") (text := "no such operation") tw_X8_83_85_87 dX8_set_42 dX8_set_45 dX8_set_46 dX8_set_48 dX8_set_51 (by decide) (by decide) (by decide) (by decide) (by decide) (by decide) (fun z => ⟨z, rfl⟩)
set_option maxRecDepth 100000 in
set_option maxHeartbeats 4000000 in
theorem ci_L_set_153 (l : Launch) (hlt : l.stackTraces = false) {g : gx_T} {σ : sx_T} {b : Nat} (hK : lay b σ) (w1 : Int32) (w2 : Int32) (w3 : Int32) (w4 : Int32) (q1_w1 : (0 : Int) ≤ w1.toInt) (q2_w1 : w1.toInt ≤ (19 : Int)) (q1_w2 : (0 : Int) ≤ w2.toInt) (q2_w2 : w2.toInt ≤ (17 : Int)) (q1_w3 : (0 : Int) ≤ w3.toInt) (q2_w3 : w3.toInt ≤ (99 : Int)) (q1_w4 : (100 : Int) ≤ w4.toInt) (q2_w4 : w4.toInt ≤ (2147483647 : Int)) (hR_0_0 : sx_R σ (b + 0) 0 = (some (b + 1))) (hR_1_1 : sx_R σ (b + 1) 1 = (some (b + 13))) : Met l yL_set (.codeWith yL_set cL_set 8 (some .int) [(0, 16, 19, 13), (0, 16, 23, 15)] :: lw_g) { frames := 8, cells := 1, slots := 6, locals := 164 } (va_Pc [.ref (b + 0), .int 1, .int w1, .int w2, .int w3, .int w4, .ref (b + 431)] (zx_w g σ)) (va_Qi (fun r u => r = 2 ∧ ∃ z, u = (ap b (wx_Z σ z) [] [] [])) (zx_w g) (gx_Q g)) 1 6 (gx_Q g) := by
  refine z_metW (by decide) (Nat.le_of_ble_eq_true rfl) (fun p e s m below meth c B hr htab => ?_)
  refine z_eqs (σ' := (ap b σ [] [] [])) rfl ?_
  show zx p l e _ s m _ below meth c g 8 0 0 _ _ 0 [(0, .ref (b + 0)), (1, .int 1), (2, .int w1), (3, .int w2), (4, .int w3), (5, .int w4), (6, .ref (b + 431))] []
  refine z_aload B dL_set_0 6 rfl ?_
  refine z_iconst (v := 0) B dL_set_2 (by decide) ?_
  refine z_aload_n B dL_set_3 rfl 0 rfl ?_
  refine z_iload_n B dL_set_4 rfl 1 rfl ?_
  refine z_iload_n B dL_set_5 rfl 2 rfl ?_
  refine z_iload_n B dL_set_6 rfl 3 rfl ?_
  refine z_iload B dL_set_7 4 rfl ?_
  refine z_iload B dL_set_9 5 rfl ?_
  refine z_cXi (As := [.int 1, .int w1, .int w2, .int w3, .int w4]) (rest := [.int 0, .ref (b + 431)]) B htab tc_set_11_IllegalArgumentException cw_L_7 cx_9 dL_set_11 (ci_X8_set_152 l hlt (σ := (ap b σ [] [] [])) (b := b) (lyA hK) w1 w2 w3 w4 q1_w1 q2_w1 q1_w2 q2_w2 q1_w3 q2_w3 q1_w4 q2_w4 (rR_at 0 0 hR_0_0) (rR_at 1 1 hR_1_1)) (lKA (hk_K hK 0 rfl rfl)) rfl (by decide) rfl (Nat.le_of_ble_eq_true rfl) (by decide) (fun z q => ?_)
  refine z_eqs (σ' := (ap b (wx_Z σ z) [] [] [])) rfl ?_
  show zx p l e _ s m _ below meth c g 8 _ _ _ _ 23 [(0, .ref (b + 0)), (1, .int 1), (2, .int w1), (3, .int w2), (4, .int w3), (5, .int w4), (6, .ref (b + 431))] _
  refine z_astore (lv' := [(7, .ref q), (0, .ref (b + 0)), (1, .int 1), (2, .int w1), (3, .int w2), (4, .int w3), (5, .int w4), (6, .ref (b + 431))]) B dL_set_23 (by decide) rfl ?_
  refine z_iconst (v := 2) B dL_set_25 (by decide) ?_
  exact z_iret B hr (by decide) (by decide) dL_set_26 ⟨rfl, _, rfl⟩
set_option maxRecDepth 100000 in
set_option maxHeartbeats 4000000 in
theorem ci_X9_set_154 (l : Launch) {g : gx_T} {σ : sx_T} {b : Nat} (hK : lay b σ) (w1 : Int32) (w2 : Int32) (w3 : Int32) (w4 : Int32) (q1_w1 : (0 : Int) ≤ w1.toInt) (q2_w1 : w1.toInt ≤ (19 : Int)) (q1_w2 : (0 : Int) ≤ w2.toInt) (q2_w2 : w2.toInt ≤ (17 : Int)) (q1_w3 : (0 : Int) ≤ w3.toInt) (q2_w3 : w3.toInt ≤ (99 : Int)) (q1_w4 : (100 : Int) ≤ w4.toInt) (q2_w4 : w4.toInt ≤ (2147483647 : Int))  : Met l yX9_set (.code yX9_set cX9_set 7 (some .int) :: lw_g) { frames := 2, cells := 0, slots := 0, locals := 44 } (va_Pc [.ref (b + 405), .int 1, .int w1, .int w2, .int w3, .int w4] (zx_w g σ)) (va_Qi (fun r u => r = 0 ∧ u = (ap b σ [(405, 0, 2)] [] [])) (zx_w g) (gx_Q g)) 0 0 (gx_Q g) := by
  refine z_met (by decide) (Nat.le_of_ble_eq_true rfl) (fun p e s m below meth c B hr hin => ?_)
  refine z_eqs (σ' := (ap b σ [] [] [])) rfl ?_
  show zx p l e _ s m _ below meth c g 7 0 0 _ _ 0 [(0, .ref (b + 405)), (1, .int 1), (2, .int w1), (3, .int w2), (4, .int w3), (5, .int w4)] []
  refine z_aload_n B dX9_set_0 rfl 0 rfl ?_
  refine z_iload_n B dX9_set_1 rfl 1 rfl ?_
  refine z_iload_n B dX9_set_2 rfl 2 rfl ?_
  refine z_cSi (As := [.int 1, .int w1]) (rest := [.ref (b + 405)]) B cw_X9_238 dX9_set_3 (ci_X9_isStep_136 l (σ := (ap b σ [] [] [])) (b := b) (lyA hK) w1 q1_w1 q2_w1) rfl (by decide) rfl (Nat.le_of_ble_eq_true rfl) (by decide) (fun r u hu => ?_)
  refine z_eqs (σ' := (ap b σ [] [] [])) hu.2 ?_
  show zx p l e _ s m _ below meth c g 7 0 0 _ _ 6 [(0, .ref (b + 405)), (1, .int 1), (2, .int w1), (3, .int w2), (4, .int w3), (5, .int w4)] _
  refine z_seti (y := 1) hu.1 ?_
  refine z_iload_n B dX9_set_6 rfl 3 rfl ?_
  refine z_iload B dX9_set_7 4 rfl ?_
  refine z_iload B dX9_set_9 5 rfl ?_
  refine z_cSi (As := [.int w2, .int w3, .int w4]) (rest := [.int 1, .ref (b + 405)]) B cw_X9_242 dX9_set_11 (ci_X9_isOperation_43 l (σ := (ap b σ [] [] [])) (b := b) (lyA hK) w2 w3 w4 q1_w2 q2_w2 q1_w3 q2_w3 q1_w4 q2_w4) rfl (by decide) rfl (Nat.le_of_ble_eq_true rfl) (by decide) (fun r u hu => ?_)
  refine z_eqs (σ' := (ap b σ [] [] [])) hu.2 ?_
  show zx p l e _ s m _ below meth c g 7 0 0 _ _ 14 [(0, .ref (b + 405)), (1, .int 1), (2, .int w1), (3, .int w2), (4, .int w3), (5, .int w4)] _
  refine z_seti (y := 0) hu.1 ?_
  refine z_cVi (As := [.int 1, .int 0]) (rest := []) B cw_X9_245 cx_10 dX9_set_14 (ci_X9_needs__71 l (σ := (ap b σ [] [] [])) (b := b) (lyA hK) ) (lKA (hk_K hK 405 rfl rfl)) rfl (by decide) rfl (Nat.le_of_ble_eq_true rfl) (by decide) (fun r u hu => ?_)
  refine z_eqs (σ' := (ap b σ [(405, 0, 2)] [] [])) (hu.2.trans ap_ap) ?_
  show zx p l e _ s m _ below meth c g 7 0 0 _ _ 17 [(0, .ref (b + 405)), (1, .int 1), (2, .int w1), (3, .int w2), (4, .int w3), (5, .int w4)] _
  refine z_seti (y := 0) hu.1 ?_
  refine z_if_ne (tgt := 22) B dX9_set_17 (by decide) (fun h => absurd (by decide) h) (fun _ => ?_)
  refine z_iconst (v := 0) B dX9_set_20 (by decide) ?_
  exact z_iret B hr (by decide) (by decide) dX9_set_21 ⟨rfl, rfl⟩
set_option maxRecDepth 100000 in
set_option maxHeartbeats 4000000 in
theorem ci_X8_set_155 (l : Launch) (hlt : l.stackTraces = false) {g : gx_T} {σ : sx_T} {b : Nat} (hK : lay b σ) (w1 : Int32) (w2 : Int32) (w3 : Int32) (w4 : Int32) (q1_w1 : (0 : Int) ≤ w1.toInt) (q2_w1 : w1.toInt ≤ (19 : Int)) (q1_w2 : (0 : Int) ≤ w2.toInt) (q2_w2 : w2.toInt ≤ (17 : Int)) (q1_w3 : (100 : Int) ≤ w3.toInt) (q2_w3 : w3.toInt ≤ (2147483647 : Int)) (hR_0_0 : sx_R σ (b + 0) 0 = (some (b + 1))) (hR_1_1 : sx_R σ (b + 1) 1 = (some (b + 13))) : vx_Met l yX8_set (.code yX8_set cX8_set 9 (some .int) :: lw_g) { frames := 7, cells := 1, slots := 6, locals := 136 } (va_Pc [.ref (b + 0), .int 1, .int w1, .int w2, .int w3, .int w4] (zx_w g σ)) (va_Qi (S := sx_T) (fun _ _ => False) (zx_w g) (gx_Q g)) (vx_X (fun u : sx_T => ∃ z, u = wx_Z σ z) (fun E u t => E = "java/lang/IllegalArgumentException" ∧ zx_h g u t.heap) (gx_Q g)) 1 6 (gx_Q g) := by
  refine z_metX (by decide) (Nat.le_of_ble_eq_true rfl) (fun p e s m below meth c B hr hin hout => ?_)
  refine z_eqs (σ' := (ap b σ [] [] [])) rfl ?_
  show zx p l e _ s m _ below meth c g 9 0 0 _ _ 0 [(0, .ref (b + 0)), (1, .int 1), (2, .int w1), (3, .int w2), (4, .int w3), (5, .int w4)] []
  refine z_aload_n B dX8_set_0 rfl 0 rfl ?_
  refine z_iload_n B dX8_set_1 rfl 1 rfl ?_
  refine z_cVq (As := [.int 1]) (rest := []) B cw_X8_64 cx_9 dX8_set_2 (ci_X8_programAt_122 l (σ := (ap b σ [] [] [])) (b := b) (lyA hK) (rR_at 0 0 hR_0_0) (rR_at 1 1 hR_1_1)) (lKA (hk_K hK 0 rfl rfl)) rfl (by decide) rfl (Nat.le_of_ble_eq_true rfl) (by decide) (fun r u hu => ?_)
  refine z_eqs (σ' := (ap b σ [] [] [])) hu.2 ?_
  show zx p l e _ s m _ below meth c g 9 0 0 _ _ 5 [(0, .ref (b + 0)), (1, .int 1), (2, .int w1), (3, .int w2), (4, .int w3), (5, .int w4)] _
  refine z_setr (y := (some (b + 13))) hu.1 ?_
  refine z_astore (lv' := [(6, .ref (b + 13)), (0, .ref (b + 0)), (1, .int 1), (2, .int w1), (3, .int w2), (4, .int w3), (5, .int w4)]) B dX8_set_5 (by decide) rfl ?_
  refine z_aload B dX8_set_7 0 rfl ?_
  refine z_ifnull (r := (some (b + 13))) (tgt := 21) B dX8_set_9 (by decide) (fun h => nomatch h) (fun _ _ => ?_)
  refine z_iload_n B dX8_set_12 rfl 3 rfl ?_
  refine z_bipush (v := 20) B dX8_set_13 (by decide) ?_
  refine z_cSi (As := [.int w1, .int 20]) (rest := []) B cw_X8_68 dX8_set_15 (ci_X8_isBelow_64 l (σ := (ap b σ [] [] [])) (b := b) (lyA hK) w1 q1_w1 q2_w1) rfl (by decide) rfl (Nat.le_of_ble_eq_true rfl) (by decide) (fun r u hu => ?_)
  refine z_eqs (σ' := (ap b σ [] [] [])) hu.2 ?_
  show zx p l e _ s m _ below meth c g 9 0 0 _ _ 18 [(6, .ref (b + 13)), (0, .ref (b + 0)), (1, .int 1), (2, .int w1), (3, .int w2), (4, .int w3), (5, .int w4)] _
  refine z_seti (y := 1) hu.1 ?_
  refine z_if_ne (tgt := 31) B dX8_set_18 (by decide) (fun _ => ?_) (fun h => absurd h (by decide))
  refine z_iload_n B dX8_set_31 rfl 4 rfl ?_
  refine z_iload B dX8_set_32 5 rfl ?_
  refine z_iload B dX8_set_34 6 rfl ?_
  refine z_cSi (As := [.int w2, .int w3, .int w4]) (rest := []) B cw_X8_79 dX8_set_36 (ci_X8_isStep_101 l (σ := (ap b σ [] [] [])) (b := b) (lyA hK) w2 w3 w4 q1_w2 q2_w2 q1_w3 q2_w3) rfl (by decide) rfl (Nat.le_of_ble_eq_true rfl) (by decide) (fun r u hu => ?_)
  refine z_eqs (σ' := (ap b σ [] [] [])) hu.2 ?_
  show zx p l e _ s m _ below meth c g 9 0 0 _ _ 39 [(6, .ref (b + 13)), (0, .ref (b + 0)), (1, .int 1), (2, .int w1), (3, .int w2), (4, .int w3), (5, .int w4)] _
  refine z_seti (y := 0) hu.1 ?_
  refine z_if_ne (tgt := 52) B dX8_set_39 (by decide) (fun h => absurd (by decide) h) (fun _ => ?_)
  exact z_throw B hlt hout (cls := "java/lang/IllegalArgumentException") (text := "no such operation") tw_X8_83_85_87 dX8_set_42 dX8_set_45 dX8_set_46 dX8_set_48 dX8_set_51 (by decide) (by decide) (by decide) (by decide) (by decide) (by decide) (fun z => ⟨z, rfl⟩)
set_option maxRecDepth 100000 in
set_option maxHeartbeats 4000000 in
theorem ci_L_set_156 (l : Launch) (hlt : l.stackTraces = false) {g : gx_T} {σ : sx_T} {b : Nat} (hK : lay b σ) (w1 : Int32) (w2 : Int32) (w3 : Int32) (w4 : Int32) (q1_w1 : (0 : Int) ≤ w1.toInt) (q2_w1 : w1.toInt ≤ (19 : Int)) (q1_w2 : (0 : Int) ≤ w2.toInt) (q2_w2 : w2.toInt ≤ (17 : Int)) (q1_w3 : (100 : Int) ≤ w3.toInt) (q2_w3 : w3.toInt ≤ (2147483647 : Int)) (hR_0_0 : sx_R σ (b + 0) 0 = (some (b + 1))) (hR_1_1 : sx_R σ (b + 1) 1 = (some (b + 13))) : Met l yL_set (.codeWith yL_set cL_set 8 (some .int) [(0, 16, 19, 13), (0, 16, 23, 15)] :: lw_g) { frames := 8, cells := 1, slots := 6, locals := 164 } (va_Pc [.ref (b + 0), .int 1, .int w1, .int w2, .int w3, .int w4, .ref (b + 431)] (zx_w g σ)) (va_Qi (fun r u => r = 2 ∧ ∃ z, u = (ap b (wx_Z σ z) [] [] [])) (zx_w g) (gx_Q g)) 1 6 (gx_Q g) := by
  refine z_metW (by decide) (Nat.le_of_ble_eq_true rfl) (fun p e s m below meth c B hr htab => ?_)
  refine z_eqs (σ' := (ap b σ [] [] [])) rfl ?_
  show zx p l e _ s m _ below meth c g 8 0 0 _ _ 0 [(0, .ref (b + 0)), (1, .int 1), (2, .int w1), (3, .int w2), (4, .int w3), (5, .int w4), (6, .ref (b + 431))] []
  refine z_aload B dL_set_0 6 rfl ?_
  refine z_iconst (v := 0) B dL_set_2 (by decide) ?_
  refine z_aload_n B dL_set_3 rfl 0 rfl ?_
  refine z_iload_n B dL_set_4 rfl 1 rfl ?_
  refine z_iload_n B dL_set_5 rfl 2 rfl ?_
  refine z_iload_n B dL_set_6 rfl 3 rfl ?_
  refine z_iload B dL_set_7 4 rfl ?_
  refine z_iload B dL_set_9 5 rfl ?_
  refine z_cXi (As := [.int 1, .int w1, .int w2, .int w3, .int w4]) (rest := [.int 0, .ref (b + 431)]) B htab tc_set_11_IllegalArgumentException cw_L_7 cx_9 dL_set_11 (ci_X8_set_155 l hlt (σ := (ap b σ [] [] [])) (b := b) (lyA hK) w1 w2 w3 w4 q1_w1 q2_w1 q1_w2 q2_w2 q1_w3 q2_w3 (rR_at 0 0 hR_0_0) (rR_at 1 1 hR_1_1)) (lKA (hk_K hK 0 rfl rfl)) rfl (by decide) rfl (Nat.le_of_ble_eq_true rfl) (by decide) (fun z q => ?_)
  refine z_eqs (σ' := (ap b (wx_Z σ z) [] [] [])) rfl ?_
  show zx p l e _ s m _ below meth c g 8 _ _ _ _ 23 [(0, .ref (b + 0)), (1, .int 1), (2, .int w1), (3, .int w2), (4, .int w3), (5, .int w4), (6, .ref (b + 431))] _
  refine z_astore (lv' := [(7, .ref q), (0, .ref (b + 0)), (1, .int 1), (2, .int w1), (3, .int w2), (4, .int w3), (5, .int w4), (6, .ref (b + 431))]) B dL_set_23 (by decide) rfl ?_
  refine z_iconst (v := 2) B dL_set_25 (by decide) ?_
  exact z_iret B hr (by decide) (by decide) dL_set_26 ⟨rfl, _, rfl⟩
set_option maxRecDepth 100000 in
set_option maxHeartbeats 4000000 in
theorem ci_X9_set_157 (l : Launch) {g : gx_T} {σ : sx_T} {b : Nat} (hK : lay b σ) (w1 : Int32) (w2 : Int32) (w3 : Int32) (w4 : Int32) (q1_w1 : (0 : Int) ≤ w1.toInt) (q2_w1 : w1.toInt ≤ (19 : Int)) (q1_w2 : (0 : Int) ≤ w2.toInt) (q2_w2 : w2.toInt ≤ (17 : Int)) (q1_w3 : (100 : Int) ≤ w3.toInt) (q2_w3 : w3.toInt ≤ (2147483647 : Int))  : Met l yX9_set (.code yX9_set cX9_set 7 (some .int) :: lw_g) { frames := 2, cells := 0, slots := 0, locals := 44 } (va_Pc [.ref (b + 405), .int 1, .int w1, .int w2, .int w3, .int w4] (zx_w g σ)) (va_Qi (fun r u => r = 0 ∧ u = (ap b σ [(405, 0, 2)] [] [])) (zx_w g) (gx_Q g)) 0 0 (gx_Q g) := by
  refine z_met (by decide) (Nat.le_of_ble_eq_true rfl) (fun p e s m below meth c B hr hin => ?_)
  refine z_eqs (σ' := (ap b σ [] [] [])) rfl ?_
  show zx p l e _ s m _ below meth c g 7 0 0 _ _ 0 [(0, .ref (b + 405)), (1, .int 1), (2, .int w1), (3, .int w2), (4, .int w3), (5, .int w4)] []
  refine z_aload_n B dX9_set_0 rfl 0 rfl ?_
  refine z_iload_n B dX9_set_1 rfl 1 rfl ?_
  refine z_iload_n B dX9_set_2 rfl 2 rfl ?_
  refine z_cSi (As := [.int 1, .int w1]) (rest := [.ref (b + 405)]) B cw_X9_238 dX9_set_3 (ci_X9_isStep_136 l (σ := (ap b σ [] [] [])) (b := b) (lyA hK) w1 q1_w1 q2_w1) rfl (by decide) rfl (Nat.le_of_ble_eq_true rfl) (by decide) (fun r u hu => ?_)
  refine z_eqs (σ' := (ap b σ [] [] [])) hu.2 ?_
  show zx p l e _ s m _ below meth c g 7 0 0 _ _ 6 [(0, .ref (b + 405)), (1, .int 1), (2, .int w1), (3, .int w2), (4, .int w3), (5, .int w4)] _
  refine z_seti (y := 1) hu.1 ?_
  refine z_iload_n B dX9_set_6 rfl 3 rfl ?_
  refine z_iload B dX9_set_7 4 rfl ?_
  refine z_iload B dX9_set_9 5 rfl ?_
  refine z_cSi (As := [.int w2, .int w3, .int w4]) (rest := [.int 1, .ref (b + 405)]) B cw_X9_242 dX9_set_11 (ci_X9_isOperation_45 l (σ := (ap b σ [] [] [])) (b := b) (lyA hK) w2 w3 w4 q1_w2 q2_w2 q1_w3 q2_w3) rfl (by decide) rfl (Nat.le_of_ble_eq_true rfl) (by decide) (fun r u hu => ?_)
  refine z_eqs (σ' := (ap b σ [] [] [])) hu.2 ?_
  show zx p l e _ s m _ below meth c g 7 0 0 _ _ 14 [(0, .ref (b + 405)), (1, .int 1), (2, .int w1), (3, .int w2), (4, .int w3), (5, .int w4)] _
  refine z_seti (y := 0) hu.1 ?_
  refine z_cVi (As := [.int 1, .int 0]) (rest := []) B cw_X9_245 cx_10 dX9_set_14 (ci_X9_needs__71 l (σ := (ap b σ [] [] [])) (b := b) (lyA hK) ) (lKA (hk_K hK 405 rfl rfl)) rfl (by decide) rfl (Nat.le_of_ble_eq_true rfl) (by decide) (fun r u hu => ?_)
  refine z_eqs (σ' := (ap b σ [(405, 0, 2)] [] [])) (hu.2.trans ap_ap) ?_
  show zx p l e _ s m _ below meth c g 7 0 0 _ _ 17 [(0, .ref (b + 405)), (1, .int 1), (2, .int w1), (3, .int w2), (4, .int w3), (5, .int w4)] _
  refine z_seti (y := 0) hu.1 ?_
  refine z_if_ne (tgt := 22) B dX9_set_17 (by decide) (fun h => absurd (by decide) h) (fun _ => ?_)
  refine z_iconst (v := 0) B dX9_set_20 (by decide) ?_
  exact z_iret B hr (by decide) (by decide) dX9_set_21 ⟨rfl, rfl⟩
set_option maxRecDepth 100000 in
set_option maxHeartbeats 4000000 in
theorem ci_X8_set_158 (l : Launch) (hlt : l.stackTraces = false) {g : gx_T} {σ : sx_T} {b : Nat} (hK : lay b σ) (w1 : Int32) (w2 : Int32) (w3 : Int32) (w4 : Int32) (q1_w1 : (0 : Int) ≤ w1.toInt) (q2_w1 : w1.toInt ≤ (19 : Int)) (q1_w2 : (18 : Int) ≤ w2.toInt) (q2_w2 : w2.toInt ≤ (2147483647 : Int)) (hR_0_0 : sx_R σ (b + 0) 0 = (some (b + 1))) (hR_1_1 : sx_R σ (b + 1) 1 = (some (b + 13))) : vx_Met l yX8_set (.code yX8_set cX8_set 9 (some .int) :: lw_g) { frames := 7, cells := 1, slots := 6, locals := 136 } (va_Pc [.ref (b + 0), .int 1, .int w1, .int w2, .int w3, .int w4] (zx_w g σ)) (va_Qi (S := sx_T) (fun _ _ => False) (zx_w g) (gx_Q g)) (vx_X (fun u : sx_T => ∃ z, u = wx_Z σ z) (fun E u t => E = "java/lang/IllegalArgumentException" ∧ zx_h g u t.heap) (gx_Q g)) 1 6 (gx_Q g) := by
  refine z_metX (by decide) (Nat.le_of_ble_eq_true rfl) (fun p e s m below meth c B hr hin hout => ?_)
  refine z_eqs (σ' := (ap b σ [] [] [])) rfl ?_
  show zx p l e _ s m _ below meth c g 9 0 0 _ _ 0 [(0, .ref (b + 0)), (1, .int 1), (2, .int w1), (3, .int w2), (4, .int w3), (5, .int w4)] []
  refine z_aload_n B dX8_set_0 rfl 0 rfl ?_
  refine z_iload_n B dX8_set_1 rfl 1 rfl ?_
  refine z_cVq (As := [.int 1]) (rest := []) B cw_X8_64 cx_9 dX8_set_2 (ci_X8_programAt_122 l (σ := (ap b σ [] [] [])) (b := b) (lyA hK) (rR_at 0 0 hR_0_0) (rR_at 1 1 hR_1_1)) (lKA (hk_K hK 0 rfl rfl)) rfl (by decide) rfl (Nat.le_of_ble_eq_true rfl) (by decide) (fun r u hu => ?_)
  refine z_eqs (σ' := (ap b σ [] [] [])) hu.2 ?_
  show zx p l e _ s m _ below meth c g 9 0 0 _ _ 5 [(0, .ref (b + 0)), (1, .int 1), (2, .int w1), (3, .int w2), (4, .int w3), (5, .int w4)] _
  refine z_setr (y := (some (b + 13))) hu.1 ?_
  refine z_astore (lv' := [(6, .ref (b + 13)), (0, .ref (b + 0)), (1, .int 1), (2, .int w1), (3, .int w2), (4, .int w3), (5, .int w4)]) B dX8_set_5 (by decide) rfl ?_
  refine z_aload B dX8_set_7 0 rfl ?_
  refine z_ifnull (r := (some (b + 13))) (tgt := 21) B dX8_set_9 (by decide) (fun h => nomatch h) (fun _ _ => ?_)
  refine z_iload_n B dX8_set_12 rfl 3 rfl ?_
  refine z_bipush (v := 20) B dX8_set_13 (by decide) ?_
  refine z_cSi (As := [.int w1, .int 20]) (rest := []) B cw_X8_68 dX8_set_15 (ci_X8_isBelow_64 l (σ := (ap b σ [] [] [])) (b := b) (lyA hK) w1 q1_w1 q2_w1) rfl (by decide) rfl (Nat.le_of_ble_eq_true rfl) (by decide) (fun r u hu => ?_)
  refine z_eqs (σ' := (ap b σ [] [] [])) hu.2 ?_
  show zx p l e _ s m _ below meth c g 9 0 0 _ _ 18 [(6, .ref (b + 13)), (0, .ref (b + 0)), (1, .int 1), (2, .int w1), (3, .int w2), (4, .int w3), (5, .int w4)] _
  refine z_seti (y := 1) hu.1 ?_
  refine z_if_ne (tgt := 31) B dX8_set_18 (by decide) (fun _ => ?_) (fun h => absurd h (by decide))
  refine z_iload_n B dX8_set_31 rfl 4 rfl ?_
  refine z_iload B dX8_set_32 5 rfl ?_
  refine z_iload B dX8_set_34 6 rfl ?_
  refine z_cSi (As := [.int w2, .int w3, .int w4]) (rest := []) B cw_X8_79 dX8_set_36 (ci_X8_isStep_106 l (σ := (ap b σ [] [] [])) (b := b) (lyA hK) w2 w3 w4 q1_w2 q2_w2) rfl (by decide) rfl (Nat.le_of_ble_eq_true rfl) (by decide) (fun r u hu => ?_)
  refine z_eqs (σ' := (ap b σ [] [] [])) hu.2 ?_
  show zx p l e _ s m _ below meth c g 9 0 0 _ _ 39 [(6, .ref (b + 13)), (0, .ref (b + 0)), (1, .int 1), (2, .int w1), (3, .int w2), (4, .int w3), (5, .int w4)] _
  refine z_seti (y := 0) hu.1 ?_
  refine z_if_ne (tgt := 52) B dX8_set_39 (by decide) (fun h => absurd (by decide) h) (fun _ => ?_)
  exact z_throw B hlt hout (cls := "java/lang/IllegalArgumentException") (text := "no such operation") tw_X8_83_85_87 dX8_set_42 dX8_set_45 dX8_set_46 dX8_set_48 dX8_set_51 (by decide) (by decide) (by decide) (by decide) (by decide) (by decide) (fun z => ⟨z, rfl⟩)
set_option maxRecDepth 100000 in
set_option maxHeartbeats 4000000 in
theorem ci_L_set_159 (l : Launch) (hlt : l.stackTraces = false) {g : gx_T} {σ : sx_T} {b : Nat} (hK : lay b σ) (w1 : Int32) (w2 : Int32) (w3 : Int32) (w4 : Int32) (q1_w1 : (0 : Int) ≤ w1.toInt) (q2_w1 : w1.toInt ≤ (19 : Int)) (q1_w2 : (18 : Int) ≤ w2.toInt) (q2_w2 : w2.toInt ≤ (2147483647 : Int)) (hR_0_0 : sx_R σ (b + 0) 0 = (some (b + 1))) (hR_1_1 : sx_R σ (b + 1) 1 = (some (b + 13))) : Met l yL_set (.codeWith yL_set cL_set 8 (some .int) [(0, 16, 19, 13), (0, 16, 23, 15)] :: lw_g) { frames := 8, cells := 1, slots := 6, locals := 164 } (va_Pc [.ref (b + 0), .int 1, .int w1, .int w2, .int w3, .int w4, .ref (b + 431)] (zx_w g σ)) (va_Qi (fun r u => r = 2 ∧ ∃ z, u = (ap b (wx_Z σ z) [] [] [])) (zx_w g) (gx_Q g)) 1 6 (gx_Q g) := by
  refine z_metW (by decide) (Nat.le_of_ble_eq_true rfl) (fun p e s m below meth c B hr htab => ?_)
  refine z_eqs (σ' := (ap b σ [] [] [])) rfl ?_
  show zx p l e _ s m _ below meth c g 8 0 0 _ _ 0 [(0, .ref (b + 0)), (1, .int 1), (2, .int w1), (3, .int w2), (4, .int w3), (5, .int w4), (6, .ref (b + 431))] []
  refine z_aload B dL_set_0 6 rfl ?_
  refine z_iconst (v := 0) B dL_set_2 (by decide) ?_
  refine z_aload_n B dL_set_3 rfl 0 rfl ?_
  refine z_iload_n B dL_set_4 rfl 1 rfl ?_
  refine z_iload_n B dL_set_5 rfl 2 rfl ?_
  refine z_iload_n B dL_set_6 rfl 3 rfl ?_
  refine z_iload B dL_set_7 4 rfl ?_
  refine z_iload B dL_set_9 5 rfl ?_
  refine z_cXi (As := [.int 1, .int w1, .int w2, .int w3, .int w4]) (rest := [.int 0, .ref (b + 431)]) B htab tc_set_11_IllegalArgumentException cw_L_7 cx_9 dL_set_11 (ci_X8_set_158 l hlt (σ := (ap b σ [] [] [])) (b := b) (lyA hK) w1 w2 w3 w4 q1_w1 q2_w1 q1_w2 q2_w2 (rR_at 0 0 hR_0_0) (rR_at 1 1 hR_1_1)) (lKA (hk_K hK 0 rfl rfl)) rfl (by decide) rfl (Nat.le_of_ble_eq_true rfl) (by decide) (fun z q => ?_)
  refine z_eqs (σ' := (ap b (wx_Z σ z) [] [] [])) rfl ?_
  show zx p l e _ s m _ below meth c g 8 _ _ _ _ 23 [(0, .ref (b + 0)), (1, .int 1), (2, .int w1), (3, .int w2), (4, .int w3), (5, .int w4), (6, .ref (b + 431))] _
  refine z_astore (lv' := [(7, .ref q), (0, .ref (b + 0)), (1, .int 1), (2, .int w1), (3, .int w2), (4, .int w3), (5, .int w4), (6, .ref (b + 431))]) B dL_set_23 (by decide) rfl ?_
  refine z_iconst (v := 2) B dL_set_25 (by decide) ?_
  exact z_iret B hr (by decide) (by decide) dL_set_26 ⟨rfl, _, rfl⟩
set_option maxRecDepth 100000 in
set_option maxHeartbeats 4000000 in
theorem ci_X9_set_160 (l : Launch) {g : gx_T} {σ : sx_T} {b : Nat} (hK : lay b σ) (w1 : Int32) (w2 : Int32) (w3 : Int32) (w4 : Int32) (q1_w1 : (0 : Int) ≤ w1.toInt) (q2_w1 : w1.toInt ≤ (19 : Int)) (q1_w2 : (18 : Int) ≤ w2.toInt) (q2_w2 : w2.toInt ≤ (2147483647 : Int))  : Met l yX9_set (.code yX9_set cX9_set 7 (some .int) :: lw_g) { frames := 2, cells := 0, slots := 0, locals := 44 } (va_Pc [.ref (b + 405), .int 1, .int w1, .int w2, .int w3, .int w4] (zx_w g σ)) (va_Qi (fun r u => r = 0 ∧ u = (ap b σ [(405, 0, 2)] [] [])) (zx_w g) (gx_Q g)) 0 0 (gx_Q g) := by
  refine z_met (by decide) (Nat.le_of_ble_eq_true rfl) (fun p e s m below meth c B hr hin => ?_)
  refine z_eqs (σ' := (ap b σ [] [] [])) rfl ?_
  show zx p l e _ s m _ below meth c g 7 0 0 _ _ 0 [(0, .ref (b + 405)), (1, .int 1), (2, .int w1), (3, .int w2), (4, .int w3), (5, .int w4)] []
  refine z_aload_n B dX9_set_0 rfl 0 rfl ?_
  refine z_iload_n B dX9_set_1 rfl 1 rfl ?_
  refine z_iload_n B dX9_set_2 rfl 2 rfl ?_
  refine z_cSi (As := [.int 1, .int w1]) (rest := [.ref (b + 405)]) B cw_X9_238 dX9_set_3 (ci_X9_isStep_136 l (σ := (ap b σ [] [] [])) (b := b) (lyA hK) w1 q1_w1 q2_w1) rfl (by decide) rfl (Nat.le_of_ble_eq_true rfl) (by decide) (fun r u hu => ?_)
  refine z_eqs (σ' := (ap b σ [] [] [])) hu.2 ?_
  show zx p l e _ s m _ below meth c g 7 0 0 _ _ 6 [(0, .ref (b + 405)), (1, .int 1), (2, .int w1), (3, .int w2), (4, .int w3), (5, .int w4)] _
  refine z_seti (y := 1) hu.1 ?_
  refine z_iload_n B dX9_set_6 rfl 3 rfl ?_
  refine z_iload B dX9_set_7 4 rfl ?_
  refine z_iload B dX9_set_9 5 rfl ?_
  refine z_cSi (As := [.int w2, .int w3, .int w4]) (rest := [.int 1, .ref (b + 405)]) B cw_X9_242 dX9_set_11 (ci_X9_isOperation_48 l (σ := (ap b σ [] [] [])) (b := b) (lyA hK) w2 w3 w4 q1_w2 q2_w2) rfl (by decide) rfl (Nat.le_of_ble_eq_true rfl) (by decide) (fun r u hu => ?_)
  refine z_eqs (σ' := (ap b σ [] [] [])) hu.2 ?_
  show zx p l e _ s m _ below meth c g 7 0 0 _ _ 14 [(0, .ref (b + 405)), (1, .int 1), (2, .int w1), (3, .int w2), (4, .int w3), (5, .int w4)] _
  refine z_seti (y := 0) hu.1 ?_
  refine z_cVi (As := [.int 1, .int 0]) (rest := []) B cw_X9_245 cx_10 dX9_set_14 (ci_X9_needs__71 l (σ := (ap b σ [] [] [])) (b := b) (lyA hK) ) (lKA (hk_K hK 405 rfl rfl)) rfl (by decide) rfl (Nat.le_of_ble_eq_true rfl) (by decide) (fun r u hu => ?_)
  refine z_eqs (σ' := (ap b σ [(405, 0, 2)] [] [])) (hu.2.trans ap_ap) ?_
  show zx p l e _ s m _ below meth c g 7 0 0 _ _ 17 [(0, .ref (b + 405)), (1, .int 1), (2, .int w1), (3, .int w2), (4, .int w3), (5, .int w4)] _
  refine z_seti (y := 0) hu.1 ?_
  refine z_if_ne (tgt := 22) B dX9_set_17 (by decide) (fun h => absurd (by decide) h) (fun _ => ?_)
  refine z_iconst (v := 0) B dX9_set_20 (by decide) ?_
  exact z_iret B hr (by decide) (by decide) dX9_set_21 ⟨rfl, rfl⟩
set_option maxRecDepth 100000 in
set_option maxHeartbeats 4000000 in
theorem ci_X8_set_161 (l : Launch) (hlt : l.stackTraces = false) {g : gx_T} {σ : sx_T} {b : Nat} (hK : lay b σ) (w1 : Int32) (w2 : Int32) (w3 : Int32) (w4 : Int32) (q1_w1 : (20 : Int) ≤ w1.toInt) (q2_w1 : w1.toInt ≤ (2147483647 : Int)) (hR_0_0 : sx_R σ (b + 0) 0 = (some (b + 1))) (hR_1_1 : sx_R σ (b + 1) 1 = (some (b + 13))) : vx_Met l yX8_set (.code yX8_set cX8_set 9 (some .int) :: lw_g) { frames := 7, cells := 1, slots := 6, locals := 136 } (va_Pc [.ref (b + 0), .int 1, .int w1, .int w2, .int w3, .int w4] (zx_w g σ)) (va_Qi (S := sx_T) (fun _ _ => False) (zx_w g) (gx_Q g)) (vx_X (fun u : sx_T => ∃ z, u = wx_Z σ z) (fun E u t => E = "java/lang/IndexOutOfBoundsException" ∧ zx_h g u t.heap) (gx_Q g)) 1 6 (gx_Q g) := by
  refine z_metX (by decide) (Nat.le_of_ble_eq_true rfl) (fun p e s m below meth c B hr hin hout => ?_)
  refine z_eqs (σ' := (ap b σ [] [] [])) rfl ?_
  show zx p l e _ s m _ below meth c g 9 0 0 _ _ 0 [(0, .ref (b + 0)), (1, .int 1), (2, .int w1), (3, .int w2), (4, .int w3), (5, .int w4)] []
  refine z_aload_n B dX8_set_0 rfl 0 rfl ?_
  refine z_iload_n B dX8_set_1 rfl 1 rfl ?_
  refine z_cVq (As := [.int 1]) (rest := []) B cw_X8_64 cx_9 dX8_set_2 (ci_X8_programAt_122 l (σ := (ap b σ [] [] [])) (b := b) (lyA hK) (rR_at 0 0 hR_0_0) (rR_at 1 1 hR_1_1)) (lKA (hk_K hK 0 rfl rfl)) rfl (by decide) rfl (Nat.le_of_ble_eq_true rfl) (by decide) (fun r u hu => ?_)
  refine z_eqs (σ' := (ap b σ [] [] [])) hu.2 ?_
  show zx p l e _ s m _ below meth c g 9 0 0 _ _ 5 [(0, .ref (b + 0)), (1, .int 1), (2, .int w1), (3, .int w2), (4, .int w3), (5, .int w4)] _
  refine z_setr (y := (some (b + 13))) hu.1 ?_
  refine z_astore (lv' := [(6, .ref (b + 13)), (0, .ref (b + 0)), (1, .int 1), (2, .int w1), (3, .int w2), (4, .int w3), (5, .int w4)]) B dX8_set_5 (by decide) rfl ?_
  refine z_aload B dX8_set_7 0 rfl ?_
  refine z_ifnull (r := (some (b + 13))) (tgt := 21) B dX8_set_9 (by decide) (fun h => nomatch h) (fun _ _ => ?_)
  refine z_iload_n B dX8_set_12 rfl 3 rfl ?_
  refine z_bipush (v := 20) B dX8_set_13 (by decide) ?_
  refine z_cSi (As := [.int w1, .int 20]) (rest := []) B cw_X8_68 dX8_set_15 (ci_X8_isBelow_110 l (σ := (ap b σ [] [] [])) (b := b) (lyA hK) w1 q1_w1 q2_w1) rfl (by decide) rfl (Nat.le_of_ble_eq_true rfl) (by decide) (fun r u hu => ?_)
  refine z_eqs (σ' := (ap b σ [] [] [])) hu.2 ?_
  show zx p l e _ s m _ below meth c g 9 0 0 _ _ 18 [(6, .ref (b + 13)), (0, .ref (b + 0)), (1, .int 1), (2, .int w1), (3, .int w2), (4, .int w3), (5, .int w4)] _
  refine z_seti (y := 0) hu.1 ?_
  refine z_if_ne (tgt := 31) B dX8_set_18 (by decide) (fun h => absurd (by decide) h) (fun _ => ?_)
  exact z_throw B hlt hout (cls := "java/lang/IndexOutOfBoundsException") (text := "no such step") tw_X8_72_74_76 dX8_set_21 dX8_set_24 dX8_set_25 dX8_set_27 dX8_set_30 (by decide) (by decide) (by decide) (by decide) (by decide) (by decide) (fun z => ⟨z, rfl⟩)
set_option maxRecDepth 100000 in
set_option maxHeartbeats 4000000 in
theorem ci_L_set_162 (l : Launch) (hlt : l.stackTraces = false) {g : gx_T} {σ : sx_T} {b : Nat} (hK : lay b σ) (w1 : Int32) (w2 : Int32) (w3 : Int32) (w4 : Int32) (q1_w1 : (20 : Int) ≤ w1.toInt) (q2_w1 : w1.toInt ≤ (2147483647 : Int)) (hR_0_0 : sx_R σ (b + 0) 0 = (some (b + 1))) (hR_1_1 : sx_R σ (b + 1) 1 = (some (b + 13))) : Met l yL_set (.codeWith yL_set cL_set 8 (some .int) [(0, 16, 19, 13), (0, 16, 23, 15)] :: lw_g) { frames := 8, cells := 1, slots := 6, locals := 164 } (va_Pc [.ref (b + 0), .int 1, .int w1, .int w2, .int w3, .int w4, .ref (b + 431)] (zx_w g σ)) (va_Qi (fun r u => r = 1 ∧ ∃ z, u = (ap b (wx_Z σ z) [] [] [])) (zx_w g) (gx_Q g)) 1 6 (gx_Q g) := by
  refine z_metW (by decide) (Nat.le_of_ble_eq_true rfl) (fun p e s m below meth c B hr htab => ?_)
  refine z_eqs (σ' := (ap b σ [] [] [])) rfl ?_
  show zx p l e _ s m _ below meth c g 8 0 0 _ _ 0 [(0, .ref (b + 0)), (1, .int 1), (2, .int w1), (3, .int w2), (4, .int w3), (5, .int w4), (6, .ref (b + 431))] []
  refine z_aload B dL_set_0 6 rfl ?_
  refine z_iconst (v := 0) B dL_set_2 (by decide) ?_
  refine z_aload_n B dL_set_3 rfl 0 rfl ?_
  refine z_iload_n B dL_set_4 rfl 1 rfl ?_
  refine z_iload_n B dL_set_5 rfl 2 rfl ?_
  refine z_iload_n B dL_set_6 rfl 3 rfl ?_
  refine z_iload B dL_set_7 4 rfl ?_
  refine z_iload B dL_set_9 5 rfl ?_
  refine z_cXi (As := [.int 1, .int w1, .int w2, .int w3, .int w4]) (rest := [.int 0, .ref (b + 431)]) B htab tc_set_11_IndexOutOfBoundsException cw_L_7 cx_9 dL_set_11 (ci_X8_set_161 l hlt (σ := (ap b σ [] [] [])) (b := b) (lyA hK) w1 w2 w3 w4 q1_w1 q2_w1 (rR_at 0 0 hR_0_0) (rR_at 1 1 hR_1_1)) (lKA (hk_K hK 0 rfl rfl)) rfl (by decide) rfl (Nat.le_of_ble_eq_true rfl) (by decide) (fun z q => ?_)
  refine z_eqs (σ' := (ap b (wx_Z σ z) [] [] [])) rfl ?_
  show zx p l e _ s m _ below meth c g 8 _ _ _ _ 19 [(0, .ref (b + 0)), (1, .int 1), (2, .int w1), (3, .int w2), (4, .int w3), (5, .int w4), (6, .ref (b + 431))] _
  refine z_astore (lv' := [(7, .ref q), (0, .ref (b + 0)), (1, .int 1), (2, .int w1), (3, .int w2), (4, .int w3), (5, .int w4), (6, .ref (b + 431))]) B dL_set_19 (by decide) rfl ?_
  refine z_iconst (v := 1) B dL_set_21 (by decide) ?_
  exact z_iret B hr (by decide) (by decide) dL_set_22 ⟨rfl, _, rfl⟩
set_option maxRecDepth 100000 in
set_option maxHeartbeats 4000000 in
theorem ci_X9_isStep_163 (l : Launch) {g : gx_T} {σ : sx_T} {b : Nat} (hK : lay b σ) (w1 : Int32) (q1_w1 : (20 : Int) ≤ w1.toInt) (q2_w1 : w1.toInt ≤ (2147483647 : Int))  : Met l yX9_isStep (.code yX9_isStep cX9_isStep 2 (some .boolean) :: lw_g) { frames := 1, cells := 0, slots := 0, locals := 22 } (va_Pc [.int 1, .int w1] (zx_w g σ)) (va_Qi (fun r u => r = 0 ∧ u = σ) (zx_w g) (gx_Q g)) 0 0 (gx_Q g) := by
  refine z_met (by decide) (Nat.le_of_ble_eq_true rfl) (fun p e s m below meth c B hr hin => ?_)
  refine z_eqs (σ' := (ap b σ [] [] [])) rfl ?_
  show zx p l e _ s m _ below meth c g 2 0 0 _ _ 0 [(0, .int 1), (1, .int w1)] []
  refine z_iload_n B dX9_isStep_0 rfl 0 rfl ?_
  refine z_iconst (v := 0) B dX9_isStep_1 (by decide) ?_
  refine z_iconst (v := 5) B dX9_isStep_2 (by decide) ?_
  refine z_cSi (As := [.int 1, .int 0, .int 5]) (rest := []) B cw_X9_96 dX9_isStep_3 (ci_X9_in_125 l (σ := (ap b σ [] [] [])) (b := b) (lyA hK) ) rfl (by decide) rfl (Nat.le_of_ble_eq_true rfl) (by decide) (fun r u hu => ?_)
  refine z_eqs (σ' := (ap b σ [] [] [])) hu.2 ?_
  show zx p l e _ s m _ below meth c g 2 0 0 _ _ 6 [(0, .int 1), (1, .int w1)] _
  refine z_seti (y := 1) hu.1 ?_
  refine z_if_eq (tgt := 23) B dX9_isStep_6 (by decide) (fun h => absurd h (by decide)) (fun _ => ?_)
  refine z_iload_n B dX9_isStep_9 rfl 1 rfl ?_
  refine z_iconst (v := 0) B dX9_isStep_10 (by decide) ?_
  refine z_bipush (v := 19) B dX9_isStep_11 (by decide) ?_
  refine z_cSi (As := [.int w1, .int 0, .int 19]) (rest := []) B cw_X9_96 dX9_isStep_13 (ci_X9_in_113 l (σ := (ap b σ [] [] [])) (b := b) (lyA hK) w1 q1_w1 q2_w1) rfl (by decide) rfl (Nat.le_of_ble_eq_true rfl) (by decide) (fun r u hu => ?_)
  refine z_eqs (σ' := (ap b σ [] [] [])) hu.2 ?_
  show zx p l e _ s m _ below meth c g 2 0 0 _ _ 16 [(0, .int 1), (1, .int w1)] _
  refine z_seti (y := 0) hu.1 ?_
  refine z_if_eq (tgt := 23) B dX9_isStep_16 (by decide) (fun _ => ?_) (fun h => absurd (by decide) h)
  refine z_iconst (v := 0) B dX9_isStep_23 (by decide) ?_
  exact z_zret B hr (by decide) (by decide) (by decide) dX9_isStep_24 ⟨rfl, rfl⟩
set_option maxRecDepth 100000 in
set_option maxHeartbeats 4000000 in
theorem ci_X9_set_164 (l : Launch) {g : gx_T} {σ : sx_T} {b : Nat} (hK : lay b σ) (w1 : Int32) (w2 : Int32) (w3 : Int32) (w4 : Int32) (q1_w1 : (20 : Int) ≤ w1.toInt) (q2_w1 : w1.toInt ≤ (2147483647 : Int)) (q1_w2 : (-2147483648 : Int) ≤ w2.toInt) (q2_w2 : w2.toInt ≤ (-1 : Int))  : Met l yX9_set (.code yX9_set cX9_set 7 (some .int) :: lw_g) { frames := 2, cells := 0, slots := 0, locals := 44 } (va_Pc [.ref (b + 405), .int 1, .int w1, .int w2, .int w3, .int w4] (zx_w g σ)) (va_Qi (fun r u => r = 0 ∧ u = (ap b σ [(405, 0, 1)] [] [])) (zx_w g) (gx_Q g)) 0 0 (gx_Q g) := by
  refine z_met (by decide) (Nat.le_of_ble_eq_true rfl) (fun p e s m below meth c B hr hin => ?_)
  refine z_eqs (σ' := (ap b σ [] [] [])) rfl ?_
  show zx p l e _ s m _ below meth c g 7 0 0 _ _ 0 [(0, .ref (b + 405)), (1, .int 1), (2, .int w1), (3, .int w2), (4, .int w3), (5, .int w4)] []
  refine z_aload_n B dX9_set_0 rfl 0 rfl ?_
  refine z_iload_n B dX9_set_1 rfl 1 rfl ?_
  refine z_iload_n B dX9_set_2 rfl 2 rfl ?_
  refine z_cSi (As := [.int 1, .int w1]) (rest := [.ref (b + 405)]) B cw_X9_238 dX9_set_3 (ci_X9_isStep_163 l (σ := (ap b σ [] [] [])) (b := b) (lyA hK) w1 q1_w1 q2_w1) rfl (by decide) rfl (Nat.le_of_ble_eq_true rfl) (by decide) (fun r u hu => ?_)
  refine z_eqs (σ' := (ap b σ [] [] [])) hu.2 ?_
  show zx p l e _ s m _ below meth c g 7 0 0 _ _ 6 [(0, .ref (b + 405)), (1, .int 1), (2, .int w1), (3, .int w2), (4, .int w3), (5, .int w4)] _
  refine z_seti (y := 0) hu.1 ?_
  refine z_iload_n B dX9_set_6 rfl 3 rfl ?_
  refine z_iload B dX9_set_7 4 rfl ?_
  refine z_iload B dX9_set_9 5 rfl ?_
  refine z_cSi (As := [.int w2, .int w3, .int w4]) (rest := [.int 0, .ref (b + 405)]) B cw_X9_242 dX9_set_11 (ci_X9_isOperation_28 l (σ := (ap b σ [] [] [])) (b := b) (lyA hK) w2 w3 w4 q1_w2 q2_w2) rfl (by decide) rfl (Nat.le_of_ble_eq_true rfl) (by decide) (fun r u hu => ?_)
  refine z_eqs (σ' := (ap b σ [] [] [])) hu.2 ?_
  show zx p l e _ s m _ below meth c g 7 0 0 _ _ 14 [(0, .ref (b + 405)), (1, .int 1), (2, .int w1), (3, .int w2), (4, .int w3), (5, .int w4)] _
  refine z_seti (y := 0) hu.1 ?_
  refine z_cVi (As := [.int 0, .int 0]) (rest := []) B cw_X9_245 cx_10 dX9_set_14 (ci_X9_needs__29 l (σ := (ap b σ [] [] [])) (b := b) (lyA hK) ) (lKA (hk_K hK 405 rfl rfl)) rfl (by decide) rfl (Nat.le_of_ble_eq_true rfl) (by decide) (fun r u hu => ?_)
  refine z_eqs (σ' := (ap b σ [(405, 0, 1)] [] [])) (hu.2.trans ap_ap) ?_
  show zx p l e _ s m _ below meth c g 7 0 0 _ _ 17 [(0, .ref (b + 405)), (1, .int 1), (2, .int w1), (3, .int w2), (4, .int w3), (5, .int w4)] _
  refine z_seti (y := 0) hu.1 ?_
  refine z_if_ne (tgt := 22) B dX9_set_17 (by decide) (fun h => absurd (by decide) h) (fun _ => ?_)
  refine z_iconst (v := 0) B dX9_set_20 (by decide) ?_
  exact z_iret B hr (by decide) (by decide) dX9_set_21 ⟨rfl, rfl⟩
set_option maxRecDepth 100000 in
set_option maxHeartbeats 4000000 in
theorem ci_X9_set_165 (l : Launch) {g : gx_T} {σ : sx_T} {b : Nat} (hK : lay b σ) (w1 : Int32) (w2 : Int32) (w3 : Int32) (w4 : Int32) (q1_w1 : (20 : Int) ≤ w1.toInt) (q2_w1 : w1.toInt ≤ (2147483647 : Int)) (q1_w2 : (0 : Int) ≤ w2.toInt) (q2_w2 : w2.toInt ≤ (17 : Int)) (q1_w3 : (-2147483648 : Int) ≤ w3.toInt) (q2_w3 : w3.toInt ≤ (-1 : Int))  : Met l yX9_set (.code yX9_set cX9_set 7 (some .int) :: lw_g) { frames := 2, cells := 0, slots := 0, locals := 44 } (va_Pc [.ref (b + 405), .int 1, .int w1, .int w2, .int w3, .int w4] (zx_w g σ)) (va_Qi (fun r u => r = 0 ∧ u = (ap b σ [(405, 0, 1)] [] [])) (zx_w g) (gx_Q g)) 0 0 (gx_Q g) := by
  refine z_met (by decide) (Nat.le_of_ble_eq_true rfl) (fun p e s m below meth c B hr hin => ?_)
  refine z_eqs (σ' := (ap b σ [] [] [])) rfl ?_
  show zx p l e _ s m _ below meth c g 7 0 0 _ _ 0 [(0, .ref (b + 405)), (1, .int 1), (2, .int w1), (3, .int w2), (4, .int w3), (5, .int w4)] []
  refine z_aload_n B dX9_set_0 rfl 0 rfl ?_
  refine z_iload_n B dX9_set_1 rfl 1 rfl ?_
  refine z_iload_n B dX9_set_2 rfl 2 rfl ?_
  refine z_cSi (As := [.int 1, .int w1]) (rest := [.ref (b + 405)]) B cw_X9_238 dX9_set_3 (ci_X9_isStep_163 l (σ := (ap b σ [] [] [])) (b := b) (lyA hK) w1 q1_w1 q2_w1) rfl (by decide) rfl (Nat.le_of_ble_eq_true rfl) (by decide) (fun r u hu => ?_)
  refine z_eqs (σ' := (ap b σ [] [] [])) hu.2 ?_
  show zx p l e _ s m _ below meth c g 7 0 0 _ _ 6 [(0, .ref (b + 405)), (1, .int 1), (2, .int w1), (3, .int w2), (4, .int w3), (5, .int w4)] _
  refine z_seti (y := 0) hu.1 ?_
  refine z_iload_n B dX9_set_6 rfl 3 rfl ?_
  refine z_iload B dX9_set_7 4 rfl ?_
  refine z_iload B dX9_set_9 5 rfl ?_
  refine z_cSi (As := [.int w2, .int w3, .int w4]) (rest := [.int 0, .ref (b + 405)]) B cw_X9_242 dX9_set_11 (ci_X9_isOperation_34 l (σ := (ap b σ [] [] [])) (b := b) (lyA hK) w2 w3 w4 q1_w2 q2_w2 q1_w3 q2_w3) rfl (by decide) rfl (Nat.le_of_ble_eq_true rfl) (by decide) (fun r u hu => ?_)
  refine z_eqs (σ' := (ap b σ [] [] [])) hu.2 ?_
  show zx p l e _ s m _ below meth c g 7 0 0 _ _ 14 [(0, .ref (b + 405)), (1, .int 1), (2, .int w1), (3, .int w2), (4, .int w3), (5, .int w4)] _
  refine z_seti (y := 0) hu.1 ?_
  refine z_cVi (As := [.int 0, .int 0]) (rest := []) B cw_X9_245 cx_10 dX9_set_14 (ci_X9_needs__29 l (σ := (ap b σ [] [] [])) (b := b) (lyA hK) ) (lKA (hk_K hK 405 rfl rfl)) rfl (by decide) rfl (Nat.le_of_ble_eq_true rfl) (by decide) (fun r u hu => ?_)
  refine z_eqs (σ' := (ap b σ [(405, 0, 1)] [] [])) (hu.2.trans ap_ap) ?_
  show zx p l e _ s m _ below meth c g 7 0 0 _ _ 17 [(0, .ref (b + 405)), (1, .int 1), (2, .int w1), (3, .int w2), (4, .int w3), (5, .int w4)] _
  refine z_seti (y := 0) hu.1 ?_
  refine z_if_ne (tgt := 22) B dX9_set_17 (by decide) (fun h => absurd (by decide) h) (fun _ => ?_)
  refine z_iconst (v := 0) B dX9_set_20 (by decide) ?_
  exact z_iret B hr (by decide) (by decide) dX9_set_21 ⟨rfl, rfl⟩
set_option maxRecDepth 100000 in
set_option maxHeartbeats 4000000 in
theorem ci_X9_set_166 (l : Launch) {g : gx_T} {σ : sx_T} {b : Nat} (hK : lay b σ) (w1 : Int32) (w2 : Int32) (w3 : Int32) (w4 : Int32) (q1_w1 : (20 : Int) ≤ w1.toInt) (q2_w1 : w1.toInt ≤ (2147483647 : Int)) (q1_w2 : (0 : Int) ≤ w2.toInt) (q2_w2 : w2.toInt ≤ (17 : Int)) (q1_w3 : (0 : Int) ≤ w3.toInt) (q2_w3 : w3.toInt ≤ (99 : Int)) (q1_w4 : (-2147483648 : Int) ≤ w4.toInt) (q2_w4 : w4.toInt ≤ (-1 : Int))  : Met l yX9_set (.code yX9_set cX9_set 7 (some .int) :: lw_g) { frames := 2, cells := 0, slots := 0, locals := 44 } (va_Pc [.ref (b + 405), .int 1, .int w1, .int w2, .int w3, .int w4] (zx_w g σ)) (va_Qi (fun r u => r = 0 ∧ u = (ap b σ [(405, 0, 1)] [] [])) (zx_w g) (gx_Q g)) 0 0 (gx_Q g) := by
  refine z_met (by decide) (Nat.le_of_ble_eq_true rfl) (fun p e s m below meth c B hr hin => ?_)
  refine z_eqs (σ' := (ap b σ [] [] [])) rfl ?_
  show zx p l e _ s m _ below meth c g 7 0 0 _ _ 0 [(0, .ref (b + 405)), (1, .int 1), (2, .int w1), (3, .int w2), (4, .int w3), (5, .int w4)] []
  refine z_aload_n B dX9_set_0 rfl 0 rfl ?_
  refine z_iload_n B dX9_set_1 rfl 1 rfl ?_
  refine z_iload_n B dX9_set_2 rfl 2 rfl ?_
  refine z_cSi (As := [.int 1, .int w1]) (rest := [.ref (b + 405)]) B cw_X9_238 dX9_set_3 (ci_X9_isStep_163 l (σ := (ap b σ [] [] [])) (b := b) (lyA hK) w1 q1_w1 q2_w1) rfl (by decide) rfl (Nat.le_of_ble_eq_true rfl) (by decide) (fun r u hu => ?_)
  refine z_eqs (σ' := (ap b σ [] [] [])) hu.2 ?_
  show zx p l e _ s m _ below meth c g 7 0 0 _ _ 6 [(0, .ref (b + 405)), (1, .int 1), (2, .int w1), (3, .int w2), (4, .int w3), (5, .int w4)] _
  refine z_seti (y := 0) hu.1 ?_
  refine z_iload_n B dX9_set_6 rfl 3 rfl ?_
  refine z_iload B dX9_set_7 4 rfl ?_
  refine z_iload B dX9_set_9 5 rfl ?_
  refine z_cSi (As := [.int w2, .int w3, .int w4]) (rest := [.int 0, .ref (b + 405)]) B cw_X9_242 dX9_set_11 (ci_X9_isOperation_37 l (σ := (ap b σ [] [] [])) (b := b) (lyA hK) w2 w3 w4 q1_w2 q2_w2 q1_w3 q2_w3 q1_w4 q2_w4) rfl (by decide) rfl (Nat.le_of_ble_eq_true rfl) (by decide) (fun r u hu => ?_)
  refine z_eqs (σ' := (ap b σ [] [] [])) hu.2 ?_
  show zx p l e _ s m _ below meth c g 7 0 0 _ _ 14 [(0, .ref (b + 405)), (1, .int 1), (2, .int w1), (3, .int w2), (4, .int w3), (5, .int w4)] _
  refine z_seti (y := 0) hu.1 ?_
  refine z_cVi (As := [.int 0, .int 0]) (rest := []) B cw_X9_245 cx_10 dX9_set_14 (ci_X9_needs__29 l (σ := (ap b σ [] [] [])) (b := b) (lyA hK) ) (lKA (hk_K hK 405 rfl rfl)) rfl (by decide) rfl (Nat.le_of_ble_eq_true rfl) (by decide) (fun r u hu => ?_)
  refine z_eqs (σ' := (ap b σ [(405, 0, 1)] [] [])) (hu.2.trans ap_ap) ?_
  show zx p l e _ s m _ below meth c g 7 0 0 _ _ 17 [(0, .ref (b + 405)), (1, .int 1), (2, .int w1), (3, .int w2), (4, .int w3), (5, .int w4)] _
  refine z_seti (y := 0) hu.1 ?_
  refine z_if_ne (tgt := 22) B dX9_set_17 (by decide) (fun h => absurd (by decide) h) (fun _ => ?_)
  refine z_iconst (v := 0) B dX9_set_20 (by decide) ?_
  exact z_iret B hr (by decide) (by decide) dX9_set_21 ⟨rfl, rfl⟩
set_option maxRecDepth 100000 in
set_option maxHeartbeats 4000000 in
theorem ci_X9_set_167 (l : Launch) {g : gx_T} {σ : sx_T} {b : Nat} (hK : lay b σ) (w1 : Int32) (w2 : Int32) (w3 : Int32) (w4 : Int32) (q1_w1 : (20 : Int) ≤ w1.toInt) (q2_w1 : w1.toInt ≤ (2147483647 : Int)) (q1_w2 : (0 : Int) ≤ w2.toInt) (q2_w2 : w2.toInt ≤ (17 : Int)) (q1_w3 : (0 : Int) ≤ w3.toInt) (q2_w3 : w3.toInt ≤ (99 : Int)) (q1_w4 : (0 : Int) ≤ w4.toInt) (q2_w4 : w4.toInt ≤ (99 : Int))  : Met l yX9_set (.code yX9_set cX9_set 7 (some .int) :: lw_g) { frames := 2, cells := 0, slots := 0, locals := 44 } (va_Pc [.ref (b + 405), .int 1, .int w1, .int w2, .int w3, .int w4] (zx_w g σ)) (va_Qi (fun r u => r = 0 ∧ u = (ap b σ [(405, 0, 1)] [] [])) (zx_w g) (gx_Q g)) 0 0 (gx_Q g) := by
  refine z_met (by decide) (Nat.le_of_ble_eq_true rfl) (fun p e s m below meth c B hr hin => ?_)
  refine z_eqs (σ' := (ap b σ [] [] [])) rfl ?_
  show zx p l e _ s m _ below meth c g 7 0 0 _ _ 0 [(0, .ref (b + 405)), (1, .int 1), (2, .int w1), (3, .int w2), (4, .int w3), (5, .int w4)] []
  refine z_aload_n B dX9_set_0 rfl 0 rfl ?_
  refine z_iload_n B dX9_set_1 rfl 1 rfl ?_
  refine z_iload_n B dX9_set_2 rfl 2 rfl ?_
  refine z_cSi (As := [.int 1, .int w1]) (rest := [.ref (b + 405)]) B cw_X9_238 dX9_set_3 (ci_X9_isStep_163 l (σ := (ap b σ [] [] [])) (b := b) (lyA hK) w1 q1_w1 q2_w1) rfl (by decide) rfl (Nat.le_of_ble_eq_true rfl) (by decide) (fun r u hu => ?_)
  refine z_eqs (σ' := (ap b σ [] [] [])) hu.2 ?_
  show zx p l e _ s m _ below meth c g 7 0 0 _ _ 6 [(0, .ref (b + 405)), (1, .int 1), (2, .int w1), (3, .int w2), (4, .int w3), (5, .int w4)] _
  refine z_seti (y := 0) hu.1 ?_
  refine z_iload_n B dX9_set_6 rfl 3 rfl ?_
  refine z_iload B dX9_set_7 4 rfl ?_
  refine z_iload B dX9_set_9 5 rfl ?_
  refine z_cSi (As := [.int w2, .int w3, .int w4]) (rest := [.int 0, .ref (b + 405)]) B cw_X9_242 dX9_set_11 (ci_X9_isOperation_39 l (σ := (ap b σ [] [] [])) (b := b) (lyA hK) w2 w3 w4 q1_w2 q2_w2 q1_w3 q2_w3 q1_w4 q2_w4) rfl (by decide) rfl (Nat.le_of_ble_eq_true rfl) (by decide) (fun r u hu => ?_)
  refine z_eqs (σ' := (ap b σ [] [] [])) hu.2 ?_
  show zx p l e _ s m _ below meth c g 7 0 0 _ _ 14 [(0, .ref (b + 405)), (1, .int 1), (2, .int w1), (3, .int w2), (4, .int w3), (5, .int w4)] _
  refine z_seti (y := 1) hu.1 ?_
  refine z_cVi (As := [.int 0, .int 1]) (rest := []) B cw_X9_245 cx_10 dX9_set_14 (ci_X9_needs__40 l (σ := (ap b σ [] [] [])) (b := b) (lyA hK) ) (lKA (hk_K hK 405 rfl rfl)) rfl (by decide) rfl (Nat.le_of_ble_eq_true rfl) (by decide) (fun r u hu => ?_)
  refine z_eqs (σ' := (ap b σ [(405, 0, 1)] [] [])) (hu.2.trans ap_ap) ?_
  show zx p l e _ s m _ below meth c g 7 0 0 _ _ 17 [(0, .ref (b + 405)), (1, .int 1), (2, .int w1), (3, .int w2), (4, .int w3), (5, .int w4)] _
  refine z_seti (y := 0) hu.1 ?_
  refine z_if_ne (tgt := 22) B dX9_set_17 (by decide) (fun h => absurd (by decide) h) (fun _ => ?_)
  refine z_iconst (v := 0) B dX9_set_20 (by decide) ?_
  exact z_iret B hr (by decide) (by decide) dX9_set_21 ⟨rfl, rfl⟩
set_option maxRecDepth 100000 in
set_option maxHeartbeats 4000000 in
theorem ci_X9_set_168 (l : Launch) {g : gx_T} {σ : sx_T} {b : Nat} (hK : lay b σ) (w1 : Int32) (w2 : Int32) (w3 : Int32) (w4 : Int32) (q1_w1 : (20 : Int) ≤ w1.toInt) (q2_w1 : w1.toInt ≤ (2147483647 : Int)) (q1_w2 : (0 : Int) ≤ w2.toInt) (q2_w2 : w2.toInt ≤ (17 : Int)) (q1_w3 : (0 : Int) ≤ w3.toInt) (q2_w3 : w3.toInt ≤ (99 : Int)) (q1_w4 : (100 : Int) ≤ w4.toInt) (q2_w4 : w4.toInt ≤ (2147483647 : Int))  : Met l yX9_set (.code yX9_set cX9_set 7 (some .int) :: lw_g) { frames := 2, cells := 0, slots := 0, locals := 44 } (va_Pc [.ref (b + 405), .int 1, .int w1, .int w2, .int w3, .int w4] (zx_w g σ)) (va_Qi (fun r u => r = 0 ∧ u = (ap b σ [(405, 0, 1)] [] [])) (zx_w g) (gx_Q g)) 0 0 (gx_Q g) := by
  refine z_met (by decide) (Nat.le_of_ble_eq_true rfl) (fun p e s m below meth c B hr hin => ?_)
  refine z_eqs (σ' := (ap b σ [] [] [])) rfl ?_
  show zx p l e _ s m _ below meth c g 7 0 0 _ _ 0 [(0, .ref (b + 405)), (1, .int 1), (2, .int w1), (3, .int w2), (4, .int w3), (5, .int w4)] []
  refine z_aload_n B dX9_set_0 rfl 0 rfl ?_
  refine z_iload_n B dX9_set_1 rfl 1 rfl ?_
  refine z_iload_n B dX9_set_2 rfl 2 rfl ?_
  refine z_cSi (As := [.int 1, .int w1]) (rest := [.ref (b + 405)]) B cw_X9_238 dX9_set_3 (ci_X9_isStep_163 l (σ := (ap b σ [] [] [])) (b := b) (lyA hK) w1 q1_w1 q2_w1) rfl (by decide) rfl (Nat.le_of_ble_eq_true rfl) (by decide) (fun r u hu => ?_)
  refine z_eqs (σ' := (ap b σ [] [] [])) hu.2 ?_
  show zx p l e _ s m _ below meth c g 7 0 0 _ _ 6 [(0, .ref (b + 405)), (1, .int 1), (2, .int w1), (3, .int w2), (4, .int w3), (5, .int w4)] _
  refine z_seti (y := 0) hu.1 ?_
  refine z_iload_n B dX9_set_6 rfl 3 rfl ?_
  refine z_iload B dX9_set_7 4 rfl ?_
  refine z_iload B dX9_set_9 5 rfl ?_
  refine z_cSi (As := [.int w2, .int w3, .int w4]) (rest := [.int 0, .ref (b + 405)]) B cw_X9_242 dX9_set_11 (ci_X9_isOperation_43 l (σ := (ap b σ [] [] [])) (b := b) (lyA hK) w2 w3 w4 q1_w2 q2_w2 q1_w3 q2_w3 q1_w4 q2_w4) rfl (by decide) rfl (Nat.le_of_ble_eq_true rfl) (by decide) (fun r u hu => ?_)
  refine z_eqs (σ' := (ap b σ [] [] [])) hu.2 ?_
  show zx p l e _ s m _ below meth c g 7 0 0 _ _ 14 [(0, .ref (b + 405)), (1, .int 1), (2, .int w1), (3, .int w2), (4, .int w3), (5, .int w4)] _
  refine z_seti (y := 0) hu.1 ?_
  refine z_cVi (As := [.int 0, .int 0]) (rest := []) B cw_X9_245 cx_10 dX9_set_14 (ci_X9_needs__29 l (σ := (ap b σ [] [] [])) (b := b) (lyA hK) ) (lKA (hk_K hK 405 rfl rfl)) rfl (by decide) rfl (Nat.le_of_ble_eq_true rfl) (by decide) (fun r u hu => ?_)
  refine z_eqs (σ' := (ap b σ [(405, 0, 1)] [] [])) (hu.2.trans ap_ap) ?_
  show zx p l e _ s m _ below meth c g 7 0 0 _ _ 17 [(0, .ref (b + 405)), (1, .int 1), (2, .int w1), (3, .int w2), (4, .int w3), (5, .int w4)] _
  refine z_seti (y := 0) hu.1 ?_
  refine z_if_ne (tgt := 22) B dX9_set_17 (by decide) (fun h => absurd (by decide) h) (fun _ => ?_)
  refine z_iconst (v := 0) B dX9_set_20 (by decide) ?_
  exact z_iret B hr (by decide) (by decide) dX9_set_21 ⟨rfl, rfl⟩
set_option maxRecDepth 100000 in
set_option maxHeartbeats 4000000 in
theorem ci_X9_set_169 (l : Launch) {g : gx_T} {σ : sx_T} {b : Nat} (hK : lay b σ) (w1 : Int32) (w2 : Int32) (w3 : Int32) (w4 : Int32) (q1_w1 : (20 : Int) ≤ w1.toInt) (q2_w1 : w1.toInt ≤ (2147483647 : Int)) (q1_w2 : (0 : Int) ≤ w2.toInt) (q2_w2 : w2.toInt ≤ (17 : Int)) (q1_w3 : (100 : Int) ≤ w3.toInt) (q2_w3 : w3.toInt ≤ (2147483647 : Int))  : Met l yX9_set (.code yX9_set cX9_set 7 (some .int) :: lw_g) { frames := 2, cells := 0, slots := 0, locals := 44 } (va_Pc [.ref (b + 405), .int 1, .int w1, .int w2, .int w3, .int w4] (zx_w g σ)) (va_Qi (fun r u => r = 0 ∧ u = (ap b σ [(405, 0, 1)] [] [])) (zx_w g) (gx_Q g)) 0 0 (gx_Q g) := by
  refine z_met (by decide) (Nat.le_of_ble_eq_true rfl) (fun p e s m below meth c B hr hin => ?_)
  refine z_eqs (σ' := (ap b σ [] [] [])) rfl ?_
  show zx p l e _ s m _ below meth c g 7 0 0 _ _ 0 [(0, .ref (b + 405)), (1, .int 1), (2, .int w1), (3, .int w2), (4, .int w3), (5, .int w4)] []
  refine z_aload_n B dX9_set_0 rfl 0 rfl ?_
  refine z_iload_n B dX9_set_1 rfl 1 rfl ?_
  refine z_iload_n B dX9_set_2 rfl 2 rfl ?_
  refine z_cSi (As := [.int 1, .int w1]) (rest := [.ref (b + 405)]) B cw_X9_238 dX9_set_3 (ci_X9_isStep_163 l (σ := (ap b σ [] [] [])) (b := b) (lyA hK) w1 q1_w1 q2_w1) rfl (by decide) rfl (Nat.le_of_ble_eq_true rfl) (by decide) (fun r u hu => ?_)
  refine z_eqs (σ' := (ap b σ [] [] [])) hu.2 ?_
  show zx p l e _ s m _ below meth c g 7 0 0 _ _ 6 [(0, .ref (b + 405)), (1, .int 1), (2, .int w1), (3, .int w2), (4, .int w3), (5, .int w4)] _
  refine z_seti (y := 0) hu.1 ?_
  refine z_iload_n B dX9_set_6 rfl 3 rfl ?_
  refine z_iload B dX9_set_7 4 rfl ?_
  refine z_iload B dX9_set_9 5 rfl ?_
  refine z_cSi (As := [.int w2, .int w3, .int w4]) (rest := [.int 0, .ref (b + 405)]) B cw_X9_242 dX9_set_11 (ci_X9_isOperation_45 l (σ := (ap b σ [] [] [])) (b := b) (lyA hK) w2 w3 w4 q1_w2 q2_w2 q1_w3 q2_w3) rfl (by decide) rfl (Nat.le_of_ble_eq_true rfl) (by decide) (fun r u hu => ?_)
  refine z_eqs (σ' := (ap b σ [] [] [])) hu.2 ?_
  show zx p l e _ s m _ below meth c g 7 0 0 _ _ 14 [(0, .ref (b + 405)), (1, .int 1), (2, .int w1), (3, .int w2), (4, .int w3), (5, .int w4)] _
  refine z_seti (y := 0) hu.1 ?_
  refine z_cVi (As := [.int 0, .int 0]) (rest := []) B cw_X9_245 cx_10 dX9_set_14 (ci_X9_needs__29 l (σ := (ap b σ [] [] [])) (b := b) (lyA hK) ) (lKA (hk_K hK 405 rfl rfl)) rfl (by decide) rfl (Nat.le_of_ble_eq_true rfl) (by decide) (fun r u hu => ?_)
  refine z_eqs (σ' := (ap b σ [(405, 0, 1)] [] [])) (hu.2.trans ap_ap) ?_
  show zx p l e _ s m _ below meth c g 7 0 0 _ _ 17 [(0, .ref (b + 405)), (1, .int 1), (2, .int w1), (3, .int w2), (4, .int w3), (5, .int w4)] _
  refine z_seti (y := 0) hu.1 ?_
  refine z_if_ne (tgt := 22) B dX9_set_17 (by decide) (fun h => absurd (by decide) h) (fun _ => ?_)
  refine z_iconst (v := 0) B dX9_set_20 (by decide) ?_
  exact z_iret B hr (by decide) (by decide) dX9_set_21 ⟨rfl, rfl⟩
set_option maxRecDepth 100000 in
set_option maxHeartbeats 4000000 in
theorem ci_X9_set_170 (l : Launch) {g : gx_T} {σ : sx_T} {b : Nat} (hK : lay b σ) (w1 : Int32) (w2 : Int32) (w3 : Int32) (w4 : Int32) (q1_w1 : (20 : Int) ≤ w1.toInt) (q2_w1 : w1.toInt ≤ (2147483647 : Int)) (q1_w2 : (18 : Int) ≤ w2.toInt) (q2_w2 : w2.toInt ≤ (2147483647 : Int))  : Met l yX9_set (.code yX9_set cX9_set 7 (some .int) :: lw_g) { frames := 2, cells := 0, slots := 0, locals := 44 } (va_Pc [.ref (b + 405), .int 1, .int w1, .int w2, .int w3, .int w4] (zx_w g σ)) (va_Qi (fun r u => r = 0 ∧ u = (ap b σ [(405, 0, 1)] [] [])) (zx_w g) (gx_Q g)) 0 0 (gx_Q g) := by
  refine z_met (by decide) (Nat.le_of_ble_eq_true rfl) (fun p e s m below meth c B hr hin => ?_)
  refine z_eqs (σ' := (ap b σ [] [] [])) rfl ?_
  show zx p l e _ s m _ below meth c g 7 0 0 _ _ 0 [(0, .ref (b + 405)), (1, .int 1), (2, .int w1), (3, .int w2), (4, .int w3), (5, .int w4)] []
  refine z_aload_n B dX9_set_0 rfl 0 rfl ?_
  refine z_iload_n B dX9_set_1 rfl 1 rfl ?_
  refine z_iload_n B dX9_set_2 rfl 2 rfl ?_
  refine z_cSi (As := [.int 1, .int w1]) (rest := [.ref (b + 405)]) B cw_X9_238 dX9_set_3 (ci_X9_isStep_163 l (σ := (ap b σ [] [] [])) (b := b) (lyA hK) w1 q1_w1 q2_w1) rfl (by decide) rfl (Nat.le_of_ble_eq_true rfl) (by decide) (fun r u hu => ?_)
  refine z_eqs (σ' := (ap b σ [] [] [])) hu.2 ?_
  show zx p l e _ s m _ below meth c g 7 0 0 _ _ 6 [(0, .ref (b + 405)), (1, .int 1), (2, .int w1), (3, .int w2), (4, .int w3), (5, .int w4)] _
  refine z_seti (y := 0) hu.1 ?_
  refine z_iload_n B dX9_set_6 rfl 3 rfl ?_
  refine z_iload B dX9_set_7 4 rfl ?_
  refine z_iload B dX9_set_9 5 rfl ?_
  refine z_cSi (As := [.int w2, .int w3, .int w4]) (rest := [.int 0, .ref (b + 405)]) B cw_X9_242 dX9_set_11 (ci_X9_isOperation_48 l (σ := (ap b σ [] [] [])) (b := b) (lyA hK) w2 w3 w4 q1_w2 q2_w2) rfl (by decide) rfl (Nat.le_of_ble_eq_true rfl) (by decide) (fun r u hu => ?_)
  refine z_eqs (σ' := (ap b σ [] [] [])) hu.2 ?_
  show zx p l e _ s m _ below meth c g 7 0 0 _ _ 14 [(0, .ref (b + 405)), (1, .int 1), (2, .int w1), (3, .int w2), (4, .int w3), (5, .int w4)] _
  refine z_seti (y := 0) hu.1 ?_
  refine z_cVi (As := [.int 0, .int 0]) (rest := []) B cw_X9_245 cx_10 dX9_set_14 (ci_X9_needs__29 l (σ := (ap b σ [] [] [])) (b := b) (lyA hK) ) (lKA (hk_K hK 405 rfl rfl)) rfl (by decide) rfl (Nat.le_of_ble_eq_true rfl) (by decide) (fun r u hu => ?_)
  refine z_eqs (σ' := (ap b σ [(405, 0, 1)] [] [])) (hu.2.trans ap_ap) ?_
  show zx p l e _ s m _ below meth c g 7 0 0 _ _ 17 [(0, .ref (b + 405)), (1, .int 1), (2, .int w1), (3, .int w2), (4, .int w3), (5, .int w4)] _
  refine z_seti (y := 0) hu.1 ?_
  refine z_if_ne (tgt := 22) B dX9_set_17 (by decide) (fun h => absurd (by decide) h) (fun _ => ?_)
  refine z_iconst (v := 0) B dX9_set_20 (by decide) ?_
  exact z_iret B hr (by decide) (by decide) dX9_set_21 ⟨rfl, rfl⟩
set_option maxRecDepth 100000 in
set_option maxHeartbeats 4000000 in
theorem ci_X8_programAt_171 (l : Launch) {g : gx_T} {σ : sx_T} {b : Nat} (hK : lay b σ)   (hR_0_0 : sx_R σ (b + 0) 0 = (some (b + 1))) (hR_1_2 : sx_R σ (b + 1) 2 = (some (b + 17))) : Met l yX8_programAt (.code yX8_programAt cX8_programAt 2 (some (.object "Loomkeeper$Program")) :: lw_g) { frames := 0, cells := 0, slots := 0, locals := 0 } (va_Pc [.ref (b + 0), .int 2] (zx_w g σ)) (va_Qq (fun r u => r = (some (b + 17)) ∧ u = σ) (zx_w g) (gx_Q g)) 0 0 (gx_Q g) := by
  refine z_met (by decide) (Nat.le_of_ble_eq_true rfl) (fun p e s m below meth c B hr hin => ?_)
  refine z_eqs (σ' := (ap b σ [] [] [])) rfl ?_
  show zx p l e _ s m _ below meth c g 2 0 0 _ _ 0 [(0, .ref (b + 0)), (1, .int 2)] []
  refine z_iload_n B dX8_programAt_0 rfl 1 rfl ?_
  refine z_if_lt (tgt := 22) B dX8_programAt_1 (by decide) (fun h => absurd h (by decide)) (fun _ => ?_)
  refine z_iload_n B dX8_programAt_4 rfl 1 rfl ?_
  refine z_aload_n B dX8_programAt_5 rfl 0 rfl ?_
  refine gf_X8_11 (x := (some (b + 1))) B (lKA (hk_K hK 0 rfl rfl)) (rR_at 0 0 hR_0_0) dX8_programAt_6 ?_
  refine z_alen (kd := 16) (ti := 4) (v := 6) B (lKA (hk_K hK 1 rfl rfl)) (by decide) rfl (congrArg Int32.ofNat (lNA (hk_N hK 1 rfl rfl))) dX8_programAt_9 ?_
  refine z_icmp_ge (tgt := 22) B dX8_programAt_10 (by decide) (fun h => absurd h (by decide)) (fun _ => ?_)
  refine z_aload_n B dX8_programAt_13 rfl 0 rfl ?_
  refine gf_X8_11 (x := (some (b + 1))) B (lKA (hk_K hK 0 rfl rfl)) (rR_at 0 0 hR_0_0) dX8_programAt_14 ?_
  refine z_iload_n B dX8_programAt_17 rfl 1 rfl ?_
  refine z_qald (j := 2) (kd := 16) (ti := 4) (r := (some (b + 17))) B (lKA (hk_K hK 1 rfl rfl)) (by decide) rfl (by decide) (in_of (lNA (hk_N hK 1 rfl rfl)) (show ¬ ((2 : Int32) < 0 ∨ 6 ≤ (2 : Int32).toNatClampNeg) by decide)) (rR_at 1 2 hR_1_2) dX8_programAt_18 ?_
  refine z_goto (tgt := 23) B dX8_programAt_19 (by decide) ?_
  exact z_qret (r := (some (b + 17))) B hr (by decide) (by decide) dX8_programAt_23 ⟨rfl, rfl⟩
set_option maxRecDepth 100000 in
set_option maxHeartbeats 4000000 in
theorem ci_X8_set_172 (l : Launch) (hlt : l.stackTraces = false) {g : gx_T} {σ : sx_T} {b : Nat} (hK : lay b σ) (w1 : Int32) (w2 : Int32) (w3 : Int32) (w4 : Int32) (q1_w1 : (-2147483648 : Int) ≤ w1.toInt) (q2_w1 : w1.toInt ≤ (-1 : Int)) (hR_0_0 : sx_R σ (b + 0) 0 = (some (b + 1))) (hR_1_2 : sx_R σ (b + 1) 2 = (some (b + 17))) : vx_Met l yX8_set (.code yX8_set cX8_set 9 (some .int) :: lw_g) { frames := 7, cells := 1, slots := 6, locals := 136 } (va_Pc [.ref (b + 0), .int 2, .int w1, .int w2, .int w3, .int w4] (zx_w g σ)) (va_Qi (S := sx_T) (fun _ _ => False) (zx_w g) (gx_Q g)) (vx_X (fun u : sx_T => ∃ z, u = wx_Z σ z) (fun E u t => E = "java/lang/IndexOutOfBoundsException" ∧ zx_h g u t.heap) (gx_Q g)) 1 6 (gx_Q g) := by
  refine z_metX (by decide) (Nat.le_of_ble_eq_true rfl) (fun p e s m below meth c B hr hin hout => ?_)
  refine z_eqs (σ' := (ap b σ [] [] [])) rfl ?_
  show zx p l e _ s m _ below meth c g 9 0 0 _ _ 0 [(0, .ref (b + 0)), (1, .int 2), (2, .int w1), (3, .int w2), (4, .int w3), (5, .int w4)] []
  refine z_aload_n B dX8_set_0 rfl 0 rfl ?_
  refine z_iload_n B dX8_set_1 rfl 1 rfl ?_
  refine z_cVq (As := [.int 2]) (rest := []) B cw_X8_64 cx_9 dX8_set_2 (ci_X8_programAt_171 l (σ := (ap b σ [] [] [])) (b := b) (lyA hK) (rR_at 0 0 hR_0_0) (rR_at 1 2 hR_1_2)) (lKA (hk_K hK 0 rfl rfl)) rfl (by decide) rfl (Nat.le_of_ble_eq_true rfl) (by decide) (fun r u hu => ?_)
  refine z_eqs (σ' := (ap b σ [] [] [])) hu.2 ?_
  show zx p l e _ s m _ below meth c g 9 0 0 _ _ 5 [(0, .ref (b + 0)), (1, .int 2), (2, .int w1), (3, .int w2), (4, .int w3), (5, .int w4)] _
  refine z_setr (y := (some (b + 17))) hu.1 ?_
  refine z_astore (lv' := [(6, .ref (b + 17)), (0, .ref (b + 0)), (1, .int 2), (2, .int w1), (3, .int w2), (4, .int w3), (5, .int w4)]) B dX8_set_5 (by decide) rfl ?_
  refine z_aload B dX8_set_7 0 rfl ?_
  refine z_ifnull (r := (some (b + 17))) (tgt := 21) B dX8_set_9 (by decide) (fun h => nomatch h) (fun _ _ => ?_)
  refine z_iload_n B dX8_set_12 rfl 3 rfl ?_
  refine z_bipush (v := 20) B dX8_set_13 (by decide) ?_
  refine z_cSi (As := [.int w1, .int 20]) (rest := []) B cw_X8_68 dX8_set_15 (ci_X8_isBelow_51 l (σ := (ap b σ [] [] [])) (b := b) (lyA hK) w1 q1_w1 q2_w1) rfl (by decide) rfl (Nat.le_of_ble_eq_true rfl) (by decide) (fun r u hu => ?_)
  refine z_eqs (σ' := (ap b σ [] [] [])) hu.2 ?_
  show zx p l e _ s m _ below meth c g 9 0 0 _ _ 18 [(6, .ref (b + 17)), (0, .ref (b + 0)), (1, .int 2), (2, .int w1), (3, .int w2), (4, .int w3), (5, .int w4)] _
  refine z_seti (y := 0) hu.1 ?_
  refine z_if_ne (tgt := 31) B dX8_set_18 (by decide) (fun h => absurd (by decide) h) (fun _ => ?_)
  exact z_throw B hlt hout (cls := "java/lang/IndexOutOfBoundsException") (text := "no such step") tw_X8_72_74_76 dX8_set_21 dX8_set_24 dX8_set_25 dX8_set_27 dX8_set_30 (by decide) (by decide) (by decide) (by decide) (by decide) (by decide) (fun z => ⟨z, rfl⟩)
set_option maxRecDepth 100000 in
set_option maxHeartbeats 4000000 in
theorem ci_L_set_173 (l : Launch) (hlt : l.stackTraces = false) {g : gx_T} {σ : sx_T} {b : Nat} (hK : lay b σ) (w1 : Int32) (w2 : Int32) (w3 : Int32) (w4 : Int32) (q1_w1 : (-2147483648 : Int) ≤ w1.toInt) (q2_w1 : w1.toInt ≤ (-1 : Int)) (hR_0_0 : sx_R σ (b + 0) 0 = (some (b + 1))) (hR_1_2 : sx_R σ (b + 1) 2 = (some (b + 17))) : Met l yL_set (.codeWith yL_set cL_set 8 (some .int) [(0, 16, 19, 13), (0, 16, 23, 15)] :: lw_g) { frames := 8, cells := 1, slots := 6, locals := 164 } (va_Pc [.ref (b + 0), .int 2, .int w1, .int w2, .int w3, .int w4, .ref (b + 431)] (zx_w g σ)) (va_Qi (fun r u => r = 1 ∧ ∃ z, u = (ap b (wx_Z σ z) [] [] [])) (zx_w g) (gx_Q g)) 1 6 (gx_Q g) := by
  refine z_metW (by decide) (Nat.le_of_ble_eq_true rfl) (fun p e s m below meth c B hr htab => ?_)
  refine z_eqs (σ' := (ap b σ [] [] [])) rfl ?_
  show zx p l e _ s m _ below meth c g 8 0 0 _ _ 0 [(0, .ref (b + 0)), (1, .int 2), (2, .int w1), (3, .int w2), (4, .int w3), (5, .int w4), (6, .ref (b + 431))] []
  refine z_aload B dL_set_0 6 rfl ?_
  refine z_iconst (v := 0) B dL_set_2 (by decide) ?_
  refine z_aload_n B dL_set_3 rfl 0 rfl ?_
  refine z_iload_n B dL_set_4 rfl 1 rfl ?_
  refine z_iload_n B dL_set_5 rfl 2 rfl ?_
  refine z_iload_n B dL_set_6 rfl 3 rfl ?_
  refine z_iload B dL_set_7 4 rfl ?_
  refine z_iload B dL_set_9 5 rfl ?_
  refine z_cXi (As := [.int 2, .int w1, .int w2, .int w3, .int w4]) (rest := [.int 0, .ref (b + 431)]) B htab tc_set_11_IndexOutOfBoundsException cw_L_7 cx_9 dL_set_11 (ci_X8_set_172 l hlt (σ := (ap b σ [] [] [])) (b := b) (lyA hK) w1 w2 w3 w4 q1_w1 q2_w1 (rR_at 0 0 hR_0_0) (rR_at 1 2 hR_1_2)) (lKA (hk_K hK 0 rfl rfl)) rfl (by decide) rfl (Nat.le_of_ble_eq_true rfl) (by decide) (fun z q => ?_)
  refine z_eqs (σ' := (ap b (wx_Z σ z) [] [] [])) rfl ?_
  show zx p l e _ s m _ below meth c g 8 _ _ _ _ 19 [(0, .ref (b + 0)), (1, .int 2), (2, .int w1), (3, .int w2), (4, .int w3), (5, .int w4), (6, .ref (b + 431))] _
  refine z_astore (lv' := [(7, .ref q), (0, .ref (b + 0)), (1, .int 2), (2, .int w1), (3, .int w2), (4, .int w3), (5, .int w4), (6, .ref (b + 431))]) B dL_set_19 (by decide) rfl ?_
  refine z_iconst (v := 1) B dL_set_21 (by decide) ?_
  exact z_iret B hr (by decide) (by decide) dL_set_22 ⟨rfl, _, rfl⟩
set_option maxRecDepth 100000 in
set_option maxHeartbeats 4000000 in
theorem ci_X9_in_174 (l : Launch) {g : gx_T} {σ : sx_T} {b : Nat} (hK : lay b σ)    : Met l yX9_in (.code yX9_in cX9_in 3 (some .boolean) :: lw_g) { frames := 0, cells := 0, slots := 0, locals := 0 } (va_Pc [.int 2, .int 0, .int 5] (zx_w g σ)) (va_Qi (fun r u => r = 1 ∧ u = σ) (zx_w g) (gx_Q g)) 0 0 (gx_Q g) := by
  refine z_met (by decide) (Nat.le_of_ble_eq_true rfl) (fun p e s m below meth c B hr hin => ?_)
  refine z_eqs (σ' := (ap b σ [] [] [])) rfl ?_
  show zx p l e _ s m _ below meth c g 3 0 0 _ _ 0 [(0, .int 2), (1, .int 0), (2, .int 5)] []
  refine z_iload_n B dX9_in_0 rfl 0 rfl ?_
  refine z_iload_n B dX9_in_1 rfl 1 rfl ?_
  refine z_icmp_lt (tgt := 14) B dX9_in_2 (by decide) (fun h => absurd h (by decide)) (fun _ => ?_)
  refine z_iload_n B dX9_in_5 rfl 0 rfl ?_
  refine z_iload_n B dX9_in_6 rfl 2 rfl ?_
  refine z_icmp_gt (tgt := 14) B dX9_in_7 (by decide) (fun h => absurd h (by decide)) (fun _ => ?_)
  refine z_iconst (v := 1) B dX9_in_10 (by decide) ?_
  refine z_goto (tgt := 15) B dX9_in_11 (by decide) ?_
  exact z_zret B hr (by decide) (by decide) (by decide) dX9_in_15 ⟨rfl, rfl⟩
set_option maxRecDepth 100000 in
set_option maxHeartbeats 4000000 in
theorem ci_X9_isStep_175 (l : Launch) {g : gx_T} {σ : sx_T} {b : Nat} (hK : lay b σ) (w1 : Int32) (q1_w1 : (-2147483648 : Int) ≤ w1.toInt) (q2_w1 : w1.toInt ≤ (-1 : Int))  : Met l yX9_isStep (.code yX9_isStep cX9_isStep 2 (some .boolean) :: lw_g) { frames := 1, cells := 0, slots := 0, locals := 22 } (va_Pc [.int 2, .int w1] (zx_w g σ)) (va_Qi (fun r u => r = 0 ∧ u = σ) (zx_w g) (gx_Q g)) 0 0 (gx_Q g) := by
  refine z_met (by decide) (Nat.le_of_ble_eq_true rfl) (fun p e s m below meth c B hr hin => ?_)
  refine z_eqs (σ' := (ap b σ [] [] [])) rfl ?_
  show zx p l e _ s m _ below meth c g 2 0 0 _ _ 0 [(0, .int 2), (1, .int w1)] []
  refine z_iload_n B dX9_isStep_0 rfl 0 rfl ?_
  refine z_iconst (v := 0) B dX9_isStep_1 (by decide) ?_
  refine z_iconst (v := 5) B dX9_isStep_2 (by decide) ?_
  refine z_cSi (As := [.int 2, .int 0, .int 5]) (rest := []) B cw_X9_96 dX9_isStep_3 (ci_X9_in_174 l (σ := (ap b σ [] [] [])) (b := b) (lyA hK) ) rfl (by decide) rfl (Nat.le_of_ble_eq_true rfl) (by decide) (fun r u hu => ?_)
  refine z_eqs (σ' := (ap b σ [] [] [])) hu.2 ?_
  show zx p l e _ s m _ below meth c g 2 0 0 _ _ 6 [(0, .int 2), (1, .int w1)] _
  refine z_seti (y := 1) hu.1 ?_
  refine z_if_eq (tgt := 23) B dX9_isStep_6 (by decide) (fun h => absurd h (by decide)) (fun _ => ?_)
  refine z_iload_n B dX9_isStep_9 rfl 1 rfl ?_
  refine z_iconst (v := 0) B dX9_isStep_10 (by decide) ?_
  refine z_bipush (v := 19) B dX9_isStep_11 (by decide) ?_
  refine z_cSi (As := [.int w1, .int 0, .int 19]) (rest := []) B cw_X9_96 dX9_isStep_13 (ci_X9_in_55 l (σ := (ap b σ [] [] [])) (b := b) (lyA hK) w1 q1_w1 q2_w1) rfl (by decide) rfl (Nat.le_of_ble_eq_true rfl) (by decide) (fun r u hu => ?_)
  refine z_eqs (σ' := (ap b σ [] [] [])) hu.2 ?_
  show zx p l e _ s m _ below meth c g 2 0 0 _ _ 16 [(0, .int 2), (1, .int w1)] _
  refine z_seti (y := 0) hu.1 ?_
  refine z_if_eq (tgt := 23) B dX9_isStep_16 (by decide) (fun _ => ?_) (fun h => absurd (by decide) h)
  refine z_iconst (v := 0) B dX9_isStep_23 (by decide) ?_
  exact z_zret B hr (by decide) (by decide) (by decide) dX9_isStep_24 ⟨rfl, rfl⟩
set_option maxRecDepth 100000 in
set_option maxHeartbeats 4000000 in
theorem ci_X9_set_176 (l : Launch) {g : gx_T} {σ : sx_T} {b : Nat} (hK : lay b σ) (w1 : Int32) (w2 : Int32) (w3 : Int32) (w4 : Int32) (q1_w1 : (-2147483648 : Int) ≤ w1.toInt) (q2_w1 : w1.toInt ≤ (-1 : Int)) (q1_w2 : (-2147483648 : Int) ≤ w2.toInt) (q2_w2 : w2.toInt ≤ (-1 : Int))  : Met l yX9_set (.code yX9_set cX9_set 7 (some .int) :: lw_g) { frames := 2, cells := 0, slots := 0, locals := 44 } (va_Pc [.ref (b + 405), .int 2, .int w1, .int w2, .int w3, .int w4] (zx_w g σ)) (va_Qi (fun r u => r = 0 ∧ u = (ap b σ [(405, 0, 1)] [] [])) (zx_w g) (gx_Q g)) 0 0 (gx_Q g) := by
  refine z_met (by decide) (Nat.le_of_ble_eq_true rfl) (fun p e s m below meth c B hr hin => ?_)
  refine z_eqs (σ' := (ap b σ [] [] [])) rfl ?_
  show zx p l e _ s m _ below meth c g 7 0 0 _ _ 0 [(0, .ref (b + 405)), (1, .int 2), (2, .int w1), (3, .int w2), (4, .int w3), (5, .int w4)] []
  refine z_aload_n B dX9_set_0 rfl 0 rfl ?_
  refine z_iload_n B dX9_set_1 rfl 1 rfl ?_
  refine z_iload_n B dX9_set_2 rfl 2 rfl ?_
  refine z_cSi (As := [.int 2, .int w1]) (rest := [.ref (b + 405)]) B cw_X9_238 dX9_set_3 (ci_X9_isStep_175 l (σ := (ap b σ [] [] [])) (b := b) (lyA hK) w1 q1_w1 q2_w1) rfl (by decide) rfl (Nat.le_of_ble_eq_true rfl) (by decide) (fun r u hu => ?_)
  refine z_eqs (σ' := (ap b σ [] [] [])) hu.2 ?_
  show zx p l e _ s m _ below meth c g 7 0 0 _ _ 6 [(0, .ref (b + 405)), (1, .int 2), (2, .int w1), (3, .int w2), (4, .int w3), (5, .int w4)] _
  refine z_seti (y := 0) hu.1 ?_
  refine z_iload_n B dX9_set_6 rfl 3 rfl ?_
  refine z_iload B dX9_set_7 4 rfl ?_
  refine z_iload B dX9_set_9 5 rfl ?_
  refine z_cSi (As := [.int w2, .int w3, .int w4]) (rest := [.int 0, .ref (b + 405)]) B cw_X9_242 dX9_set_11 (ci_X9_isOperation_28 l (σ := (ap b σ [] [] [])) (b := b) (lyA hK) w2 w3 w4 q1_w2 q2_w2) rfl (by decide) rfl (Nat.le_of_ble_eq_true rfl) (by decide) (fun r u hu => ?_)
  refine z_eqs (σ' := (ap b σ [] [] [])) hu.2 ?_
  show zx p l e _ s m _ below meth c g 7 0 0 _ _ 14 [(0, .ref (b + 405)), (1, .int 2), (2, .int w1), (3, .int w2), (4, .int w3), (5, .int w4)] _
  refine z_seti (y := 0) hu.1 ?_
  refine z_cVi (As := [.int 0, .int 0]) (rest := []) B cw_X9_245 cx_10 dX9_set_14 (ci_X9_needs__29 l (σ := (ap b σ [] [] [])) (b := b) (lyA hK) ) (lKA (hk_K hK 405 rfl rfl)) rfl (by decide) rfl (Nat.le_of_ble_eq_true rfl) (by decide) (fun r u hu => ?_)
  refine z_eqs (σ' := (ap b σ [(405, 0, 1)] [] [])) (hu.2.trans ap_ap) ?_
  show zx p l e _ s m _ below meth c g 7 0 0 _ _ 17 [(0, .ref (b + 405)), (1, .int 2), (2, .int w1), (3, .int w2), (4, .int w3), (5, .int w4)] _
  refine z_seti (y := 0) hu.1 ?_
  refine z_if_ne (tgt := 22) B dX9_set_17 (by decide) (fun h => absurd (by decide) h) (fun _ => ?_)
  refine z_iconst (v := 0) B dX9_set_20 (by decide) ?_
  exact z_iret B hr (by decide) (by decide) dX9_set_21 ⟨rfl, rfl⟩
set_option maxRecDepth 100000 in
set_option maxHeartbeats 4000000 in
theorem ci_X9_set_177 (l : Launch) {g : gx_T} {σ : sx_T} {b : Nat} (hK : lay b σ) (w1 : Int32) (w2 : Int32) (w3 : Int32) (w4 : Int32) (q1_w1 : (-2147483648 : Int) ≤ w1.toInt) (q2_w1 : w1.toInt ≤ (-1 : Int)) (q1_w2 : (0 : Int) ≤ w2.toInt) (q2_w2 : w2.toInt ≤ (17 : Int)) (q1_w3 : (-2147483648 : Int) ≤ w3.toInt) (q2_w3 : w3.toInt ≤ (-1 : Int))  : Met l yX9_set (.code yX9_set cX9_set 7 (some .int) :: lw_g) { frames := 2, cells := 0, slots := 0, locals := 44 } (va_Pc [.ref (b + 405), .int 2, .int w1, .int w2, .int w3, .int w4] (zx_w g σ)) (va_Qi (fun r u => r = 0 ∧ u = (ap b σ [(405, 0, 1)] [] [])) (zx_w g) (gx_Q g)) 0 0 (gx_Q g) := by
  refine z_met (by decide) (Nat.le_of_ble_eq_true rfl) (fun p e s m below meth c B hr hin => ?_)
  refine z_eqs (σ' := (ap b σ [] [] [])) rfl ?_
  show zx p l e _ s m _ below meth c g 7 0 0 _ _ 0 [(0, .ref (b + 405)), (1, .int 2), (2, .int w1), (3, .int w2), (4, .int w3), (5, .int w4)] []
  refine z_aload_n B dX9_set_0 rfl 0 rfl ?_
  refine z_iload_n B dX9_set_1 rfl 1 rfl ?_
  refine z_iload_n B dX9_set_2 rfl 2 rfl ?_
  refine z_cSi (As := [.int 2, .int w1]) (rest := [.ref (b + 405)]) B cw_X9_238 dX9_set_3 (ci_X9_isStep_175 l (σ := (ap b σ [] [] [])) (b := b) (lyA hK) w1 q1_w1 q2_w1) rfl (by decide) rfl (Nat.le_of_ble_eq_true rfl) (by decide) (fun r u hu => ?_)
  refine z_eqs (σ' := (ap b σ [] [] [])) hu.2 ?_
  show zx p l e _ s m _ below meth c g 7 0 0 _ _ 6 [(0, .ref (b + 405)), (1, .int 2), (2, .int w1), (3, .int w2), (4, .int w3), (5, .int w4)] _
  refine z_seti (y := 0) hu.1 ?_
  refine z_iload_n B dX9_set_6 rfl 3 rfl ?_
  refine z_iload B dX9_set_7 4 rfl ?_
  refine z_iload B dX9_set_9 5 rfl ?_
  refine z_cSi (As := [.int w2, .int w3, .int w4]) (rest := [.int 0, .ref (b + 405)]) B cw_X9_242 dX9_set_11 (ci_X9_isOperation_34 l (σ := (ap b σ [] [] [])) (b := b) (lyA hK) w2 w3 w4 q1_w2 q2_w2 q1_w3 q2_w3) rfl (by decide) rfl (Nat.le_of_ble_eq_true rfl) (by decide) (fun r u hu => ?_)
  refine z_eqs (σ' := (ap b σ [] [] [])) hu.2 ?_
  show zx p l e _ s m _ below meth c g 7 0 0 _ _ 14 [(0, .ref (b + 405)), (1, .int 2), (2, .int w1), (3, .int w2), (4, .int w3), (5, .int w4)] _
  refine z_seti (y := 0) hu.1 ?_
  refine z_cVi (As := [.int 0, .int 0]) (rest := []) B cw_X9_245 cx_10 dX9_set_14 (ci_X9_needs__29 l (σ := (ap b σ [] [] [])) (b := b) (lyA hK) ) (lKA (hk_K hK 405 rfl rfl)) rfl (by decide) rfl (Nat.le_of_ble_eq_true rfl) (by decide) (fun r u hu => ?_)
  refine z_eqs (σ' := (ap b σ [(405, 0, 1)] [] [])) (hu.2.trans ap_ap) ?_
  show zx p l e _ s m _ below meth c g 7 0 0 _ _ 17 [(0, .ref (b + 405)), (1, .int 2), (2, .int w1), (3, .int w2), (4, .int w3), (5, .int w4)] _
  refine z_seti (y := 0) hu.1 ?_
  refine z_if_ne (tgt := 22) B dX9_set_17 (by decide) (fun h => absurd (by decide) h) (fun _ => ?_)
  refine z_iconst (v := 0) B dX9_set_20 (by decide) ?_
  exact z_iret B hr (by decide) (by decide) dX9_set_21 ⟨rfl, rfl⟩
set_option maxRecDepth 100000 in
set_option maxHeartbeats 4000000 in
theorem ci_X9_set_178 (l : Launch) {g : gx_T} {σ : sx_T} {b : Nat} (hK : lay b σ) (w1 : Int32) (w2 : Int32) (w3 : Int32) (w4 : Int32) (q1_w1 : (-2147483648 : Int) ≤ w1.toInt) (q2_w1 : w1.toInt ≤ (-1 : Int)) (q1_w2 : (0 : Int) ≤ w2.toInt) (q2_w2 : w2.toInt ≤ (17 : Int)) (q1_w3 : (0 : Int) ≤ w3.toInt) (q2_w3 : w3.toInt ≤ (99 : Int)) (q1_w4 : (-2147483648 : Int) ≤ w4.toInt) (q2_w4 : w4.toInt ≤ (-1 : Int))  : Met l yX9_set (.code yX9_set cX9_set 7 (some .int) :: lw_g) { frames := 2, cells := 0, slots := 0, locals := 44 } (va_Pc [.ref (b + 405), .int 2, .int w1, .int w2, .int w3, .int w4] (zx_w g σ)) (va_Qi (fun r u => r = 0 ∧ u = (ap b σ [(405, 0, 1)] [] [])) (zx_w g) (gx_Q g)) 0 0 (gx_Q g) := by
  refine z_met (by decide) (Nat.le_of_ble_eq_true rfl) (fun p e s m below meth c B hr hin => ?_)
  refine z_eqs (σ' := (ap b σ [] [] [])) rfl ?_
  show zx p l e _ s m _ below meth c g 7 0 0 _ _ 0 [(0, .ref (b + 405)), (1, .int 2), (2, .int w1), (3, .int w2), (4, .int w3), (5, .int w4)] []
  refine z_aload_n B dX9_set_0 rfl 0 rfl ?_
  refine z_iload_n B dX9_set_1 rfl 1 rfl ?_
  refine z_iload_n B dX9_set_2 rfl 2 rfl ?_
  refine z_cSi (As := [.int 2, .int w1]) (rest := [.ref (b + 405)]) B cw_X9_238 dX9_set_3 (ci_X9_isStep_175 l (σ := (ap b σ [] [] [])) (b := b) (lyA hK) w1 q1_w1 q2_w1) rfl (by decide) rfl (Nat.le_of_ble_eq_true rfl) (by decide) (fun r u hu => ?_)
  refine z_eqs (σ' := (ap b σ [] [] [])) hu.2 ?_
  show zx p l e _ s m _ below meth c g 7 0 0 _ _ 6 [(0, .ref (b + 405)), (1, .int 2), (2, .int w1), (3, .int w2), (4, .int w3), (5, .int w4)] _
  refine z_seti (y := 0) hu.1 ?_
  refine z_iload_n B dX9_set_6 rfl 3 rfl ?_
  refine z_iload B dX9_set_7 4 rfl ?_
  refine z_iload B dX9_set_9 5 rfl ?_
  refine z_cSi (As := [.int w2, .int w3, .int w4]) (rest := [.int 0, .ref (b + 405)]) B cw_X9_242 dX9_set_11 (ci_X9_isOperation_37 l (σ := (ap b σ [] [] [])) (b := b) (lyA hK) w2 w3 w4 q1_w2 q2_w2 q1_w3 q2_w3 q1_w4 q2_w4) rfl (by decide) rfl (Nat.le_of_ble_eq_true rfl) (by decide) (fun r u hu => ?_)
  refine z_eqs (σ' := (ap b σ [] [] [])) hu.2 ?_
  show zx p l e _ s m _ below meth c g 7 0 0 _ _ 14 [(0, .ref (b + 405)), (1, .int 2), (2, .int w1), (3, .int w2), (4, .int w3), (5, .int w4)] _
  refine z_seti (y := 0) hu.1 ?_
  refine z_cVi (As := [.int 0, .int 0]) (rest := []) B cw_X9_245 cx_10 dX9_set_14 (ci_X9_needs__29 l (σ := (ap b σ [] [] [])) (b := b) (lyA hK) ) (lKA (hk_K hK 405 rfl rfl)) rfl (by decide) rfl (Nat.le_of_ble_eq_true rfl) (by decide) (fun r u hu => ?_)
  refine z_eqs (σ' := (ap b σ [(405, 0, 1)] [] [])) (hu.2.trans ap_ap) ?_
  show zx p l e _ s m _ below meth c g 7 0 0 _ _ 17 [(0, .ref (b + 405)), (1, .int 2), (2, .int w1), (3, .int w2), (4, .int w3), (5, .int w4)] _
  refine z_seti (y := 0) hu.1 ?_
  refine z_if_ne (tgt := 22) B dX9_set_17 (by decide) (fun h => absurd (by decide) h) (fun _ => ?_)
  refine z_iconst (v := 0) B dX9_set_20 (by decide) ?_
  exact z_iret B hr (by decide) (by decide) dX9_set_21 ⟨rfl, rfl⟩
set_option maxRecDepth 100000 in
set_option maxHeartbeats 4000000 in
theorem ci_X9_set_179 (l : Launch) {g : gx_T} {σ : sx_T} {b : Nat} (hK : lay b σ) (w1 : Int32) (w2 : Int32) (w3 : Int32) (w4 : Int32) (q1_w1 : (-2147483648 : Int) ≤ w1.toInt) (q2_w1 : w1.toInt ≤ (-1 : Int)) (q1_w2 : (0 : Int) ≤ w2.toInt) (q2_w2 : w2.toInt ≤ (17 : Int)) (q1_w3 : (0 : Int) ≤ w3.toInt) (q2_w3 : w3.toInt ≤ (99 : Int)) (q1_w4 : (0 : Int) ≤ w4.toInt) (q2_w4 : w4.toInt ≤ (99 : Int))  : Met l yX9_set (.code yX9_set cX9_set 7 (some .int) :: lw_g) { frames := 2, cells := 0, slots := 0, locals := 44 } (va_Pc [.ref (b + 405), .int 2, .int w1, .int w2, .int w3, .int w4] (zx_w g σ)) (va_Qi (fun r u => r = 0 ∧ u = (ap b σ [(405, 0, 1)] [] [])) (zx_w g) (gx_Q g)) 0 0 (gx_Q g) := by
  refine z_met (by decide) (Nat.le_of_ble_eq_true rfl) (fun p e s m below meth c B hr hin => ?_)
  refine z_eqs (σ' := (ap b σ [] [] [])) rfl ?_
  show zx p l e _ s m _ below meth c g 7 0 0 _ _ 0 [(0, .ref (b + 405)), (1, .int 2), (2, .int w1), (3, .int w2), (4, .int w3), (5, .int w4)] []
  refine z_aload_n B dX9_set_0 rfl 0 rfl ?_
  refine z_iload_n B dX9_set_1 rfl 1 rfl ?_
  refine z_iload_n B dX9_set_2 rfl 2 rfl ?_
  refine z_cSi (As := [.int 2, .int w1]) (rest := [.ref (b + 405)]) B cw_X9_238 dX9_set_3 (ci_X9_isStep_175 l (σ := (ap b σ [] [] [])) (b := b) (lyA hK) w1 q1_w1 q2_w1) rfl (by decide) rfl (Nat.le_of_ble_eq_true rfl) (by decide) (fun r u hu => ?_)
  refine z_eqs (σ' := (ap b σ [] [] [])) hu.2 ?_
  show zx p l e _ s m _ below meth c g 7 0 0 _ _ 6 [(0, .ref (b + 405)), (1, .int 2), (2, .int w1), (3, .int w2), (4, .int w3), (5, .int w4)] _
  refine z_seti (y := 0) hu.1 ?_
  refine z_iload_n B dX9_set_6 rfl 3 rfl ?_
  refine z_iload B dX9_set_7 4 rfl ?_
  refine z_iload B dX9_set_9 5 rfl ?_
  refine z_cSi (As := [.int w2, .int w3, .int w4]) (rest := [.int 0, .ref (b + 405)]) B cw_X9_242 dX9_set_11 (ci_X9_isOperation_39 l (σ := (ap b σ [] [] [])) (b := b) (lyA hK) w2 w3 w4 q1_w2 q2_w2 q1_w3 q2_w3 q1_w4 q2_w4) rfl (by decide) rfl (Nat.le_of_ble_eq_true rfl) (by decide) (fun r u hu => ?_)
  refine z_eqs (σ' := (ap b σ [] [] [])) hu.2 ?_
  show zx p l e _ s m _ below meth c g 7 0 0 _ _ 14 [(0, .ref (b + 405)), (1, .int 2), (2, .int w1), (3, .int w2), (4, .int w3), (5, .int w4)] _
  refine z_seti (y := 1) hu.1 ?_
  refine z_cVi (As := [.int 0, .int 1]) (rest := []) B cw_X9_245 cx_10 dX9_set_14 (ci_X9_needs__40 l (σ := (ap b σ [] [] [])) (b := b) (lyA hK) ) (lKA (hk_K hK 405 rfl rfl)) rfl (by decide) rfl (Nat.le_of_ble_eq_true rfl) (by decide) (fun r u hu => ?_)
  refine z_eqs (σ' := (ap b σ [(405, 0, 1)] [] [])) (hu.2.trans ap_ap) ?_
  show zx p l e _ s m _ below meth c g 7 0 0 _ _ 17 [(0, .ref (b + 405)), (1, .int 2), (2, .int w1), (3, .int w2), (4, .int w3), (5, .int w4)] _
  refine z_seti (y := 0) hu.1 ?_
  refine z_if_ne (tgt := 22) B dX9_set_17 (by decide) (fun h => absurd (by decide) h) (fun _ => ?_)
  refine z_iconst (v := 0) B dX9_set_20 (by decide) ?_
  exact z_iret B hr (by decide) (by decide) dX9_set_21 ⟨rfl, rfl⟩
set_option maxRecDepth 100000 in
set_option maxHeartbeats 4000000 in
theorem ci_X9_set_180 (l : Launch) {g : gx_T} {σ : sx_T} {b : Nat} (hK : lay b σ) (w1 : Int32) (w2 : Int32) (w3 : Int32) (w4 : Int32) (q1_w1 : (-2147483648 : Int) ≤ w1.toInt) (q2_w1 : w1.toInt ≤ (-1 : Int)) (q1_w2 : (0 : Int) ≤ w2.toInt) (q2_w2 : w2.toInt ≤ (17 : Int)) (q1_w3 : (0 : Int) ≤ w3.toInt) (q2_w3 : w3.toInt ≤ (99 : Int)) (q1_w4 : (100 : Int) ≤ w4.toInt) (q2_w4 : w4.toInt ≤ (2147483647 : Int))  : Met l yX9_set (.code yX9_set cX9_set 7 (some .int) :: lw_g) { frames := 2, cells := 0, slots := 0, locals := 44 } (va_Pc [.ref (b + 405), .int 2, .int w1, .int w2, .int w3, .int w4] (zx_w g σ)) (va_Qi (fun r u => r = 0 ∧ u = (ap b σ [(405, 0, 1)] [] [])) (zx_w g) (gx_Q g)) 0 0 (gx_Q g) := by
  refine z_met (by decide) (Nat.le_of_ble_eq_true rfl) (fun p e s m below meth c B hr hin => ?_)
  refine z_eqs (σ' := (ap b σ [] [] [])) rfl ?_
  show zx p l e _ s m _ below meth c g 7 0 0 _ _ 0 [(0, .ref (b + 405)), (1, .int 2), (2, .int w1), (3, .int w2), (4, .int w3), (5, .int w4)] []
  refine z_aload_n B dX9_set_0 rfl 0 rfl ?_
  refine z_iload_n B dX9_set_1 rfl 1 rfl ?_
  refine z_iload_n B dX9_set_2 rfl 2 rfl ?_
  refine z_cSi (As := [.int 2, .int w1]) (rest := [.ref (b + 405)]) B cw_X9_238 dX9_set_3 (ci_X9_isStep_175 l (σ := (ap b σ [] [] [])) (b := b) (lyA hK) w1 q1_w1 q2_w1) rfl (by decide) rfl (Nat.le_of_ble_eq_true rfl) (by decide) (fun r u hu => ?_)
  refine z_eqs (σ' := (ap b σ [] [] [])) hu.2 ?_
  show zx p l e _ s m _ below meth c g 7 0 0 _ _ 6 [(0, .ref (b + 405)), (1, .int 2), (2, .int w1), (3, .int w2), (4, .int w3), (5, .int w4)] _
  refine z_seti (y := 0) hu.1 ?_
  refine z_iload_n B dX9_set_6 rfl 3 rfl ?_
  refine z_iload B dX9_set_7 4 rfl ?_
  refine z_iload B dX9_set_9 5 rfl ?_
  refine z_cSi (As := [.int w2, .int w3, .int w4]) (rest := [.int 0, .ref (b + 405)]) B cw_X9_242 dX9_set_11 (ci_X9_isOperation_43 l (σ := (ap b σ [] [] [])) (b := b) (lyA hK) w2 w3 w4 q1_w2 q2_w2 q1_w3 q2_w3 q1_w4 q2_w4) rfl (by decide) rfl (Nat.le_of_ble_eq_true rfl) (by decide) (fun r u hu => ?_)
  refine z_eqs (σ' := (ap b σ [] [] [])) hu.2 ?_
  show zx p l e _ s m _ below meth c g 7 0 0 _ _ 14 [(0, .ref (b + 405)), (1, .int 2), (2, .int w1), (3, .int w2), (4, .int w3), (5, .int w4)] _
  refine z_seti (y := 0) hu.1 ?_
  refine z_cVi (As := [.int 0, .int 0]) (rest := []) B cw_X9_245 cx_10 dX9_set_14 (ci_X9_needs__29 l (σ := (ap b σ [] [] [])) (b := b) (lyA hK) ) (lKA (hk_K hK 405 rfl rfl)) rfl (by decide) rfl (Nat.le_of_ble_eq_true rfl) (by decide) (fun r u hu => ?_)
  refine z_eqs (σ' := (ap b σ [(405, 0, 1)] [] [])) (hu.2.trans ap_ap) ?_
  show zx p l e _ s m _ below meth c g 7 0 0 _ _ 17 [(0, .ref (b + 405)), (1, .int 2), (2, .int w1), (3, .int w2), (4, .int w3), (5, .int w4)] _
  refine z_seti (y := 0) hu.1 ?_
  refine z_if_ne (tgt := 22) B dX9_set_17 (by decide) (fun h => absurd (by decide) h) (fun _ => ?_)
  refine z_iconst (v := 0) B dX9_set_20 (by decide) ?_
  exact z_iret B hr (by decide) (by decide) dX9_set_21 ⟨rfl, rfl⟩
set_option maxRecDepth 100000 in
set_option maxHeartbeats 4000000 in
theorem ci_X9_set_181 (l : Launch) {g : gx_T} {σ : sx_T} {b : Nat} (hK : lay b σ) (w1 : Int32) (w2 : Int32) (w3 : Int32) (w4 : Int32) (q1_w1 : (-2147483648 : Int) ≤ w1.toInt) (q2_w1 : w1.toInt ≤ (-1 : Int)) (q1_w2 : (0 : Int) ≤ w2.toInt) (q2_w2 : w2.toInt ≤ (17 : Int)) (q1_w3 : (100 : Int) ≤ w3.toInt) (q2_w3 : w3.toInt ≤ (2147483647 : Int))  : Met l yX9_set (.code yX9_set cX9_set 7 (some .int) :: lw_g) { frames := 2, cells := 0, slots := 0, locals := 44 } (va_Pc [.ref (b + 405), .int 2, .int w1, .int w2, .int w3, .int w4] (zx_w g σ)) (va_Qi (fun r u => r = 0 ∧ u = (ap b σ [(405, 0, 1)] [] [])) (zx_w g) (gx_Q g)) 0 0 (gx_Q g) := by
  refine z_met (by decide) (Nat.le_of_ble_eq_true rfl) (fun p e s m below meth c B hr hin => ?_)
  refine z_eqs (σ' := (ap b σ [] [] [])) rfl ?_
  show zx p l e _ s m _ below meth c g 7 0 0 _ _ 0 [(0, .ref (b + 405)), (1, .int 2), (2, .int w1), (3, .int w2), (4, .int w3), (5, .int w4)] []
  refine z_aload_n B dX9_set_0 rfl 0 rfl ?_
  refine z_iload_n B dX9_set_1 rfl 1 rfl ?_
  refine z_iload_n B dX9_set_2 rfl 2 rfl ?_
  refine z_cSi (As := [.int 2, .int w1]) (rest := [.ref (b + 405)]) B cw_X9_238 dX9_set_3 (ci_X9_isStep_175 l (σ := (ap b σ [] [] [])) (b := b) (lyA hK) w1 q1_w1 q2_w1) rfl (by decide) rfl (Nat.le_of_ble_eq_true rfl) (by decide) (fun r u hu => ?_)
  refine z_eqs (σ' := (ap b σ [] [] [])) hu.2 ?_
  show zx p l e _ s m _ below meth c g 7 0 0 _ _ 6 [(0, .ref (b + 405)), (1, .int 2), (2, .int w1), (3, .int w2), (4, .int w3), (5, .int w4)] _
  refine z_seti (y := 0) hu.1 ?_
  refine z_iload_n B dX9_set_6 rfl 3 rfl ?_
  refine z_iload B dX9_set_7 4 rfl ?_
  refine z_iload B dX9_set_9 5 rfl ?_
  refine z_cSi (As := [.int w2, .int w3, .int w4]) (rest := [.int 0, .ref (b + 405)]) B cw_X9_242 dX9_set_11 (ci_X9_isOperation_45 l (σ := (ap b σ [] [] [])) (b := b) (lyA hK) w2 w3 w4 q1_w2 q2_w2 q1_w3 q2_w3) rfl (by decide) rfl (Nat.le_of_ble_eq_true rfl) (by decide) (fun r u hu => ?_)
  refine z_eqs (σ' := (ap b σ [] [] [])) hu.2 ?_
  show zx p l e _ s m _ below meth c g 7 0 0 _ _ 14 [(0, .ref (b + 405)), (1, .int 2), (2, .int w1), (3, .int w2), (4, .int w3), (5, .int w4)] _
  refine z_seti (y := 0) hu.1 ?_
  refine z_cVi (As := [.int 0, .int 0]) (rest := []) B cw_X9_245 cx_10 dX9_set_14 (ci_X9_needs__29 l (σ := (ap b σ [] [] [])) (b := b) (lyA hK) ) (lKA (hk_K hK 405 rfl rfl)) rfl (by decide) rfl (Nat.le_of_ble_eq_true rfl) (by decide) (fun r u hu => ?_)
  refine z_eqs (σ' := (ap b σ [(405, 0, 1)] [] [])) (hu.2.trans ap_ap) ?_
  show zx p l e _ s m _ below meth c g 7 0 0 _ _ 17 [(0, .ref (b + 405)), (1, .int 2), (2, .int w1), (3, .int w2), (4, .int w3), (5, .int w4)] _
  refine z_seti (y := 0) hu.1 ?_
  refine z_if_ne (tgt := 22) B dX9_set_17 (by decide) (fun h => absurd (by decide) h) (fun _ => ?_)
  refine z_iconst (v := 0) B dX9_set_20 (by decide) ?_
  exact z_iret B hr (by decide) (by decide) dX9_set_21 ⟨rfl, rfl⟩
set_option maxRecDepth 100000 in
set_option maxHeartbeats 4000000 in
theorem ci_X9_set_182 (l : Launch) {g : gx_T} {σ : sx_T} {b : Nat} (hK : lay b σ) (w1 : Int32) (w2 : Int32) (w3 : Int32) (w4 : Int32) (q1_w1 : (-2147483648 : Int) ≤ w1.toInt) (q2_w1 : w1.toInt ≤ (-1 : Int)) (q1_w2 : (18 : Int) ≤ w2.toInt) (q2_w2 : w2.toInt ≤ (2147483647 : Int))  : Met l yX9_set (.code yX9_set cX9_set 7 (some .int) :: lw_g) { frames := 2, cells := 0, slots := 0, locals := 44 } (va_Pc [.ref (b + 405), .int 2, .int w1, .int w2, .int w3, .int w4] (zx_w g σ)) (va_Qi (fun r u => r = 0 ∧ u = (ap b σ [(405, 0, 1)] [] [])) (zx_w g) (gx_Q g)) 0 0 (gx_Q g) := by
  refine z_met (by decide) (Nat.le_of_ble_eq_true rfl) (fun p e s m below meth c B hr hin => ?_)
  refine z_eqs (σ' := (ap b σ [] [] [])) rfl ?_
  show zx p l e _ s m _ below meth c g 7 0 0 _ _ 0 [(0, .ref (b + 405)), (1, .int 2), (2, .int w1), (3, .int w2), (4, .int w3), (5, .int w4)] []
  refine z_aload_n B dX9_set_0 rfl 0 rfl ?_
  refine z_iload_n B dX9_set_1 rfl 1 rfl ?_
  refine z_iload_n B dX9_set_2 rfl 2 rfl ?_
  refine z_cSi (As := [.int 2, .int w1]) (rest := [.ref (b + 405)]) B cw_X9_238 dX9_set_3 (ci_X9_isStep_175 l (σ := (ap b σ [] [] [])) (b := b) (lyA hK) w1 q1_w1 q2_w1) rfl (by decide) rfl (Nat.le_of_ble_eq_true rfl) (by decide) (fun r u hu => ?_)
  refine z_eqs (σ' := (ap b σ [] [] [])) hu.2 ?_
  show zx p l e _ s m _ below meth c g 7 0 0 _ _ 6 [(0, .ref (b + 405)), (1, .int 2), (2, .int w1), (3, .int w2), (4, .int w3), (5, .int w4)] _
  refine z_seti (y := 0) hu.1 ?_
  refine z_iload_n B dX9_set_6 rfl 3 rfl ?_
  refine z_iload B dX9_set_7 4 rfl ?_
  refine z_iload B dX9_set_9 5 rfl ?_
  refine z_cSi (As := [.int w2, .int w3, .int w4]) (rest := [.int 0, .ref (b + 405)]) B cw_X9_242 dX9_set_11 (ci_X9_isOperation_48 l (σ := (ap b σ [] [] [])) (b := b) (lyA hK) w2 w3 w4 q1_w2 q2_w2) rfl (by decide) rfl (Nat.le_of_ble_eq_true rfl) (by decide) (fun r u hu => ?_)
  refine z_eqs (σ' := (ap b σ [] [] [])) hu.2 ?_
  show zx p l e _ s m _ below meth c g 7 0 0 _ _ 14 [(0, .ref (b + 405)), (1, .int 2), (2, .int w1), (3, .int w2), (4, .int w3), (5, .int w4)] _
  refine z_seti (y := 0) hu.1 ?_
  refine z_cVi (As := [.int 0, .int 0]) (rest := []) B cw_X9_245 cx_10 dX9_set_14 (ci_X9_needs__29 l (σ := (ap b σ [] [] [])) (b := b) (lyA hK) ) (lKA (hk_K hK 405 rfl rfl)) rfl (by decide) rfl (Nat.le_of_ble_eq_true rfl) (by decide) (fun r u hu => ?_)
  refine z_eqs (σ' := (ap b σ [(405, 0, 1)] [] [])) (hu.2.trans ap_ap) ?_
  show zx p l e _ s m _ below meth c g 7 0 0 _ _ 17 [(0, .ref (b + 405)), (1, .int 2), (2, .int w1), (3, .int w2), (4, .int w3), (5, .int w4)] _
  refine z_seti (y := 0) hu.1 ?_
  refine z_if_ne (tgt := 22) B dX9_set_17 (by decide) (fun h => absurd (by decide) h) (fun _ => ?_)
  refine z_iconst (v := 0) B dX9_set_20 (by decide) ?_
  exact z_iret B hr (by decide) (by decide) dX9_set_21 ⟨rfl, rfl⟩
set_option maxRecDepth 100000 in
set_option maxHeartbeats 4000000 in
theorem ci_X8_set_183 (l : Launch) (hlt : l.stackTraces = false) {g : gx_T} {σ : sx_T} {b : Nat} (hK : lay b σ) (w1 : Int32) (w2 : Int32) (w3 : Int32) (w4 : Int32) (q1_w1 : (0 : Int) ≤ w1.toInt) (q2_w1 : w1.toInt ≤ (19 : Int)) (q1_w2 : (-2147483648 : Int) ≤ w2.toInt) (q2_w2 : w2.toInt ≤ (-1 : Int)) (hR_0_0 : sx_R σ (b + 0) 0 = (some (b + 1))) (hR_1_2 : sx_R σ (b + 1) 2 = (some (b + 17))) : vx_Met l yX8_set (.code yX8_set cX8_set 9 (some .int) :: lw_g) { frames := 7, cells := 1, slots := 6, locals := 136 } (va_Pc [.ref (b + 0), .int 2, .int w1, .int w2, .int w3, .int w4] (zx_w g σ)) (va_Qi (S := sx_T) (fun _ _ => False) (zx_w g) (gx_Q g)) (vx_X (fun u : sx_T => ∃ z, u = wx_Z σ z) (fun E u t => E = "java/lang/IllegalArgumentException" ∧ zx_h g u t.heap) (gx_Q g)) 1 6 (gx_Q g) := by
  refine z_metX (by decide) (Nat.le_of_ble_eq_true rfl) (fun p e s m below meth c B hr hin hout => ?_)
  refine z_eqs (σ' := (ap b σ [] [] [])) rfl ?_
  show zx p l e _ s m _ below meth c g 9 0 0 _ _ 0 [(0, .ref (b + 0)), (1, .int 2), (2, .int w1), (3, .int w2), (4, .int w3), (5, .int w4)] []
  refine z_aload_n B dX8_set_0 rfl 0 rfl ?_
  refine z_iload_n B dX8_set_1 rfl 1 rfl ?_
  refine z_cVq (As := [.int 2]) (rest := []) B cw_X8_64 cx_9 dX8_set_2 (ci_X8_programAt_171 l (σ := (ap b σ [] [] [])) (b := b) (lyA hK) (rR_at 0 0 hR_0_0) (rR_at 1 2 hR_1_2)) (lKA (hk_K hK 0 rfl rfl)) rfl (by decide) rfl (Nat.le_of_ble_eq_true rfl) (by decide) (fun r u hu => ?_)
  refine z_eqs (σ' := (ap b σ [] [] [])) hu.2 ?_
  show zx p l e _ s m _ below meth c g 9 0 0 _ _ 5 [(0, .ref (b + 0)), (1, .int 2), (2, .int w1), (3, .int w2), (4, .int w3), (5, .int w4)] _
  refine z_setr (y := (some (b + 17))) hu.1 ?_
  refine z_astore (lv' := [(6, .ref (b + 17)), (0, .ref (b + 0)), (1, .int 2), (2, .int w1), (3, .int w2), (4, .int w3), (5, .int w4)]) B dX8_set_5 (by decide) rfl ?_
  refine z_aload B dX8_set_7 0 rfl ?_
  refine z_ifnull (r := (some (b + 17))) (tgt := 21) B dX8_set_9 (by decide) (fun h => nomatch h) (fun _ _ => ?_)
  refine z_iload_n B dX8_set_12 rfl 3 rfl ?_
  refine z_bipush (v := 20) B dX8_set_13 (by decide) ?_
  refine z_cSi (As := [.int w1, .int 20]) (rest := []) B cw_X8_68 dX8_set_15 (ci_X8_isBelow_64 l (σ := (ap b σ [] [] [])) (b := b) (lyA hK) w1 q1_w1 q2_w1) rfl (by decide) rfl (Nat.le_of_ble_eq_true rfl) (by decide) (fun r u hu => ?_)
  refine z_eqs (σ' := (ap b σ [] [] [])) hu.2 ?_
  show zx p l e _ s m _ below meth c g 9 0 0 _ _ 18 [(6, .ref (b + 17)), (0, .ref (b + 0)), (1, .int 2), (2, .int w1), (3, .int w2), (4, .int w3), (5, .int w4)] _
  refine z_seti (y := 1) hu.1 ?_
  refine z_if_ne (tgt := 31) B dX8_set_18 (by decide) (fun _ => ?_) (fun h => absurd h (by decide))
  refine z_iload_n B dX8_set_31 rfl 4 rfl ?_
  refine z_iload B dX8_set_32 5 rfl ?_
  refine z_iload B dX8_set_34 6 rfl ?_
  refine z_cSi (As := [.int w2, .int w3, .int w4]) (rest := []) B cw_X8_79 dX8_set_36 (ci_X8_isStep_66 l (σ := (ap b σ [] [] [])) (b := b) (lyA hK) w2 w3 w4 q1_w2 q2_w2) rfl (by decide) rfl (Nat.le_of_ble_eq_true rfl) (by decide) (fun r u hu => ?_)
  refine z_eqs (σ' := (ap b σ [] [] [])) hu.2 ?_
  show zx p l e _ s m _ below meth c g 9 0 0 _ _ 39 [(6, .ref (b + 17)), (0, .ref (b + 0)), (1, .int 2), (2, .int w1), (3, .int w2), (4, .int w3), (5, .int w4)] _
  refine z_seti (y := 0) hu.1 ?_
  refine z_if_ne (tgt := 52) B dX8_set_39 (by decide) (fun h => absurd (by decide) h) (fun _ => ?_)
  exact z_throw B hlt hout (cls := "java/lang/IllegalArgumentException") (text := "no such operation") tw_X8_83_85_87 dX8_set_42 dX8_set_45 dX8_set_46 dX8_set_48 dX8_set_51 (by decide) (by decide) (by decide) (by decide) (by decide) (by decide) (fun z => ⟨z, rfl⟩)
set_option maxRecDepth 100000 in
set_option maxHeartbeats 4000000 in
theorem ci_L_set_184 (l : Launch) (hlt : l.stackTraces = false) {g : gx_T} {σ : sx_T} {b : Nat} (hK : lay b σ) (w1 : Int32) (w2 : Int32) (w3 : Int32) (w4 : Int32) (q1_w1 : (0 : Int) ≤ w1.toInt) (q2_w1 : w1.toInt ≤ (19 : Int)) (q1_w2 : (-2147483648 : Int) ≤ w2.toInt) (q2_w2 : w2.toInt ≤ (-1 : Int)) (hR_0_0 : sx_R σ (b + 0) 0 = (some (b + 1))) (hR_1_2 : sx_R σ (b + 1) 2 = (some (b + 17))) : Met l yL_set (.codeWith yL_set cL_set 8 (some .int) [(0, 16, 19, 13), (0, 16, 23, 15)] :: lw_g) { frames := 8, cells := 1, slots := 6, locals := 164 } (va_Pc [.ref (b + 0), .int 2, .int w1, .int w2, .int w3, .int w4, .ref (b + 431)] (zx_w g σ)) (va_Qi (fun r u => r = 2 ∧ ∃ z, u = (ap b (wx_Z σ z) [] [] [])) (zx_w g) (gx_Q g)) 1 6 (gx_Q g) := by
  refine z_metW (by decide) (Nat.le_of_ble_eq_true rfl) (fun p e s m below meth c B hr htab => ?_)
  refine z_eqs (σ' := (ap b σ [] [] [])) rfl ?_
  show zx p l e _ s m _ below meth c g 8 0 0 _ _ 0 [(0, .ref (b + 0)), (1, .int 2), (2, .int w1), (3, .int w2), (4, .int w3), (5, .int w4), (6, .ref (b + 431))] []
  refine z_aload B dL_set_0 6 rfl ?_
  refine z_iconst (v := 0) B dL_set_2 (by decide) ?_
  refine z_aload_n B dL_set_3 rfl 0 rfl ?_
  refine z_iload_n B dL_set_4 rfl 1 rfl ?_
  refine z_iload_n B dL_set_5 rfl 2 rfl ?_
  refine z_iload_n B dL_set_6 rfl 3 rfl ?_
  refine z_iload B dL_set_7 4 rfl ?_
  refine z_iload B dL_set_9 5 rfl ?_
  refine z_cXi (As := [.int 2, .int w1, .int w2, .int w3, .int w4]) (rest := [.int 0, .ref (b + 431)]) B htab tc_set_11_IllegalArgumentException cw_L_7 cx_9 dL_set_11 (ci_X8_set_183 l hlt (σ := (ap b σ [] [] [])) (b := b) (lyA hK) w1 w2 w3 w4 q1_w1 q2_w1 q1_w2 q2_w2 (rR_at 0 0 hR_0_0) (rR_at 1 2 hR_1_2)) (lKA (hk_K hK 0 rfl rfl)) rfl (by decide) rfl (Nat.le_of_ble_eq_true rfl) (by decide) (fun z q => ?_)
  refine z_eqs (σ' := (ap b (wx_Z σ z) [] [] [])) rfl ?_
  show zx p l e _ s m _ below meth c g 8 _ _ _ _ 23 [(0, .ref (b + 0)), (1, .int 2), (2, .int w1), (3, .int w2), (4, .int w3), (5, .int w4), (6, .ref (b + 431))] _
  refine z_astore (lv' := [(7, .ref q), (0, .ref (b + 0)), (1, .int 2), (2, .int w1), (3, .int w2), (4, .int w3), (5, .int w4), (6, .ref (b + 431))]) B dL_set_23 (by decide) rfl ?_
  refine z_iconst (v := 2) B dL_set_25 (by decide) ?_
  exact z_iret B hr (by decide) (by decide) dL_set_26 ⟨rfl, _, rfl⟩
set_option maxRecDepth 100000 in
set_option maxHeartbeats 4000000 in
theorem ci_X9_isStep_185 (l : Launch) {g : gx_T} {σ : sx_T} {b : Nat} (hK : lay b σ) (w1 : Int32) (q1_w1 : (0 : Int) ≤ w1.toInt) (q2_w1 : w1.toInt ≤ (19 : Int))  : Met l yX9_isStep (.code yX9_isStep cX9_isStep 2 (some .boolean) :: lw_g) { frames := 1, cells := 0, slots := 0, locals := 22 } (va_Pc [.int 2, .int w1] (zx_w g σ)) (va_Qi (fun r u => r = 1 ∧ u = σ) (zx_w g) (gx_Q g)) 0 0 (gx_Q g) := by
  refine z_met (by decide) (Nat.le_of_ble_eq_true rfl) (fun p e s m below meth c B hr hin => ?_)
  refine z_eqs (σ' := (ap b σ [] [] [])) rfl ?_
  show zx p l e _ s m _ below meth c g 2 0 0 _ _ 0 [(0, .int 2), (1, .int w1)] []
  refine z_iload_n B dX9_isStep_0 rfl 0 rfl ?_
  refine z_iconst (v := 0) B dX9_isStep_1 (by decide) ?_
  refine z_iconst (v := 5) B dX9_isStep_2 (by decide) ?_
  refine z_cSi (As := [.int 2, .int 0, .int 5]) (rest := []) B cw_X9_96 dX9_isStep_3 (ci_X9_in_174 l (σ := (ap b σ [] [] [])) (b := b) (lyA hK) ) rfl (by decide) rfl (Nat.le_of_ble_eq_true rfl) (by decide) (fun r u hu => ?_)
  refine z_eqs (σ' := (ap b σ [] [] [])) hu.2 ?_
  show zx p l e _ s m _ below meth c g 2 0 0 _ _ 6 [(0, .int 2), (1, .int w1)] _
  refine z_seti (y := 1) hu.1 ?_
  refine z_if_eq (tgt := 23) B dX9_isStep_6 (by decide) (fun h => absurd h (by decide)) (fun _ => ?_)
  refine z_iload_n B dX9_isStep_9 rfl 1 rfl ?_
  refine z_iconst (v := 0) B dX9_isStep_10 (by decide) ?_
  refine z_bipush (v := 19) B dX9_isStep_11 (by decide) ?_
  refine z_cSi (As := [.int w1, .int 0, .int 19]) (rest := []) B cw_X9_96 dX9_isStep_13 (ci_X9_in_69 l (σ := (ap b σ [] [] [])) (b := b) (lyA hK) w1 q1_w1 q2_w1) rfl (by decide) rfl (Nat.le_of_ble_eq_true rfl) (by decide) (fun r u hu => ?_)
  refine z_eqs (σ' := (ap b σ [] [] [])) hu.2 ?_
  show zx p l e _ s m _ below meth c g 2 0 0 _ _ 16 [(0, .int 2), (1, .int w1)] _
  refine z_seti (y := 1) hu.1 ?_
  refine z_if_eq (tgt := 23) B dX9_isStep_16 (by decide) (fun h => absurd h (by decide)) (fun _ => ?_)
  refine z_iconst (v := 1) B dX9_isStep_19 (by decide) ?_
  refine z_goto (tgt := 24) B dX9_isStep_20 (by decide) ?_
  exact z_zret B hr (by decide) (by decide) (by decide) dX9_isStep_24 ⟨rfl, rfl⟩
set_option maxRecDepth 100000 in
set_option maxHeartbeats 4000000 in
theorem ci_X9_set_186 (l : Launch) {g : gx_T} {σ : sx_T} {b : Nat} (hK : lay b σ) (w1 : Int32) (w2 : Int32) (w3 : Int32) (w4 : Int32) (q1_w1 : (0 : Int) ≤ w1.toInt) (q2_w1 : w1.toInt ≤ (19 : Int)) (q1_w2 : (-2147483648 : Int) ≤ w2.toInt) (q2_w2 : w2.toInt ≤ (-1 : Int))  : Met l yX9_set (.code yX9_set cX9_set 7 (some .int) :: lw_g) { frames := 2, cells := 0, slots := 0, locals := 44 } (va_Pc [.ref (b + 405), .int 2, .int w1, .int w2, .int w3, .int w4] (zx_w g σ)) (va_Qi (fun r u => r = 0 ∧ u = (ap b σ [(405, 0, 2)] [] [])) (zx_w g) (gx_Q g)) 0 0 (gx_Q g) := by
  refine z_met (by decide) (Nat.le_of_ble_eq_true rfl) (fun p e s m below meth c B hr hin => ?_)
  refine z_eqs (σ' := (ap b σ [] [] [])) rfl ?_
  show zx p l e _ s m _ below meth c g 7 0 0 _ _ 0 [(0, .ref (b + 405)), (1, .int 2), (2, .int w1), (3, .int w2), (4, .int w3), (5, .int w4)] []
  refine z_aload_n B dX9_set_0 rfl 0 rfl ?_
  refine z_iload_n B dX9_set_1 rfl 1 rfl ?_
  refine z_iload_n B dX9_set_2 rfl 2 rfl ?_
  refine z_cSi (As := [.int 2, .int w1]) (rest := [.ref (b + 405)]) B cw_X9_238 dX9_set_3 (ci_X9_isStep_185 l (σ := (ap b σ [] [] [])) (b := b) (lyA hK) w1 q1_w1 q2_w1) rfl (by decide) rfl (Nat.le_of_ble_eq_true rfl) (by decide) (fun r u hu => ?_)
  refine z_eqs (σ' := (ap b σ [] [] [])) hu.2 ?_
  show zx p l e _ s m _ below meth c g 7 0 0 _ _ 6 [(0, .ref (b + 405)), (1, .int 2), (2, .int w1), (3, .int w2), (4, .int w3), (5, .int w4)] _
  refine z_seti (y := 1) hu.1 ?_
  refine z_iload_n B dX9_set_6 rfl 3 rfl ?_
  refine z_iload B dX9_set_7 4 rfl ?_
  refine z_iload B dX9_set_9 5 rfl ?_
  refine z_cSi (As := [.int w2, .int w3, .int w4]) (rest := [.int 1, .ref (b + 405)]) B cw_X9_242 dX9_set_11 (ci_X9_isOperation_28 l (σ := (ap b σ [] [] [])) (b := b) (lyA hK) w2 w3 w4 q1_w2 q2_w2) rfl (by decide) rfl (Nat.le_of_ble_eq_true rfl) (by decide) (fun r u hu => ?_)
  refine z_eqs (σ' := (ap b σ [] [] [])) hu.2 ?_
  show zx p l e _ s m _ below meth c g 7 0 0 _ _ 14 [(0, .ref (b + 405)), (1, .int 2), (2, .int w1), (3, .int w2), (4, .int w3), (5, .int w4)] _
  refine z_seti (y := 0) hu.1 ?_
  refine z_cVi (As := [.int 1, .int 0]) (rest := []) B cw_X9_245 cx_10 dX9_set_14 (ci_X9_needs__71 l (σ := (ap b σ [] [] [])) (b := b) (lyA hK) ) (lKA (hk_K hK 405 rfl rfl)) rfl (by decide) rfl (Nat.le_of_ble_eq_true rfl) (by decide) (fun r u hu => ?_)
  refine z_eqs (σ' := (ap b σ [(405, 0, 2)] [] [])) (hu.2.trans ap_ap) ?_
  show zx p l e _ s m _ below meth c g 7 0 0 _ _ 17 [(0, .ref (b + 405)), (1, .int 2), (2, .int w1), (3, .int w2), (4, .int w3), (5, .int w4)] _
  refine z_seti (y := 0) hu.1 ?_
  refine z_if_ne (tgt := 22) B dX9_set_17 (by decide) (fun h => absurd (by decide) h) (fun _ => ?_)
  refine z_iconst (v := 0) B dX9_set_20 (by decide) ?_
  exact z_iret B hr (by decide) (by decide) dX9_set_21 ⟨rfl, rfl⟩
set_option maxRecDepth 100000 in
set_option maxHeartbeats 4000000 in
theorem ci_X8_set_187 (l : Launch) (hlt : l.stackTraces = false) {g : gx_T} {σ : sx_T} {b : Nat} (hK : lay b σ) (w1 : Int32) (w2 : Int32) (w3 : Int32) (w4 : Int32) (q1_w1 : (0 : Int) ≤ w1.toInt) (q2_w1 : w1.toInt ≤ (19 : Int)) (q1_w2 : (0 : Int) ≤ w2.toInt) (q2_w2 : w2.toInt ≤ (17 : Int)) (q1_w3 : (-2147483648 : Int) ≤ w3.toInt) (q2_w3 : w3.toInt ≤ (-1 : Int)) (hR_0_0 : sx_R σ (b + 0) 0 = (some (b + 1))) (hR_1_2 : sx_R σ (b + 1) 2 = (some (b + 17))) : vx_Met l yX8_set (.code yX8_set cX8_set 9 (some .int) :: lw_g) { frames := 7, cells := 1, slots := 6, locals := 136 } (va_Pc [.ref (b + 0), .int 2, .int w1, .int w2, .int w3, .int w4] (zx_w g σ)) (va_Qi (S := sx_T) (fun _ _ => False) (zx_w g) (gx_Q g)) (vx_X (fun u : sx_T => ∃ z, u = wx_Z σ z) (fun E u t => E = "java/lang/IllegalArgumentException" ∧ zx_h g u t.heap) (gx_Q g)) 1 6 (gx_Q g) := by
  refine z_metX (by decide) (Nat.le_of_ble_eq_true rfl) (fun p e s m below meth c B hr hin hout => ?_)
  refine z_eqs (σ' := (ap b σ [] [] [])) rfl ?_
  show zx p l e _ s m _ below meth c g 9 0 0 _ _ 0 [(0, .ref (b + 0)), (1, .int 2), (2, .int w1), (3, .int w2), (4, .int w3), (5, .int w4)] []
  refine z_aload_n B dX8_set_0 rfl 0 rfl ?_
  refine z_iload_n B dX8_set_1 rfl 1 rfl ?_
  refine z_cVq (As := [.int 2]) (rest := []) B cw_X8_64 cx_9 dX8_set_2 (ci_X8_programAt_171 l (σ := (ap b σ [] [] [])) (b := b) (lyA hK) (rR_at 0 0 hR_0_0) (rR_at 1 2 hR_1_2)) (lKA (hk_K hK 0 rfl rfl)) rfl (by decide) rfl (Nat.le_of_ble_eq_true rfl) (by decide) (fun r u hu => ?_)
  refine z_eqs (σ' := (ap b σ [] [] [])) hu.2 ?_
  show zx p l e _ s m _ below meth c g 9 0 0 _ _ 5 [(0, .ref (b + 0)), (1, .int 2), (2, .int w1), (3, .int w2), (4, .int w3), (5, .int w4)] _
  refine z_setr (y := (some (b + 17))) hu.1 ?_
  refine z_astore (lv' := [(6, .ref (b + 17)), (0, .ref (b + 0)), (1, .int 2), (2, .int w1), (3, .int w2), (4, .int w3), (5, .int w4)]) B dX8_set_5 (by decide) rfl ?_
  refine z_aload B dX8_set_7 0 rfl ?_
  refine z_ifnull (r := (some (b + 17))) (tgt := 21) B dX8_set_9 (by decide) (fun h => nomatch h) (fun _ _ => ?_)
  refine z_iload_n B dX8_set_12 rfl 3 rfl ?_
  refine z_bipush (v := 20) B dX8_set_13 (by decide) ?_
  refine z_cSi (As := [.int w1, .int 20]) (rest := []) B cw_X8_68 dX8_set_15 (ci_X8_isBelow_64 l (σ := (ap b σ [] [] [])) (b := b) (lyA hK) w1 q1_w1 q2_w1) rfl (by decide) rfl (Nat.le_of_ble_eq_true rfl) (by decide) (fun r u hu => ?_)
  refine z_eqs (σ' := (ap b σ [] [] [])) hu.2 ?_
  show zx p l e _ s m _ below meth c g 9 0 0 _ _ 18 [(6, .ref (b + 17)), (0, .ref (b + 0)), (1, .int 2), (2, .int w1), (3, .int w2), (4, .int w3), (5, .int w4)] _
  refine z_seti (y := 1) hu.1 ?_
  refine z_if_ne (tgt := 31) B dX8_set_18 (by decide) (fun _ => ?_) (fun h => absurd h (by decide))
  refine z_iload_n B dX8_set_31 rfl 4 rfl ?_
  refine z_iload B dX8_set_32 5 rfl ?_
  refine z_iload B dX8_set_34 6 rfl ?_
  refine z_cSi (As := [.int w2, .int w3, .int w4]) (rest := []) B cw_X8_79 dX8_set_36 (ci_X8_isStep_76 l (σ := (ap b σ [] [] [])) (b := b) (lyA hK) w2 w3 w4 q1_w2 q2_w2 q1_w3 q2_w3) rfl (by decide) rfl (Nat.le_of_ble_eq_true rfl) (by decide) (fun r u hu => ?_)
  refine z_eqs (σ' := (ap b σ [] [] [])) hu.2 ?_
  show zx p l e _ s m _ below meth c g 9 0 0 _ _ 39 [(6, .ref (b + 17)), (0, .ref (b + 0)), (1, .int 2), (2, .int w1), (3, .int w2), (4, .int w3), (5, .int w4)] _
  refine z_seti (y := 0) hu.1 ?_
  refine z_if_ne (tgt := 52) B dX8_set_39 (by decide) (fun h => absurd (by decide) h) (fun _ => ?_)
  exact z_throw B hlt hout (cls := "java/lang/IllegalArgumentException") (text := "no such operation") tw_X8_83_85_87 dX8_set_42 dX8_set_45 dX8_set_46 dX8_set_48 dX8_set_51 (by decide) (by decide) (by decide) (by decide) (by decide) (by decide) (fun z => ⟨z, rfl⟩)
set_option maxRecDepth 100000 in
set_option maxHeartbeats 4000000 in
theorem ci_L_set_188 (l : Launch) (hlt : l.stackTraces = false) {g : gx_T} {σ : sx_T} {b : Nat} (hK : lay b σ) (w1 : Int32) (w2 : Int32) (w3 : Int32) (w4 : Int32) (q1_w1 : (0 : Int) ≤ w1.toInt) (q2_w1 : w1.toInt ≤ (19 : Int)) (q1_w2 : (0 : Int) ≤ w2.toInt) (q2_w2 : w2.toInt ≤ (17 : Int)) (q1_w3 : (-2147483648 : Int) ≤ w3.toInt) (q2_w3 : w3.toInt ≤ (-1 : Int)) (hR_0_0 : sx_R σ (b + 0) 0 = (some (b + 1))) (hR_1_2 : sx_R σ (b + 1) 2 = (some (b + 17))) : Met l yL_set (.codeWith yL_set cL_set 8 (some .int) [(0, 16, 19, 13), (0, 16, 23, 15)] :: lw_g) { frames := 8, cells := 1, slots := 6, locals := 164 } (va_Pc [.ref (b + 0), .int 2, .int w1, .int w2, .int w3, .int w4, .ref (b + 431)] (zx_w g σ)) (va_Qi (fun r u => r = 2 ∧ ∃ z, u = (ap b (wx_Z σ z) [] [] [])) (zx_w g) (gx_Q g)) 1 6 (gx_Q g) := by
  refine z_metW (by decide) (Nat.le_of_ble_eq_true rfl) (fun p e s m below meth c B hr htab => ?_)
  refine z_eqs (σ' := (ap b σ [] [] [])) rfl ?_
  show zx p l e _ s m _ below meth c g 8 0 0 _ _ 0 [(0, .ref (b + 0)), (1, .int 2), (2, .int w1), (3, .int w2), (4, .int w3), (5, .int w4), (6, .ref (b + 431))] []
  refine z_aload B dL_set_0 6 rfl ?_
  refine z_iconst (v := 0) B dL_set_2 (by decide) ?_
  refine z_aload_n B dL_set_3 rfl 0 rfl ?_
  refine z_iload_n B dL_set_4 rfl 1 rfl ?_
  refine z_iload_n B dL_set_5 rfl 2 rfl ?_
  refine z_iload_n B dL_set_6 rfl 3 rfl ?_
  refine z_iload B dL_set_7 4 rfl ?_
  refine z_iload B dL_set_9 5 rfl ?_
  refine z_cXi (As := [.int 2, .int w1, .int w2, .int w3, .int w4]) (rest := [.int 0, .ref (b + 431)]) B htab tc_set_11_IllegalArgumentException cw_L_7 cx_9 dL_set_11 (ci_X8_set_187 l hlt (σ := (ap b σ [] [] [])) (b := b) (lyA hK) w1 w2 w3 w4 q1_w1 q2_w1 q1_w2 q2_w2 q1_w3 q2_w3 (rR_at 0 0 hR_0_0) (rR_at 1 2 hR_1_2)) (lKA (hk_K hK 0 rfl rfl)) rfl (by decide) rfl (Nat.le_of_ble_eq_true rfl) (by decide) (fun z q => ?_)
  refine z_eqs (σ' := (ap b (wx_Z σ z) [] [] [])) rfl ?_
  show zx p l e _ s m _ below meth c g 8 _ _ _ _ 23 [(0, .ref (b + 0)), (1, .int 2), (2, .int w1), (3, .int w2), (4, .int w3), (5, .int w4), (6, .ref (b + 431))] _
  refine z_astore (lv' := [(7, .ref q), (0, .ref (b + 0)), (1, .int 2), (2, .int w1), (3, .int w2), (4, .int w3), (5, .int w4), (6, .ref (b + 431))]) B dL_set_23 (by decide) rfl ?_
  refine z_iconst (v := 2) B dL_set_25 (by decide) ?_
  exact z_iret B hr (by decide) (by decide) dL_set_26 ⟨rfl, _, rfl⟩
set_option maxRecDepth 100000 in
set_option maxHeartbeats 4000000 in
theorem ci_X9_set_189 (l : Launch) {g : gx_T} {σ : sx_T} {b : Nat} (hK : lay b σ) (w1 : Int32) (w2 : Int32) (w3 : Int32) (w4 : Int32) (q1_w1 : (0 : Int) ≤ w1.toInt) (q2_w1 : w1.toInt ≤ (19 : Int)) (q1_w2 : (0 : Int) ≤ w2.toInt) (q2_w2 : w2.toInt ≤ (17 : Int)) (q1_w3 : (-2147483648 : Int) ≤ w3.toInt) (q2_w3 : w3.toInt ≤ (-1 : Int))  : Met l yX9_set (.code yX9_set cX9_set 7 (some .int) :: lw_g) { frames := 2, cells := 0, slots := 0, locals := 44 } (va_Pc [.ref (b + 405), .int 2, .int w1, .int w2, .int w3, .int w4] (zx_w g σ)) (va_Qi (fun r u => r = 0 ∧ u = (ap b σ [(405, 0, 2)] [] [])) (zx_w g) (gx_Q g)) 0 0 (gx_Q g) := by
  refine z_met (by decide) (Nat.le_of_ble_eq_true rfl) (fun p e s m below meth c B hr hin => ?_)
  refine z_eqs (σ' := (ap b σ [] [] [])) rfl ?_
  show zx p l e _ s m _ below meth c g 7 0 0 _ _ 0 [(0, .ref (b + 405)), (1, .int 2), (2, .int w1), (3, .int w2), (4, .int w3), (5, .int w4)] []
  refine z_aload_n B dX9_set_0 rfl 0 rfl ?_
  refine z_iload_n B dX9_set_1 rfl 1 rfl ?_
  refine z_iload_n B dX9_set_2 rfl 2 rfl ?_
  refine z_cSi (As := [.int 2, .int w1]) (rest := [.ref (b + 405)]) B cw_X9_238 dX9_set_3 (ci_X9_isStep_185 l (σ := (ap b σ [] [] [])) (b := b) (lyA hK) w1 q1_w1 q2_w1) rfl (by decide) rfl (Nat.le_of_ble_eq_true rfl) (by decide) (fun r u hu => ?_)
  refine z_eqs (σ' := (ap b σ [] [] [])) hu.2 ?_
  show zx p l e _ s m _ below meth c g 7 0 0 _ _ 6 [(0, .ref (b + 405)), (1, .int 2), (2, .int w1), (3, .int w2), (4, .int w3), (5, .int w4)] _
  refine z_seti (y := 1) hu.1 ?_
  refine z_iload_n B dX9_set_6 rfl 3 rfl ?_
  refine z_iload B dX9_set_7 4 rfl ?_
  refine z_iload B dX9_set_9 5 rfl ?_
  refine z_cSi (As := [.int w2, .int w3, .int w4]) (rest := [.int 1, .ref (b + 405)]) B cw_X9_242 dX9_set_11 (ci_X9_isOperation_34 l (σ := (ap b σ [] [] [])) (b := b) (lyA hK) w2 w3 w4 q1_w2 q2_w2 q1_w3 q2_w3) rfl (by decide) rfl (Nat.le_of_ble_eq_true rfl) (by decide) (fun r u hu => ?_)
  refine z_eqs (σ' := (ap b σ [] [] [])) hu.2 ?_
  show zx p l e _ s m _ below meth c g 7 0 0 _ _ 14 [(0, .ref (b + 405)), (1, .int 2), (2, .int w1), (3, .int w2), (4, .int w3), (5, .int w4)] _
  refine z_seti (y := 0) hu.1 ?_
  refine z_cVi (As := [.int 1, .int 0]) (rest := []) B cw_X9_245 cx_10 dX9_set_14 (ci_X9_needs__71 l (σ := (ap b σ [] [] [])) (b := b) (lyA hK) ) (lKA (hk_K hK 405 rfl rfl)) rfl (by decide) rfl (Nat.le_of_ble_eq_true rfl) (by decide) (fun r u hu => ?_)
  refine z_eqs (σ' := (ap b σ [(405, 0, 2)] [] [])) (hu.2.trans ap_ap) ?_
  show zx p l e _ s m _ below meth c g 7 0 0 _ _ 17 [(0, .ref (b + 405)), (1, .int 2), (2, .int w1), (3, .int w2), (4, .int w3), (5, .int w4)] _
  refine z_seti (y := 0) hu.1 ?_
  refine z_if_ne (tgt := 22) B dX9_set_17 (by decide) (fun h => absurd (by decide) h) (fun _ => ?_)
  refine z_iconst (v := 0) B dX9_set_20 (by decide) ?_
  exact z_iret B hr (by decide) (by decide) dX9_set_21 ⟨rfl, rfl⟩
set_option maxRecDepth 100000 in
set_option maxHeartbeats 4000000 in
theorem ci_X8_set_190 (l : Launch) (hlt : l.stackTraces = false) {g : gx_T} {σ : sx_T} {b : Nat} (hK : lay b σ) (w1 : Int32) (w2 : Int32) (w3 : Int32) (w4 : Int32) (q1_w1 : (0 : Int) ≤ w1.toInt) (q2_w1 : w1.toInt ≤ (19 : Int)) (q1_w2 : (0 : Int) ≤ w2.toInt) (q2_w2 : w2.toInt ≤ (17 : Int)) (q1_w3 : (0 : Int) ≤ w3.toInt) (q2_w3 : w3.toInt ≤ (99 : Int)) (q1_w4 : (-2147483648 : Int) ≤ w4.toInt) (q2_w4 : w4.toInt ≤ (-1 : Int)) (hR_0_0 : sx_R σ (b + 0) 0 = (some (b + 1))) (hR_1_2 : sx_R σ (b + 1) 2 = (some (b + 17))) : vx_Met l yX8_set (.code yX8_set cX8_set 9 (some .int) :: lw_g) { frames := 7, cells := 1, slots := 6, locals := 136 } (va_Pc [.ref (b + 0), .int 2, .int w1, .int w2, .int w3, .int w4] (zx_w g σ)) (va_Qi (S := sx_T) (fun _ _ => False) (zx_w g) (gx_Q g)) (vx_X (fun u : sx_T => ∃ z, u = wx_Z σ z) (fun E u t => E = "java/lang/IllegalArgumentException" ∧ zx_h g u t.heap) (gx_Q g)) 1 6 (gx_Q g) := by
  refine z_metX (by decide) (Nat.le_of_ble_eq_true rfl) (fun p e s m below meth c B hr hin hout => ?_)
  refine z_eqs (σ' := (ap b σ [] [] [])) rfl ?_
  show zx p l e _ s m _ below meth c g 9 0 0 _ _ 0 [(0, .ref (b + 0)), (1, .int 2), (2, .int w1), (3, .int w2), (4, .int w3), (5, .int w4)] []
  refine z_aload_n B dX8_set_0 rfl 0 rfl ?_
  refine z_iload_n B dX8_set_1 rfl 1 rfl ?_
  refine z_cVq (As := [.int 2]) (rest := []) B cw_X8_64 cx_9 dX8_set_2 (ci_X8_programAt_171 l (σ := (ap b σ [] [] [])) (b := b) (lyA hK) (rR_at 0 0 hR_0_0) (rR_at 1 2 hR_1_2)) (lKA (hk_K hK 0 rfl rfl)) rfl (by decide) rfl (Nat.le_of_ble_eq_true rfl) (by decide) (fun r u hu => ?_)
  refine z_eqs (σ' := (ap b σ [] [] [])) hu.2 ?_
  show zx p l e _ s m _ below meth c g 9 0 0 _ _ 5 [(0, .ref (b + 0)), (1, .int 2), (2, .int w1), (3, .int w2), (4, .int w3), (5, .int w4)] _
  refine z_setr (y := (some (b + 17))) hu.1 ?_
  refine z_astore (lv' := [(6, .ref (b + 17)), (0, .ref (b + 0)), (1, .int 2), (2, .int w1), (3, .int w2), (4, .int w3), (5, .int w4)]) B dX8_set_5 (by decide) rfl ?_
  refine z_aload B dX8_set_7 0 rfl ?_
  refine z_ifnull (r := (some (b + 17))) (tgt := 21) B dX8_set_9 (by decide) (fun h => nomatch h) (fun _ _ => ?_)
  refine z_iload_n B dX8_set_12 rfl 3 rfl ?_
  refine z_bipush (v := 20) B dX8_set_13 (by decide) ?_
  refine z_cSi (As := [.int w1, .int 20]) (rest := []) B cw_X8_68 dX8_set_15 (ci_X8_isBelow_64 l (σ := (ap b σ [] [] [])) (b := b) (lyA hK) w1 q1_w1 q2_w1) rfl (by decide) rfl (Nat.le_of_ble_eq_true rfl) (by decide) (fun r u hu => ?_)
  refine z_eqs (σ' := (ap b σ [] [] [])) hu.2 ?_
  show zx p l e _ s m _ below meth c g 9 0 0 _ _ 18 [(6, .ref (b + 17)), (0, .ref (b + 0)), (1, .int 2), (2, .int w1), (3, .int w2), (4, .int w3), (5, .int w4)] _
  refine z_seti (y := 1) hu.1 ?_
  refine z_if_ne (tgt := 31) B dX8_set_18 (by decide) (fun _ => ?_) (fun h => absurd h (by decide))
  refine z_iload_n B dX8_set_31 rfl 4 rfl ?_
  refine z_iload B dX8_set_32 5 rfl ?_
  refine z_iload B dX8_set_34 6 rfl ?_
  refine z_cSi (As := [.int w2, .int w3, .int w4]) (rest := []) B cw_X8_79 dX8_set_36 (ci_X8_isStep_81 l (σ := (ap b σ [] [] [])) (b := b) (lyA hK) w2 w3 w4 q1_w2 q2_w2 q1_w3 q2_w3 q1_w4 q2_w4) rfl (by decide) rfl (Nat.le_of_ble_eq_true rfl) (by decide) (fun r u hu => ?_)
  refine z_eqs (σ' := (ap b σ [] [] [])) hu.2 ?_
  show zx p l e _ s m _ below meth c g 9 0 0 _ _ 39 [(6, .ref (b + 17)), (0, .ref (b + 0)), (1, .int 2), (2, .int w1), (3, .int w2), (4, .int w3), (5, .int w4)] _
  refine z_seti (y := 0) hu.1 ?_
  refine z_if_ne (tgt := 52) B dX8_set_39 (by decide) (fun h => absurd (by decide) h) (fun _ => ?_)
  exact z_throw B hlt hout (cls := "java/lang/IllegalArgumentException") (text := "no such operation") tw_X8_83_85_87 dX8_set_42 dX8_set_45 dX8_set_46 dX8_set_48 dX8_set_51 (by decide) (by decide) (by decide) (by decide) (by decide) (by decide) (fun z => ⟨z, rfl⟩)
set_option maxRecDepth 100000 in
set_option maxHeartbeats 4000000 in
theorem ci_L_set_191 (l : Launch) (hlt : l.stackTraces = false) {g : gx_T} {σ : sx_T} {b : Nat} (hK : lay b σ) (w1 : Int32) (w2 : Int32) (w3 : Int32) (w4 : Int32) (q1_w1 : (0 : Int) ≤ w1.toInt) (q2_w1 : w1.toInt ≤ (19 : Int)) (q1_w2 : (0 : Int) ≤ w2.toInt) (q2_w2 : w2.toInt ≤ (17 : Int)) (q1_w3 : (0 : Int) ≤ w3.toInt) (q2_w3 : w3.toInt ≤ (99 : Int)) (q1_w4 : (-2147483648 : Int) ≤ w4.toInt) (q2_w4 : w4.toInt ≤ (-1 : Int)) (hR_0_0 : sx_R σ (b + 0) 0 = (some (b + 1))) (hR_1_2 : sx_R σ (b + 1) 2 = (some (b + 17))) : Met l yL_set (.codeWith yL_set cL_set 8 (some .int) [(0, 16, 19, 13), (0, 16, 23, 15)] :: lw_g) { frames := 8, cells := 1, slots := 6, locals := 164 } (va_Pc [.ref (b + 0), .int 2, .int w1, .int w2, .int w3, .int w4, .ref (b + 431)] (zx_w g σ)) (va_Qi (fun r u => r = 2 ∧ ∃ z, u = (ap b (wx_Z σ z) [] [] [])) (zx_w g) (gx_Q g)) 1 6 (gx_Q g) := by
  refine z_metW (by decide) (Nat.le_of_ble_eq_true rfl) (fun p e s m below meth c B hr htab => ?_)
  refine z_eqs (σ' := (ap b σ [] [] [])) rfl ?_
  show zx p l e _ s m _ below meth c g 8 0 0 _ _ 0 [(0, .ref (b + 0)), (1, .int 2), (2, .int w1), (3, .int w2), (4, .int w3), (5, .int w4), (6, .ref (b + 431))] []
  refine z_aload B dL_set_0 6 rfl ?_
  refine z_iconst (v := 0) B dL_set_2 (by decide) ?_
  refine z_aload_n B dL_set_3 rfl 0 rfl ?_
  refine z_iload_n B dL_set_4 rfl 1 rfl ?_
  refine z_iload_n B dL_set_5 rfl 2 rfl ?_
  refine z_iload_n B dL_set_6 rfl 3 rfl ?_
  refine z_iload B dL_set_7 4 rfl ?_
  refine z_iload B dL_set_9 5 rfl ?_
  refine z_cXi (As := [.int 2, .int w1, .int w2, .int w3, .int w4]) (rest := [.int 0, .ref (b + 431)]) B htab tc_set_11_IllegalArgumentException cw_L_7 cx_9 dL_set_11 (ci_X8_set_190 l hlt (σ := (ap b σ [] [] [])) (b := b) (lyA hK) w1 w2 w3 w4 q1_w1 q2_w1 q1_w2 q2_w2 q1_w3 q2_w3 q1_w4 q2_w4 (rR_at 0 0 hR_0_0) (rR_at 1 2 hR_1_2)) (lKA (hk_K hK 0 rfl rfl)) rfl (by decide) rfl (Nat.le_of_ble_eq_true rfl) (by decide) (fun z q => ?_)
  refine z_eqs (σ' := (ap b (wx_Z σ z) [] [] [])) rfl ?_
  show zx p l e _ s m _ below meth c g 8 _ _ _ _ 23 [(0, .ref (b + 0)), (1, .int 2), (2, .int w1), (3, .int w2), (4, .int w3), (5, .int w4), (6, .ref (b + 431))] _
  refine z_astore (lv' := [(7, .ref q), (0, .ref (b + 0)), (1, .int 2), (2, .int w1), (3, .int w2), (4, .int w3), (5, .int w4), (6, .ref (b + 431))]) B dL_set_23 (by decide) rfl ?_
  refine z_iconst (v := 2) B dL_set_25 (by decide) ?_
  exact z_iret B hr (by decide) (by decide) dL_set_26 ⟨rfl, _, rfl⟩
set_option maxRecDepth 100000 in
set_option maxHeartbeats 4000000 in
theorem ci_X9_set_192 (l : Launch) {g : gx_T} {σ : sx_T} {b : Nat} (hK : lay b σ) (w1 : Int32) (w2 : Int32) (w3 : Int32) (w4 : Int32) (q1_w1 : (0 : Int) ≤ w1.toInt) (q2_w1 : w1.toInt ≤ (19 : Int)) (q1_w2 : (0 : Int) ≤ w2.toInt) (q2_w2 : w2.toInt ≤ (17 : Int)) (q1_w3 : (0 : Int) ≤ w3.toInt) (q2_w3 : w3.toInt ≤ (99 : Int)) (q1_w4 : (-2147483648 : Int) ≤ w4.toInt) (q2_w4 : w4.toInt ≤ (-1 : Int))  : Met l yX9_set (.code yX9_set cX9_set 7 (some .int) :: lw_g) { frames := 2, cells := 0, slots := 0, locals := 44 } (va_Pc [.ref (b + 405), .int 2, .int w1, .int w2, .int w3, .int w4] (zx_w g σ)) (va_Qi (fun r u => r = 0 ∧ u = (ap b σ [(405, 0, 2)] [] [])) (zx_w g) (gx_Q g)) 0 0 (gx_Q g) := by
  refine z_met (by decide) (Nat.le_of_ble_eq_true rfl) (fun p e s m below meth c B hr hin => ?_)
  refine z_eqs (σ' := (ap b σ [] [] [])) rfl ?_
  show zx p l e _ s m _ below meth c g 7 0 0 _ _ 0 [(0, .ref (b + 405)), (1, .int 2), (2, .int w1), (3, .int w2), (4, .int w3), (5, .int w4)] []
  refine z_aload_n B dX9_set_0 rfl 0 rfl ?_
  refine z_iload_n B dX9_set_1 rfl 1 rfl ?_
  refine z_iload_n B dX9_set_2 rfl 2 rfl ?_
  refine z_cSi (As := [.int 2, .int w1]) (rest := [.ref (b + 405)]) B cw_X9_238 dX9_set_3 (ci_X9_isStep_185 l (σ := (ap b σ [] [] [])) (b := b) (lyA hK) w1 q1_w1 q2_w1) rfl (by decide) rfl (Nat.le_of_ble_eq_true rfl) (by decide) (fun r u hu => ?_)
  refine z_eqs (σ' := (ap b σ [] [] [])) hu.2 ?_
  show zx p l e _ s m _ below meth c g 7 0 0 _ _ 6 [(0, .ref (b + 405)), (1, .int 2), (2, .int w1), (3, .int w2), (4, .int w3), (5, .int w4)] _
  refine z_seti (y := 1) hu.1 ?_
  refine z_iload_n B dX9_set_6 rfl 3 rfl ?_
  refine z_iload B dX9_set_7 4 rfl ?_
  refine z_iload B dX9_set_9 5 rfl ?_
  refine z_cSi (As := [.int w2, .int w3, .int w4]) (rest := [.int 1, .ref (b + 405)]) B cw_X9_242 dX9_set_11 (ci_X9_isOperation_37 l (σ := (ap b σ [] [] [])) (b := b) (lyA hK) w2 w3 w4 q1_w2 q2_w2 q1_w3 q2_w3 q1_w4 q2_w4) rfl (by decide) rfl (Nat.le_of_ble_eq_true rfl) (by decide) (fun r u hu => ?_)
  refine z_eqs (σ' := (ap b σ [] [] [])) hu.2 ?_
  show zx p l e _ s m _ below meth c g 7 0 0 _ _ 14 [(0, .ref (b + 405)), (1, .int 2), (2, .int w1), (3, .int w2), (4, .int w3), (5, .int w4)] _
  refine z_seti (y := 0) hu.1 ?_
  refine z_cVi (As := [.int 1, .int 0]) (rest := []) B cw_X9_245 cx_10 dX9_set_14 (ci_X9_needs__71 l (σ := (ap b σ [] [] [])) (b := b) (lyA hK) ) (lKA (hk_K hK 405 rfl rfl)) rfl (by decide) rfl (Nat.le_of_ble_eq_true rfl) (by decide) (fun r u hu => ?_)
  refine z_eqs (σ' := (ap b σ [(405, 0, 2)] [] [])) (hu.2.trans ap_ap) ?_
  show zx p l e _ s m _ below meth c g 7 0 0 _ _ 17 [(0, .ref (b + 405)), (1, .int 2), (2, .int w1), (3, .int w2), (4, .int w3), (5, .int w4)] _
  refine z_seti (y := 0) hu.1 ?_
  refine z_if_ne (tgt := 22) B dX9_set_17 (by decide) (fun h => absurd (by decide) h) (fun _ => ?_)
  refine z_iconst (v := 0) B dX9_set_20 (by decide) ?_
  exact z_iret B hr (by decide) (by decide) dX9_set_21 ⟨rfl, rfl⟩
set_option maxRecDepth 100000 in
set_option maxHeartbeats 4000000 in
theorem ci_X4_put_193 (l : Launch) {g : gx_T} {σ : sx_T} {b : Nat} (hK : lay b σ) (w1 : Int32) (w2 : Int32) (w3 : Int32) (w4 : Int32) (q1_w1 : (0 : Int) ≤ w1.toInt) (q2_w1 : w1.toInt ≤ (19 : Int)) (hR_17_1 : sx_R σ (b + 17) 1 = (some (b + 18))) (hR_17_2 : sx_R σ (b + 17) 2 = (some (b + 19))) (hR_17_3 : sx_R σ (b + 17) 3 = (some (b + 20))) : Met l yX4_put (.code yX4_put cX4_put 5 none :: lw_g) { frames := 0, cells := 0, slots := 0, locals := 0 } (va_Pc [.ref (b + 17), .int w1, .int w2, .int w3, .int w4] (zx_w g σ)) (va_Qv (fun u => u = (ap b (wx_I (ap b (wx_I (ap b (wx_I (ap b σ [] [] []) (b + 18) w1.toNatClampNeg w2) [] [] []) (b + 19) w1.toNatClampNeg w3) [] [] []) (b + 20) w1.toNatClampNeg w4) [] [] [])) (zx_w g) (gx_Q g)) 0 0 (gx_Q g) := by
  refine z_met (by decide) (Nat.le_of_ble_eq_true rfl) (fun p e s m below meth c B hr hin => ?_)
  refine z_eqs (σ' := (ap b σ [] [] [])) rfl ?_
  show zx p l e _ s m _ below meth c g 5 0 0 _ _ 0 [(0, .ref (b + 17)), (1, .int w1), (2, .int w2), (3, .int w3), (4, .int w4)] []
  refine z_iload_n B dX4_put_0 rfl 1 rfl ?_
  refine z_if_lt (tgt := 53) B dX4_put_1 (by decide) (fun h => absurd h (iv_nlt q1_w1 (by decide))) (fun _ => ?_)
  refine z_iload_n B dX4_put_4 rfl 1 rfl ?_
  refine z_aload_n B dX4_put_5 rfl 0 rfl ?_
  refine gf_X4_9 (x := (some (b + 18))) B (lKA (hk_K hK 17 rfl rfl)) (rR_at 17 1 hR_17_1) dX4_put_6 ?_
  refine z_alen (kd := 13) (ti := 1) (v := 20) B (lKA (hk_K hK 18 rfl rfl)) (by decide) rfl (congrArg Int32.ofNat (lNA (hk_N hK 18 rfl rfl))) dX4_put_9 ?_
  refine z_icmp_ge (tgt := 53) B dX4_put_10 (by decide) (fun h => absurd h (iv_nge q2_w1 (by decide))) (fun _ => ?_)
  refine z_iload_n B dX4_put_13 rfl 1 rfl ?_
  refine z_aload_n B dX4_put_14 rfl 0 rfl ?_
  refine gf_X4_15 (x := (some (b + 19))) B (lKA (hk_K hK 17 rfl rfl)) (rR_at 17 2 hR_17_2) dX4_put_15 ?_
  refine z_alen (kd := 13) (ti := 1) (v := 20) B (lKA (hk_K hK 19 rfl rfl)) (by decide) rfl (congrArg Int32.ofNat (lNA (hk_N hK 19 rfl rfl))) dX4_put_18 ?_
  refine z_icmp_ge (tgt := 53) B dX4_put_19 (by decide) (fun h => absurd h (iv_nge q2_w1 (by decide))) (fun _ => ?_)
  refine z_iload_n B dX4_put_22 rfl 1 rfl ?_
  refine z_aload_n B dX4_put_23 rfl 0 rfl ?_
  refine gf_X4_18 (x := (some (b + 20))) B (lKA (hk_K hK 17 rfl rfl)) (rR_at 17 3 hR_17_3) dX4_put_24 ?_
  refine z_alen (kd := 13) (ti := 1) (v := 20) B (lKA (hk_K hK 20 rfl rfl)) (by decide) rfl (congrArg Int32.ofNat (lNA (hk_N hK 20 rfl rfl))) dX4_put_27 ?_
  refine z_icmp_ge (tgt := 53) B dX4_put_28 (by decide) (fun h => absurd h (iv_nge q2_w1 (by decide))) (fun _ => ?_)
  refine z_aload_n B dX4_put_31 rfl 0 rfl ?_
  refine gf_X4_9 (x := (some (b + 18))) B (lKA (hk_K hK 17 rfl rfl)) (rR_at 17 1 hR_17_1) dX4_put_32 ?_
  refine z_iload_n B dX4_put_35 rfl 1 rfl ?_
  refine z_iload_n B dX4_put_36 rfl 2 rfl ?_
  refine z_iast (j := w1.toNatClampNeg) (σ' := (wx_I (ap b σ [] [] []) (b + 18) w1.toNatClampNeg w2)) B (lKA (hk_K hK 18 rfl rfl)) rfl (in_of (lNA (hk_N hK 18 rfl rfl)) (iv_in q1_w1 q2_w1 (by decide) (by decide))) rfl dX4_put_37 ?_
  refine z_eqs (σ' := (ap b (wx_I (ap b σ [] [] []) (b + 18) w1.toNatClampNeg w2) [] [] [])) ap_nil ?_
  refine z_aload_n B dX4_put_38 rfl 0 rfl ?_
  refine gf_X4_15 (x := (some (b + 19))) B (lKA (lKW (lKA (hk_K hK 17 rfl rfl)))) (rR_at 17 2 (rR_w (rR_at 17 2 hR_17_2))) dX4_put_39 ?_
  refine z_iload_n B dX4_put_42 rfl 1 rfl ?_
  refine z_iload_n B dX4_put_43 rfl 3 rfl ?_
  refine z_iast (j := w1.toNatClampNeg) (σ' := (wx_I (ap b (wx_I (ap b σ [] [] []) (b + 18) w1.toNatClampNeg w2) [] [] []) (b + 19) w1.toNatClampNeg w3)) B (lKA (lKW (lKA (hk_K hK 19 rfl rfl)))) rfl (in_of (lNA (lNW (lNA (hk_N hK 19 rfl rfl)))) (iv_in q1_w1 q2_w1 (by decide) (by decide))) rfl dX4_put_44 ?_
  refine z_eqs (σ' := (ap b (wx_I (ap b (wx_I (ap b σ [] [] []) (b + 18) w1.toNatClampNeg w2) [] [] []) (b + 19) w1.toNatClampNeg w3) [] [] [])) ap_nil ?_
  refine z_aload_n B dX4_put_45 rfl 0 rfl ?_
  refine gf_X4_18 (x := (some (b + 20))) B (lKA (lKW (lKA (lKW (lKA (hk_K hK 17 rfl rfl)))))) (rR_at 17 3 (rR_w (rR_at 17 3 (rR_w (rR_at 17 3 hR_17_3))))) dX4_put_46 ?_
  refine z_iload_n B dX4_put_49 rfl 1 rfl ?_
  refine z_iload B dX4_put_50 4 rfl ?_
  refine z_iast (j := w1.toNatClampNeg) (σ' := (wx_I (ap b (wx_I (ap b (wx_I (ap b σ [] [] []) (b + 18) w1.toNatClampNeg w2) [] [] []) (b + 19) w1.toNatClampNeg w3) [] [] []) (b + 20) w1.toNatClampNeg w4)) B (lKA (lKW (lKA (lKW (lKA (hk_K hK 20 rfl rfl)))))) rfl (in_of (lNA (lNW (lNA (lNW (lNA (hk_N hK 20 rfl rfl)))))) (iv_in q1_w1 q2_w1 (by decide) (by decide))) rfl dX4_put_52 ?_
  refine z_eqs (σ' := (ap b (wx_I (ap b (wx_I (ap b (wx_I (ap b σ [] [] []) (b + 18) w1.toNatClampNeg w2) [] [] []) (b + 19) w1.toNatClampNeg w3) [] [] []) (b + 20) w1.toNatClampNeg w4) [] [] [])) ap_nil ?_
  exact z_vret B hr (by decide) (by decide) dX4_put_53 rfl
set_option maxRecDepth 100000 in
set_option maxHeartbeats 4000000 in
theorem ci_X8_findAgain_194 (l : Launch) {g : gx_T} {σ : sx_T} {b : Nat} (hK : lay b σ)   (hI_0_7 : sx_I σ (b + 0) 7 = 0) : Met l yX8_findAgain (.code yX8_findAgain cX8_findAgain 4 none :: lw_g) { frames := 0, cells := 0, slots := 0, locals := 0 } (va_Pc [.ref (b + 0), .ref (b + 17)] (zx_w g σ)) (va_Qv (fun u => u = σ) (zx_w g) (gx_Q g)) 0 0 (gx_Q g) := by
  refine z_met (by decide) (Nat.le_of_ble_eq_true rfl) (fun p e s m below meth c B hr hin => ?_)
  refine z_eqs (σ' := (ap b σ [] [] [])) rfl ?_
  show zx p l e _ s m _ below meth c g 4 0 0 _ _ 0 [(0, .ref (b + 0)), (1, .ref (b + 17))] []
  refine z_iconst (v := 0) B dX8_findAgain_0 (by decide) ?_
  refine z_istore_n (lv' := [(2, .int 0), (0, .ref (b + 0)), (1, .ref (b + 17))]) B dX8_findAgain_1 rfl (by decide) rfl ?_
  refine z_iload_n B dX8_findAgain_2 rfl 0 rfl ?_
  refine z_aload_n B dX8_findAgain_3 rfl 1 rfl ?_
  refine gf_X8_96 (x := 0) B (lKA (hk_K hK 0 rfl rfl)) (rI_at 0 7 hI_0_7) dX8_findAgain_4 ?_
  refine z_icmp_ge (tgt := 45) B dX8_findAgain_7 (by decide) (fun _ => ?_) (fun h => absurd (by decide) h)
  exact z_vret B hr (by decide) (by decide) dX8_findAgain_45 rfl
set_option maxRecDepth 100000 in
set_option maxHeartbeats 4000000 in
theorem ci_X8_countAstray_195 (l : Launch) {g : gx_T} {σ : sx_T} {b : Nat} (hK : lay b σ)   (hI_0_7 : sx_I σ (b + 0) 7 = 0) : Met l yX8_countAstray (.code yX8_countAstray cX8_countAstray 5 (some .int) :: lw_g) { frames := 0, cells := 0, slots := 0, locals := 0 } (va_Pc [.ref (b + 0), .ref (b + 17)] (zx_w g σ)) (va_Qi (fun r u => r = 0 ∧ u = σ) (zx_w g) (gx_Q g)) 0 0 (gx_Q g) := by
  refine z_met (by decide) (Nat.le_of_ble_eq_true rfl) (fun p e s m below meth c B hr hin => ?_)
  refine z_eqs (σ' := (ap b σ [] [] [])) rfl ?_
  show zx p l e _ s m _ below meth c g 5 0 0 _ _ 0 [(0, .ref (b + 0)), (1, .ref (b + 17))] []
  refine z_iconst (v := 0) B dX8_countAstray_0 (by decide) ?_
  refine z_istore_n (lv' := [(2, .int 0), (0, .ref (b + 0)), (1, .ref (b + 17))]) B dX8_countAstray_1 rfl (by decide) rfl ?_
  refine z_iconst (v := 0) B dX8_countAstray_2 (by decide) ?_
  refine z_istore_n (lv' := [(3, .int 0), (2, .int 0), (0, .ref (b + 0)), (1, .ref (b + 17))]) B dX8_countAstray_3 rfl (by decide) rfl ?_
  refine z_iload_n B dX8_countAstray_4 rfl 0 rfl ?_
  refine z_aload_n B dX8_countAstray_5 rfl 2 rfl ?_
  refine gf_X8_96 (x := 0) B (lKA (hk_K hK 0 rfl rfl)) (rI_at 0 7 hI_0_7) dX8_countAstray_6 ?_
  refine z_icmp_ge (tgt := 61) B dX8_countAstray_9 (by decide) (fun _ => ?_) (fun h => absurd (by decide) h)
  refine z_iload_n B dX8_countAstray_61 rfl 1 rfl ?_
  exact z_iret B hr (by decide) (by decide) dX8_countAstray_62 ⟨rfl, rfl⟩
set_option maxRecDepth 100000 in
set_option maxHeartbeats 4000000 in
theorem ci_X8_set_196 (l : Launch) {g : gx_T} {σ : sx_T} {b : Nat} (hK : lay b σ) (w1 : Int32) (w2 : Int32) (w3 : Int32) (w4 : Int32) (q1_w1 : (0 : Int) ≤ w1.toInt) (q2_w1 : w1.toInt ≤ (19 : Int)) (q1_w2 : (0 : Int) ≤ w2.toInt) (q2_w2 : w2.toInt ≤ (17 : Int)) (q1_w3 : (0 : Int) ≤ w3.toInt) (q2_w3 : w3.toInt ≤ (99 : Int)) (q1_w4 : (0 : Int) ≤ w4.toInt) (q2_w4 : w4.toInt ≤ (99 : Int)) (hI_0_7 : sx_I σ (b + 0) 7 = 0) (hR_0_0 : sx_R σ (b + 0) 0 = (some (b + 1))) (hR_1_2 : sx_R σ (b + 1) 2 = (some (b + 17))) (hR_17_1 : sx_R σ (b + 17) 1 = (some (b + 18))) (hR_17_2 : sx_R σ (b + 17) 2 = (some (b + 19))) (hR_17_3 : sx_R σ (b + 17) 3 = (some (b + 20))) : Met l yX8_set (.code yX8_set cX8_set 9 (some .int) :: lw_g) { frames := 2, cells := 0, slots := 0, locals := 43 } (va_Pc [.ref (b + 0), .int 2, .int w1, .int w2, .int w3, .int w4] (zx_w g σ)) (va_Qi (fun r u => r = 0 ∧ u = (ap b (wx_I (ap b (wx_I (ap b (wx_I (ap b (ap b σ [] [] []) [] [] []) (b + 18) w1.toNatClampNeg w2) [] [] []) (b + 19) w1.toNatClampNeg w3) [] [] []) (b + 20) w1.toNatClampNeg w4) [] [] [])) (zx_w g) (gx_Q g)) 0 0 (gx_Q g) := by
  refine z_met (by decide) (Nat.le_of_ble_eq_true rfl) (fun p e s m below meth c B hr hin => ?_)
  refine z_eqs (σ' := (ap b σ [] [] [])) rfl ?_
  show zx p l e _ s m _ below meth c g 9 0 0 _ _ 0 [(0, .ref (b + 0)), (1, .int 2), (2, .int w1), (3, .int w2), (4, .int w3), (5, .int w4)] []
  refine z_aload_n B dX8_set_0 rfl 0 rfl ?_
  refine z_iload_n B dX8_set_1 rfl 1 rfl ?_
  refine z_cVq (As := [.int 2]) (rest := []) B cw_X8_64 cx_9 dX8_set_2 (ci_X8_programAt_171 l (σ := (ap b σ [] [] [])) (b := b) (lyA hK) (rR_at 0 0 hR_0_0) (rR_at 1 2 hR_1_2)) (lKA (hk_K hK 0 rfl rfl)) rfl (by decide) rfl (Nat.le_of_ble_eq_true rfl) (by decide) (fun r u hu => ?_)
  refine z_eqs (σ' := (ap b σ [] [] [])) hu.2 ?_
  show zx p l e _ s m _ below meth c g 9 0 0 _ _ 5 [(0, .ref (b + 0)), (1, .int 2), (2, .int w1), (3, .int w2), (4, .int w3), (5, .int w4)] _
  refine z_setr (y := (some (b + 17))) hu.1 ?_
  refine z_astore (lv' := [(6, .ref (b + 17)), (0, .ref (b + 0)), (1, .int 2), (2, .int w1), (3, .int w2), (4, .int w3), (5, .int w4)]) B dX8_set_5 (by decide) rfl ?_
  refine z_aload B dX8_set_7 0 rfl ?_
  refine z_ifnull (r := (some (b + 17))) (tgt := 21) B dX8_set_9 (by decide) (fun h => nomatch h) (fun _ _ => ?_)
  refine z_iload_n B dX8_set_12 rfl 3 rfl ?_
  refine z_bipush (v := 20) B dX8_set_13 (by decide) ?_
  refine z_cSi (As := [.int w1, .int 20]) (rest := []) B cw_X8_68 dX8_set_15 (ci_X8_isBelow_64 l (σ := (ap b σ [] [] [])) (b := b) (lyA hK) w1 q1_w1 q2_w1) rfl (by decide) rfl (Nat.le_of_ble_eq_true rfl) (by decide) (fun r u hu => ?_)
  refine z_eqs (σ' := (ap b σ [] [] [])) hu.2 ?_
  show zx p l e _ s m _ below meth c g 9 0 0 _ _ 18 [(6, .ref (b + 17)), (0, .ref (b + 0)), (1, .int 2), (2, .int w1), (3, .int w2), (4, .int w3), (5, .int w4)] _
  refine z_seti (y := 1) hu.1 ?_
  refine z_if_ne (tgt := 31) B dX8_set_18 (by decide) (fun _ => ?_) (fun h => absurd h (by decide))
  refine z_iload_n B dX8_set_31 rfl 4 rfl ?_
  refine z_iload B dX8_set_32 5 rfl ?_
  refine z_iload B dX8_set_34 6 rfl ?_
  refine z_cSi (As := [.int w2, .int w3, .int w4]) (rest := []) B cw_X8_79 dX8_set_36 (ci_X8_isStep_85 l (σ := (ap b σ [] [] [])) (b := b) (lyA hK) w2 w3 w4 q1_w2 q2_w2 q1_w3 q2_w3 q1_w4 q2_w4) rfl (by decide) rfl (Nat.le_of_ble_eq_true rfl) (by decide) (fun r u hu => ?_)
  refine z_eqs (σ' := (ap b σ [] [] [])) hu.2 ?_
  show zx p l e _ s m _ below meth c g 9 0 0 _ _ 39 [(6, .ref (b + 17)), (0, .ref (b + 0)), (1, .int 2), (2, .int w1), (3, .int w2), (4, .int w3), (5, .int w4)] _
  refine z_seti (y := 1) hu.1 ?_
  refine z_if_ne (tgt := 52) B dX8_set_39 (by decide) (fun _ => ?_) (fun h => absurd h (by decide))
  refine z_aload B dX8_set_52 0 rfl ?_
  refine z_iload_n B dX8_set_54 rfl 3 rfl ?_
  refine z_iload_n B dX8_set_55 rfl 4 rfl ?_
  refine z_iload B dX8_set_56 5 rfl ?_
  refine z_iload B dX8_set_58 6 rfl ?_
  refine z_cVv (As := [.int w1, .int w2, .int w3, .int w4]) (rest := []) B cw_X8_88 cx_5 dX8_set_60 (ci_X4_put_193 l (σ := (ap b σ [] [] [])) (b := b) (lyA hK) w1 w2 w3 w4 q1_w1 q2_w1 (rR_at 17 1 hR_17_1) (rR_at 17 2 hR_17_2) (rR_at 17 3 hR_17_3)) (lKA (hk_K hK 17 rfl rfl)) rfl (by decide) rfl (Nat.le_of_ble_eq_true rfl) (by decide) (fun u hu => ?_)
  refine z_eqs (σ' := (ap b (wx_I (ap b (wx_I (ap b (wx_I (ap b (ap b σ [] [] []) [] [] []) (b + 18) w1.toNatClampNeg w2) [] [] []) (b + 19) w1.toNatClampNeg w3) [] [] []) (b + 20) w1.toNatClampNeg w4) [] [] [])) hu ?_
  show zx p l e _ s m _ below meth c g 9 0 0 _ _ 63 [(6, .ref (b + 17)), (0, .ref (b + 0)), (1, .int 2), (2, .int w1), (3, .int w2), (4, .int w3), (5, .int w4)] _
  refine z_aload_n B dX8_set_63 rfl 1 rfl ?_
  refine z_aload B dX8_set_64 0 rfl ?_
  refine z_cVv (As := [.ref (b + 17)]) (rest := []) B cw_X8_92 cx_9 dX8_set_66 (ci_X8_findAgain_194 l (σ := (ap b (wx_I (ap b (wx_I (ap b (wx_I (ap b (ap b σ [] [] []) [] [] []) (b + 18) w1.toNatClampNeg w2) [] [] []) (b + 19) w1.toNatClampNeg w3) [] [] []) (b + 20) w1.toNatClampNeg w4) [] [] [])) (b := b) (lyA (lyW (lyA (lyW (lyA (lyW (lyA (lyA hK)))))))) (rI_at 0 7 ((ux_a (by omega)).trans (rI_at 0 7 ((ux_a (by omega)).trans (rI_at 0 7 ((ux_a (by omega)).trans (rI_at 0 7 (rI_at 0 7 hI_0_7))))))))) (lKA (lKW (lKA (lKW (lKA (lKW (lKA (lKA (hk_K hK 0 rfl rfl))))))))) rfl (by decide) rfl (Nat.le_of_ble_eq_true rfl) (by decide) (fun u hu => ?_)
  refine z_eqs (σ' := (ap b (wx_I (ap b (wx_I (ap b (wx_I (ap b (ap b σ [] [] []) [] [] []) (b + 18) w1.toNatClampNeg w2) [] [] []) (b + 19) w1.toNatClampNeg w3) [] [] []) (b + 20) w1.toNatClampNeg w4) [] [] [])) hu ?_
  show zx p l e _ s m _ below meth c g 9 0 0 _ _ 69 [(6, .ref (b + 17)), (0, .ref (b + 0)), (1, .int 2), (2, .int w1), (3, .int w2), (4, .int w3), (5, .int w4)] _
  refine z_iconst (v := 0) B dX8_set_69 (by decide) ?_
  refine z_istore (lv' := [(7, .int 0), (6, .ref (b + 17)), (0, .ref (b + 0)), (1, .int 2), (2, .int w1), (3, .int w2), (4, .int w3), (5, .int w4)]) B dX8_set_70 (by decide) rfl ?_
  refine z_iload B dX8_set_72 0 rfl ?_
  refine z_aload_n B dX8_set_74 rfl 2 rfl ?_
  refine gf_X8_96 (x := 0) B (lKA (lKW (lKA (lKW (lKA (lKW (lKA (lKA (hk_K hK 0 rfl rfl))))))))) (rI_at 0 7 ((ux_a (by omega)).trans (rI_at 0 7 ((ux_a (by omega)).trans (rI_at 0 7 ((ux_a (by omega)).trans (rI_at 0 7 (rI_at 0 7 hI_0_7)))))))) dX8_set_75 ?_
  refine z_icmp_ge (tgt := 124) B dX8_set_78 (by decide) (fun _ => ?_) (fun h => absurd (by decide) h)
  refine z_aload_n B dX8_set_124 rfl 2 rfl ?_
  refine z_aload B dX8_set_125 1 rfl ?_
  refine z_cVi (As := [.ref (b + 17)]) (rest := []) B cw_X8_115 cx_9 dX8_set_127 (ci_X8_countAstray_195 l (σ := (ap b (wx_I (ap b (wx_I (ap b (wx_I (ap b (ap b σ [] [] []) [] [] []) (b + 18) w1.toNatClampNeg w2) [] [] []) (b + 19) w1.toNatClampNeg w3) [] [] []) (b + 20) w1.toNatClampNeg w4) [] [] [])) (b := b) (lyA (lyW (lyA (lyW (lyA (lyW (lyA (lyA hK)))))))) (rI_at 0 7 ((ux_a (by omega)).trans (rI_at 0 7 ((ux_a (by omega)).trans (rI_at 0 7 ((ux_a (by omega)).trans (rI_at 0 7 (rI_at 0 7 hI_0_7))))))))) (lKA (lKW (lKA (lKW (lKA (lKW (lKA (lKA (hk_K hK 0 rfl rfl))))))))) rfl (by decide) rfl (Nat.le_of_ble_eq_true rfl) (by decide) (fun r u hu => ?_)
  refine z_eqs (σ' := (ap b (wx_I (ap b (wx_I (ap b (wx_I (ap b (ap b σ [] [] []) [] [] []) (b + 18) w1.toNatClampNeg w2) [] [] []) (b + 19) w1.toNatClampNeg w3) [] [] []) (b + 20) w1.toNatClampNeg w4) [] [] [])) hu.2 ?_
  show zx p l e _ s m _ below meth c g 9 0 0 _ _ 130 [(7, .int 0), (6, .ref (b + 17)), (0, .ref (b + 0)), (1, .int 2), (2, .int w1), (3, .int w2), (4, .int w3), (5, .int w4)] _
  refine z_seti (y := 0) hu.1 ?_
  exact z_iret B hr (by decide) (by decide) dX8_set_130 ⟨rfl, rfl⟩
set_option maxRecDepth 100000 in
set_option maxHeartbeats 4000000 in
theorem ci_L_set_197 (l : Launch) {g : gx_T} {σ : sx_T} {b : Nat} (hK : lay b σ) (w1 : Int32) (w2 : Int32) (w3 : Int32) (w4 : Int32) (q1_w1 : (0 : Int) ≤ w1.toInt) (q2_w1 : w1.toInt ≤ (19 : Int)) (q1_w2 : (0 : Int) ≤ w2.toInt) (q2_w2 : w2.toInt ≤ (17 : Int)) (q1_w3 : (0 : Int) ≤ w3.toInt) (q2_w3 : w3.toInt ≤ (99 : Int)) (q1_w4 : (0 : Int) ≤ w4.toInt) (q2_w4 : w4.toInt ≤ (99 : Int)) (hI_0_7 : sx_I σ (b + 0) 7 = 0) (hR_0_0 : sx_R σ (b + 0) 0 = (some (b + 1))) (hR_1_2 : sx_R σ (b + 1) 2 = (some (b + 17))) (hR_17_1 : sx_R σ (b + 17) 1 = (some (b + 18))) (hR_17_2 : sx_R σ (b + 17) 2 = (some (b + 19))) (hR_17_3 : sx_R σ (b + 17) 3 = (some (b + 20))) : Met l yL_set (.codeWith yL_set cL_set 8 (some .int) [(0, 16, 19, 13), (0, 16, 23, 15)] :: lw_g) { frames := 3, cells := 0, slots := 0, locals := 71 } (va_Pc [.ref (b + 0), .int 2, .int w1, .int w2, .int w3, .int w4, .ref (b + 431)] (zx_w g σ)) (va_Qi (fun r u => r = 0 ∧ u = (ap b (wx_I (ap b (wx_I (ap b (wx_I (ap b (ap b (ap b σ [] [] []) [] [] []) [] [] []) (b + 18) w1.toNatClampNeg w2) [] [] []) (b + 19) w1.toNatClampNeg w3) [] [] []) (b + 20) w1.toNatClampNeg w4) [] [(431, 0, 0)] [])) (zx_w g) (gx_Q g)) 0 0 (gx_Q g) := by
  refine z_metW (by decide) (Nat.le_of_ble_eq_true rfl) (fun p e s m below meth c B hr htab => ?_)
  refine z_eqs (σ' := (ap b σ [] [] [])) rfl ?_
  show zx p l e _ s m _ below meth c g 8 0 0 _ _ 0 [(0, .ref (b + 0)), (1, .int 2), (2, .int w1), (3, .int w2), (4, .int w3), (5, .int w4), (6, .ref (b + 431))] []
  refine z_aload B dL_set_0 6 rfl ?_
  refine z_iconst (v := 0) B dL_set_2 (by decide) ?_
  refine z_aload_n B dL_set_3 rfl 0 rfl ?_
  refine z_iload_n B dL_set_4 rfl 1 rfl ?_
  refine z_iload_n B dL_set_5 rfl 2 rfl ?_
  refine z_iload_n B dL_set_6 rfl 3 rfl ?_
  refine z_iload B dL_set_7 4 rfl ?_
  refine z_iload B dL_set_9 5 rfl ?_
  refine z_cVi (As := [.int 2, .int w1, .int w2, .int w3, .int w4]) (rest := [.int 0, .ref (b + 431)]) B cw_L_7 cx_9 dL_set_11 (ci_X8_set_196 l (σ := (ap b σ [] [] [])) (b := b) (lyA hK) w1 w2 w3 w4 q1_w1 q2_w1 q1_w2 q2_w2 q1_w3 q2_w3 q1_w4 q2_w4 (rI_at 0 7 hI_0_7) (rR_at 0 0 hR_0_0) (rR_at 1 2 hR_1_2) (rR_at 17 1 hR_17_1) (rR_at 17 2 hR_17_2) (rR_at 17 3 hR_17_3)) (lKA (hk_K hK 0 rfl rfl)) rfl (by decide) rfl (Nat.le_of_ble_eq_true rfl) (by decide) (fun r u hu => ?_)
  refine z_eqs (σ' := (ap b (wx_I (ap b (wx_I (ap b (wx_I (ap b (ap b (ap b σ [] [] []) [] [] []) [] [] []) (b + 18) w1.toNatClampNeg w2) [] [] []) (b + 19) w1.toNatClampNeg w3) [] [] []) (b + 20) w1.toNatClampNeg w4) [] [] [])) hu.2 ?_
  show zx p l e _ s m _ below meth c g 8 0 0 _ _ 14 [(0, .ref (b + 0)), (1, .int 2), (2, .int w1), (3, .int w2), (4, .int w3), (5, .int w4), (6, .ref (b + 431))] _
  refine z_seti (y := 0) hu.1 ?_
  refine z_i2l (v := 0) B dL_set_14 (by decide) ?_
  refine z_last (j := 0) (σ' := (ap b (wx_I (ap b (wx_I (ap b (wx_I (ap b (ap b (ap b σ [] [] []) [] [] []) [] [] []) (b + 18) w1.toNatClampNeg w2) [] [] []) (b + 19) w1.toNatClampNeg w3) [] [] []) (b + 20) w1.toNatClampNeg w4) [] [(431, 0, 0)] [])) B (lKA (lKW (lKA (lKW (lKA (lKW (lKA (lKA (lKA (hk_K hK 431 rfl rfl)))))))))) (by decide) (in_of (lNA (lNW (lNA (lNW (lNA (lNW (lNA (lNA (lNA (hk_N hK 431 rfl rfl)))))))))) (show ¬ ((0 : Int32) < 0 ∨ 1 ≤ (0 : Int32).toNatClampNeg) by decide)) wJ_ap dL_set_15 ?_
  refine z_goto (tgt := 27) B dL_set_16 (by decide) ?_
  refine z_iconst (v := 0) B dL_set_27 (by decide) ?_
  exact z_iret B hr (by decide) (by decide) dL_set_28 ⟨rfl, rfl⟩
set_option maxRecDepth 100000 in
set_option maxHeartbeats 4000000 in
theorem ci_X9_lays_198 (l : Launch) {g : gx_T} {σ : sx_T} {b : Nat} (hK : lay b σ) (w1 : Int32) (w2 : Int32) (w3 : Int32) (w4 : Int32) (q1_w1 : (0 : Int) ≤ w1.toInt) (q2_w1 : w1.toInt ≤ (19 : Int)) (hR_405_3 : sx_R σ (b + 405) 3 = (some (b + 406))) (hR_405_4 : sx_R σ (b + 405) 4 = (some (b + 407))) (hR_405_5 : sx_R σ (b + 405) 5 = (some (b + 408))) : Met l yX9_lays (.code yX9_lays cX9_lays 6 none :: lw_g) { frames := 0, cells := 0, slots := 0, locals := 0 } (va_Pc [.ref (b + 405), .int 2, .int w1, .int w2, .int w3, .int w4] (zx_w g σ)) (va_Qv (fun u => u = (ap b (wx_I (ap b (wx_I (ap b (wx_I (ap b σ [] [] []) (b + 406) (40 + w1).toNatClampNeg w2) [] [] []) (b + 407) (40 + w1).toNatClampNeg w3) [] [] []) (b + 408) (40 + w1).toNatClampNeg w4) [] [] [])) (zx_w g) (gx_Q g)) 0 0 (gx_Q g) := by
  refine z_met (by decide) (Nat.le_of_ble_eq_true rfl) (fun p e s m below meth c B hr hin => ?_)
  refine z_eqs (σ' := (ap b σ [] [] [])) rfl ?_
  show zx p l e _ s m _ below meth c g 6 0 0 _ _ 0 [(0, .ref (b + 405)), (1, .int 2), (2, .int w1), (3, .int w2), (4, .int w3), (5, .int w4)] []
  refine z_aload_n B dX9_lays_0 rfl 0 rfl ?_
  refine gf_X9_13 (x := (some (b + 406))) B (lKA (hk_K hK 405 rfl rfl)) (rR_at 405 3 hR_405_3) dX9_lays_1 ?_
  refine z_bipush (v := 20) B dX9_lays_4 (by decide) ?_
  refine z_iload_n B dX9_lays_6 rfl 1 rfl ?_
  refine z_imul B dX9_lays_7 ?_
  refine z_seti (y := 40) (by decide) ?_
  refine z_iload_n B dX9_lays_8 rfl 2 rfl ?_
  refine z_iadd B dX9_lays_9 ?_
  refine z_iload_n B dX9_lays_10 rfl 3 rfl ?_
  refine z_iast (j := (40 + w1).toNatClampNeg) (σ' := (wx_I (ap b σ [] [] []) (b + 406) (40 + w1).toNatClampNeg w2)) B (lKA (hk_K hK 406 rfl rfl)) rfl (in_of (lNA (hk_N hK 406 rfl rfl)) (iv_inadd q1_w1 q2_w1 (by decide) (by decide))) rfl dX9_lays_11 ?_
  refine z_eqs (σ' := (ap b (wx_I (ap b σ [] [] []) (b + 406) (40 + w1).toNatClampNeg w2) [] [] [])) ap_nil ?_
  refine z_aload_n B dX9_lays_12 rfl 0 rfl ?_
  refine gf_X9_17 (x := (some (b + 407))) B (lKA (lKW (lKA (hk_K hK 405 rfl rfl)))) (rR_at 405 4 (rR_w (rR_at 405 4 hR_405_4))) dX9_lays_13 ?_
  refine z_bipush (v := 20) B dX9_lays_16 (by decide) ?_
  refine z_iload_n B dX9_lays_18 rfl 1 rfl ?_
  refine z_imul B dX9_lays_19 ?_
  refine z_seti (y := 40) (by decide) ?_
  refine z_iload_n B dX9_lays_20 rfl 2 rfl ?_
  refine z_iadd B dX9_lays_21 ?_
  refine z_iload B dX9_lays_22 4 rfl ?_
  refine z_iast (j := (40 + w1).toNatClampNeg) (σ' := (wx_I (ap b (wx_I (ap b σ [] [] []) (b + 406) (40 + w1).toNatClampNeg w2) [] [] []) (b + 407) (40 + w1).toNatClampNeg w3)) B (lKA (lKW (lKA (hk_K hK 407 rfl rfl)))) rfl (in_of (lNA (lNW (lNA (hk_N hK 407 rfl rfl)))) (iv_inadd q1_w1 q2_w1 (by decide) (by decide))) rfl dX9_lays_24 ?_
  refine z_eqs (σ' := (ap b (wx_I (ap b (wx_I (ap b σ [] [] []) (b + 406) (40 + w1).toNatClampNeg w2) [] [] []) (b + 407) (40 + w1).toNatClampNeg w3) [] [] [])) ap_nil ?_
  refine z_aload_n B dX9_lays_25 rfl 0 rfl ?_
  refine gf_X9_20 (x := (some (b + 408))) B (lKA (lKW (lKA (lKW (lKA (hk_K hK 405 rfl rfl)))))) (rR_at 405 5 (rR_w (rR_at 405 5 (rR_w (rR_at 405 5 hR_405_5))))) dX9_lays_26 ?_
  refine z_bipush (v := 20) B dX9_lays_29 (by decide) ?_
  refine z_iload_n B dX9_lays_31 rfl 1 rfl ?_
  refine z_imul B dX9_lays_32 ?_
  refine z_seti (y := 40) (by decide) ?_
  refine z_iload_n B dX9_lays_33 rfl 2 rfl ?_
  refine z_iadd B dX9_lays_34 ?_
  refine z_iload B dX9_lays_35 5 rfl ?_
  refine z_iast (j := (40 + w1).toNatClampNeg) (σ' := (wx_I (ap b (wx_I (ap b (wx_I (ap b σ [] [] []) (b + 406) (40 + w1).toNatClampNeg w2) [] [] []) (b + 407) (40 + w1).toNatClampNeg w3) [] [] []) (b + 408) (40 + w1).toNatClampNeg w4)) B (lKA (lKW (lKA (lKW (lKA (hk_K hK 408 rfl rfl)))))) rfl (in_of (lNA (lNW (lNA (lNW (lNA (hk_N hK 408 rfl rfl)))))) (iv_inadd q1_w1 q2_w1 (by decide) (by decide))) rfl dX9_lays_37 ?_
  refine z_eqs (σ' := (ap b (wx_I (ap b (wx_I (ap b (wx_I (ap b σ [] [] []) (b + 406) (40 + w1).toNatClampNeg w2) [] [] []) (b + 407) (40 + w1).toNatClampNeg w3) [] [] []) (b + 408) (40 + w1).toNatClampNeg w4) [] [] [])) ap_nil ?_
  exact z_vret B hr (by decide) (by decide) dX9_lays_38 rfl
set_option maxRecDepth 100000 in
set_option maxHeartbeats 4000000 in
theorem ci_X9_unfit_199 (l : Launch) {g : gx_T} {σ : sx_T} {b : Nat} (hK : lay b σ)   (hI_405_6 : sx_I σ (b + 405) 6 = 0) : Met l yX9_unfit (.code yX9_unfit cX9_unfit 4 (some .int) :: lw_g) { frames := 0, cells := 0, slots := 0, locals := 0 } (va_Pc [.ref (b + 405), .int 2] (zx_w g σ)) (va_Qi (fun r u => r = 0 ∧ u = σ) (zx_w g) (gx_Q g)) 0 0 (gx_Q g) := by
  refine z_met (by decide) (Nat.le_of_ble_eq_true rfl) (fun p e s m below meth c B hr hin => ?_)
  refine z_eqs (σ' := (ap b σ [] [] [])) rfl ?_
  show zx p l e _ s m _ below meth c g 4 0 0 _ _ 0 [(0, .ref (b + 405)), (1, .int 2)] []
  refine z_iconst (v := 0) B dX9_unfit_0 (by decide) ?_
  refine z_istore_n (lv' := [(2, .int 0), (0, .ref (b + 405)), (1, .int 2)]) B dX9_unfit_1 rfl (by decide) rfl ?_
  refine z_iconst (v := 0) B dX9_unfit_2 (by decide) ?_
  refine z_istore_n (lv' := [(3, .int 0), (2, .int 0), (0, .ref (b + 405)), (1, .int 2)]) B dX9_unfit_3 rfl (by decide) rfl ?_
  refine z_iload_n B dX9_unfit_4 rfl 0 rfl ?_
  refine z_aload_n B dX9_unfit_5 rfl 2 rfl ?_
  refine gf_X9_93 (x := 0) B (lKA (hk_K hK 405 rfl rfl)) (rI_at 405 6 hI_405_6) dX9_unfit_6 ?_
  refine z_icmp_ge (tgt := 53) B dX9_unfit_9 (by decide) (fun _ => ?_) (fun h => absurd (by decide) h)
  refine z_iload_n B dX9_unfit_53 rfl 1 rfl ?_
  exact z_iret B hr (by decide) (by decide) dX9_unfit_54 ⟨rfl, rfl⟩
set_option maxRecDepth 100000 in
set_option maxHeartbeats 4000000 in
theorem ci_X9_set_200 (l : Launch) {g : gx_T} {σ : sx_T} {b : Nat} (hK : lay b σ) (w1 : Int32) (w2 : Int32) (w3 : Int32) (w4 : Int32) (q1_w1 : (0 : Int) ≤ w1.toInt) (q2_w1 : w1.toInt ≤ (19 : Int)) (q1_w2 : (0 : Int) ≤ w2.toInt) (q2_w2 : w2.toInt ≤ (17 : Int)) (q1_w3 : (0 : Int) ≤ w3.toInt) (q2_w3 : w3.toInt ≤ (99 : Int)) (q1_w4 : (0 : Int) ≤ w4.toInt) (q2_w4 : w4.toInt ≤ (99 : Int)) (hI_405_6 : sx_I σ (b + 405) 6 = 0) (hR_405_3 : sx_R σ (b + 405) 3 = (some (b + 406))) (hR_405_4 : sx_R σ (b + 405) 4 = (some (b + 407))) (hR_405_5 : sx_R σ (b + 405) 5 = (some (b + 408))) : Met l yX9_set (.code yX9_set cX9_set 7 (some .int) :: lw_g) { frames := 2, cells := 0, slots := 0, locals := 44 } (va_Pc [.ref (b + 405), .int 2, .int w1, .int w2, .int w3, .int w4] (zx_w g σ)) (va_Qi (fun r u => r = 0 ∧ u = (ap b (wx_I (ap b (wx_I (ap b (wx_I (ap b (ap b σ [(405, 0, 0)] [] []) [] [] []) (b + 406) (40 + w1).toNatClampNeg w2) [] [] []) (b + 407) (40 + w1).toNatClampNeg w3) [] [] []) (b + 408) (40 + w1).toNatClampNeg w4) [] [] [])) (zx_w g) (gx_Q g)) 0 0 (gx_Q g) := by
  refine z_met (by decide) (Nat.le_of_ble_eq_true rfl) (fun p e s m below meth c B hr hin => ?_)
  refine z_eqs (σ' := (ap b σ [] [] [])) rfl ?_
  show zx p l e _ s m _ below meth c g 7 0 0 _ _ 0 [(0, .ref (b + 405)), (1, .int 2), (2, .int w1), (3, .int w2), (4, .int w3), (5, .int w4)] []
  refine z_aload_n B dX9_set_0 rfl 0 rfl ?_
  refine z_iload_n B dX9_set_1 rfl 1 rfl ?_
  refine z_iload_n B dX9_set_2 rfl 2 rfl ?_
  refine z_cSi (As := [.int 2, .int w1]) (rest := [.ref (b + 405)]) B cw_X9_238 dX9_set_3 (ci_X9_isStep_185 l (σ := (ap b σ [] [] [])) (b := b) (lyA hK) w1 q1_w1 q2_w1) rfl (by decide) rfl (Nat.le_of_ble_eq_true rfl) (by decide) (fun r u hu => ?_)
  refine z_eqs (σ' := (ap b σ [] [] [])) hu.2 ?_
  show zx p l e _ s m _ below meth c g 7 0 0 _ _ 6 [(0, .ref (b + 405)), (1, .int 2), (2, .int w1), (3, .int w2), (4, .int w3), (5, .int w4)] _
  refine z_seti (y := 1) hu.1 ?_
  refine z_iload_n B dX9_set_6 rfl 3 rfl ?_
  refine z_iload B dX9_set_7 4 rfl ?_
  refine z_iload B dX9_set_9 5 rfl ?_
  refine z_cSi (As := [.int w2, .int w3, .int w4]) (rest := [.int 1, .ref (b + 405)]) B cw_X9_242 dX9_set_11 (ci_X9_isOperation_39 l (σ := (ap b σ [] [] [])) (b := b) (lyA hK) w2 w3 w4 q1_w2 q2_w2 q1_w3 q2_w3 q1_w4 q2_w4) rfl (by decide) rfl (Nat.le_of_ble_eq_true rfl) (by decide) (fun r u hu => ?_)
  refine z_eqs (σ' := (ap b σ [] [] [])) hu.2 ?_
  show zx p l e _ s m _ below meth c g 7 0 0 _ _ 14 [(0, .ref (b + 405)), (1, .int 2), (2, .int w1), (3, .int w2), (4, .int w3), (5, .int w4)] _
  refine z_seti (y := 1) hu.1 ?_
  refine z_cVi (As := [.int 1, .int 1]) (rest := []) B cw_X9_245 cx_10 dX9_set_14 (ci_X9_needs__91 l (σ := (ap b σ [] [] [])) (b := b) (lyA hK) ) (lKA (hk_K hK 405 rfl rfl)) rfl (by decide) rfl (Nat.le_of_ble_eq_true rfl) (by decide) (fun r u hu => ?_)
  refine z_eqs (σ' := (ap b σ [(405, 0, 0)] [] [])) (hu.2.trans ap_ap) ?_
  show zx p l e _ s m _ below meth c g 7 0 0 _ _ 17 [(0, .ref (b + 405)), (1, .int 2), (2, .int w1), (3, .int w2), (4, .int w3), (5, .int w4)] _
  refine z_seti (y := 1) hu.1 ?_
  refine z_if_ne (tgt := 22) B dX9_set_17 (by decide) (fun _ => ?_) (fun h => absurd h (by decide))
  refine z_aload_n B dX9_set_22 rfl 0 rfl ?_
  refine z_iload_n B dX9_set_23 rfl 1 rfl ?_
  refine z_iload_n B dX9_set_24 rfl 2 rfl ?_
  refine z_iload_n B dX9_set_25 rfl 3 rfl ?_
  refine z_iload B dX9_set_26 4 rfl ?_
  refine z_iload B dX9_set_28 5 rfl ?_
  refine z_cVv (As := [.int 2, .int w1, .int w2, .int w3, .int w4]) (rest := []) B cw_X9_249 cx_10 dX9_set_30 (ci_X9_lays_198 l (σ := (ap b σ [(405, 0, 0)] [] [])) (b := b) (lyA hK) w1 w2 w3 w4 q1_w1 q2_w1 (rR_at 405 3 hR_405_3) (rR_at 405 4 hR_405_4) (rR_at 405 5 hR_405_5)) (lKA (hk_K hK 405 rfl rfl)) rfl (by decide) rfl (Nat.le_of_ble_eq_true rfl) (by decide) (fun u hu => ?_)
  refine z_eqs (σ' := (ap b (wx_I (ap b (wx_I (ap b (wx_I (ap b (ap b σ [(405, 0, 0)] [] []) [] [] []) (b + 406) (40 + w1).toNatClampNeg w2) [] [] []) (b + 407) (40 + w1).toNatClampNeg w3) [] [] []) (b + 408) (40 + w1).toNatClampNeg w4) [] [] [])) hu ?_
  show zx p l e _ s m _ below meth c g 7 0 0 _ _ 33 [(0, .ref (b + 405)), (1, .int 2), (2, .int w1), (3, .int w2), (4, .int w3), (5, .int w4)] _
  refine z_iconst (v := 0) B dX9_set_33 (by decide) ?_
  refine z_istore (lv' := [(6, .int 0), (0, .ref (b + 405)), (1, .int 2), (2, .int w1), (3, .int w2), (4, .int w3), (5, .int w4)]) B dX9_set_34 (by decide) rfl ?_
  refine z_iload B dX9_set_36 0 rfl ?_
  refine z_aload_n B dX9_set_38 rfl 1 rfl ?_
  refine gf_X9_93 (x := 0) B (lKA (lKW (lKA (lKW (lKA (lKW (lKA (lKA (hk_K hK 405 rfl rfl))))))))) (rI_at 405 6 ((ux_a (by omega)).trans (rI_at 405 6 ((ux_a (by omega)).trans (rI_at 405 6 ((ux_a (by omega)).trans (rI_at 405 6 (rI_at 405 6 hI_405_6)))))))) dX9_set_39 ?_
  refine z_icmp_ge (tgt := 87) B dX9_set_42 (by decide) (fun _ => ?_) (fun h => absurd (by decide) h)
  refine z_aload_n B dX9_set_87 rfl 1 rfl ?_
  refine z_iload_n B dX9_set_88 rfl 2 rfl ?_
  refine z_cVi (As := [.int 2]) (rest := []) B cw_X9_256 cx_10 dX9_set_89 (ci_X9_unfit_199 l (σ := (ap b (wx_I (ap b (wx_I (ap b (wx_I (ap b (ap b σ [(405, 0, 0)] [] []) [] [] []) (b + 406) (40 + w1).toNatClampNeg w2) [] [] []) (b + 407) (40 + w1).toNatClampNeg w3) [] [] []) (b + 408) (40 + w1).toNatClampNeg w4) [] [] [])) (b := b) (lyA (lyW (lyA (lyW (lyA (lyW (lyA (lyA hK)))))))) (rI_at 405 6 ((ux_a (by omega)).trans (rI_at 405 6 ((ux_a (by omega)).trans (rI_at 405 6 ((ux_a (by omega)).trans (rI_at 405 6 (rI_at 405 6 hI_405_6))))))))) (lKA (lKW (lKA (lKW (lKA (lKW (lKA (lKA (hk_K hK 405 rfl rfl))))))))) rfl (by decide) rfl (Nat.le_of_ble_eq_true rfl) (by decide) (fun r u hu => ?_)
  refine z_eqs (σ' := (ap b (wx_I (ap b (wx_I (ap b (wx_I (ap b (ap b σ [(405, 0, 0)] [] []) [] [] []) (b + 406) (40 + w1).toNatClampNeg w2) [] [] []) (b + 407) (40 + w1).toNatClampNeg w3) [] [] []) (b + 408) (40 + w1).toNatClampNeg w4) [] [] [])) hu.2 ?_
  show zx p l e _ s m _ below meth c g 7 0 0 _ _ 92 [(6, .int 0), (0, .ref (b + 405)), (1, .int 2), (2, .int w1), (3, .int w2), (4, .int w3), (5, .int w4)] _
  refine z_seti (y := 0) hu.1 ?_
  exact z_iret B hr (by decide) (by decide) dX9_set_92 ⟨rfl, rfl⟩
set_option maxRecDepth 100000 in
set_option maxHeartbeats 4000000 in
theorem ci_X8_set_201 (l : Launch) (hlt : l.stackTraces = false) {g : gx_T} {σ : sx_T} {b : Nat} (hK : lay b σ) (w1 : Int32) (w2 : Int32) (w3 : Int32) (w4 : Int32) (q1_w1 : (0 : Int) ≤ w1.toInt) (q2_w1 : w1.toInt ≤ (19 : Int)) (q1_w2 : (0 : Int) ≤ w2.toInt) (q2_w2 : w2.toInt ≤ (17 : Int)) (q1_w3 : (0 : Int) ≤ w3.toInt) (q2_w3 : w3.toInt ≤ (99 : Int)) (q1_w4 : (100 : Int) ≤ w4.toInt) (q2_w4 : w4.toInt ≤ (2147483647 : Int)) (hR_0_0 : sx_R σ (b + 0) 0 = (some (b + 1))) (hR_1_2 : sx_R σ (b + 1) 2 = (some (b + 17))) : vx_Met l yX8_set (.code yX8_set cX8_set 9 (some .int) :: lw_g) { frames := 7, cells := 1, slots := 6, locals := 136 } (va_Pc [.ref (b + 0), .int 2, .int w1, .int w2, .int w3, .int w4] (zx_w g σ)) (va_Qi (S := sx_T) (fun _ _ => False) (zx_w g) (gx_Q g)) (vx_X (fun u : sx_T => ∃ z, u = wx_Z σ z) (fun E u t => E = "java/lang/IllegalArgumentException" ∧ zx_h g u t.heap) (gx_Q g)) 1 6 (gx_Q g) := by
  refine z_metX (by decide) (Nat.le_of_ble_eq_true rfl) (fun p e s m below meth c B hr hin hout => ?_)
  refine z_eqs (σ' := (ap b σ [] [] [])) rfl ?_
  show zx p l e _ s m _ below meth c g 9 0 0 _ _ 0 [(0, .ref (b + 0)), (1, .int 2), (2, .int w1), (3, .int w2), (4, .int w3), (5, .int w4)] []
  refine z_aload_n B dX8_set_0 rfl 0 rfl ?_
  refine z_iload_n B dX8_set_1 rfl 1 rfl ?_
  refine z_cVq (As := [.int 2]) (rest := []) B cw_X8_64 cx_9 dX8_set_2 (ci_X8_programAt_171 l (σ := (ap b σ [] [] [])) (b := b) (lyA hK) (rR_at 0 0 hR_0_0) (rR_at 1 2 hR_1_2)) (lKA (hk_K hK 0 rfl rfl)) rfl (by decide) rfl (Nat.le_of_ble_eq_true rfl) (by decide) (fun r u hu => ?_)
  refine z_eqs (σ' := (ap b σ [] [] [])) hu.2 ?_
  show zx p l e _ s m _ below meth c g 9 0 0 _ _ 5 [(0, .ref (b + 0)), (1, .int 2), (2, .int w1), (3, .int w2), (4, .int w3), (5, .int w4)] _
  refine z_setr (y := (some (b + 17))) hu.1 ?_
  refine z_astore (lv' := [(6, .ref (b + 17)), (0, .ref (b + 0)), (1, .int 2), (2, .int w1), (3, .int w2), (4, .int w3), (5, .int w4)]) B dX8_set_5 (by decide) rfl ?_
  refine z_aload B dX8_set_7 0 rfl ?_
  refine z_ifnull (r := (some (b + 17))) (tgt := 21) B dX8_set_9 (by decide) (fun h => nomatch h) (fun _ _ => ?_)
  refine z_iload_n B dX8_set_12 rfl 3 rfl ?_
  refine z_bipush (v := 20) B dX8_set_13 (by decide) ?_
  refine z_cSi (As := [.int w1, .int 20]) (rest := []) B cw_X8_68 dX8_set_15 (ci_X8_isBelow_64 l (σ := (ap b σ [] [] [])) (b := b) (lyA hK) w1 q1_w1 q2_w1) rfl (by decide) rfl (Nat.le_of_ble_eq_true rfl) (by decide) (fun r u hu => ?_)
  refine z_eqs (σ' := (ap b σ [] [] [])) hu.2 ?_
  show zx p l e _ s m _ below meth c g 9 0 0 _ _ 18 [(6, .ref (b + 17)), (0, .ref (b + 0)), (1, .int 2), (2, .int w1), (3, .int w2), (4, .int w3), (5, .int w4)] _
  refine z_seti (y := 1) hu.1 ?_
  refine z_if_ne (tgt := 31) B dX8_set_18 (by decide) (fun _ => ?_) (fun h => absurd h (by decide))
  refine z_iload_n B dX8_set_31 rfl 4 rfl ?_
  refine z_iload B dX8_set_32 5 rfl ?_
  refine z_iload B dX8_set_34 6 rfl ?_
  refine z_cSi (As := [.int w2, .int w3, .int w4]) (rest := []) B cw_X8_79 dX8_set_36 (ci_X8_isStep_97 l (σ := (ap b σ [] [] [])) (b := b) (lyA hK) w2 w3 w4 q1_w2 q2_w2 q1_w3 q2_w3 q1_w4 q2_w4) rfl (by decide) rfl (Nat.le_of_ble_eq_true rfl) (by decide) (fun r u hu => ?_)
  refine z_eqs (σ' := (ap b σ [] [] [])) hu.2 ?_
  show zx p l e _ s m _ below meth c g 9 0 0 _ _ 39 [(6, .ref (b + 17)), (0, .ref (b + 0)), (1, .int 2), (2, .int w1), (3, .int w2), (4, .int w3), (5, .int w4)] _
  refine z_seti (y := 0) hu.1 ?_
  refine z_if_ne (tgt := 52) B dX8_set_39 (by decide) (fun h => absurd (by decide) h) (fun _ => ?_)
  exact z_throw B hlt hout (cls := "java/lang/IllegalArgumentException") (text := "no such operation") tw_X8_83_85_87 dX8_set_42 dX8_set_45 dX8_set_46 dX8_set_48 dX8_set_51 (by decide) (by decide) (by decide) (by decide) (by decide) (by decide) (fun z => ⟨z, rfl⟩)
set_option maxRecDepth 100000 in
set_option maxHeartbeats 4000000 in
theorem ci_L_set_202 (l : Launch) (hlt : l.stackTraces = false) {g : gx_T} {σ : sx_T} {b : Nat} (hK : lay b σ) (w1 : Int32) (w2 : Int32) (w3 : Int32) (w4 : Int32) (q1_w1 : (0 : Int) ≤ w1.toInt) (q2_w1 : w1.toInt ≤ (19 : Int)) (q1_w2 : (0 : Int) ≤ w2.toInt) (q2_w2 : w2.toInt ≤ (17 : Int)) (q1_w3 : (0 : Int) ≤ w3.toInt) (q2_w3 : w3.toInt ≤ (99 : Int)) (q1_w4 : (100 : Int) ≤ w4.toInt) (q2_w4 : w4.toInt ≤ (2147483647 : Int)) (hR_0_0 : sx_R σ (b + 0) 0 = (some (b + 1))) (hR_1_2 : sx_R σ (b + 1) 2 = (some (b + 17))) : Met l yL_set (.codeWith yL_set cL_set 8 (some .int) [(0, 16, 19, 13), (0, 16, 23, 15)] :: lw_g) { frames := 8, cells := 1, slots := 6, locals := 164 } (va_Pc [.ref (b + 0), .int 2, .int w1, .int w2, .int w3, .int w4, .ref (b + 431)] (zx_w g σ)) (va_Qi (fun r u => r = 2 ∧ ∃ z, u = (ap b (wx_Z σ z) [] [] [])) (zx_w g) (gx_Q g)) 1 6 (gx_Q g) := by
  refine z_metW (by decide) (Nat.le_of_ble_eq_true rfl) (fun p e s m below meth c B hr htab => ?_)
  refine z_eqs (σ' := (ap b σ [] [] [])) rfl ?_
  show zx p l e _ s m _ below meth c g 8 0 0 _ _ 0 [(0, .ref (b + 0)), (1, .int 2), (2, .int w1), (3, .int w2), (4, .int w3), (5, .int w4), (6, .ref (b + 431))] []
  refine z_aload B dL_set_0 6 rfl ?_
  refine z_iconst (v := 0) B dL_set_2 (by decide) ?_
  refine z_aload_n B dL_set_3 rfl 0 rfl ?_
  refine z_iload_n B dL_set_4 rfl 1 rfl ?_
  refine z_iload_n B dL_set_5 rfl 2 rfl ?_
  refine z_iload_n B dL_set_6 rfl 3 rfl ?_
  refine z_iload B dL_set_7 4 rfl ?_
  refine z_iload B dL_set_9 5 rfl ?_
  refine z_cXi (As := [.int 2, .int w1, .int w2, .int w3, .int w4]) (rest := [.int 0, .ref (b + 431)]) B htab tc_set_11_IllegalArgumentException cw_L_7 cx_9 dL_set_11 (ci_X8_set_201 l hlt (σ := (ap b σ [] [] [])) (b := b) (lyA hK) w1 w2 w3 w4 q1_w1 q2_w1 q1_w2 q2_w2 q1_w3 q2_w3 q1_w4 q2_w4 (rR_at 0 0 hR_0_0) (rR_at 1 2 hR_1_2)) (lKA (hk_K hK 0 rfl rfl)) rfl (by decide) rfl (Nat.le_of_ble_eq_true rfl) (by decide) (fun z q => ?_)
  refine z_eqs (σ' := (ap b (wx_Z σ z) [] [] [])) rfl ?_
  show zx p l e _ s m _ below meth c g 8 _ _ _ _ 23 [(0, .ref (b + 0)), (1, .int 2), (2, .int w1), (3, .int w2), (4, .int w3), (5, .int w4), (6, .ref (b + 431))] _
  refine z_astore (lv' := [(7, .ref q), (0, .ref (b + 0)), (1, .int 2), (2, .int w1), (3, .int w2), (4, .int w3), (5, .int w4), (6, .ref (b + 431))]) B dL_set_23 (by decide) rfl ?_
  refine z_iconst (v := 2) B dL_set_25 (by decide) ?_
  exact z_iret B hr (by decide) (by decide) dL_set_26 ⟨rfl, _, rfl⟩
set_option maxRecDepth 100000 in
set_option maxHeartbeats 4000000 in
theorem ci_X9_set_203 (l : Launch) {g : gx_T} {σ : sx_T} {b : Nat} (hK : lay b σ) (w1 : Int32) (w2 : Int32) (w3 : Int32) (w4 : Int32) (q1_w1 : (0 : Int) ≤ w1.toInt) (q2_w1 : w1.toInt ≤ (19 : Int)) (q1_w2 : (0 : Int) ≤ w2.toInt) (q2_w2 : w2.toInt ≤ (17 : Int)) (q1_w3 : (0 : Int) ≤ w3.toInt) (q2_w3 : w3.toInt ≤ (99 : Int)) (q1_w4 : (100 : Int) ≤ w4.toInt) (q2_w4 : w4.toInt ≤ (2147483647 : Int))  : Met l yX9_set (.code yX9_set cX9_set 7 (some .int) :: lw_g) { frames := 2, cells := 0, slots := 0, locals := 44 } (va_Pc [.ref (b + 405), .int 2, .int w1, .int w2, .int w3, .int w4] (zx_w g σ)) (va_Qi (fun r u => r = 0 ∧ u = (ap b σ [(405, 0, 2)] [] [])) (zx_w g) (gx_Q g)) 0 0 (gx_Q g) := by
  refine z_met (by decide) (Nat.le_of_ble_eq_true rfl) (fun p e s m below meth c B hr hin => ?_)
  refine z_eqs (σ' := (ap b σ [] [] [])) rfl ?_
  show zx p l e _ s m _ below meth c g 7 0 0 _ _ 0 [(0, .ref (b + 405)), (1, .int 2), (2, .int w1), (3, .int w2), (4, .int w3), (5, .int w4)] []
  refine z_aload_n B dX9_set_0 rfl 0 rfl ?_
  refine z_iload_n B dX9_set_1 rfl 1 rfl ?_
  refine z_iload_n B dX9_set_2 rfl 2 rfl ?_
  refine z_cSi (As := [.int 2, .int w1]) (rest := [.ref (b + 405)]) B cw_X9_238 dX9_set_3 (ci_X9_isStep_185 l (σ := (ap b σ [] [] [])) (b := b) (lyA hK) w1 q1_w1 q2_w1) rfl (by decide) rfl (Nat.le_of_ble_eq_true rfl) (by decide) (fun r u hu => ?_)
  refine z_eqs (σ' := (ap b σ [] [] [])) hu.2 ?_
  show zx p l e _ s m _ below meth c g 7 0 0 _ _ 6 [(0, .ref (b + 405)), (1, .int 2), (2, .int w1), (3, .int w2), (4, .int w3), (5, .int w4)] _
  refine z_seti (y := 1) hu.1 ?_
  refine z_iload_n B dX9_set_6 rfl 3 rfl ?_
  refine z_iload B dX9_set_7 4 rfl ?_
  refine z_iload B dX9_set_9 5 rfl ?_
  refine z_cSi (As := [.int w2, .int w3, .int w4]) (rest := [.int 1, .ref (b + 405)]) B cw_X9_242 dX9_set_11 (ci_X9_isOperation_43 l (σ := (ap b σ [] [] [])) (b := b) (lyA hK) w2 w3 w4 q1_w2 q2_w2 q1_w3 q2_w3 q1_w4 q2_w4) rfl (by decide) rfl (Nat.le_of_ble_eq_true rfl) (by decide) (fun r u hu => ?_)
  refine z_eqs (σ' := (ap b σ [] [] [])) hu.2 ?_
  show zx p l e _ s m _ below meth c g 7 0 0 _ _ 14 [(0, .ref (b + 405)), (1, .int 2), (2, .int w1), (3, .int w2), (4, .int w3), (5, .int w4)] _
  refine z_seti (y := 0) hu.1 ?_
  refine z_cVi (As := [.int 1, .int 0]) (rest := []) B cw_X9_245 cx_10 dX9_set_14 (ci_X9_needs__71 l (σ := (ap b σ [] [] [])) (b := b) (lyA hK) ) (lKA (hk_K hK 405 rfl rfl)) rfl (by decide) rfl (Nat.le_of_ble_eq_true rfl) (by decide) (fun r u hu => ?_)
  refine z_eqs (σ' := (ap b σ [(405, 0, 2)] [] [])) (hu.2.trans ap_ap) ?_
  show zx p l e _ s m _ below meth c g 7 0 0 _ _ 17 [(0, .ref (b + 405)), (1, .int 2), (2, .int w1), (3, .int w2), (4, .int w3), (5, .int w4)] _
  refine z_seti (y := 0) hu.1 ?_
  refine z_if_ne (tgt := 22) B dX9_set_17 (by decide) (fun h => absurd (by decide) h) (fun _ => ?_)
  refine z_iconst (v := 0) B dX9_set_20 (by decide) ?_
  exact z_iret B hr (by decide) (by decide) dX9_set_21 ⟨rfl, rfl⟩
set_option maxRecDepth 100000 in
set_option maxHeartbeats 4000000 in
theorem ci_X8_set_204 (l : Launch) (hlt : l.stackTraces = false) {g : gx_T} {σ : sx_T} {b : Nat} (hK : lay b σ) (w1 : Int32) (w2 : Int32) (w3 : Int32) (w4 : Int32) (q1_w1 : (0 : Int) ≤ w1.toInt) (q2_w1 : w1.toInt ≤ (19 : Int)) (q1_w2 : (0 : Int) ≤ w2.toInt) (q2_w2 : w2.toInt ≤ (17 : Int)) (q1_w3 : (100 : Int) ≤ w3.toInt) (q2_w3 : w3.toInt ≤ (2147483647 : Int)) (hR_0_0 : sx_R σ (b + 0) 0 = (some (b + 1))) (hR_1_2 : sx_R σ (b + 1) 2 = (some (b + 17))) : vx_Met l yX8_set (.code yX8_set cX8_set 9 (some .int) :: lw_g) { frames := 7, cells := 1, slots := 6, locals := 136 } (va_Pc [.ref (b + 0), .int 2, .int w1, .int w2, .int w3, .int w4] (zx_w g σ)) (va_Qi (S := sx_T) (fun _ _ => False) (zx_w g) (gx_Q g)) (vx_X (fun u : sx_T => ∃ z, u = wx_Z σ z) (fun E u t => E = "java/lang/IllegalArgumentException" ∧ zx_h g u t.heap) (gx_Q g)) 1 6 (gx_Q g) := by
  refine z_metX (by decide) (Nat.le_of_ble_eq_true rfl) (fun p e s m below meth c B hr hin hout => ?_)
  refine z_eqs (σ' := (ap b σ [] [] [])) rfl ?_
  show zx p l e _ s m _ below meth c g 9 0 0 _ _ 0 [(0, .ref (b + 0)), (1, .int 2), (2, .int w1), (3, .int w2), (4, .int w3), (5, .int w4)] []
  refine z_aload_n B dX8_set_0 rfl 0 rfl ?_
  refine z_iload_n B dX8_set_1 rfl 1 rfl ?_
  refine z_cVq (As := [.int 2]) (rest := []) B cw_X8_64 cx_9 dX8_set_2 (ci_X8_programAt_171 l (σ := (ap b σ [] [] [])) (b := b) (lyA hK) (rR_at 0 0 hR_0_0) (rR_at 1 2 hR_1_2)) (lKA (hk_K hK 0 rfl rfl)) rfl (by decide) rfl (Nat.le_of_ble_eq_true rfl) (by decide) (fun r u hu => ?_)
  refine z_eqs (σ' := (ap b σ [] [] [])) hu.2 ?_
  show zx p l e _ s m _ below meth c g 9 0 0 _ _ 5 [(0, .ref (b + 0)), (1, .int 2), (2, .int w1), (3, .int w2), (4, .int w3), (5, .int w4)] _
  refine z_setr (y := (some (b + 17))) hu.1 ?_
  refine z_astore (lv' := [(6, .ref (b + 17)), (0, .ref (b + 0)), (1, .int 2), (2, .int w1), (3, .int w2), (4, .int w3), (5, .int w4)]) B dX8_set_5 (by decide) rfl ?_
  refine z_aload B dX8_set_7 0 rfl ?_
  refine z_ifnull (r := (some (b + 17))) (tgt := 21) B dX8_set_9 (by decide) (fun h => nomatch h) (fun _ _ => ?_)
  refine z_iload_n B dX8_set_12 rfl 3 rfl ?_
  refine z_bipush (v := 20) B dX8_set_13 (by decide) ?_
  refine z_cSi (As := [.int w1, .int 20]) (rest := []) B cw_X8_68 dX8_set_15 (ci_X8_isBelow_64 l (σ := (ap b σ [] [] [])) (b := b) (lyA hK) w1 q1_w1 q2_w1) rfl (by decide) rfl (Nat.le_of_ble_eq_true rfl) (by decide) (fun r u hu => ?_)
  refine z_eqs (σ' := (ap b σ [] [] [])) hu.2 ?_
  show zx p l e _ s m _ below meth c g 9 0 0 _ _ 18 [(6, .ref (b + 17)), (0, .ref (b + 0)), (1, .int 2), (2, .int w1), (3, .int w2), (4, .int w3), (5, .int w4)] _
  refine z_seti (y := 1) hu.1 ?_
  refine z_if_ne (tgt := 31) B dX8_set_18 (by decide) (fun _ => ?_) (fun h => absurd h (by decide))
  refine z_iload_n B dX8_set_31 rfl 4 rfl ?_
  refine z_iload B dX8_set_32 5 rfl ?_
  refine z_iload B dX8_set_34 6 rfl ?_
  refine z_cSi (As := [.int w2, .int w3, .int w4]) (rest := []) B cw_X8_79 dX8_set_36 (ci_X8_isStep_101 l (σ := (ap b σ [] [] [])) (b := b) (lyA hK) w2 w3 w4 q1_w2 q2_w2 q1_w3 q2_w3) rfl (by decide) rfl (Nat.le_of_ble_eq_true rfl) (by decide) (fun r u hu => ?_)
  refine z_eqs (σ' := (ap b σ [] [] [])) hu.2 ?_
  show zx p l e _ s m _ below meth c g 9 0 0 _ _ 39 [(6, .ref (b + 17)), (0, .ref (b + 0)), (1, .int 2), (2, .int w1), (3, .int w2), (4, .int w3), (5, .int w4)] _
  refine z_seti (y := 0) hu.1 ?_
  refine z_if_ne (tgt := 52) B dX8_set_39 (by decide) (fun h => absurd (by decide) h) (fun _ => ?_)
  exact z_throw B hlt hout (cls := "java/lang/IllegalArgumentException") (text := "no such operation") tw_X8_83_85_87 dX8_set_42 dX8_set_45 dX8_set_46 dX8_set_48 dX8_set_51 (by decide) (by decide) (by decide) (by decide) (by decide) (by decide) (fun z => ⟨z, rfl⟩)
set_option maxRecDepth 100000 in
set_option maxHeartbeats 4000000 in
theorem ci_L_set_205 (l : Launch) (hlt : l.stackTraces = false) {g : gx_T} {σ : sx_T} {b : Nat} (hK : lay b σ) (w1 : Int32) (w2 : Int32) (w3 : Int32) (w4 : Int32) (q1_w1 : (0 : Int) ≤ w1.toInt) (q2_w1 : w1.toInt ≤ (19 : Int)) (q1_w2 : (0 : Int) ≤ w2.toInt) (q2_w2 : w2.toInt ≤ (17 : Int)) (q1_w3 : (100 : Int) ≤ w3.toInt) (q2_w3 : w3.toInt ≤ (2147483647 : Int)) (hR_0_0 : sx_R σ (b + 0) 0 = (some (b + 1))) (hR_1_2 : sx_R σ (b + 1) 2 = (some (b + 17))) : Met l yL_set (.codeWith yL_set cL_set 8 (some .int) [(0, 16, 19, 13), (0, 16, 23, 15)] :: lw_g) { frames := 8, cells := 1, slots := 6, locals := 164 } (va_Pc [.ref (b + 0), .int 2, .int w1, .int w2, .int w3, .int w4, .ref (b + 431)] (zx_w g σ)) (va_Qi (fun r u => r = 2 ∧ ∃ z, u = (ap b (wx_Z σ z) [] [] [])) (zx_w g) (gx_Q g)) 1 6 (gx_Q g) := by
  refine z_metW (by decide) (Nat.le_of_ble_eq_true rfl) (fun p e s m below meth c B hr htab => ?_)
  refine z_eqs (σ' := (ap b σ [] [] [])) rfl ?_
  show zx p l e _ s m _ below meth c g 8 0 0 _ _ 0 [(0, .ref (b + 0)), (1, .int 2), (2, .int w1), (3, .int w2), (4, .int w3), (5, .int w4), (6, .ref (b + 431))] []
  refine z_aload B dL_set_0 6 rfl ?_
  refine z_iconst (v := 0) B dL_set_2 (by decide) ?_
  refine z_aload_n B dL_set_3 rfl 0 rfl ?_
  refine z_iload_n B dL_set_4 rfl 1 rfl ?_
  refine z_iload_n B dL_set_5 rfl 2 rfl ?_
  refine z_iload_n B dL_set_6 rfl 3 rfl ?_
  refine z_iload B dL_set_7 4 rfl ?_
  refine z_iload B dL_set_9 5 rfl ?_
  refine z_cXi (As := [.int 2, .int w1, .int w2, .int w3, .int w4]) (rest := [.int 0, .ref (b + 431)]) B htab tc_set_11_IllegalArgumentException cw_L_7 cx_9 dL_set_11 (ci_X8_set_204 l hlt (σ := (ap b σ [] [] [])) (b := b) (lyA hK) w1 w2 w3 w4 q1_w1 q2_w1 q1_w2 q2_w2 q1_w3 q2_w3 (rR_at 0 0 hR_0_0) (rR_at 1 2 hR_1_2)) (lKA (hk_K hK 0 rfl rfl)) rfl (by decide) rfl (Nat.le_of_ble_eq_true rfl) (by decide) (fun z q => ?_)
  refine z_eqs (σ' := (ap b (wx_Z σ z) [] [] [])) rfl ?_
  show zx p l e _ s m _ below meth c g 8 _ _ _ _ 23 [(0, .ref (b + 0)), (1, .int 2), (2, .int w1), (3, .int w2), (4, .int w3), (5, .int w4), (6, .ref (b + 431))] _
  refine z_astore (lv' := [(7, .ref q), (0, .ref (b + 0)), (1, .int 2), (2, .int w1), (3, .int w2), (4, .int w3), (5, .int w4), (6, .ref (b + 431))]) B dL_set_23 (by decide) rfl ?_
  refine z_iconst (v := 2) B dL_set_25 (by decide) ?_
  exact z_iret B hr (by decide) (by decide) dL_set_26 ⟨rfl, _, rfl⟩
set_option maxRecDepth 100000 in
set_option maxHeartbeats 4000000 in
theorem ci_X9_set_206 (l : Launch) {g : gx_T} {σ : sx_T} {b : Nat} (hK : lay b σ) (w1 : Int32) (w2 : Int32) (w3 : Int32) (w4 : Int32) (q1_w1 : (0 : Int) ≤ w1.toInt) (q2_w1 : w1.toInt ≤ (19 : Int)) (q1_w2 : (0 : Int) ≤ w2.toInt) (q2_w2 : w2.toInt ≤ (17 : Int)) (q1_w3 : (100 : Int) ≤ w3.toInt) (q2_w3 : w3.toInt ≤ (2147483647 : Int))  : Met l yX9_set (.code yX9_set cX9_set 7 (some .int) :: lw_g) { frames := 2, cells := 0, slots := 0, locals := 44 } (va_Pc [.ref (b + 405), .int 2, .int w1, .int w2, .int w3, .int w4] (zx_w g σ)) (va_Qi (fun r u => r = 0 ∧ u = (ap b σ [(405, 0, 2)] [] [])) (zx_w g) (gx_Q g)) 0 0 (gx_Q g) := by
  refine z_met (by decide) (Nat.le_of_ble_eq_true rfl) (fun p e s m below meth c B hr hin => ?_)
  refine z_eqs (σ' := (ap b σ [] [] [])) rfl ?_
  show zx p l e _ s m _ below meth c g 7 0 0 _ _ 0 [(0, .ref (b + 405)), (1, .int 2), (2, .int w1), (3, .int w2), (4, .int w3), (5, .int w4)] []
  refine z_aload_n B dX9_set_0 rfl 0 rfl ?_
  refine z_iload_n B dX9_set_1 rfl 1 rfl ?_
  refine z_iload_n B dX9_set_2 rfl 2 rfl ?_
  refine z_cSi (As := [.int 2, .int w1]) (rest := [.ref (b + 405)]) B cw_X9_238 dX9_set_3 (ci_X9_isStep_185 l (σ := (ap b σ [] [] [])) (b := b) (lyA hK) w1 q1_w1 q2_w1) rfl (by decide) rfl (Nat.le_of_ble_eq_true rfl) (by decide) (fun r u hu => ?_)
  refine z_eqs (σ' := (ap b σ [] [] [])) hu.2 ?_
  show zx p l e _ s m _ below meth c g 7 0 0 _ _ 6 [(0, .ref (b + 405)), (1, .int 2), (2, .int w1), (3, .int w2), (4, .int w3), (5, .int w4)] _
  refine z_seti (y := 1) hu.1 ?_
  refine z_iload_n B dX9_set_6 rfl 3 rfl ?_
  refine z_iload B dX9_set_7 4 rfl ?_
  refine z_iload B dX9_set_9 5 rfl ?_
  refine z_cSi (As := [.int w2, .int w3, .int w4]) (rest := [.int 1, .ref (b + 405)]) B cw_X9_242 dX9_set_11 (ci_X9_isOperation_45 l (σ := (ap b σ [] [] [])) (b := b) (lyA hK) w2 w3 w4 q1_w2 q2_w2 q1_w3 q2_w3) rfl (by decide) rfl (Nat.le_of_ble_eq_true rfl) (by decide) (fun r u hu => ?_)
  refine z_eqs (σ' := (ap b σ [] [] [])) hu.2 ?_
  show zx p l e _ s m _ below meth c g 7 0 0 _ _ 14 [(0, .ref (b + 405)), (1, .int 2), (2, .int w1), (3, .int w2), (4, .int w3), (5, .int w4)] _
  refine z_seti (y := 0) hu.1 ?_
  refine z_cVi (As := [.int 1, .int 0]) (rest := []) B cw_X9_245 cx_10 dX9_set_14 (ci_X9_needs__71 l (σ := (ap b σ [] [] [])) (b := b) (lyA hK) ) (lKA (hk_K hK 405 rfl rfl)) rfl (by decide) rfl (Nat.le_of_ble_eq_true rfl) (by decide) (fun r u hu => ?_)
  refine z_eqs (σ' := (ap b σ [(405, 0, 2)] [] [])) (hu.2.trans ap_ap) ?_
  show zx p l e _ s m _ below meth c g 7 0 0 _ _ 17 [(0, .ref (b + 405)), (1, .int 2), (2, .int w1), (3, .int w2), (4, .int w3), (5, .int w4)] _
  refine z_seti (y := 0) hu.1 ?_
  refine z_if_ne (tgt := 22) B dX9_set_17 (by decide) (fun h => absurd (by decide) h) (fun _ => ?_)
  refine z_iconst (v := 0) B dX9_set_20 (by decide) ?_
  exact z_iret B hr (by decide) (by decide) dX9_set_21 ⟨rfl, rfl⟩
set_option maxRecDepth 100000 in
set_option maxHeartbeats 4000000 in
theorem ci_X8_set_207 (l : Launch) (hlt : l.stackTraces = false) {g : gx_T} {σ : sx_T} {b : Nat} (hK : lay b σ) (w1 : Int32) (w2 : Int32) (w3 : Int32) (w4 : Int32) (q1_w1 : (0 : Int) ≤ w1.toInt) (q2_w1 : w1.toInt ≤ (19 : Int)) (q1_w2 : (18 : Int) ≤ w2.toInt) (q2_w2 : w2.toInt ≤ (2147483647 : Int)) (hR_0_0 : sx_R σ (b + 0) 0 = (some (b + 1))) (hR_1_2 : sx_R σ (b + 1) 2 = (some (b + 17))) : vx_Met l yX8_set (.code yX8_set cX8_set 9 (some .int) :: lw_g) { frames := 7, cells := 1, slots := 6, locals := 136 } (va_Pc [.ref (b + 0), .int 2, .int w1, .int w2, .int w3, .int w4] (zx_w g σ)) (va_Qi (S := sx_T) (fun _ _ => False) (zx_w g) (gx_Q g)) (vx_X (fun u : sx_T => ∃ z, u = wx_Z σ z) (fun E u t => E = "java/lang/IllegalArgumentException" ∧ zx_h g u t.heap) (gx_Q g)) 1 6 (gx_Q g) := by
  refine z_metX (by decide) (Nat.le_of_ble_eq_true rfl) (fun p e s m below meth c B hr hin hout => ?_)
  refine z_eqs (σ' := (ap b σ [] [] [])) rfl ?_
  show zx p l e _ s m _ below meth c g 9 0 0 _ _ 0 [(0, .ref (b + 0)), (1, .int 2), (2, .int w1), (3, .int w2), (4, .int w3), (5, .int w4)] []
  refine z_aload_n B dX8_set_0 rfl 0 rfl ?_
  refine z_iload_n B dX8_set_1 rfl 1 rfl ?_
  refine z_cVq (As := [.int 2]) (rest := []) B cw_X8_64 cx_9 dX8_set_2 (ci_X8_programAt_171 l (σ := (ap b σ [] [] [])) (b := b) (lyA hK) (rR_at 0 0 hR_0_0) (rR_at 1 2 hR_1_2)) (lKA (hk_K hK 0 rfl rfl)) rfl (by decide) rfl (Nat.le_of_ble_eq_true rfl) (by decide) (fun r u hu => ?_)
  refine z_eqs (σ' := (ap b σ [] [] [])) hu.2 ?_
  show zx p l e _ s m _ below meth c g 9 0 0 _ _ 5 [(0, .ref (b + 0)), (1, .int 2), (2, .int w1), (3, .int w2), (4, .int w3), (5, .int w4)] _
  refine z_setr (y := (some (b + 17))) hu.1 ?_
  refine z_astore (lv' := [(6, .ref (b + 17)), (0, .ref (b + 0)), (1, .int 2), (2, .int w1), (3, .int w2), (4, .int w3), (5, .int w4)]) B dX8_set_5 (by decide) rfl ?_
  refine z_aload B dX8_set_7 0 rfl ?_
  refine z_ifnull (r := (some (b + 17))) (tgt := 21) B dX8_set_9 (by decide) (fun h => nomatch h) (fun _ _ => ?_)
  refine z_iload_n B dX8_set_12 rfl 3 rfl ?_
  refine z_bipush (v := 20) B dX8_set_13 (by decide) ?_
  refine z_cSi (As := [.int w1, .int 20]) (rest := []) B cw_X8_68 dX8_set_15 (ci_X8_isBelow_64 l (σ := (ap b σ [] [] [])) (b := b) (lyA hK) w1 q1_w1 q2_w1) rfl (by decide) rfl (Nat.le_of_ble_eq_true rfl) (by decide) (fun r u hu => ?_)
  refine z_eqs (σ' := (ap b σ [] [] [])) hu.2 ?_
  show zx p l e _ s m _ below meth c g 9 0 0 _ _ 18 [(6, .ref (b + 17)), (0, .ref (b + 0)), (1, .int 2), (2, .int w1), (3, .int w2), (4, .int w3), (5, .int w4)] _
  refine z_seti (y := 1) hu.1 ?_
  refine z_if_ne (tgt := 31) B dX8_set_18 (by decide) (fun _ => ?_) (fun h => absurd h (by decide))
  refine z_iload_n B dX8_set_31 rfl 4 rfl ?_
  refine z_iload B dX8_set_32 5 rfl ?_
  refine z_iload B dX8_set_34 6 rfl ?_
  refine z_cSi (As := [.int w2, .int w3, .int w4]) (rest := []) B cw_X8_79 dX8_set_36 (ci_X8_isStep_106 l (σ := (ap b σ [] [] [])) (b := b) (lyA hK) w2 w3 w4 q1_w2 q2_w2) rfl (by decide) rfl (Nat.le_of_ble_eq_true rfl) (by decide) (fun r u hu => ?_)
  refine z_eqs (σ' := (ap b σ [] [] [])) hu.2 ?_
  show zx p l e _ s m _ below meth c g 9 0 0 _ _ 39 [(6, .ref (b + 17)), (0, .ref (b + 0)), (1, .int 2), (2, .int w1), (3, .int w2), (4, .int w3), (5, .int w4)] _
  refine z_seti (y := 0) hu.1 ?_
  refine z_if_ne (tgt := 52) B dX8_set_39 (by decide) (fun h => absurd (by decide) h) (fun _ => ?_)
  exact z_throw B hlt hout (cls := "java/lang/IllegalArgumentException") (text := "no such operation") tw_X8_83_85_87 dX8_set_42 dX8_set_45 dX8_set_46 dX8_set_48 dX8_set_51 (by decide) (by decide) (by decide) (by decide) (by decide) (by decide) (fun z => ⟨z, rfl⟩)
set_option maxRecDepth 100000 in
set_option maxHeartbeats 4000000 in
theorem ci_L_set_208 (l : Launch) (hlt : l.stackTraces = false) {g : gx_T} {σ : sx_T} {b : Nat} (hK : lay b σ) (w1 : Int32) (w2 : Int32) (w3 : Int32) (w4 : Int32) (q1_w1 : (0 : Int) ≤ w1.toInt) (q2_w1 : w1.toInt ≤ (19 : Int)) (q1_w2 : (18 : Int) ≤ w2.toInt) (q2_w2 : w2.toInt ≤ (2147483647 : Int)) (hR_0_0 : sx_R σ (b + 0) 0 = (some (b + 1))) (hR_1_2 : sx_R σ (b + 1) 2 = (some (b + 17))) : Met l yL_set (.codeWith yL_set cL_set 8 (some .int) [(0, 16, 19, 13), (0, 16, 23, 15)] :: lw_g) { frames := 8, cells := 1, slots := 6, locals := 164 } (va_Pc [.ref (b + 0), .int 2, .int w1, .int w2, .int w3, .int w4, .ref (b + 431)] (zx_w g σ)) (va_Qi (fun r u => r = 2 ∧ ∃ z, u = (ap b (wx_Z σ z) [] [] [])) (zx_w g) (gx_Q g)) 1 6 (gx_Q g) := by
  refine z_metW (by decide) (Nat.le_of_ble_eq_true rfl) (fun p e s m below meth c B hr htab => ?_)
  refine z_eqs (σ' := (ap b σ [] [] [])) rfl ?_
  show zx p l e _ s m _ below meth c g 8 0 0 _ _ 0 [(0, .ref (b + 0)), (1, .int 2), (2, .int w1), (3, .int w2), (4, .int w3), (5, .int w4), (6, .ref (b + 431))] []
  refine z_aload B dL_set_0 6 rfl ?_
  refine z_iconst (v := 0) B dL_set_2 (by decide) ?_
  refine z_aload_n B dL_set_3 rfl 0 rfl ?_
  refine z_iload_n B dL_set_4 rfl 1 rfl ?_
  refine z_iload_n B dL_set_5 rfl 2 rfl ?_
  refine z_iload_n B dL_set_6 rfl 3 rfl ?_
  refine z_iload B dL_set_7 4 rfl ?_
  refine z_iload B dL_set_9 5 rfl ?_
  refine z_cXi (As := [.int 2, .int w1, .int w2, .int w3, .int w4]) (rest := [.int 0, .ref (b + 431)]) B htab tc_set_11_IllegalArgumentException cw_L_7 cx_9 dL_set_11 (ci_X8_set_207 l hlt (σ := (ap b σ [] [] [])) (b := b) (lyA hK) w1 w2 w3 w4 q1_w1 q2_w1 q1_w2 q2_w2 (rR_at 0 0 hR_0_0) (rR_at 1 2 hR_1_2)) (lKA (hk_K hK 0 rfl rfl)) rfl (by decide) rfl (Nat.le_of_ble_eq_true rfl) (by decide) (fun z q => ?_)
  refine z_eqs (σ' := (ap b (wx_Z σ z) [] [] [])) rfl ?_
  show zx p l e _ s m _ below meth c g 8 _ _ _ _ 23 [(0, .ref (b + 0)), (1, .int 2), (2, .int w1), (3, .int w2), (4, .int w3), (5, .int w4), (6, .ref (b + 431))] _
  refine z_astore (lv' := [(7, .ref q), (0, .ref (b + 0)), (1, .int 2), (2, .int w1), (3, .int w2), (4, .int w3), (5, .int w4), (6, .ref (b + 431))]) B dL_set_23 (by decide) rfl ?_
  refine z_iconst (v := 2) B dL_set_25 (by decide) ?_
  exact z_iret B hr (by decide) (by decide) dL_set_26 ⟨rfl, _, rfl⟩
set_option maxRecDepth 100000 in
set_option maxHeartbeats 4000000 in
theorem ci_X9_set_209 (l : Launch) {g : gx_T} {σ : sx_T} {b : Nat} (hK : lay b σ) (w1 : Int32) (w2 : Int32) (w3 : Int32) (w4 : Int32) (q1_w1 : (0 : Int) ≤ w1.toInt) (q2_w1 : w1.toInt ≤ (19 : Int)) (q1_w2 : (18 : Int) ≤ w2.toInt) (q2_w2 : w2.toInt ≤ (2147483647 : Int))  : Met l yX9_set (.code yX9_set cX9_set 7 (some .int) :: lw_g) { frames := 2, cells := 0, slots := 0, locals := 44 } (va_Pc [.ref (b + 405), .int 2, .int w1, .int w2, .int w3, .int w4] (zx_w g σ)) (va_Qi (fun r u => r = 0 ∧ u = (ap b σ [(405, 0, 2)] [] [])) (zx_w g) (gx_Q g)) 0 0 (gx_Q g) := by
  refine z_met (by decide) (Nat.le_of_ble_eq_true rfl) (fun p e s m below meth c B hr hin => ?_)
  refine z_eqs (σ' := (ap b σ [] [] [])) rfl ?_
  show zx p l e _ s m _ below meth c g 7 0 0 _ _ 0 [(0, .ref (b + 405)), (1, .int 2), (2, .int w1), (3, .int w2), (4, .int w3), (5, .int w4)] []
  refine z_aload_n B dX9_set_0 rfl 0 rfl ?_
  refine z_iload_n B dX9_set_1 rfl 1 rfl ?_
  refine z_iload_n B dX9_set_2 rfl 2 rfl ?_
  refine z_cSi (As := [.int 2, .int w1]) (rest := [.ref (b + 405)]) B cw_X9_238 dX9_set_3 (ci_X9_isStep_185 l (σ := (ap b σ [] [] [])) (b := b) (lyA hK) w1 q1_w1 q2_w1) rfl (by decide) rfl (Nat.le_of_ble_eq_true rfl) (by decide) (fun r u hu => ?_)
  refine z_eqs (σ' := (ap b σ [] [] [])) hu.2 ?_
  show zx p l e _ s m _ below meth c g 7 0 0 _ _ 6 [(0, .ref (b + 405)), (1, .int 2), (2, .int w1), (3, .int w2), (4, .int w3), (5, .int w4)] _
  refine z_seti (y := 1) hu.1 ?_
  refine z_iload_n B dX9_set_6 rfl 3 rfl ?_
  refine z_iload B dX9_set_7 4 rfl ?_
  refine z_iload B dX9_set_9 5 rfl ?_
  refine z_cSi (As := [.int w2, .int w3, .int w4]) (rest := [.int 1, .ref (b + 405)]) B cw_X9_242 dX9_set_11 (ci_X9_isOperation_48 l (σ := (ap b σ [] [] [])) (b := b) (lyA hK) w2 w3 w4 q1_w2 q2_w2) rfl (by decide) rfl (Nat.le_of_ble_eq_true rfl) (by decide) (fun r u hu => ?_)
  refine z_eqs (σ' := (ap b σ [] [] [])) hu.2 ?_
  show zx p l e _ s m _ below meth c g 7 0 0 _ _ 14 [(0, .ref (b + 405)), (1, .int 2), (2, .int w1), (3, .int w2), (4, .int w3), (5, .int w4)] _
  refine z_seti (y := 0) hu.1 ?_
  refine z_cVi (As := [.int 1, .int 0]) (rest := []) B cw_X9_245 cx_10 dX9_set_14 (ci_X9_needs__71 l (σ := (ap b σ [] [] [])) (b := b) (lyA hK) ) (lKA (hk_K hK 405 rfl rfl)) rfl (by decide) rfl (Nat.le_of_ble_eq_true rfl) (by decide) (fun r u hu => ?_)
  refine z_eqs (σ' := (ap b σ [(405, 0, 2)] [] [])) (hu.2.trans ap_ap) ?_
  show zx p l e _ s m _ below meth c g 7 0 0 _ _ 17 [(0, .ref (b + 405)), (1, .int 2), (2, .int w1), (3, .int w2), (4, .int w3), (5, .int w4)] _
  refine z_seti (y := 0) hu.1 ?_
  refine z_if_ne (tgt := 22) B dX9_set_17 (by decide) (fun h => absurd (by decide) h) (fun _ => ?_)
  refine z_iconst (v := 0) B dX9_set_20 (by decide) ?_
  exact z_iret B hr (by decide) (by decide) dX9_set_21 ⟨rfl, rfl⟩
set_option maxRecDepth 100000 in
set_option maxHeartbeats 4000000 in
theorem ci_X8_set_210 (l : Launch) (hlt : l.stackTraces = false) {g : gx_T} {σ : sx_T} {b : Nat} (hK : lay b σ) (w1 : Int32) (w2 : Int32) (w3 : Int32) (w4 : Int32) (q1_w1 : (20 : Int) ≤ w1.toInt) (q2_w1 : w1.toInt ≤ (2147483647 : Int)) (hR_0_0 : sx_R σ (b + 0) 0 = (some (b + 1))) (hR_1_2 : sx_R σ (b + 1) 2 = (some (b + 17))) : vx_Met l yX8_set (.code yX8_set cX8_set 9 (some .int) :: lw_g) { frames := 7, cells := 1, slots := 6, locals := 136 } (va_Pc [.ref (b + 0), .int 2, .int w1, .int w2, .int w3, .int w4] (zx_w g σ)) (va_Qi (S := sx_T) (fun _ _ => False) (zx_w g) (gx_Q g)) (vx_X (fun u : sx_T => ∃ z, u = wx_Z σ z) (fun E u t => E = "java/lang/IndexOutOfBoundsException" ∧ zx_h g u t.heap) (gx_Q g)) 1 6 (gx_Q g) := by
  refine z_metX (by decide) (Nat.le_of_ble_eq_true rfl) (fun p e s m below meth c B hr hin hout => ?_)
  refine z_eqs (σ' := (ap b σ [] [] [])) rfl ?_
  show zx p l e _ s m _ below meth c g 9 0 0 _ _ 0 [(0, .ref (b + 0)), (1, .int 2), (2, .int w1), (3, .int w2), (4, .int w3), (5, .int w4)] []
  refine z_aload_n B dX8_set_0 rfl 0 rfl ?_
  refine z_iload_n B dX8_set_1 rfl 1 rfl ?_
  refine z_cVq (As := [.int 2]) (rest := []) B cw_X8_64 cx_9 dX8_set_2 (ci_X8_programAt_171 l (σ := (ap b σ [] [] [])) (b := b) (lyA hK) (rR_at 0 0 hR_0_0) (rR_at 1 2 hR_1_2)) (lKA (hk_K hK 0 rfl rfl)) rfl (by decide) rfl (Nat.le_of_ble_eq_true rfl) (by decide) (fun r u hu => ?_)
  refine z_eqs (σ' := (ap b σ [] [] [])) hu.2 ?_
  show zx p l e _ s m _ below meth c g 9 0 0 _ _ 5 [(0, .ref (b + 0)), (1, .int 2), (2, .int w1), (3, .int w2), (4, .int w3), (5, .int w4)] _
  refine z_setr (y := (some (b + 17))) hu.1 ?_
  refine z_astore (lv' := [(6, .ref (b + 17)), (0, .ref (b + 0)), (1, .int 2), (2, .int w1), (3, .int w2), (4, .int w3), (5, .int w4)]) B dX8_set_5 (by decide) rfl ?_
  refine z_aload B dX8_set_7 0 rfl ?_
  refine z_ifnull (r := (some (b + 17))) (tgt := 21) B dX8_set_9 (by decide) (fun h => nomatch h) (fun _ _ => ?_)
  refine z_iload_n B dX8_set_12 rfl 3 rfl ?_
  refine z_bipush (v := 20) B dX8_set_13 (by decide) ?_
  refine z_cSi (As := [.int w1, .int 20]) (rest := []) B cw_X8_68 dX8_set_15 (ci_X8_isBelow_110 l (σ := (ap b σ [] [] [])) (b := b) (lyA hK) w1 q1_w1 q2_w1) rfl (by decide) rfl (Nat.le_of_ble_eq_true rfl) (by decide) (fun r u hu => ?_)
  refine z_eqs (σ' := (ap b σ [] [] [])) hu.2 ?_
  show zx p l e _ s m _ below meth c g 9 0 0 _ _ 18 [(6, .ref (b + 17)), (0, .ref (b + 0)), (1, .int 2), (2, .int w1), (3, .int w2), (4, .int w3), (5, .int w4)] _
  refine z_seti (y := 0) hu.1 ?_
  refine z_if_ne (tgt := 31) B dX8_set_18 (by decide) (fun h => absurd (by decide) h) (fun _ => ?_)
  exact z_throw B hlt hout (cls := "java/lang/IndexOutOfBoundsException") (text := "no such step") tw_X8_72_74_76 dX8_set_21 dX8_set_24 dX8_set_25 dX8_set_27 dX8_set_30 (by decide) (by decide) (by decide) (by decide) (by decide) (by decide) (fun z => ⟨z, rfl⟩)
set_option maxRecDepth 100000 in
set_option maxHeartbeats 4000000 in
theorem ci_L_set_211 (l : Launch) (hlt : l.stackTraces = false) {g : gx_T} {σ : sx_T} {b : Nat} (hK : lay b σ) (w1 : Int32) (w2 : Int32) (w3 : Int32) (w4 : Int32) (q1_w1 : (20 : Int) ≤ w1.toInt) (q2_w1 : w1.toInt ≤ (2147483647 : Int)) (hR_0_0 : sx_R σ (b + 0) 0 = (some (b + 1))) (hR_1_2 : sx_R σ (b + 1) 2 = (some (b + 17))) : Met l yL_set (.codeWith yL_set cL_set 8 (some .int) [(0, 16, 19, 13), (0, 16, 23, 15)] :: lw_g) { frames := 8, cells := 1, slots := 6, locals := 164 } (va_Pc [.ref (b + 0), .int 2, .int w1, .int w2, .int w3, .int w4, .ref (b + 431)] (zx_w g σ)) (va_Qi (fun r u => r = 1 ∧ ∃ z, u = (ap b (wx_Z σ z) [] [] [])) (zx_w g) (gx_Q g)) 1 6 (gx_Q g) := by
  refine z_metW (by decide) (Nat.le_of_ble_eq_true rfl) (fun p e s m below meth c B hr htab => ?_)
  refine z_eqs (σ' := (ap b σ [] [] [])) rfl ?_
  show zx p l e _ s m _ below meth c g 8 0 0 _ _ 0 [(0, .ref (b + 0)), (1, .int 2), (2, .int w1), (3, .int w2), (4, .int w3), (5, .int w4), (6, .ref (b + 431))] []
  refine z_aload B dL_set_0 6 rfl ?_
  refine z_iconst (v := 0) B dL_set_2 (by decide) ?_
  refine z_aload_n B dL_set_3 rfl 0 rfl ?_
  refine z_iload_n B dL_set_4 rfl 1 rfl ?_
  refine z_iload_n B dL_set_5 rfl 2 rfl ?_
  refine z_iload_n B dL_set_6 rfl 3 rfl ?_
  refine z_iload B dL_set_7 4 rfl ?_
  refine z_iload B dL_set_9 5 rfl ?_
  refine z_cXi (As := [.int 2, .int w1, .int w2, .int w3, .int w4]) (rest := [.int 0, .ref (b + 431)]) B htab tc_set_11_IndexOutOfBoundsException cw_L_7 cx_9 dL_set_11 (ci_X8_set_210 l hlt (σ := (ap b σ [] [] [])) (b := b) (lyA hK) w1 w2 w3 w4 q1_w1 q2_w1 (rR_at 0 0 hR_0_0) (rR_at 1 2 hR_1_2)) (lKA (hk_K hK 0 rfl rfl)) rfl (by decide) rfl (Nat.le_of_ble_eq_true rfl) (by decide) (fun z q => ?_)
  refine z_eqs (σ' := (ap b (wx_Z σ z) [] [] [])) rfl ?_
  show zx p l e _ s m _ below meth c g 8 _ _ _ _ 19 [(0, .ref (b + 0)), (1, .int 2), (2, .int w1), (3, .int w2), (4, .int w3), (5, .int w4), (6, .ref (b + 431))] _
  refine z_astore (lv' := [(7, .ref q), (0, .ref (b + 0)), (1, .int 2), (2, .int w1), (3, .int w2), (4, .int w3), (5, .int w4), (6, .ref (b + 431))]) B dL_set_19 (by decide) rfl ?_
  refine z_iconst (v := 1) B dL_set_21 (by decide) ?_
  exact z_iret B hr (by decide) (by decide) dL_set_22 ⟨rfl, _, rfl⟩
set_option maxRecDepth 100000 in
set_option maxHeartbeats 4000000 in
theorem ci_X9_isStep_212 (l : Launch) {g : gx_T} {σ : sx_T} {b : Nat} (hK : lay b σ) (w1 : Int32) (q1_w1 : (20 : Int) ≤ w1.toInt) (q2_w1 : w1.toInt ≤ (2147483647 : Int))  : Met l yX9_isStep (.code yX9_isStep cX9_isStep 2 (some .boolean) :: lw_g) { frames := 1, cells := 0, slots := 0, locals := 22 } (va_Pc [.int 2, .int w1] (zx_w g σ)) (va_Qi (fun r u => r = 0 ∧ u = σ) (zx_w g) (gx_Q g)) 0 0 (gx_Q g) := by
  refine z_met (by decide) (Nat.le_of_ble_eq_true rfl) (fun p e s m below meth c B hr hin => ?_)
  refine z_eqs (σ' := (ap b σ [] [] [])) rfl ?_
  show zx p l e _ s m _ below meth c g 2 0 0 _ _ 0 [(0, .int 2), (1, .int w1)] []
  refine z_iload_n B dX9_isStep_0 rfl 0 rfl ?_
  refine z_iconst (v := 0) B dX9_isStep_1 (by decide) ?_
  refine z_iconst (v := 5) B dX9_isStep_2 (by decide) ?_
  refine z_cSi (As := [.int 2, .int 0, .int 5]) (rest := []) B cw_X9_96 dX9_isStep_3 (ci_X9_in_174 l (σ := (ap b σ [] [] [])) (b := b) (lyA hK) ) rfl (by decide) rfl (Nat.le_of_ble_eq_true rfl) (by decide) (fun r u hu => ?_)
  refine z_eqs (σ' := (ap b σ [] [] [])) hu.2 ?_
  show zx p l e _ s m _ below meth c g 2 0 0 _ _ 6 [(0, .int 2), (1, .int w1)] _
  refine z_seti (y := 1) hu.1 ?_
  refine z_if_eq (tgt := 23) B dX9_isStep_6 (by decide) (fun h => absurd h (by decide)) (fun _ => ?_)
  refine z_iload_n B dX9_isStep_9 rfl 1 rfl ?_
  refine z_iconst (v := 0) B dX9_isStep_10 (by decide) ?_
  refine z_bipush (v := 19) B dX9_isStep_11 (by decide) ?_
  refine z_cSi (As := [.int w1, .int 0, .int 19]) (rest := []) B cw_X9_96 dX9_isStep_13 (ci_X9_in_113 l (σ := (ap b σ [] [] [])) (b := b) (lyA hK) w1 q1_w1 q2_w1) rfl (by decide) rfl (Nat.le_of_ble_eq_true rfl) (by decide) (fun r u hu => ?_)
  refine z_eqs (σ' := (ap b σ [] [] [])) hu.2 ?_
  show zx p l e _ s m _ below meth c g 2 0 0 _ _ 16 [(0, .int 2), (1, .int w1)] _
  refine z_seti (y := 0) hu.1 ?_
  refine z_if_eq (tgt := 23) B dX9_isStep_16 (by decide) (fun _ => ?_) (fun h => absurd (by decide) h)
  refine z_iconst (v := 0) B dX9_isStep_23 (by decide) ?_
  exact z_zret B hr (by decide) (by decide) (by decide) dX9_isStep_24 ⟨rfl, rfl⟩
set_option maxRecDepth 100000 in
set_option maxHeartbeats 4000000 in
theorem ci_X9_set_213 (l : Launch) {g : gx_T} {σ : sx_T} {b : Nat} (hK : lay b σ) (w1 : Int32) (w2 : Int32) (w3 : Int32) (w4 : Int32) (q1_w1 : (20 : Int) ≤ w1.toInt) (q2_w1 : w1.toInt ≤ (2147483647 : Int)) (q1_w2 : (-2147483648 : Int) ≤ w2.toInt) (q2_w2 : w2.toInt ≤ (-1 : Int))  : Met l yX9_set (.code yX9_set cX9_set 7 (some .int) :: lw_g) { frames := 2, cells := 0, slots := 0, locals := 44 } (va_Pc [.ref (b + 405), .int 2, .int w1, .int w2, .int w3, .int w4] (zx_w g σ)) (va_Qi (fun r u => r = 0 ∧ u = (ap b σ [(405, 0, 1)] [] [])) (zx_w g) (gx_Q g)) 0 0 (gx_Q g) := by
  refine z_met (by decide) (Nat.le_of_ble_eq_true rfl) (fun p e s m below meth c B hr hin => ?_)
  refine z_eqs (σ' := (ap b σ [] [] [])) rfl ?_
  show zx p l e _ s m _ below meth c g 7 0 0 _ _ 0 [(0, .ref (b + 405)), (1, .int 2), (2, .int w1), (3, .int w2), (4, .int w3), (5, .int w4)] []
  refine z_aload_n B dX9_set_0 rfl 0 rfl ?_
  refine z_iload_n B dX9_set_1 rfl 1 rfl ?_
  refine z_iload_n B dX9_set_2 rfl 2 rfl ?_
  refine z_cSi (As := [.int 2, .int w1]) (rest := [.ref (b + 405)]) B cw_X9_238 dX9_set_3 (ci_X9_isStep_212 l (σ := (ap b σ [] [] [])) (b := b) (lyA hK) w1 q1_w1 q2_w1) rfl (by decide) rfl (Nat.le_of_ble_eq_true rfl) (by decide) (fun r u hu => ?_)
  refine z_eqs (σ' := (ap b σ [] [] [])) hu.2 ?_
  show zx p l e _ s m _ below meth c g 7 0 0 _ _ 6 [(0, .ref (b + 405)), (1, .int 2), (2, .int w1), (3, .int w2), (4, .int w3), (5, .int w4)] _
  refine z_seti (y := 0) hu.1 ?_
  refine z_iload_n B dX9_set_6 rfl 3 rfl ?_
  refine z_iload B dX9_set_7 4 rfl ?_
  refine z_iload B dX9_set_9 5 rfl ?_
  refine z_cSi (As := [.int w2, .int w3, .int w4]) (rest := [.int 0, .ref (b + 405)]) B cw_X9_242 dX9_set_11 (ci_X9_isOperation_28 l (σ := (ap b σ [] [] [])) (b := b) (lyA hK) w2 w3 w4 q1_w2 q2_w2) rfl (by decide) rfl (Nat.le_of_ble_eq_true rfl) (by decide) (fun r u hu => ?_)
  refine z_eqs (σ' := (ap b σ [] [] [])) hu.2 ?_
  show zx p l e _ s m _ below meth c g 7 0 0 _ _ 14 [(0, .ref (b + 405)), (1, .int 2), (2, .int w1), (3, .int w2), (4, .int w3), (5, .int w4)] _
  refine z_seti (y := 0) hu.1 ?_
  refine z_cVi (As := [.int 0, .int 0]) (rest := []) B cw_X9_245 cx_10 dX9_set_14 (ci_X9_needs__29 l (σ := (ap b σ [] [] [])) (b := b) (lyA hK) ) (lKA (hk_K hK 405 rfl rfl)) rfl (by decide) rfl (Nat.le_of_ble_eq_true rfl) (by decide) (fun r u hu => ?_)
  refine z_eqs (σ' := (ap b σ [(405, 0, 1)] [] [])) (hu.2.trans ap_ap) ?_
  show zx p l e _ s m _ below meth c g 7 0 0 _ _ 17 [(0, .ref (b + 405)), (1, .int 2), (2, .int w1), (3, .int w2), (4, .int w3), (5, .int w4)] _
  refine z_seti (y := 0) hu.1 ?_
  refine z_if_ne (tgt := 22) B dX9_set_17 (by decide) (fun h => absurd (by decide) h) (fun _ => ?_)
  refine z_iconst (v := 0) B dX9_set_20 (by decide) ?_
  exact z_iret B hr (by decide) (by decide) dX9_set_21 ⟨rfl, rfl⟩
set_option maxRecDepth 100000 in
set_option maxHeartbeats 4000000 in
theorem ci_X9_set_214 (l : Launch) {g : gx_T} {σ : sx_T} {b : Nat} (hK : lay b σ) (w1 : Int32) (w2 : Int32) (w3 : Int32) (w4 : Int32) (q1_w1 : (20 : Int) ≤ w1.toInt) (q2_w1 : w1.toInt ≤ (2147483647 : Int)) (q1_w2 : (0 : Int) ≤ w2.toInt) (q2_w2 : w2.toInt ≤ (17 : Int)) (q1_w3 : (-2147483648 : Int) ≤ w3.toInt) (q2_w3 : w3.toInt ≤ (-1 : Int))  : Met l yX9_set (.code yX9_set cX9_set 7 (some .int) :: lw_g) { frames := 2, cells := 0, slots := 0, locals := 44 } (va_Pc [.ref (b + 405), .int 2, .int w1, .int w2, .int w3, .int w4] (zx_w g σ)) (va_Qi (fun r u => r = 0 ∧ u = (ap b σ [(405, 0, 1)] [] [])) (zx_w g) (gx_Q g)) 0 0 (gx_Q g) := by
  refine z_met (by decide) (Nat.le_of_ble_eq_true rfl) (fun p e s m below meth c B hr hin => ?_)
  refine z_eqs (σ' := (ap b σ [] [] [])) rfl ?_
  show zx p l e _ s m _ below meth c g 7 0 0 _ _ 0 [(0, .ref (b + 405)), (1, .int 2), (2, .int w1), (3, .int w2), (4, .int w3), (5, .int w4)] []
  refine z_aload_n B dX9_set_0 rfl 0 rfl ?_
  refine z_iload_n B dX9_set_1 rfl 1 rfl ?_
  refine z_iload_n B dX9_set_2 rfl 2 rfl ?_
  refine z_cSi (As := [.int 2, .int w1]) (rest := [.ref (b + 405)]) B cw_X9_238 dX9_set_3 (ci_X9_isStep_212 l (σ := (ap b σ [] [] [])) (b := b) (lyA hK) w1 q1_w1 q2_w1) rfl (by decide) rfl (Nat.le_of_ble_eq_true rfl) (by decide) (fun r u hu => ?_)
  refine z_eqs (σ' := (ap b σ [] [] [])) hu.2 ?_
  show zx p l e _ s m _ below meth c g 7 0 0 _ _ 6 [(0, .ref (b + 405)), (1, .int 2), (2, .int w1), (3, .int w2), (4, .int w3), (5, .int w4)] _
  refine z_seti (y := 0) hu.1 ?_
  refine z_iload_n B dX9_set_6 rfl 3 rfl ?_
  refine z_iload B dX9_set_7 4 rfl ?_
  refine z_iload B dX9_set_9 5 rfl ?_
  refine z_cSi (As := [.int w2, .int w3, .int w4]) (rest := [.int 0, .ref (b + 405)]) B cw_X9_242 dX9_set_11 (ci_X9_isOperation_34 l (σ := (ap b σ [] [] [])) (b := b) (lyA hK) w2 w3 w4 q1_w2 q2_w2 q1_w3 q2_w3) rfl (by decide) rfl (Nat.le_of_ble_eq_true rfl) (by decide) (fun r u hu => ?_)
  refine z_eqs (σ' := (ap b σ [] [] [])) hu.2 ?_
  show zx p l e _ s m _ below meth c g 7 0 0 _ _ 14 [(0, .ref (b + 405)), (1, .int 2), (2, .int w1), (3, .int w2), (4, .int w3), (5, .int w4)] _
  refine z_seti (y := 0) hu.1 ?_
  refine z_cVi (As := [.int 0, .int 0]) (rest := []) B cw_X9_245 cx_10 dX9_set_14 (ci_X9_needs__29 l (σ := (ap b σ [] [] [])) (b := b) (lyA hK) ) (lKA (hk_K hK 405 rfl rfl)) rfl (by decide) rfl (Nat.le_of_ble_eq_true rfl) (by decide) (fun r u hu => ?_)
  refine z_eqs (σ' := (ap b σ [(405, 0, 1)] [] [])) (hu.2.trans ap_ap) ?_
  show zx p l e _ s m _ below meth c g 7 0 0 _ _ 17 [(0, .ref (b + 405)), (1, .int 2), (2, .int w1), (3, .int w2), (4, .int w3), (5, .int w4)] _
  refine z_seti (y := 0) hu.1 ?_
  refine z_if_ne (tgt := 22) B dX9_set_17 (by decide) (fun h => absurd (by decide) h) (fun _ => ?_)
  refine z_iconst (v := 0) B dX9_set_20 (by decide) ?_
  exact z_iret B hr (by decide) (by decide) dX9_set_21 ⟨rfl, rfl⟩
set_option maxRecDepth 100000 in
set_option maxHeartbeats 4000000 in
theorem ci_X9_set_215 (l : Launch) {g : gx_T} {σ : sx_T} {b : Nat} (hK : lay b σ) (w1 : Int32) (w2 : Int32) (w3 : Int32) (w4 : Int32) (q1_w1 : (20 : Int) ≤ w1.toInt) (q2_w1 : w1.toInt ≤ (2147483647 : Int)) (q1_w2 : (0 : Int) ≤ w2.toInt) (q2_w2 : w2.toInt ≤ (17 : Int)) (q1_w3 : (0 : Int) ≤ w3.toInt) (q2_w3 : w3.toInt ≤ (99 : Int)) (q1_w4 : (-2147483648 : Int) ≤ w4.toInt) (q2_w4 : w4.toInt ≤ (-1 : Int))  : Met l yX9_set (.code yX9_set cX9_set 7 (some .int) :: lw_g) { frames := 2, cells := 0, slots := 0, locals := 44 } (va_Pc [.ref (b + 405), .int 2, .int w1, .int w2, .int w3, .int w4] (zx_w g σ)) (va_Qi (fun r u => r = 0 ∧ u = (ap b σ [(405, 0, 1)] [] [])) (zx_w g) (gx_Q g)) 0 0 (gx_Q g) := by
  refine z_met (by decide) (Nat.le_of_ble_eq_true rfl) (fun p e s m below meth c B hr hin => ?_)
  refine z_eqs (σ' := (ap b σ [] [] [])) rfl ?_
  show zx p l e _ s m _ below meth c g 7 0 0 _ _ 0 [(0, .ref (b + 405)), (1, .int 2), (2, .int w1), (3, .int w2), (4, .int w3), (5, .int w4)] []
  refine z_aload_n B dX9_set_0 rfl 0 rfl ?_
  refine z_iload_n B dX9_set_1 rfl 1 rfl ?_
  refine z_iload_n B dX9_set_2 rfl 2 rfl ?_
  refine z_cSi (As := [.int 2, .int w1]) (rest := [.ref (b + 405)]) B cw_X9_238 dX9_set_3 (ci_X9_isStep_212 l (σ := (ap b σ [] [] [])) (b := b) (lyA hK) w1 q1_w1 q2_w1) rfl (by decide) rfl (Nat.le_of_ble_eq_true rfl) (by decide) (fun r u hu => ?_)
  refine z_eqs (σ' := (ap b σ [] [] [])) hu.2 ?_
  show zx p l e _ s m _ below meth c g 7 0 0 _ _ 6 [(0, .ref (b + 405)), (1, .int 2), (2, .int w1), (3, .int w2), (4, .int w3), (5, .int w4)] _
  refine z_seti (y := 0) hu.1 ?_
  refine z_iload_n B dX9_set_6 rfl 3 rfl ?_
  refine z_iload B dX9_set_7 4 rfl ?_
  refine z_iload B dX9_set_9 5 rfl ?_
  refine z_cSi (As := [.int w2, .int w3, .int w4]) (rest := [.int 0, .ref (b + 405)]) B cw_X9_242 dX9_set_11 (ci_X9_isOperation_37 l (σ := (ap b σ [] [] [])) (b := b) (lyA hK) w2 w3 w4 q1_w2 q2_w2 q1_w3 q2_w3 q1_w4 q2_w4) rfl (by decide) rfl (Nat.le_of_ble_eq_true rfl) (by decide) (fun r u hu => ?_)
  refine z_eqs (σ' := (ap b σ [] [] [])) hu.2 ?_
  show zx p l e _ s m _ below meth c g 7 0 0 _ _ 14 [(0, .ref (b + 405)), (1, .int 2), (2, .int w1), (3, .int w2), (4, .int w3), (5, .int w4)] _
  refine z_seti (y := 0) hu.1 ?_
  refine z_cVi (As := [.int 0, .int 0]) (rest := []) B cw_X9_245 cx_10 dX9_set_14 (ci_X9_needs__29 l (σ := (ap b σ [] [] [])) (b := b) (lyA hK) ) (lKA (hk_K hK 405 rfl rfl)) rfl (by decide) rfl (Nat.le_of_ble_eq_true rfl) (by decide) (fun r u hu => ?_)
  refine z_eqs (σ' := (ap b σ [(405, 0, 1)] [] [])) (hu.2.trans ap_ap) ?_
  show zx p l e _ s m _ below meth c g 7 0 0 _ _ 17 [(0, .ref (b + 405)), (1, .int 2), (2, .int w1), (3, .int w2), (4, .int w3), (5, .int w4)] _
  refine z_seti (y := 0) hu.1 ?_
  refine z_if_ne (tgt := 22) B dX9_set_17 (by decide) (fun h => absurd (by decide) h) (fun _ => ?_)
  refine z_iconst (v := 0) B dX9_set_20 (by decide) ?_
  exact z_iret B hr (by decide) (by decide) dX9_set_21 ⟨rfl, rfl⟩
set_option maxRecDepth 100000 in
set_option maxHeartbeats 4000000 in
theorem ci_X9_set_216 (l : Launch) {g : gx_T} {σ : sx_T} {b : Nat} (hK : lay b σ) (w1 : Int32) (w2 : Int32) (w3 : Int32) (w4 : Int32) (q1_w1 : (20 : Int) ≤ w1.toInt) (q2_w1 : w1.toInt ≤ (2147483647 : Int)) (q1_w2 : (0 : Int) ≤ w2.toInt) (q2_w2 : w2.toInt ≤ (17 : Int)) (q1_w3 : (0 : Int) ≤ w3.toInt) (q2_w3 : w3.toInt ≤ (99 : Int)) (q1_w4 : (0 : Int) ≤ w4.toInt) (q2_w4 : w4.toInt ≤ (99 : Int))  : Met l yX9_set (.code yX9_set cX9_set 7 (some .int) :: lw_g) { frames := 2, cells := 0, slots := 0, locals := 44 } (va_Pc [.ref (b + 405), .int 2, .int w1, .int w2, .int w3, .int w4] (zx_w g σ)) (va_Qi (fun r u => r = 0 ∧ u = (ap b σ [(405, 0, 1)] [] [])) (zx_w g) (gx_Q g)) 0 0 (gx_Q g) := by
  refine z_met (by decide) (Nat.le_of_ble_eq_true rfl) (fun p e s m below meth c B hr hin => ?_)
  refine z_eqs (σ' := (ap b σ [] [] [])) rfl ?_
  show zx p l e _ s m _ below meth c g 7 0 0 _ _ 0 [(0, .ref (b + 405)), (1, .int 2), (2, .int w1), (3, .int w2), (4, .int w3), (5, .int w4)] []
  refine z_aload_n B dX9_set_0 rfl 0 rfl ?_
  refine z_iload_n B dX9_set_1 rfl 1 rfl ?_
  refine z_iload_n B dX9_set_2 rfl 2 rfl ?_
  refine z_cSi (As := [.int 2, .int w1]) (rest := [.ref (b + 405)]) B cw_X9_238 dX9_set_3 (ci_X9_isStep_212 l (σ := (ap b σ [] [] [])) (b := b) (lyA hK) w1 q1_w1 q2_w1) rfl (by decide) rfl (Nat.le_of_ble_eq_true rfl) (by decide) (fun r u hu => ?_)
  refine z_eqs (σ' := (ap b σ [] [] [])) hu.2 ?_
  show zx p l e _ s m _ below meth c g 7 0 0 _ _ 6 [(0, .ref (b + 405)), (1, .int 2), (2, .int w1), (3, .int w2), (4, .int w3), (5, .int w4)] _
  refine z_seti (y := 0) hu.1 ?_
  refine z_iload_n B dX9_set_6 rfl 3 rfl ?_
  refine z_iload B dX9_set_7 4 rfl ?_
  refine z_iload B dX9_set_9 5 rfl ?_
  refine z_cSi (As := [.int w2, .int w3, .int w4]) (rest := [.int 0, .ref (b + 405)]) B cw_X9_242 dX9_set_11 (ci_X9_isOperation_39 l (σ := (ap b σ [] [] [])) (b := b) (lyA hK) w2 w3 w4 q1_w2 q2_w2 q1_w3 q2_w3 q1_w4 q2_w4) rfl (by decide) rfl (Nat.le_of_ble_eq_true rfl) (by decide) (fun r u hu => ?_)
  refine z_eqs (σ' := (ap b σ [] [] [])) hu.2 ?_
  show zx p l e _ s m _ below meth c g 7 0 0 _ _ 14 [(0, .ref (b + 405)), (1, .int 2), (2, .int w1), (3, .int w2), (4, .int w3), (5, .int w4)] _
  refine z_seti (y := 1) hu.1 ?_
  refine z_cVi (As := [.int 0, .int 1]) (rest := []) B cw_X9_245 cx_10 dX9_set_14 (ci_X9_needs__40 l (σ := (ap b σ [] [] [])) (b := b) (lyA hK) ) (lKA (hk_K hK 405 rfl rfl)) rfl (by decide) rfl (Nat.le_of_ble_eq_true rfl) (by decide) (fun r u hu => ?_)
  refine z_eqs (σ' := (ap b σ [(405, 0, 1)] [] [])) (hu.2.trans ap_ap) ?_
  show zx p l e _ s m _ below meth c g 7 0 0 _ _ 17 [(0, .ref (b + 405)), (1, .int 2), (2, .int w1), (3, .int w2), (4, .int w3), (5, .int w4)] _
  refine z_seti (y := 0) hu.1 ?_
  refine z_if_ne (tgt := 22) B dX9_set_17 (by decide) (fun h => absurd (by decide) h) (fun _ => ?_)
  refine z_iconst (v := 0) B dX9_set_20 (by decide) ?_
  exact z_iret B hr (by decide) (by decide) dX9_set_21 ⟨rfl, rfl⟩
set_option maxRecDepth 100000 in
set_option maxHeartbeats 4000000 in
theorem ci_X9_set_217 (l : Launch) {g : gx_T} {σ : sx_T} {b : Nat} (hK : lay b σ) (w1 : Int32) (w2 : Int32) (w3 : Int32) (w4 : Int32) (q1_w1 : (20 : Int) ≤ w1.toInt) (q2_w1 : w1.toInt ≤ (2147483647 : Int)) (q1_w2 : (0 : Int) ≤ w2.toInt) (q2_w2 : w2.toInt ≤ (17 : Int)) (q1_w3 : (0 : Int) ≤ w3.toInt) (q2_w3 : w3.toInt ≤ (99 : Int)) (q1_w4 : (100 : Int) ≤ w4.toInt) (q2_w4 : w4.toInt ≤ (2147483647 : Int))  : Met l yX9_set (.code yX9_set cX9_set 7 (some .int) :: lw_g) { frames := 2, cells := 0, slots := 0, locals := 44 } (va_Pc [.ref (b + 405), .int 2, .int w1, .int w2, .int w3, .int w4] (zx_w g σ)) (va_Qi (fun r u => r = 0 ∧ u = (ap b σ [(405, 0, 1)] [] [])) (zx_w g) (gx_Q g)) 0 0 (gx_Q g) := by
  refine z_met (by decide) (Nat.le_of_ble_eq_true rfl) (fun p e s m below meth c B hr hin => ?_)
  refine z_eqs (σ' := (ap b σ [] [] [])) rfl ?_
  show zx p l e _ s m _ below meth c g 7 0 0 _ _ 0 [(0, .ref (b + 405)), (1, .int 2), (2, .int w1), (3, .int w2), (4, .int w3), (5, .int w4)] []
  refine z_aload_n B dX9_set_0 rfl 0 rfl ?_
  refine z_iload_n B dX9_set_1 rfl 1 rfl ?_
  refine z_iload_n B dX9_set_2 rfl 2 rfl ?_
  refine z_cSi (As := [.int 2, .int w1]) (rest := [.ref (b + 405)]) B cw_X9_238 dX9_set_3 (ci_X9_isStep_212 l (σ := (ap b σ [] [] [])) (b := b) (lyA hK) w1 q1_w1 q2_w1) rfl (by decide) rfl (Nat.le_of_ble_eq_true rfl) (by decide) (fun r u hu => ?_)
  refine z_eqs (σ' := (ap b σ [] [] [])) hu.2 ?_
  show zx p l e _ s m _ below meth c g 7 0 0 _ _ 6 [(0, .ref (b + 405)), (1, .int 2), (2, .int w1), (3, .int w2), (4, .int w3), (5, .int w4)] _
  refine z_seti (y := 0) hu.1 ?_
  refine z_iload_n B dX9_set_6 rfl 3 rfl ?_
  refine z_iload B dX9_set_7 4 rfl ?_
  refine z_iload B dX9_set_9 5 rfl ?_
  refine z_cSi (As := [.int w2, .int w3, .int w4]) (rest := [.int 0, .ref (b + 405)]) B cw_X9_242 dX9_set_11 (ci_X9_isOperation_43 l (σ := (ap b σ [] [] [])) (b := b) (lyA hK) w2 w3 w4 q1_w2 q2_w2 q1_w3 q2_w3 q1_w4 q2_w4) rfl (by decide) rfl (Nat.le_of_ble_eq_true rfl) (by decide) (fun r u hu => ?_)
  refine z_eqs (σ' := (ap b σ [] [] [])) hu.2 ?_
  show zx p l e _ s m _ below meth c g 7 0 0 _ _ 14 [(0, .ref (b + 405)), (1, .int 2), (2, .int w1), (3, .int w2), (4, .int w3), (5, .int w4)] _
  refine z_seti (y := 0) hu.1 ?_
  refine z_cVi (As := [.int 0, .int 0]) (rest := []) B cw_X9_245 cx_10 dX9_set_14 (ci_X9_needs__29 l (σ := (ap b σ [] [] [])) (b := b) (lyA hK) ) (lKA (hk_K hK 405 rfl rfl)) rfl (by decide) rfl (Nat.le_of_ble_eq_true rfl) (by decide) (fun r u hu => ?_)
  refine z_eqs (σ' := (ap b σ [(405, 0, 1)] [] [])) (hu.2.trans ap_ap) ?_
  show zx p l e _ s m _ below meth c g 7 0 0 _ _ 17 [(0, .ref (b + 405)), (1, .int 2), (2, .int w1), (3, .int w2), (4, .int w3), (5, .int w4)] _
  refine z_seti (y := 0) hu.1 ?_
  refine z_if_ne (tgt := 22) B dX9_set_17 (by decide) (fun h => absurd (by decide) h) (fun _ => ?_)
  refine z_iconst (v := 0) B dX9_set_20 (by decide) ?_
  exact z_iret B hr (by decide) (by decide) dX9_set_21 ⟨rfl, rfl⟩
set_option maxRecDepth 100000 in
set_option maxHeartbeats 4000000 in
theorem ci_X9_set_218 (l : Launch) {g : gx_T} {σ : sx_T} {b : Nat} (hK : lay b σ) (w1 : Int32) (w2 : Int32) (w3 : Int32) (w4 : Int32) (q1_w1 : (20 : Int) ≤ w1.toInt) (q2_w1 : w1.toInt ≤ (2147483647 : Int)) (q1_w2 : (0 : Int) ≤ w2.toInt) (q2_w2 : w2.toInt ≤ (17 : Int)) (q1_w3 : (100 : Int) ≤ w3.toInt) (q2_w3 : w3.toInt ≤ (2147483647 : Int))  : Met l yX9_set (.code yX9_set cX9_set 7 (some .int) :: lw_g) { frames := 2, cells := 0, slots := 0, locals := 44 } (va_Pc [.ref (b + 405), .int 2, .int w1, .int w2, .int w3, .int w4] (zx_w g σ)) (va_Qi (fun r u => r = 0 ∧ u = (ap b σ [(405, 0, 1)] [] [])) (zx_w g) (gx_Q g)) 0 0 (gx_Q g) := by
  refine z_met (by decide) (Nat.le_of_ble_eq_true rfl) (fun p e s m below meth c B hr hin => ?_)
  refine z_eqs (σ' := (ap b σ [] [] [])) rfl ?_
  show zx p l e _ s m _ below meth c g 7 0 0 _ _ 0 [(0, .ref (b + 405)), (1, .int 2), (2, .int w1), (3, .int w2), (4, .int w3), (5, .int w4)] []
  refine z_aload_n B dX9_set_0 rfl 0 rfl ?_
  refine z_iload_n B dX9_set_1 rfl 1 rfl ?_
  refine z_iload_n B dX9_set_2 rfl 2 rfl ?_
  refine z_cSi (As := [.int 2, .int w1]) (rest := [.ref (b + 405)]) B cw_X9_238 dX9_set_3 (ci_X9_isStep_212 l (σ := (ap b σ [] [] [])) (b := b) (lyA hK) w1 q1_w1 q2_w1) rfl (by decide) rfl (Nat.le_of_ble_eq_true rfl) (by decide) (fun r u hu => ?_)
  refine z_eqs (σ' := (ap b σ [] [] [])) hu.2 ?_
  show zx p l e _ s m _ below meth c g 7 0 0 _ _ 6 [(0, .ref (b + 405)), (1, .int 2), (2, .int w1), (3, .int w2), (4, .int w3), (5, .int w4)] _
  refine z_seti (y := 0) hu.1 ?_
  refine z_iload_n B dX9_set_6 rfl 3 rfl ?_
  refine z_iload B dX9_set_7 4 rfl ?_
  refine z_iload B dX9_set_9 5 rfl ?_
  refine z_cSi (As := [.int w2, .int w3, .int w4]) (rest := [.int 0, .ref (b + 405)]) B cw_X9_242 dX9_set_11 (ci_X9_isOperation_45 l (σ := (ap b σ [] [] [])) (b := b) (lyA hK) w2 w3 w4 q1_w2 q2_w2 q1_w3 q2_w3) rfl (by decide) rfl (Nat.le_of_ble_eq_true rfl) (by decide) (fun r u hu => ?_)
  refine z_eqs (σ' := (ap b σ [] [] [])) hu.2 ?_
  show zx p l e _ s m _ below meth c g 7 0 0 _ _ 14 [(0, .ref (b + 405)), (1, .int 2), (2, .int w1), (3, .int w2), (4, .int w3), (5, .int w4)] _
  refine z_seti (y := 0) hu.1 ?_
  refine z_cVi (As := [.int 0, .int 0]) (rest := []) B cw_X9_245 cx_10 dX9_set_14 (ci_X9_needs__29 l (σ := (ap b σ [] [] [])) (b := b) (lyA hK) ) (lKA (hk_K hK 405 rfl rfl)) rfl (by decide) rfl (Nat.le_of_ble_eq_true rfl) (by decide) (fun r u hu => ?_)
  refine z_eqs (σ' := (ap b σ [(405, 0, 1)] [] [])) (hu.2.trans ap_ap) ?_
  show zx p l e _ s m _ below meth c g 7 0 0 _ _ 17 [(0, .ref (b + 405)), (1, .int 2), (2, .int w1), (3, .int w2), (4, .int w3), (5, .int w4)] _
  refine z_seti (y := 0) hu.1 ?_
  refine z_if_ne (tgt := 22) B dX9_set_17 (by decide) (fun h => absurd (by decide) h) (fun _ => ?_)
  refine z_iconst (v := 0) B dX9_set_20 (by decide) ?_
  exact z_iret B hr (by decide) (by decide) dX9_set_21 ⟨rfl, rfl⟩
set_option maxRecDepth 100000 in
set_option maxHeartbeats 4000000 in
theorem ci_X9_set_219 (l : Launch) {g : gx_T} {σ : sx_T} {b : Nat} (hK : lay b σ) (w1 : Int32) (w2 : Int32) (w3 : Int32) (w4 : Int32) (q1_w1 : (20 : Int) ≤ w1.toInt) (q2_w1 : w1.toInt ≤ (2147483647 : Int)) (q1_w2 : (18 : Int) ≤ w2.toInt) (q2_w2 : w2.toInt ≤ (2147483647 : Int))  : Met l yX9_set (.code yX9_set cX9_set 7 (some .int) :: lw_g) { frames := 2, cells := 0, slots := 0, locals := 44 } (va_Pc [.ref (b + 405), .int 2, .int w1, .int w2, .int w3, .int w4] (zx_w g σ)) (va_Qi (fun r u => r = 0 ∧ u = (ap b σ [(405, 0, 1)] [] [])) (zx_w g) (gx_Q g)) 0 0 (gx_Q g) := by
  refine z_met (by decide) (Nat.le_of_ble_eq_true rfl) (fun p e s m below meth c B hr hin => ?_)
  refine z_eqs (σ' := (ap b σ [] [] [])) rfl ?_
  show zx p l e _ s m _ below meth c g 7 0 0 _ _ 0 [(0, .ref (b + 405)), (1, .int 2), (2, .int w1), (3, .int w2), (4, .int w3), (5, .int w4)] []
  refine z_aload_n B dX9_set_0 rfl 0 rfl ?_
  refine z_iload_n B dX9_set_1 rfl 1 rfl ?_
  refine z_iload_n B dX9_set_2 rfl 2 rfl ?_
  refine z_cSi (As := [.int 2, .int w1]) (rest := [.ref (b + 405)]) B cw_X9_238 dX9_set_3 (ci_X9_isStep_212 l (σ := (ap b σ [] [] [])) (b := b) (lyA hK) w1 q1_w1 q2_w1) rfl (by decide) rfl (Nat.le_of_ble_eq_true rfl) (by decide) (fun r u hu => ?_)
  refine z_eqs (σ' := (ap b σ [] [] [])) hu.2 ?_
  show zx p l e _ s m _ below meth c g 7 0 0 _ _ 6 [(0, .ref (b + 405)), (1, .int 2), (2, .int w1), (3, .int w2), (4, .int w3), (5, .int w4)] _
  refine z_seti (y := 0) hu.1 ?_
  refine z_iload_n B dX9_set_6 rfl 3 rfl ?_
  refine z_iload B dX9_set_7 4 rfl ?_
  refine z_iload B dX9_set_9 5 rfl ?_
  refine z_cSi (As := [.int w2, .int w3, .int w4]) (rest := [.int 0, .ref (b + 405)]) B cw_X9_242 dX9_set_11 (ci_X9_isOperation_48 l (σ := (ap b σ [] [] [])) (b := b) (lyA hK) w2 w3 w4 q1_w2 q2_w2) rfl (by decide) rfl (Nat.le_of_ble_eq_true rfl) (by decide) (fun r u hu => ?_)
  refine z_eqs (σ' := (ap b σ [] [] [])) hu.2 ?_
  show zx p l e _ s m _ below meth c g 7 0 0 _ _ 14 [(0, .ref (b + 405)), (1, .int 2), (2, .int w1), (3, .int w2), (4, .int w3), (5, .int w4)] _
  refine z_seti (y := 0) hu.1 ?_
  refine z_cVi (As := [.int 0, .int 0]) (rest := []) B cw_X9_245 cx_10 dX9_set_14 (ci_X9_needs__29 l (σ := (ap b σ [] [] [])) (b := b) (lyA hK) ) (lKA (hk_K hK 405 rfl rfl)) rfl (by decide) rfl (Nat.le_of_ble_eq_true rfl) (by decide) (fun r u hu => ?_)
  refine z_eqs (σ' := (ap b σ [(405, 0, 1)] [] [])) (hu.2.trans ap_ap) ?_
  show zx p l e _ s m _ below meth c g 7 0 0 _ _ 17 [(0, .ref (b + 405)), (1, .int 2), (2, .int w1), (3, .int w2), (4, .int w3), (5, .int w4)] _
  refine z_seti (y := 0) hu.1 ?_
  refine z_if_ne (tgt := 22) B dX9_set_17 (by decide) (fun h => absurd (by decide) h) (fun _ => ?_)
  refine z_iconst (v := 0) B dX9_set_20 (by decide) ?_
  exact z_iret B hr (by decide) (by decide) dX9_set_21 ⟨rfl, rfl⟩
set_option maxRecDepth 100000 in
set_option maxHeartbeats 4000000 in
theorem ci_X8_programAt_220 (l : Launch) {g : gx_T} {σ : sx_T} {b : Nat} (hK : lay b σ)   (hR_0_0 : sx_R σ (b + 0) 0 = (some (b + 1))) (hR_1_3 : sx_R σ (b + 1) 3 = (some (b + 21))) : Met l yX8_programAt (.code yX8_programAt cX8_programAt 2 (some (.object "Loomkeeper$Program")) :: lw_g) { frames := 0, cells := 0, slots := 0, locals := 0 } (va_Pc [.ref (b + 0), .int 3] (zx_w g σ)) (va_Qq (fun r u => r = (some (b + 21)) ∧ u = σ) (zx_w g) (gx_Q g)) 0 0 (gx_Q g) := by
  refine z_met (by decide) (Nat.le_of_ble_eq_true rfl) (fun p e s m below meth c B hr hin => ?_)
  refine z_eqs (σ' := (ap b σ [] [] [])) rfl ?_
  show zx p l e _ s m _ below meth c g 2 0 0 _ _ 0 [(0, .ref (b + 0)), (1, .int 3)] []
  refine z_iload_n B dX8_programAt_0 rfl 1 rfl ?_
  refine z_if_lt (tgt := 22) B dX8_programAt_1 (by decide) (fun h => absurd h (by decide)) (fun _ => ?_)
  refine z_iload_n B dX8_programAt_4 rfl 1 rfl ?_
  refine z_aload_n B dX8_programAt_5 rfl 0 rfl ?_
  refine gf_X8_11 (x := (some (b + 1))) B (lKA (hk_K hK 0 rfl rfl)) (rR_at 0 0 hR_0_0) dX8_programAt_6 ?_
  refine z_alen (kd := 16) (ti := 4) (v := 6) B (lKA (hk_K hK 1 rfl rfl)) (by decide) rfl (congrArg Int32.ofNat (lNA (hk_N hK 1 rfl rfl))) dX8_programAt_9 ?_
  refine z_icmp_ge (tgt := 22) B dX8_programAt_10 (by decide) (fun h => absurd h (by decide)) (fun _ => ?_)
  refine z_aload_n B dX8_programAt_13 rfl 0 rfl ?_
  refine gf_X8_11 (x := (some (b + 1))) B (lKA (hk_K hK 0 rfl rfl)) (rR_at 0 0 hR_0_0) dX8_programAt_14 ?_
  refine z_iload_n B dX8_programAt_17 rfl 1 rfl ?_
  refine z_qald (j := 3) (kd := 16) (ti := 4) (r := (some (b + 21))) B (lKA (hk_K hK 1 rfl rfl)) (by decide) rfl (by decide) (in_of (lNA (hk_N hK 1 rfl rfl)) (show ¬ ((3 : Int32) < 0 ∨ 6 ≤ (3 : Int32).toNatClampNeg) by decide)) (rR_at 1 3 hR_1_3) dX8_programAt_18 ?_
  refine z_goto (tgt := 23) B dX8_programAt_19 (by decide) ?_
  exact z_qret (r := (some (b + 21))) B hr (by decide) (by decide) dX8_programAt_23 ⟨rfl, rfl⟩
set_option maxRecDepth 100000 in
set_option maxHeartbeats 4000000 in
theorem ci_X8_set_221 (l : Launch) (hlt : l.stackTraces = false) {g : gx_T} {σ : sx_T} {b : Nat} (hK : lay b σ) (w1 : Int32) (w2 : Int32) (w3 : Int32) (w4 : Int32) (q1_w1 : (-2147483648 : Int) ≤ w1.toInt) (q2_w1 : w1.toInt ≤ (-1 : Int)) (hR_0_0 : sx_R σ (b + 0) 0 = (some (b + 1))) (hR_1_3 : sx_R σ (b + 1) 3 = (some (b + 21))) : vx_Met l yX8_set (.code yX8_set cX8_set 9 (some .int) :: lw_g) { frames := 7, cells := 1, slots := 6, locals := 136 } (va_Pc [.ref (b + 0), .int 3, .int w1, .int w2, .int w3, .int w4] (zx_w g σ)) (va_Qi (S := sx_T) (fun _ _ => False) (zx_w g) (gx_Q g)) (vx_X (fun u : sx_T => ∃ z, u = wx_Z σ z) (fun E u t => E = "java/lang/IndexOutOfBoundsException" ∧ zx_h g u t.heap) (gx_Q g)) 1 6 (gx_Q g) := by
  refine z_metX (by decide) (Nat.le_of_ble_eq_true rfl) (fun p e s m below meth c B hr hin hout => ?_)
  refine z_eqs (σ' := (ap b σ [] [] [])) rfl ?_
  show zx p l e _ s m _ below meth c g 9 0 0 _ _ 0 [(0, .ref (b + 0)), (1, .int 3), (2, .int w1), (3, .int w2), (4, .int w3), (5, .int w4)] []
  refine z_aload_n B dX8_set_0 rfl 0 rfl ?_
  refine z_iload_n B dX8_set_1 rfl 1 rfl ?_
  refine z_cVq (As := [.int 3]) (rest := []) B cw_X8_64 cx_9 dX8_set_2 (ci_X8_programAt_220 l (σ := (ap b σ [] [] [])) (b := b) (lyA hK) (rR_at 0 0 hR_0_0) (rR_at 1 3 hR_1_3)) (lKA (hk_K hK 0 rfl rfl)) rfl (by decide) rfl (Nat.le_of_ble_eq_true rfl) (by decide) (fun r u hu => ?_)
  refine z_eqs (σ' := (ap b σ [] [] [])) hu.2 ?_
  show zx p l e _ s m _ below meth c g 9 0 0 _ _ 5 [(0, .ref (b + 0)), (1, .int 3), (2, .int w1), (3, .int w2), (4, .int w3), (5, .int w4)] _
  refine z_setr (y := (some (b + 21))) hu.1 ?_
  refine z_astore (lv' := [(6, .ref (b + 21)), (0, .ref (b + 0)), (1, .int 3), (2, .int w1), (3, .int w2), (4, .int w3), (5, .int w4)]) B dX8_set_5 (by decide) rfl ?_
  refine z_aload B dX8_set_7 0 rfl ?_
  refine z_ifnull (r := (some (b + 21))) (tgt := 21) B dX8_set_9 (by decide) (fun h => nomatch h) (fun _ _ => ?_)
  refine z_iload_n B dX8_set_12 rfl 3 rfl ?_
  refine z_bipush (v := 20) B dX8_set_13 (by decide) ?_
  refine z_cSi (As := [.int w1, .int 20]) (rest := []) B cw_X8_68 dX8_set_15 (ci_X8_isBelow_51 l (σ := (ap b σ [] [] [])) (b := b) (lyA hK) w1 q1_w1 q2_w1) rfl (by decide) rfl (Nat.le_of_ble_eq_true rfl) (by decide) (fun r u hu => ?_)
  refine z_eqs (σ' := (ap b σ [] [] [])) hu.2 ?_
  show zx p l e _ s m _ below meth c g 9 0 0 _ _ 18 [(6, .ref (b + 21)), (0, .ref (b + 0)), (1, .int 3), (2, .int w1), (3, .int w2), (4, .int w3), (5, .int w4)] _
  refine z_seti (y := 0) hu.1 ?_
  refine z_if_ne (tgt := 31) B dX8_set_18 (by decide) (fun h => absurd (by decide) h) (fun _ => ?_)
  exact z_throw B hlt hout (cls := "java/lang/IndexOutOfBoundsException") (text := "no such step") tw_X8_72_74_76 dX8_set_21 dX8_set_24 dX8_set_25 dX8_set_27 dX8_set_30 (by decide) (by decide) (by decide) (by decide) (by decide) (by decide) (fun z => ⟨z, rfl⟩)
set_option maxRecDepth 100000 in
set_option maxHeartbeats 4000000 in
theorem ci_L_set_222 (l : Launch) (hlt : l.stackTraces = false) {g : gx_T} {σ : sx_T} {b : Nat} (hK : lay b σ) (w1 : Int32) (w2 : Int32) (w3 : Int32) (w4 : Int32) (q1_w1 : (-2147483648 : Int) ≤ w1.toInt) (q2_w1 : w1.toInt ≤ (-1 : Int)) (hR_0_0 : sx_R σ (b + 0) 0 = (some (b + 1))) (hR_1_3 : sx_R σ (b + 1) 3 = (some (b + 21))) : Met l yL_set (.codeWith yL_set cL_set 8 (some .int) [(0, 16, 19, 13), (0, 16, 23, 15)] :: lw_g) { frames := 8, cells := 1, slots := 6, locals := 164 } (va_Pc [.ref (b + 0), .int 3, .int w1, .int w2, .int w3, .int w4, .ref (b + 431)] (zx_w g σ)) (va_Qi (fun r u => r = 1 ∧ ∃ z, u = (ap b (wx_Z σ z) [] [] [])) (zx_w g) (gx_Q g)) 1 6 (gx_Q g) := by
  refine z_metW (by decide) (Nat.le_of_ble_eq_true rfl) (fun p e s m below meth c B hr htab => ?_)
  refine z_eqs (σ' := (ap b σ [] [] [])) rfl ?_
  show zx p l e _ s m _ below meth c g 8 0 0 _ _ 0 [(0, .ref (b + 0)), (1, .int 3), (2, .int w1), (3, .int w2), (4, .int w3), (5, .int w4), (6, .ref (b + 431))] []
  refine z_aload B dL_set_0 6 rfl ?_
  refine z_iconst (v := 0) B dL_set_2 (by decide) ?_
  refine z_aload_n B dL_set_3 rfl 0 rfl ?_
  refine z_iload_n B dL_set_4 rfl 1 rfl ?_
  refine z_iload_n B dL_set_5 rfl 2 rfl ?_
  refine z_iload_n B dL_set_6 rfl 3 rfl ?_
  refine z_iload B dL_set_7 4 rfl ?_
  refine z_iload B dL_set_9 5 rfl ?_
  refine z_cXi (As := [.int 3, .int w1, .int w2, .int w3, .int w4]) (rest := [.int 0, .ref (b + 431)]) B htab tc_set_11_IndexOutOfBoundsException cw_L_7 cx_9 dL_set_11 (ci_X8_set_221 l hlt (σ := (ap b σ [] [] [])) (b := b) (lyA hK) w1 w2 w3 w4 q1_w1 q2_w1 (rR_at 0 0 hR_0_0) (rR_at 1 3 hR_1_3)) (lKA (hk_K hK 0 rfl rfl)) rfl (by decide) rfl (Nat.le_of_ble_eq_true rfl) (by decide) (fun z q => ?_)
  refine z_eqs (σ' := (ap b (wx_Z σ z) [] [] [])) rfl ?_
  show zx p l e _ s m _ below meth c g 8 _ _ _ _ 19 [(0, .ref (b + 0)), (1, .int 3), (2, .int w1), (3, .int w2), (4, .int w3), (5, .int w4), (6, .ref (b + 431))] _
  refine z_astore (lv' := [(7, .ref q), (0, .ref (b + 0)), (1, .int 3), (2, .int w1), (3, .int w2), (4, .int w3), (5, .int w4), (6, .ref (b + 431))]) B dL_set_19 (by decide) rfl ?_
  refine z_iconst (v := 1) B dL_set_21 (by decide) ?_
  exact z_iret B hr (by decide) (by decide) dL_set_22 ⟨rfl, _, rfl⟩
set_option maxRecDepth 100000 in
set_option maxHeartbeats 4000000 in
theorem ci_X9_in_223 (l : Launch) {g : gx_T} {σ : sx_T} {b : Nat} (hK : lay b σ)    : Met l yX9_in (.code yX9_in cX9_in 3 (some .boolean) :: lw_g) { frames := 0, cells := 0, slots := 0, locals := 0 } (va_Pc [.int 3, .int 0, .int 5] (zx_w g σ)) (va_Qi (fun r u => r = 1 ∧ u = σ) (zx_w g) (gx_Q g)) 0 0 (gx_Q g) := by
  refine z_met (by decide) (Nat.le_of_ble_eq_true rfl) (fun p e s m below meth c B hr hin => ?_)
  refine z_eqs (σ' := (ap b σ [] [] [])) rfl ?_
  show zx p l e _ s m _ below meth c g 3 0 0 _ _ 0 [(0, .int 3), (1, .int 0), (2, .int 5)] []
  refine z_iload_n B dX9_in_0 rfl 0 rfl ?_
  refine z_iload_n B dX9_in_1 rfl 1 rfl ?_
  refine z_icmp_lt (tgt := 14) B dX9_in_2 (by decide) (fun h => absurd h (by decide)) (fun _ => ?_)
  refine z_iload_n B dX9_in_5 rfl 0 rfl ?_
  refine z_iload_n B dX9_in_6 rfl 2 rfl ?_
  refine z_icmp_gt (tgt := 14) B dX9_in_7 (by decide) (fun h => absurd h (by decide)) (fun _ => ?_)
  refine z_iconst (v := 1) B dX9_in_10 (by decide) ?_
  refine z_goto (tgt := 15) B dX9_in_11 (by decide) ?_
  exact z_zret B hr (by decide) (by decide) (by decide) dX9_in_15 ⟨rfl, rfl⟩
set_option maxRecDepth 100000 in
set_option maxHeartbeats 4000000 in
theorem ci_X9_isStep_224 (l : Launch) {g : gx_T} {σ : sx_T} {b : Nat} (hK : lay b σ) (w1 : Int32) (q1_w1 : (-2147483648 : Int) ≤ w1.toInt) (q2_w1 : w1.toInt ≤ (-1 : Int))  : Met l yX9_isStep (.code yX9_isStep cX9_isStep 2 (some .boolean) :: lw_g) { frames := 1, cells := 0, slots := 0, locals := 22 } (va_Pc [.int 3, .int w1] (zx_w g σ)) (va_Qi (fun r u => r = 0 ∧ u = σ) (zx_w g) (gx_Q g)) 0 0 (gx_Q g) := by
  refine z_met (by decide) (Nat.le_of_ble_eq_true rfl) (fun p e s m below meth c B hr hin => ?_)
  refine z_eqs (σ' := (ap b σ [] [] [])) rfl ?_
  show zx p l e _ s m _ below meth c g 2 0 0 _ _ 0 [(0, .int 3), (1, .int w1)] []
  refine z_iload_n B dX9_isStep_0 rfl 0 rfl ?_
  refine z_iconst (v := 0) B dX9_isStep_1 (by decide) ?_
  refine z_iconst (v := 5) B dX9_isStep_2 (by decide) ?_
  refine z_cSi (As := [.int 3, .int 0, .int 5]) (rest := []) B cw_X9_96 dX9_isStep_3 (ci_X9_in_223 l (σ := (ap b σ [] [] [])) (b := b) (lyA hK) ) rfl (by decide) rfl (Nat.le_of_ble_eq_true rfl) (by decide) (fun r u hu => ?_)
  refine z_eqs (σ' := (ap b σ [] [] [])) hu.2 ?_
  show zx p l e _ s m _ below meth c g 2 0 0 _ _ 6 [(0, .int 3), (1, .int w1)] _
  refine z_seti (y := 1) hu.1 ?_
  refine z_if_eq (tgt := 23) B dX9_isStep_6 (by decide) (fun h => absurd h (by decide)) (fun _ => ?_)
  refine z_iload_n B dX9_isStep_9 rfl 1 rfl ?_
  refine z_iconst (v := 0) B dX9_isStep_10 (by decide) ?_
  refine z_bipush (v := 19) B dX9_isStep_11 (by decide) ?_
  refine z_cSi (As := [.int w1, .int 0, .int 19]) (rest := []) B cw_X9_96 dX9_isStep_13 (ci_X9_in_55 l (σ := (ap b σ [] [] [])) (b := b) (lyA hK) w1 q1_w1 q2_w1) rfl (by decide) rfl (Nat.le_of_ble_eq_true rfl) (by decide) (fun r u hu => ?_)
  refine z_eqs (σ' := (ap b σ [] [] [])) hu.2 ?_
  show zx p l e _ s m _ below meth c g 2 0 0 _ _ 16 [(0, .int 3), (1, .int w1)] _
  refine z_seti (y := 0) hu.1 ?_
  refine z_if_eq (tgt := 23) B dX9_isStep_16 (by decide) (fun _ => ?_) (fun h => absurd (by decide) h)
  refine z_iconst (v := 0) B dX9_isStep_23 (by decide) ?_
  exact z_zret B hr (by decide) (by decide) (by decide) dX9_isStep_24 ⟨rfl, rfl⟩
set_option maxRecDepth 100000 in
set_option maxHeartbeats 4000000 in
theorem ci_X9_set_225 (l : Launch) {g : gx_T} {σ : sx_T} {b : Nat} (hK : lay b σ) (w1 : Int32) (w2 : Int32) (w3 : Int32) (w4 : Int32) (q1_w1 : (-2147483648 : Int) ≤ w1.toInt) (q2_w1 : w1.toInt ≤ (-1 : Int)) (q1_w2 : (-2147483648 : Int) ≤ w2.toInt) (q2_w2 : w2.toInt ≤ (-1 : Int))  : Met l yX9_set (.code yX9_set cX9_set 7 (some .int) :: lw_g) { frames := 2, cells := 0, slots := 0, locals := 44 } (va_Pc [.ref (b + 405), .int 3, .int w1, .int w2, .int w3, .int w4] (zx_w g σ)) (va_Qi (fun r u => r = 0 ∧ u = (ap b σ [(405, 0, 1)] [] [])) (zx_w g) (gx_Q g)) 0 0 (gx_Q g) := by
  refine z_met (by decide) (Nat.le_of_ble_eq_true rfl) (fun p e s m below meth c B hr hin => ?_)
  refine z_eqs (σ' := (ap b σ [] [] [])) rfl ?_
  show zx p l e _ s m _ below meth c g 7 0 0 _ _ 0 [(0, .ref (b + 405)), (1, .int 3), (2, .int w1), (3, .int w2), (4, .int w3), (5, .int w4)] []
  refine z_aload_n B dX9_set_0 rfl 0 rfl ?_
  refine z_iload_n B dX9_set_1 rfl 1 rfl ?_
  refine z_iload_n B dX9_set_2 rfl 2 rfl ?_
  refine z_cSi (As := [.int 3, .int w1]) (rest := [.ref (b + 405)]) B cw_X9_238 dX9_set_3 (ci_X9_isStep_224 l (σ := (ap b σ [] [] [])) (b := b) (lyA hK) w1 q1_w1 q2_w1) rfl (by decide) rfl (Nat.le_of_ble_eq_true rfl) (by decide) (fun r u hu => ?_)
  refine z_eqs (σ' := (ap b σ [] [] [])) hu.2 ?_
  show zx p l e _ s m _ below meth c g 7 0 0 _ _ 6 [(0, .ref (b + 405)), (1, .int 3), (2, .int w1), (3, .int w2), (4, .int w3), (5, .int w4)] _
  refine z_seti (y := 0) hu.1 ?_
  refine z_iload_n B dX9_set_6 rfl 3 rfl ?_
  refine z_iload B dX9_set_7 4 rfl ?_
  refine z_iload B dX9_set_9 5 rfl ?_
  refine z_cSi (As := [.int w2, .int w3, .int w4]) (rest := [.int 0, .ref (b + 405)]) B cw_X9_242 dX9_set_11 (ci_X9_isOperation_28 l (σ := (ap b σ [] [] [])) (b := b) (lyA hK) w2 w3 w4 q1_w2 q2_w2) rfl (by decide) rfl (Nat.le_of_ble_eq_true rfl) (by decide) (fun r u hu => ?_)
  refine z_eqs (σ' := (ap b σ [] [] [])) hu.2 ?_
  show zx p l e _ s m _ below meth c g 7 0 0 _ _ 14 [(0, .ref (b + 405)), (1, .int 3), (2, .int w1), (3, .int w2), (4, .int w3), (5, .int w4)] _
  refine z_seti (y := 0) hu.1 ?_
  refine z_cVi (As := [.int 0, .int 0]) (rest := []) B cw_X9_245 cx_10 dX9_set_14 (ci_X9_needs__29 l (σ := (ap b σ [] [] [])) (b := b) (lyA hK) ) (lKA (hk_K hK 405 rfl rfl)) rfl (by decide) rfl (Nat.le_of_ble_eq_true rfl) (by decide) (fun r u hu => ?_)
  refine z_eqs (σ' := (ap b σ [(405, 0, 1)] [] [])) (hu.2.trans ap_ap) ?_
  show zx p l e _ s m _ below meth c g 7 0 0 _ _ 17 [(0, .ref (b + 405)), (1, .int 3), (2, .int w1), (3, .int w2), (4, .int w3), (5, .int w4)] _
  refine z_seti (y := 0) hu.1 ?_
  refine z_if_ne (tgt := 22) B dX9_set_17 (by decide) (fun h => absurd (by decide) h) (fun _ => ?_)
  refine z_iconst (v := 0) B dX9_set_20 (by decide) ?_
  exact z_iret B hr (by decide) (by decide) dX9_set_21 ⟨rfl, rfl⟩
set_option maxRecDepth 100000 in
set_option maxHeartbeats 4000000 in
theorem ci_X9_set_226 (l : Launch) {g : gx_T} {σ : sx_T} {b : Nat} (hK : lay b σ) (w1 : Int32) (w2 : Int32) (w3 : Int32) (w4 : Int32) (q1_w1 : (-2147483648 : Int) ≤ w1.toInt) (q2_w1 : w1.toInt ≤ (-1 : Int)) (q1_w2 : (0 : Int) ≤ w2.toInt) (q2_w2 : w2.toInt ≤ (17 : Int)) (q1_w3 : (-2147483648 : Int) ≤ w3.toInt) (q2_w3 : w3.toInt ≤ (-1 : Int))  : Met l yX9_set (.code yX9_set cX9_set 7 (some .int) :: lw_g) { frames := 2, cells := 0, slots := 0, locals := 44 } (va_Pc [.ref (b + 405), .int 3, .int w1, .int w2, .int w3, .int w4] (zx_w g σ)) (va_Qi (fun r u => r = 0 ∧ u = (ap b σ [(405, 0, 1)] [] [])) (zx_w g) (gx_Q g)) 0 0 (gx_Q g) := by
  refine z_met (by decide) (Nat.le_of_ble_eq_true rfl) (fun p e s m below meth c B hr hin => ?_)
  refine z_eqs (σ' := (ap b σ [] [] [])) rfl ?_
  show zx p l e _ s m _ below meth c g 7 0 0 _ _ 0 [(0, .ref (b + 405)), (1, .int 3), (2, .int w1), (3, .int w2), (4, .int w3), (5, .int w4)] []
  refine z_aload_n B dX9_set_0 rfl 0 rfl ?_
  refine z_iload_n B dX9_set_1 rfl 1 rfl ?_
  refine z_iload_n B dX9_set_2 rfl 2 rfl ?_
  refine z_cSi (As := [.int 3, .int w1]) (rest := [.ref (b + 405)]) B cw_X9_238 dX9_set_3 (ci_X9_isStep_224 l (σ := (ap b σ [] [] [])) (b := b) (lyA hK) w1 q1_w1 q2_w1) rfl (by decide) rfl (Nat.le_of_ble_eq_true rfl) (by decide) (fun r u hu => ?_)
  refine z_eqs (σ' := (ap b σ [] [] [])) hu.2 ?_
  show zx p l e _ s m _ below meth c g 7 0 0 _ _ 6 [(0, .ref (b + 405)), (1, .int 3), (2, .int w1), (3, .int w2), (4, .int w3), (5, .int w4)] _
  refine z_seti (y := 0) hu.1 ?_
  refine z_iload_n B dX9_set_6 rfl 3 rfl ?_
  refine z_iload B dX9_set_7 4 rfl ?_
  refine z_iload B dX9_set_9 5 rfl ?_
  refine z_cSi (As := [.int w2, .int w3, .int w4]) (rest := [.int 0, .ref (b + 405)]) B cw_X9_242 dX9_set_11 (ci_X9_isOperation_34 l (σ := (ap b σ [] [] [])) (b := b) (lyA hK) w2 w3 w4 q1_w2 q2_w2 q1_w3 q2_w3) rfl (by decide) rfl (Nat.le_of_ble_eq_true rfl) (by decide) (fun r u hu => ?_)
  refine z_eqs (σ' := (ap b σ [] [] [])) hu.2 ?_
  show zx p l e _ s m _ below meth c g 7 0 0 _ _ 14 [(0, .ref (b + 405)), (1, .int 3), (2, .int w1), (3, .int w2), (4, .int w3), (5, .int w4)] _
  refine z_seti (y := 0) hu.1 ?_
  refine z_cVi (As := [.int 0, .int 0]) (rest := []) B cw_X9_245 cx_10 dX9_set_14 (ci_X9_needs__29 l (σ := (ap b σ [] [] [])) (b := b) (lyA hK) ) (lKA (hk_K hK 405 rfl rfl)) rfl (by decide) rfl (Nat.le_of_ble_eq_true rfl) (by decide) (fun r u hu => ?_)
  refine z_eqs (σ' := (ap b σ [(405, 0, 1)] [] [])) (hu.2.trans ap_ap) ?_
  show zx p l e _ s m _ below meth c g 7 0 0 _ _ 17 [(0, .ref (b + 405)), (1, .int 3), (2, .int w1), (3, .int w2), (4, .int w3), (5, .int w4)] _
  refine z_seti (y := 0) hu.1 ?_
  refine z_if_ne (tgt := 22) B dX9_set_17 (by decide) (fun h => absurd (by decide) h) (fun _ => ?_)
  refine z_iconst (v := 0) B dX9_set_20 (by decide) ?_
  exact z_iret B hr (by decide) (by decide) dX9_set_21 ⟨rfl, rfl⟩
set_option maxRecDepth 100000 in
set_option maxHeartbeats 4000000 in
theorem ci_X9_set_227 (l : Launch) {g : gx_T} {σ : sx_T} {b : Nat} (hK : lay b σ) (w1 : Int32) (w2 : Int32) (w3 : Int32) (w4 : Int32) (q1_w1 : (-2147483648 : Int) ≤ w1.toInt) (q2_w1 : w1.toInt ≤ (-1 : Int)) (q1_w2 : (0 : Int) ≤ w2.toInt) (q2_w2 : w2.toInt ≤ (17 : Int)) (q1_w3 : (0 : Int) ≤ w3.toInt) (q2_w3 : w3.toInt ≤ (99 : Int)) (q1_w4 : (-2147483648 : Int) ≤ w4.toInt) (q2_w4 : w4.toInt ≤ (-1 : Int))  : Met l yX9_set (.code yX9_set cX9_set 7 (some .int) :: lw_g) { frames := 2, cells := 0, slots := 0, locals := 44 } (va_Pc [.ref (b + 405), .int 3, .int w1, .int w2, .int w3, .int w4] (zx_w g σ)) (va_Qi (fun r u => r = 0 ∧ u = (ap b σ [(405, 0, 1)] [] [])) (zx_w g) (gx_Q g)) 0 0 (gx_Q g) := by
  refine z_met (by decide) (Nat.le_of_ble_eq_true rfl) (fun p e s m below meth c B hr hin => ?_)
  refine z_eqs (σ' := (ap b σ [] [] [])) rfl ?_
  show zx p l e _ s m _ below meth c g 7 0 0 _ _ 0 [(0, .ref (b + 405)), (1, .int 3), (2, .int w1), (3, .int w2), (4, .int w3), (5, .int w4)] []
  refine z_aload_n B dX9_set_0 rfl 0 rfl ?_
  refine z_iload_n B dX9_set_1 rfl 1 rfl ?_
  refine z_iload_n B dX9_set_2 rfl 2 rfl ?_
  refine z_cSi (As := [.int 3, .int w1]) (rest := [.ref (b + 405)]) B cw_X9_238 dX9_set_3 (ci_X9_isStep_224 l (σ := (ap b σ [] [] [])) (b := b) (lyA hK) w1 q1_w1 q2_w1) rfl (by decide) rfl (Nat.le_of_ble_eq_true rfl) (by decide) (fun r u hu => ?_)
  refine z_eqs (σ' := (ap b σ [] [] [])) hu.2 ?_
  show zx p l e _ s m _ below meth c g 7 0 0 _ _ 6 [(0, .ref (b + 405)), (1, .int 3), (2, .int w1), (3, .int w2), (4, .int w3), (5, .int w4)] _
  refine z_seti (y := 0) hu.1 ?_
  refine z_iload_n B dX9_set_6 rfl 3 rfl ?_
  refine z_iload B dX9_set_7 4 rfl ?_
  refine z_iload B dX9_set_9 5 rfl ?_
  refine z_cSi (As := [.int w2, .int w3, .int w4]) (rest := [.int 0, .ref (b + 405)]) B cw_X9_242 dX9_set_11 (ci_X9_isOperation_37 l (σ := (ap b σ [] [] [])) (b := b) (lyA hK) w2 w3 w4 q1_w2 q2_w2 q1_w3 q2_w3 q1_w4 q2_w4) rfl (by decide) rfl (Nat.le_of_ble_eq_true rfl) (by decide) (fun r u hu => ?_)
  refine z_eqs (σ' := (ap b σ [] [] [])) hu.2 ?_
  show zx p l e _ s m _ below meth c g 7 0 0 _ _ 14 [(0, .ref (b + 405)), (1, .int 3), (2, .int w1), (3, .int w2), (4, .int w3), (5, .int w4)] _
  refine z_seti (y := 0) hu.1 ?_
  refine z_cVi (As := [.int 0, .int 0]) (rest := []) B cw_X9_245 cx_10 dX9_set_14 (ci_X9_needs__29 l (σ := (ap b σ [] [] [])) (b := b) (lyA hK) ) (lKA (hk_K hK 405 rfl rfl)) rfl (by decide) rfl (Nat.le_of_ble_eq_true rfl) (by decide) (fun r u hu => ?_)
  refine z_eqs (σ' := (ap b σ [(405, 0, 1)] [] [])) (hu.2.trans ap_ap) ?_
  show zx p l e _ s m _ below meth c g 7 0 0 _ _ 17 [(0, .ref (b + 405)), (1, .int 3), (2, .int w1), (3, .int w2), (4, .int w3), (5, .int w4)] _
  refine z_seti (y := 0) hu.1 ?_
  refine z_if_ne (tgt := 22) B dX9_set_17 (by decide) (fun h => absurd (by decide) h) (fun _ => ?_)
  refine z_iconst (v := 0) B dX9_set_20 (by decide) ?_
  exact z_iret B hr (by decide) (by decide) dX9_set_21 ⟨rfl, rfl⟩
set_option maxRecDepth 100000 in
set_option maxHeartbeats 4000000 in
theorem ci_X9_set_228 (l : Launch) {g : gx_T} {σ : sx_T} {b : Nat} (hK : lay b σ) (w1 : Int32) (w2 : Int32) (w3 : Int32) (w4 : Int32) (q1_w1 : (-2147483648 : Int) ≤ w1.toInt) (q2_w1 : w1.toInt ≤ (-1 : Int)) (q1_w2 : (0 : Int) ≤ w2.toInt) (q2_w2 : w2.toInt ≤ (17 : Int)) (q1_w3 : (0 : Int) ≤ w3.toInt) (q2_w3 : w3.toInt ≤ (99 : Int)) (q1_w4 : (0 : Int) ≤ w4.toInt) (q2_w4 : w4.toInt ≤ (99 : Int))  : Met l yX9_set (.code yX9_set cX9_set 7 (some .int) :: lw_g) { frames := 2, cells := 0, slots := 0, locals := 44 } (va_Pc [.ref (b + 405), .int 3, .int w1, .int w2, .int w3, .int w4] (zx_w g σ)) (va_Qi (fun r u => r = 0 ∧ u = (ap b σ [(405, 0, 1)] [] [])) (zx_w g) (gx_Q g)) 0 0 (gx_Q g) := by
  refine z_met (by decide) (Nat.le_of_ble_eq_true rfl) (fun p e s m below meth c B hr hin => ?_)
  refine z_eqs (σ' := (ap b σ [] [] [])) rfl ?_
  show zx p l e _ s m _ below meth c g 7 0 0 _ _ 0 [(0, .ref (b + 405)), (1, .int 3), (2, .int w1), (3, .int w2), (4, .int w3), (5, .int w4)] []
  refine z_aload_n B dX9_set_0 rfl 0 rfl ?_
  refine z_iload_n B dX9_set_1 rfl 1 rfl ?_
  refine z_iload_n B dX9_set_2 rfl 2 rfl ?_
  refine z_cSi (As := [.int 3, .int w1]) (rest := [.ref (b + 405)]) B cw_X9_238 dX9_set_3 (ci_X9_isStep_224 l (σ := (ap b σ [] [] [])) (b := b) (lyA hK) w1 q1_w1 q2_w1) rfl (by decide) rfl (Nat.le_of_ble_eq_true rfl) (by decide) (fun r u hu => ?_)
  refine z_eqs (σ' := (ap b σ [] [] [])) hu.2 ?_
  show zx p l e _ s m _ below meth c g 7 0 0 _ _ 6 [(0, .ref (b + 405)), (1, .int 3), (2, .int w1), (3, .int w2), (4, .int w3), (5, .int w4)] _
  refine z_seti (y := 0) hu.1 ?_
  refine z_iload_n B dX9_set_6 rfl 3 rfl ?_
  refine z_iload B dX9_set_7 4 rfl ?_
  refine z_iload B dX9_set_9 5 rfl ?_
  refine z_cSi (As := [.int w2, .int w3, .int w4]) (rest := [.int 0, .ref (b + 405)]) B cw_X9_242 dX9_set_11 (ci_X9_isOperation_39 l (σ := (ap b σ [] [] [])) (b := b) (lyA hK) w2 w3 w4 q1_w2 q2_w2 q1_w3 q2_w3 q1_w4 q2_w4) rfl (by decide) rfl (Nat.le_of_ble_eq_true rfl) (by decide) (fun r u hu => ?_)
  refine z_eqs (σ' := (ap b σ [] [] [])) hu.2 ?_
  show zx p l e _ s m _ below meth c g 7 0 0 _ _ 14 [(0, .ref (b + 405)), (1, .int 3), (2, .int w1), (3, .int w2), (4, .int w3), (5, .int w4)] _
  refine z_seti (y := 1) hu.1 ?_
  refine z_cVi (As := [.int 0, .int 1]) (rest := []) B cw_X9_245 cx_10 dX9_set_14 (ci_X9_needs__40 l (σ := (ap b σ [] [] [])) (b := b) (lyA hK) ) (lKA (hk_K hK 405 rfl rfl)) rfl (by decide) rfl (Nat.le_of_ble_eq_true rfl) (by decide) (fun r u hu => ?_)
  refine z_eqs (σ' := (ap b σ [(405, 0, 1)] [] [])) (hu.2.trans ap_ap) ?_
  show zx p l e _ s m _ below meth c g 7 0 0 _ _ 17 [(0, .ref (b + 405)), (1, .int 3), (2, .int w1), (3, .int w2), (4, .int w3), (5, .int w4)] _
  refine z_seti (y := 0) hu.1 ?_
  refine z_if_ne (tgt := 22) B dX9_set_17 (by decide) (fun h => absurd (by decide) h) (fun _ => ?_)
  refine z_iconst (v := 0) B dX9_set_20 (by decide) ?_
  exact z_iret B hr (by decide) (by decide) dX9_set_21 ⟨rfl, rfl⟩
set_option maxRecDepth 100000 in
set_option maxHeartbeats 4000000 in
theorem ci_X9_set_229 (l : Launch) {g : gx_T} {σ : sx_T} {b : Nat} (hK : lay b σ) (w1 : Int32) (w2 : Int32) (w3 : Int32) (w4 : Int32) (q1_w1 : (-2147483648 : Int) ≤ w1.toInt) (q2_w1 : w1.toInt ≤ (-1 : Int)) (q1_w2 : (0 : Int) ≤ w2.toInt) (q2_w2 : w2.toInt ≤ (17 : Int)) (q1_w3 : (0 : Int) ≤ w3.toInt) (q2_w3 : w3.toInt ≤ (99 : Int)) (q1_w4 : (100 : Int) ≤ w4.toInt) (q2_w4 : w4.toInt ≤ (2147483647 : Int))  : Met l yX9_set (.code yX9_set cX9_set 7 (some .int) :: lw_g) { frames := 2, cells := 0, slots := 0, locals := 44 } (va_Pc [.ref (b + 405), .int 3, .int w1, .int w2, .int w3, .int w4] (zx_w g σ)) (va_Qi (fun r u => r = 0 ∧ u = (ap b σ [(405, 0, 1)] [] [])) (zx_w g) (gx_Q g)) 0 0 (gx_Q g) := by
  refine z_met (by decide) (Nat.le_of_ble_eq_true rfl) (fun p e s m below meth c B hr hin => ?_)
  refine z_eqs (σ' := (ap b σ [] [] [])) rfl ?_
  show zx p l e _ s m _ below meth c g 7 0 0 _ _ 0 [(0, .ref (b + 405)), (1, .int 3), (2, .int w1), (3, .int w2), (4, .int w3), (5, .int w4)] []
  refine z_aload_n B dX9_set_0 rfl 0 rfl ?_
  refine z_iload_n B dX9_set_1 rfl 1 rfl ?_
  refine z_iload_n B dX9_set_2 rfl 2 rfl ?_
  refine z_cSi (As := [.int 3, .int w1]) (rest := [.ref (b + 405)]) B cw_X9_238 dX9_set_3 (ci_X9_isStep_224 l (σ := (ap b σ [] [] [])) (b := b) (lyA hK) w1 q1_w1 q2_w1) rfl (by decide) rfl (Nat.le_of_ble_eq_true rfl) (by decide) (fun r u hu => ?_)
  refine z_eqs (σ' := (ap b σ [] [] [])) hu.2 ?_
  show zx p l e _ s m _ below meth c g 7 0 0 _ _ 6 [(0, .ref (b + 405)), (1, .int 3), (2, .int w1), (3, .int w2), (4, .int w3), (5, .int w4)] _
  refine z_seti (y := 0) hu.1 ?_
  refine z_iload_n B dX9_set_6 rfl 3 rfl ?_
  refine z_iload B dX9_set_7 4 rfl ?_
  refine z_iload B dX9_set_9 5 rfl ?_
  refine z_cSi (As := [.int w2, .int w3, .int w4]) (rest := [.int 0, .ref (b + 405)]) B cw_X9_242 dX9_set_11 (ci_X9_isOperation_43 l (σ := (ap b σ [] [] [])) (b := b) (lyA hK) w2 w3 w4 q1_w2 q2_w2 q1_w3 q2_w3 q1_w4 q2_w4) rfl (by decide) rfl (Nat.le_of_ble_eq_true rfl) (by decide) (fun r u hu => ?_)
  refine z_eqs (σ' := (ap b σ [] [] [])) hu.2 ?_
  show zx p l e _ s m _ below meth c g 7 0 0 _ _ 14 [(0, .ref (b + 405)), (1, .int 3), (2, .int w1), (3, .int w2), (4, .int w3), (5, .int w4)] _
  refine z_seti (y := 0) hu.1 ?_
  refine z_cVi (As := [.int 0, .int 0]) (rest := []) B cw_X9_245 cx_10 dX9_set_14 (ci_X9_needs__29 l (σ := (ap b σ [] [] [])) (b := b) (lyA hK) ) (lKA (hk_K hK 405 rfl rfl)) rfl (by decide) rfl (Nat.le_of_ble_eq_true rfl) (by decide) (fun r u hu => ?_)
  refine z_eqs (σ' := (ap b σ [(405, 0, 1)] [] [])) (hu.2.trans ap_ap) ?_
  show zx p l e _ s m _ below meth c g 7 0 0 _ _ 17 [(0, .ref (b + 405)), (1, .int 3), (2, .int w1), (3, .int w2), (4, .int w3), (5, .int w4)] _
  refine z_seti (y := 0) hu.1 ?_
  refine z_if_ne (tgt := 22) B dX9_set_17 (by decide) (fun h => absurd (by decide) h) (fun _ => ?_)
  refine z_iconst (v := 0) B dX9_set_20 (by decide) ?_
  exact z_iret B hr (by decide) (by decide) dX9_set_21 ⟨rfl, rfl⟩
set_option maxRecDepth 100000 in
set_option maxHeartbeats 4000000 in
theorem ci_X9_set_230 (l : Launch) {g : gx_T} {σ : sx_T} {b : Nat} (hK : lay b σ) (w1 : Int32) (w2 : Int32) (w3 : Int32) (w4 : Int32) (q1_w1 : (-2147483648 : Int) ≤ w1.toInt) (q2_w1 : w1.toInt ≤ (-1 : Int)) (q1_w2 : (0 : Int) ≤ w2.toInt) (q2_w2 : w2.toInt ≤ (17 : Int)) (q1_w3 : (100 : Int) ≤ w3.toInt) (q2_w3 : w3.toInt ≤ (2147483647 : Int))  : Met l yX9_set (.code yX9_set cX9_set 7 (some .int) :: lw_g) { frames := 2, cells := 0, slots := 0, locals := 44 } (va_Pc [.ref (b + 405), .int 3, .int w1, .int w2, .int w3, .int w4] (zx_w g σ)) (va_Qi (fun r u => r = 0 ∧ u = (ap b σ [(405, 0, 1)] [] [])) (zx_w g) (gx_Q g)) 0 0 (gx_Q g) := by
  refine z_met (by decide) (Nat.le_of_ble_eq_true rfl) (fun p e s m below meth c B hr hin => ?_)
  refine z_eqs (σ' := (ap b σ [] [] [])) rfl ?_
  show zx p l e _ s m _ below meth c g 7 0 0 _ _ 0 [(0, .ref (b + 405)), (1, .int 3), (2, .int w1), (3, .int w2), (4, .int w3), (5, .int w4)] []
  refine z_aload_n B dX9_set_0 rfl 0 rfl ?_
  refine z_iload_n B dX9_set_1 rfl 1 rfl ?_
  refine z_iload_n B dX9_set_2 rfl 2 rfl ?_
  refine z_cSi (As := [.int 3, .int w1]) (rest := [.ref (b + 405)]) B cw_X9_238 dX9_set_3 (ci_X9_isStep_224 l (σ := (ap b σ [] [] [])) (b := b) (lyA hK) w1 q1_w1 q2_w1) rfl (by decide) rfl (Nat.le_of_ble_eq_true rfl) (by decide) (fun r u hu => ?_)
  refine z_eqs (σ' := (ap b σ [] [] [])) hu.2 ?_
  show zx p l e _ s m _ below meth c g 7 0 0 _ _ 6 [(0, .ref (b + 405)), (1, .int 3), (2, .int w1), (3, .int w2), (4, .int w3), (5, .int w4)] _
  refine z_seti (y := 0) hu.1 ?_
  refine z_iload_n B dX9_set_6 rfl 3 rfl ?_
  refine z_iload B dX9_set_7 4 rfl ?_
  refine z_iload B dX9_set_9 5 rfl ?_
  refine z_cSi (As := [.int w2, .int w3, .int w4]) (rest := [.int 0, .ref (b + 405)]) B cw_X9_242 dX9_set_11 (ci_X9_isOperation_45 l (σ := (ap b σ [] [] [])) (b := b) (lyA hK) w2 w3 w4 q1_w2 q2_w2 q1_w3 q2_w3) rfl (by decide) rfl (Nat.le_of_ble_eq_true rfl) (by decide) (fun r u hu => ?_)
  refine z_eqs (σ' := (ap b σ [] [] [])) hu.2 ?_
  show zx p l e _ s m _ below meth c g 7 0 0 _ _ 14 [(0, .ref (b + 405)), (1, .int 3), (2, .int w1), (3, .int w2), (4, .int w3), (5, .int w4)] _
  refine z_seti (y := 0) hu.1 ?_
  refine z_cVi (As := [.int 0, .int 0]) (rest := []) B cw_X9_245 cx_10 dX9_set_14 (ci_X9_needs__29 l (σ := (ap b σ [] [] [])) (b := b) (lyA hK) ) (lKA (hk_K hK 405 rfl rfl)) rfl (by decide) rfl (Nat.le_of_ble_eq_true rfl) (by decide) (fun r u hu => ?_)
  refine z_eqs (σ' := (ap b σ [(405, 0, 1)] [] [])) (hu.2.trans ap_ap) ?_
  show zx p l e _ s m _ below meth c g 7 0 0 _ _ 17 [(0, .ref (b + 405)), (1, .int 3), (2, .int w1), (3, .int w2), (4, .int w3), (5, .int w4)] _
  refine z_seti (y := 0) hu.1 ?_
  refine z_if_ne (tgt := 22) B dX9_set_17 (by decide) (fun h => absurd (by decide) h) (fun _ => ?_)
  refine z_iconst (v := 0) B dX9_set_20 (by decide) ?_
  exact z_iret B hr (by decide) (by decide) dX9_set_21 ⟨rfl, rfl⟩
set_option maxRecDepth 100000 in
set_option maxHeartbeats 4000000 in
theorem ci_X9_set_231 (l : Launch) {g : gx_T} {σ : sx_T} {b : Nat} (hK : lay b σ) (w1 : Int32) (w2 : Int32) (w3 : Int32) (w4 : Int32) (q1_w1 : (-2147483648 : Int) ≤ w1.toInt) (q2_w1 : w1.toInt ≤ (-1 : Int)) (q1_w2 : (18 : Int) ≤ w2.toInt) (q2_w2 : w2.toInt ≤ (2147483647 : Int))  : Met l yX9_set (.code yX9_set cX9_set 7 (some .int) :: lw_g) { frames := 2, cells := 0, slots := 0, locals := 44 } (va_Pc [.ref (b + 405), .int 3, .int w1, .int w2, .int w3, .int w4] (zx_w g σ)) (va_Qi (fun r u => r = 0 ∧ u = (ap b σ [(405, 0, 1)] [] [])) (zx_w g) (gx_Q g)) 0 0 (gx_Q g) := by
  refine z_met (by decide) (Nat.le_of_ble_eq_true rfl) (fun p e s m below meth c B hr hin => ?_)
  refine z_eqs (σ' := (ap b σ [] [] [])) rfl ?_
  show zx p l e _ s m _ below meth c g 7 0 0 _ _ 0 [(0, .ref (b + 405)), (1, .int 3), (2, .int w1), (3, .int w2), (4, .int w3), (5, .int w4)] []
  refine z_aload_n B dX9_set_0 rfl 0 rfl ?_
  refine z_iload_n B dX9_set_1 rfl 1 rfl ?_
  refine z_iload_n B dX9_set_2 rfl 2 rfl ?_
  refine z_cSi (As := [.int 3, .int w1]) (rest := [.ref (b + 405)]) B cw_X9_238 dX9_set_3 (ci_X9_isStep_224 l (σ := (ap b σ [] [] [])) (b := b) (lyA hK) w1 q1_w1 q2_w1) rfl (by decide) rfl (Nat.le_of_ble_eq_true rfl) (by decide) (fun r u hu => ?_)
  refine z_eqs (σ' := (ap b σ [] [] [])) hu.2 ?_
  show zx p l e _ s m _ below meth c g 7 0 0 _ _ 6 [(0, .ref (b + 405)), (1, .int 3), (2, .int w1), (3, .int w2), (4, .int w3), (5, .int w4)] _
  refine z_seti (y := 0) hu.1 ?_
  refine z_iload_n B dX9_set_6 rfl 3 rfl ?_
  refine z_iload B dX9_set_7 4 rfl ?_
  refine z_iload B dX9_set_9 5 rfl ?_
  refine z_cSi (As := [.int w2, .int w3, .int w4]) (rest := [.int 0, .ref (b + 405)]) B cw_X9_242 dX9_set_11 (ci_X9_isOperation_48 l (σ := (ap b σ [] [] [])) (b := b) (lyA hK) w2 w3 w4 q1_w2 q2_w2) rfl (by decide) rfl (Nat.le_of_ble_eq_true rfl) (by decide) (fun r u hu => ?_)
  refine z_eqs (σ' := (ap b σ [] [] [])) hu.2 ?_
  show zx p l e _ s m _ below meth c g 7 0 0 _ _ 14 [(0, .ref (b + 405)), (1, .int 3), (2, .int w1), (3, .int w2), (4, .int w3), (5, .int w4)] _
  refine z_seti (y := 0) hu.1 ?_
  refine z_cVi (As := [.int 0, .int 0]) (rest := []) B cw_X9_245 cx_10 dX9_set_14 (ci_X9_needs__29 l (σ := (ap b σ [] [] [])) (b := b) (lyA hK) ) (lKA (hk_K hK 405 rfl rfl)) rfl (by decide) rfl (Nat.le_of_ble_eq_true rfl) (by decide) (fun r u hu => ?_)
  refine z_eqs (σ' := (ap b σ [(405, 0, 1)] [] [])) (hu.2.trans ap_ap) ?_
  show zx p l e _ s m _ below meth c g 7 0 0 _ _ 17 [(0, .ref (b + 405)), (1, .int 3), (2, .int w1), (3, .int w2), (4, .int w3), (5, .int w4)] _
  refine z_seti (y := 0) hu.1 ?_
  refine z_if_ne (tgt := 22) B dX9_set_17 (by decide) (fun h => absurd (by decide) h) (fun _ => ?_)
  refine z_iconst (v := 0) B dX9_set_20 (by decide) ?_
  exact z_iret B hr (by decide) (by decide) dX9_set_21 ⟨rfl, rfl⟩
set_option maxRecDepth 100000 in
set_option maxHeartbeats 4000000 in
theorem ci_X8_set_232 (l : Launch) (hlt : l.stackTraces = false) {g : gx_T} {σ : sx_T} {b : Nat} (hK : lay b σ) (w1 : Int32) (w2 : Int32) (w3 : Int32) (w4 : Int32) (q1_w1 : (0 : Int) ≤ w1.toInt) (q2_w1 : w1.toInt ≤ (19 : Int)) (q1_w2 : (-2147483648 : Int) ≤ w2.toInt) (q2_w2 : w2.toInt ≤ (-1 : Int)) (hR_0_0 : sx_R σ (b + 0) 0 = (some (b + 1))) (hR_1_3 : sx_R σ (b + 1) 3 = (some (b + 21))) : vx_Met l yX8_set (.code yX8_set cX8_set 9 (some .int) :: lw_g) { frames := 7, cells := 1, slots := 6, locals := 136 } (va_Pc [.ref (b + 0), .int 3, .int w1, .int w2, .int w3, .int w4] (zx_w g σ)) (va_Qi (S := sx_T) (fun _ _ => False) (zx_w g) (gx_Q g)) (vx_X (fun u : sx_T => ∃ z, u = wx_Z σ z) (fun E u t => E = "java/lang/IllegalArgumentException" ∧ zx_h g u t.heap) (gx_Q g)) 1 6 (gx_Q g) := by
  refine z_metX (by decide) (Nat.le_of_ble_eq_true rfl) (fun p e s m below meth c B hr hin hout => ?_)
  refine z_eqs (σ' := (ap b σ [] [] [])) rfl ?_
  show zx p l e _ s m _ below meth c g 9 0 0 _ _ 0 [(0, .ref (b + 0)), (1, .int 3), (2, .int w1), (3, .int w2), (4, .int w3), (5, .int w4)] []
  refine z_aload_n B dX8_set_0 rfl 0 rfl ?_
  refine z_iload_n B dX8_set_1 rfl 1 rfl ?_
  refine z_cVq (As := [.int 3]) (rest := []) B cw_X8_64 cx_9 dX8_set_2 (ci_X8_programAt_220 l (σ := (ap b σ [] [] [])) (b := b) (lyA hK) (rR_at 0 0 hR_0_0) (rR_at 1 3 hR_1_3)) (lKA (hk_K hK 0 rfl rfl)) rfl (by decide) rfl (Nat.le_of_ble_eq_true rfl) (by decide) (fun r u hu => ?_)
  refine z_eqs (σ' := (ap b σ [] [] [])) hu.2 ?_
  show zx p l e _ s m _ below meth c g 9 0 0 _ _ 5 [(0, .ref (b + 0)), (1, .int 3), (2, .int w1), (3, .int w2), (4, .int w3), (5, .int w4)] _
  refine z_setr (y := (some (b + 21))) hu.1 ?_
  refine z_astore (lv' := [(6, .ref (b + 21)), (0, .ref (b + 0)), (1, .int 3), (2, .int w1), (3, .int w2), (4, .int w3), (5, .int w4)]) B dX8_set_5 (by decide) rfl ?_
  refine z_aload B dX8_set_7 0 rfl ?_
  refine z_ifnull (r := (some (b + 21))) (tgt := 21) B dX8_set_9 (by decide) (fun h => nomatch h) (fun _ _ => ?_)
  refine z_iload_n B dX8_set_12 rfl 3 rfl ?_
  refine z_bipush (v := 20) B dX8_set_13 (by decide) ?_
  refine z_cSi (As := [.int w1, .int 20]) (rest := []) B cw_X8_68 dX8_set_15 (ci_X8_isBelow_64 l (σ := (ap b σ [] [] [])) (b := b) (lyA hK) w1 q1_w1 q2_w1) rfl (by decide) rfl (Nat.le_of_ble_eq_true rfl) (by decide) (fun r u hu => ?_)
  refine z_eqs (σ' := (ap b σ [] [] [])) hu.2 ?_
  show zx p l e _ s m _ below meth c g 9 0 0 _ _ 18 [(6, .ref (b + 21)), (0, .ref (b + 0)), (1, .int 3), (2, .int w1), (3, .int w2), (4, .int w3), (5, .int w4)] _
  refine z_seti (y := 1) hu.1 ?_
  refine z_if_ne (tgt := 31) B dX8_set_18 (by decide) (fun _ => ?_) (fun h => absurd h (by decide))
  refine z_iload_n B dX8_set_31 rfl 4 rfl ?_
  refine z_iload B dX8_set_32 5 rfl ?_
  refine z_iload B dX8_set_34 6 rfl ?_
  refine z_cSi (As := [.int w2, .int w3, .int w4]) (rest := []) B cw_X8_79 dX8_set_36 (ci_X8_isStep_66 l (σ := (ap b σ [] [] [])) (b := b) (lyA hK) w2 w3 w4 q1_w2 q2_w2) rfl (by decide) rfl (Nat.le_of_ble_eq_true rfl) (by decide) (fun r u hu => ?_)
  refine z_eqs (σ' := (ap b σ [] [] [])) hu.2 ?_
  show zx p l e _ s m _ below meth c g 9 0 0 _ _ 39 [(6, .ref (b + 21)), (0, .ref (b + 0)), (1, .int 3), (2, .int w1), (3, .int w2), (4, .int w3), (5, .int w4)] _
  refine z_seti (y := 0) hu.1 ?_
  refine z_if_ne (tgt := 52) B dX8_set_39 (by decide) (fun h => absurd (by decide) h) (fun _ => ?_)
  exact z_throw B hlt hout (cls := "java/lang/IllegalArgumentException") (text := "no such operation") tw_X8_83_85_87 dX8_set_42 dX8_set_45 dX8_set_46 dX8_set_48 dX8_set_51 (by decide) (by decide) (by decide) (by decide) (by decide) (by decide) (fun z => ⟨z, rfl⟩)
set_option maxRecDepth 100000 in
set_option maxHeartbeats 4000000 in
theorem ci_L_set_233 (l : Launch) (hlt : l.stackTraces = false) {g : gx_T} {σ : sx_T} {b : Nat} (hK : lay b σ) (w1 : Int32) (w2 : Int32) (w3 : Int32) (w4 : Int32) (q1_w1 : (0 : Int) ≤ w1.toInt) (q2_w1 : w1.toInt ≤ (19 : Int)) (q1_w2 : (-2147483648 : Int) ≤ w2.toInt) (q2_w2 : w2.toInt ≤ (-1 : Int)) (hR_0_0 : sx_R σ (b + 0) 0 = (some (b + 1))) (hR_1_3 : sx_R σ (b + 1) 3 = (some (b + 21))) : Met l yL_set (.codeWith yL_set cL_set 8 (some .int) [(0, 16, 19, 13), (0, 16, 23, 15)] :: lw_g) { frames := 8, cells := 1, slots := 6, locals := 164 } (va_Pc [.ref (b + 0), .int 3, .int w1, .int w2, .int w3, .int w4, .ref (b + 431)] (zx_w g σ)) (va_Qi (fun r u => r = 2 ∧ ∃ z, u = (ap b (wx_Z σ z) [] [] [])) (zx_w g) (gx_Q g)) 1 6 (gx_Q g) := by
  refine z_metW (by decide) (Nat.le_of_ble_eq_true rfl) (fun p e s m below meth c B hr htab => ?_)
  refine z_eqs (σ' := (ap b σ [] [] [])) rfl ?_
  show zx p l e _ s m _ below meth c g 8 0 0 _ _ 0 [(0, .ref (b + 0)), (1, .int 3), (2, .int w1), (3, .int w2), (4, .int w3), (5, .int w4), (6, .ref (b + 431))] []
  refine z_aload B dL_set_0 6 rfl ?_
  refine z_iconst (v := 0) B dL_set_2 (by decide) ?_
  refine z_aload_n B dL_set_3 rfl 0 rfl ?_
  refine z_iload_n B dL_set_4 rfl 1 rfl ?_
  refine z_iload_n B dL_set_5 rfl 2 rfl ?_
  refine z_iload_n B dL_set_6 rfl 3 rfl ?_
  refine z_iload B dL_set_7 4 rfl ?_
  refine z_iload B dL_set_9 5 rfl ?_
  refine z_cXi (As := [.int 3, .int w1, .int w2, .int w3, .int w4]) (rest := [.int 0, .ref (b + 431)]) B htab tc_set_11_IllegalArgumentException cw_L_7 cx_9 dL_set_11 (ci_X8_set_232 l hlt (σ := (ap b σ [] [] [])) (b := b) (lyA hK) w1 w2 w3 w4 q1_w1 q2_w1 q1_w2 q2_w2 (rR_at 0 0 hR_0_0) (rR_at 1 3 hR_1_3)) (lKA (hk_K hK 0 rfl rfl)) rfl (by decide) rfl (Nat.le_of_ble_eq_true rfl) (by decide) (fun z q => ?_)
  refine z_eqs (σ' := (ap b (wx_Z σ z) [] [] [])) rfl ?_
  show zx p l e _ s m _ below meth c g 8 _ _ _ _ 23 [(0, .ref (b + 0)), (1, .int 3), (2, .int w1), (3, .int w2), (4, .int w3), (5, .int w4), (6, .ref (b + 431))] _
  refine z_astore (lv' := [(7, .ref q), (0, .ref (b + 0)), (1, .int 3), (2, .int w1), (3, .int w2), (4, .int w3), (5, .int w4), (6, .ref (b + 431))]) B dL_set_23 (by decide) rfl ?_
  refine z_iconst (v := 2) B dL_set_25 (by decide) ?_
  exact z_iret B hr (by decide) (by decide) dL_set_26 ⟨rfl, _, rfl⟩
set_option maxRecDepth 100000 in
set_option maxHeartbeats 4000000 in
theorem ci_X9_isStep_234 (l : Launch) {g : gx_T} {σ : sx_T} {b : Nat} (hK : lay b σ) (w1 : Int32) (q1_w1 : (0 : Int) ≤ w1.toInt) (q2_w1 : w1.toInt ≤ (19 : Int))  : Met l yX9_isStep (.code yX9_isStep cX9_isStep 2 (some .boolean) :: lw_g) { frames := 1, cells := 0, slots := 0, locals := 22 } (va_Pc [.int 3, .int w1] (zx_w g σ)) (va_Qi (fun r u => r = 1 ∧ u = σ) (zx_w g) (gx_Q g)) 0 0 (gx_Q g) := by
  refine z_met (by decide) (Nat.le_of_ble_eq_true rfl) (fun p e s m below meth c B hr hin => ?_)
  refine z_eqs (σ' := (ap b σ [] [] [])) rfl ?_
  show zx p l e _ s m _ below meth c g 2 0 0 _ _ 0 [(0, .int 3), (1, .int w1)] []
  refine z_iload_n B dX9_isStep_0 rfl 0 rfl ?_
  refine z_iconst (v := 0) B dX9_isStep_1 (by decide) ?_
  refine z_iconst (v := 5) B dX9_isStep_2 (by decide) ?_
  refine z_cSi (As := [.int 3, .int 0, .int 5]) (rest := []) B cw_X9_96 dX9_isStep_3 (ci_X9_in_223 l (σ := (ap b σ [] [] [])) (b := b) (lyA hK) ) rfl (by decide) rfl (Nat.le_of_ble_eq_true rfl) (by decide) (fun r u hu => ?_)
  refine z_eqs (σ' := (ap b σ [] [] [])) hu.2 ?_
  show zx p l e _ s m _ below meth c g 2 0 0 _ _ 6 [(0, .int 3), (1, .int w1)] _
  refine z_seti (y := 1) hu.1 ?_
  refine z_if_eq (tgt := 23) B dX9_isStep_6 (by decide) (fun h => absurd h (by decide)) (fun _ => ?_)
  refine z_iload_n B dX9_isStep_9 rfl 1 rfl ?_
  refine z_iconst (v := 0) B dX9_isStep_10 (by decide) ?_
  refine z_bipush (v := 19) B dX9_isStep_11 (by decide) ?_
  refine z_cSi (As := [.int w1, .int 0, .int 19]) (rest := []) B cw_X9_96 dX9_isStep_13 (ci_X9_in_69 l (σ := (ap b σ [] [] [])) (b := b) (lyA hK) w1 q1_w1 q2_w1) rfl (by decide) rfl (Nat.le_of_ble_eq_true rfl) (by decide) (fun r u hu => ?_)
  refine z_eqs (σ' := (ap b σ [] [] [])) hu.2 ?_
  show zx p l e _ s m _ below meth c g 2 0 0 _ _ 16 [(0, .int 3), (1, .int w1)] _
  refine z_seti (y := 1) hu.1 ?_
  refine z_if_eq (tgt := 23) B dX9_isStep_16 (by decide) (fun h => absurd h (by decide)) (fun _ => ?_)
  refine z_iconst (v := 1) B dX9_isStep_19 (by decide) ?_
  refine z_goto (tgt := 24) B dX9_isStep_20 (by decide) ?_
  exact z_zret B hr (by decide) (by decide) (by decide) dX9_isStep_24 ⟨rfl, rfl⟩
set_option maxRecDepth 100000 in
set_option maxHeartbeats 4000000 in
theorem ci_X9_set_235 (l : Launch) {g : gx_T} {σ : sx_T} {b : Nat} (hK : lay b σ) (w1 : Int32) (w2 : Int32) (w3 : Int32) (w4 : Int32) (q1_w1 : (0 : Int) ≤ w1.toInt) (q2_w1 : w1.toInt ≤ (19 : Int)) (q1_w2 : (-2147483648 : Int) ≤ w2.toInt) (q2_w2 : w2.toInt ≤ (-1 : Int))  : Met l yX9_set (.code yX9_set cX9_set 7 (some .int) :: lw_g) { frames := 2, cells := 0, slots := 0, locals := 44 } (va_Pc [.ref (b + 405), .int 3, .int w1, .int w2, .int w3, .int w4] (zx_w g σ)) (va_Qi (fun r u => r = 0 ∧ u = (ap b σ [(405, 0, 2)] [] [])) (zx_w g) (gx_Q g)) 0 0 (gx_Q g) := by
  refine z_met (by decide) (Nat.le_of_ble_eq_true rfl) (fun p e s m below meth c B hr hin => ?_)
  refine z_eqs (σ' := (ap b σ [] [] [])) rfl ?_
  show zx p l e _ s m _ below meth c g 7 0 0 _ _ 0 [(0, .ref (b + 405)), (1, .int 3), (2, .int w1), (3, .int w2), (4, .int w3), (5, .int w4)] []
  refine z_aload_n B dX9_set_0 rfl 0 rfl ?_
  refine z_iload_n B dX9_set_1 rfl 1 rfl ?_
  refine z_iload_n B dX9_set_2 rfl 2 rfl ?_
  refine z_cSi (As := [.int 3, .int w1]) (rest := [.ref (b + 405)]) B cw_X9_238 dX9_set_3 (ci_X9_isStep_234 l (σ := (ap b σ [] [] [])) (b := b) (lyA hK) w1 q1_w1 q2_w1) rfl (by decide) rfl (Nat.le_of_ble_eq_true rfl) (by decide) (fun r u hu => ?_)
  refine z_eqs (σ' := (ap b σ [] [] [])) hu.2 ?_
  show zx p l e _ s m _ below meth c g 7 0 0 _ _ 6 [(0, .ref (b + 405)), (1, .int 3), (2, .int w1), (3, .int w2), (4, .int w3), (5, .int w4)] _
  refine z_seti (y := 1) hu.1 ?_
  refine z_iload_n B dX9_set_6 rfl 3 rfl ?_
  refine z_iload B dX9_set_7 4 rfl ?_
  refine z_iload B dX9_set_9 5 rfl ?_
  refine z_cSi (As := [.int w2, .int w3, .int w4]) (rest := [.int 1, .ref (b + 405)]) B cw_X9_242 dX9_set_11 (ci_X9_isOperation_28 l (σ := (ap b σ [] [] [])) (b := b) (lyA hK) w2 w3 w4 q1_w2 q2_w2) rfl (by decide) rfl (Nat.le_of_ble_eq_true rfl) (by decide) (fun r u hu => ?_)
  refine z_eqs (σ' := (ap b σ [] [] [])) hu.2 ?_
  show zx p l e _ s m _ below meth c g 7 0 0 _ _ 14 [(0, .ref (b + 405)), (1, .int 3), (2, .int w1), (3, .int w2), (4, .int w3), (5, .int w4)] _
  refine z_seti (y := 0) hu.1 ?_
  refine z_cVi (As := [.int 1, .int 0]) (rest := []) B cw_X9_245 cx_10 dX9_set_14 (ci_X9_needs__71 l (σ := (ap b σ [] [] [])) (b := b) (lyA hK) ) (lKA (hk_K hK 405 rfl rfl)) rfl (by decide) rfl (Nat.le_of_ble_eq_true rfl) (by decide) (fun r u hu => ?_)
  refine z_eqs (σ' := (ap b σ [(405, 0, 2)] [] [])) (hu.2.trans ap_ap) ?_
  show zx p l e _ s m _ below meth c g 7 0 0 _ _ 17 [(0, .ref (b + 405)), (1, .int 3), (2, .int w1), (3, .int w2), (4, .int w3), (5, .int w4)] _
  refine z_seti (y := 0) hu.1 ?_
  refine z_if_ne (tgt := 22) B dX9_set_17 (by decide) (fun h => absurd (by decide) h) (fun _ => ?_)
  refine z_iconst (v := 0) B dX9_set_20 (by decide) ?_
  exact z_iret B hr (by decide) (by decide) dX9_set_21 ⟨rfl, rfl⟩
set_option maxRecDepth 100000 in
set_option maxHeartbeats 4000000 in
theorem ci_X8_set_236 (l : Launch) (hlt : l.stackTraces = false) {g : gx_T} {σ : sx_T} {b : Nat} (hK : lay b σ) (w1 : Int32) (w2 : Int32) (w3 : Int32) (w4 : Int32) (q1_w1 : (0 : Int) ≤ w1.toInt) (q2_w1 : w1.toInt ≤ (19 : Int)) (q1_w2 : (0 : Int) ≤ w2.toInt) (q2_w2 : w2.toInt ≤ (17 : Int)) (q1_w3 : (-2147483648 : Int) ≤ w3.toInt) (q2_w3 : w3.toInt ≤ (-1 : Int)) (hR_0_0 : sx_R σ (b + 0) 0 = (some (b + 1))) (hR_1_3 : sx_R σ (b + 1) 3 = (some (b + 21))) : vx_Met l yX8_set (.code yX8_set cX8_set 9 (some .int) :: lw_g) { frames := 7, cells := 1, slots := 6, locals := 136 } (va_Pc [.ref (b + 0), .int 3, .int w1, .int w2, .int w3, .int w4] (zx_w g σ)) (va_Qi (S := sx_T) (fun _ _ => False) (zx_w g) (gx_Q g)) (vx_X (fun u : sx_T => ∃ z, u = wx_Z σ z) (fun E u t => E = "java/lang/IllegalArgumentException" ∧ zx_h g u t.heap) (gx_Q g)) 1 6 (gx_Q g) := by
  refine z_metX (by decide) (Nat.le_of_ble_eq_true rfl) (fun p e s m below meth c B hr hin hout => ?_)
  refine z_eqs (σ' := (ap b σ [] [] [])) rfl ?_
  show zx p l e _ s m _ below meth c g 9 0 0 _ _ 0 [(0, .ref (b + 0)), (1, .int 3), (2, .int w1), (3, .int w2), (4, .int w3), (5, .int w4)] []
  refine z_aload_n B dX8_set_0 rfl 0 rfl ?_
  refine z_iload_n B dX8_set_1 rfl 1 rfl ?_
  refine z_cVq (As := [.int 3]) (rest := []) B cw_X8_64 cx_9 dX8_set_2 (ci_X8_programAt_220 l (σ := (ap b σ [] [] [])) (b := b) (lyA hK) (rR_at 0 0 hR_0_0) (rR_at 1 3 hR_1_3)) (lKA (hk_K hK 0 rfl rfl)) rfl (by decide) rfl (Nat.le_of_ble_eq_true rfl) (by decide) (fun r u hu => ?_)
  refine z_eqs (σ' := (ap b σ [] [] [])) hu.2 ?_
  show zx p l e _ s m _ below meth c g 9 0 0 _ _ 5 [(0, .ref (b + 0)), (1, .int 3), (2, .int w1), (3, .int w2), (4, .int w3), (5, .int w4)] _
  refine z_setr (y := (some (b + 21))) hu.1 ?_
  refine z_astore (lv' := [(6, .ref (b + 21)), (0, .ref (b + 0)), (1, .int 3), (2, .int w1), (3, .int w2), (4, .int w3), (5, .int w4)]) B dX8_set_5 (by decide) rfl ?_
  refine z_aload B dX8_set_7 0 rfl ?_
  refine z_ifnull (r := (some (b + 21))) (tgt := 21) B dX8_set_9 (by decide) (fun h => nomatch h) (fun _ _ => ?_)
  refine z_iload_n B dX8_set_12 rfl 3 rfl ?_
  refine z_bipush (v := 20) B dX8_set_13 (by decide) ?_
  refine z_cSi (As := [.int w1, .int 20]) (rest := []) B cw_X8_68 dX8_set_15 (ci_X8_isBelow_64 l (σ := (ap b σ [] [] [])) (b := b) (lyA hK) w1 q1_w1 q2_w1) rfl (by decide) rfl (Nat.le_of_ble_eq_true rfl) (by decide) (fun r u hu => ?_)
  refine z_eqs (σ' := (ap b σ [] [] [])) hu.2 ?_
  show zx p l e _ s m _ below meth c g 9 0 0 _ _ 18 [(6, .ref (b + 21)), (0, .ref (b + 0)), (1, .int 3), (2, .int w1), (3, .int w2), (4, .int w3), (5, .int w4)] _
  refine z_seti (y := 1) hu.1 ?_
  refine z_if_ne (tgt := 31) B dX8_set_18 (by decide) (fun _ => ?_) (fun h => absurd h (by decide))
  refine z_iload_n B dX8_set_31 rfl 4 rfl ?_
  refine z_iload B dX8_set_32 5 rfl ?_
  refine z_iload B dX8_set_34 6 rfl ?_
  refine z_cSi (As := [.int w2, .int w3, .int w4]) (rest := []) B cw_X8_79 dX8_set_36 (ci_X8_isStep_76 l (σ := (ap b σ [] [] [])) (b := b) (lyA hK) w2 w3 w4 q1_w2 q2_w2 q1_w3 q2_w3) rfl (by decide) rfl (Nat.le_of_ble_eq_true rfl) (by decide) (fun r u hu => ?_)
  refine z_eqs (σ' := (ap b σ [] [] [])) hu.2 ?_
  show zx p l e _ s m _ below meth c g 9 0 0 _ _ 39 [(6, .ref (b + 21)), (0, .ref (b + 0)), (1, .int 3), (2, .int w1), (3, .int w2), (4, .int w3), (5, .int w4)] _
  refine z_seti (y := 0) hu.1 ?_
  refine z_if_ne (tgt := 52) B dX8_set_39 (by decide) (fun h => absurd (by decide) h) (fun _ => ?_)
  exact z_throw B hlt hout (cls := "java/lang/IllegalArgumentException") (text := "no such operation") tw_X8_83_85_87 dX8_set_42 dX8_set_45 dX8_set_46 dX8_set_48 dX8_set_51 (by decide) (by decide) (by decide) (by decide) (by decide) (by decide) (fun z => ⟨z, rfl⟩)
set_option maxRecDepth 100000 in
set_option maxHeartbeats 4000000 in
theorem ci_L_set_237 (l : Launch) (hlt : l.stackTraces = false) {g : gx_T} {σ : sx_T} {b : Nat} (hK : lay b σ) (w1 : Int32) (w2 : Int32) (w3 : Int32) (w4 : Int32) (q1_w1 : (0 : Int) ≤ w1.toInt) (q2_w1 : w1.toInt ≤ (19 : Int)) (q1_w2 : (0 : Int) ≤ w2.toInt) (q2_w2 : w2.toInt ≤ (17 : Int)) (q1_w3 : (-2147483648 : Int) ≤ w3.toInt) (q2_w3 : w3.toInt ≤ (-1 : Int)) (hR_0_0 : sx_R σ (b + 0) 0 = (some (b + 1))) (hR_1_3 : sx_R σ (b + 1) 3 = (some (b + 21))) : Met l yL_set (.codeWith yL_set cL_set 8 (some .int) [(0, 16, 19, 13), (0, 16, 23, 15)] :: lw_g) { frames := 8, cells := 1, slots := 6, locals := 164 } (va_Pc [.ref (b + 0), .int 3, .int w1, .int w2, .int w3, .int w4, .ref (b + 431)] (zx_w g σ)) (va_Qi (fun r u => r = 2 ∧ ∃ z, u = (ap b (wx_Z σ z) [] [] [])) (zx_w g) (gx_Q g)) 1 6 (gx_Q g) := by
  refine z_metW (by decide) (Nat.le_of_ble_eq_true rfl) (fun p e s m below meth c B hr htab => ?_)
  refine z_eqs (σ' := (ap b σ [] [] [])) rfl ?_
  show zx p l e _ s m _ below meth c g 8 0 0 _ _ 0 [(0, .ref (b + 0)), (1, .int 3), (2, .int w1), (3, .int w2), (4, .int w3), (5, .int w4), (6, .ref (b + 431))] []
  refine z_aload B dL_set_0 6 rfl ?_
  refine z_iconst (v := 0) B dL_set_2 (by decide) ?_
  refine z_aload_n B dL_set_3 rfl 0 rfl ?_
  refine z_iload_n B dL_set_4 rfl 1 rfl ?_
  refine z_iload_n B dL_set_5 rfl 2 rfl ?_
  refine z_iload_n B dL_set_6 rfl 3 rfl ?_
  refine z_iload B dL_set_7 4 rfl ?_
  refine z_iload B dL_set_9 5 rfl ?_
  refine z_cXi (As := [.int 3, .int w1, .int w2, .int w3, .int w4]) (rest := [.int 0, .ref (b + 431)]) B htab tc_set_11_IllegalArgumentException cw_L_7 cx_9 dL_set_11 (ci_X8_set_236 l hlt (σ := (ap b σ [] [] [])) (b := b) (lyA hK) w1 w2 w3 w4 q1_w1 q2_w1 q1_w2 q2_w2 q1_w3 q2_w3 (rR_at 0 0 hR_0_0) (rR_at 1 3 hR_1_3)) (lKA (hk_K hK 0 rfl rfl)) rfl (by decide) rfl (Nat.le_of_ble_eq_true rfl) (by decide) (fun z q => ?_)
  refine z_eqs (σ' := (ap b (wx_Z σ z) [] [] [])) rfl ?_
  show zx p l e _ s m _ below meth c g 8 _ _ _ _ 23 [(0, .ref (b + 0)), (1, .int 3), (2, .int w1), (3, .int w2), (4, .int w3), (5, .int w4), (6, .ref (b + 431))] _
  refine z_astore (lv' := [(7, .ref q), (0, .ref (b + 0)), (1, .int 3), (2, .int w1), (3, .int w2), (4, .int w3), (5, .int w4), (6, .ref (b + 431))]) B dL_set_23 (by decide) rfl ?_
  refine z_iconst (v := 2) B dL_set_25 (by decide) ?_
  exact z_iret B hr (by decide) (by decide) dL_set_26 ⟨rfl, _, rfl⟩
set_option maxRecDepth 100000 in
set_option maxHeartbeats 4000000 in
theorem ci_X9_set_238 (l : Launch) {g : gx_T} {σ : sx_T} {b : Nat} (hK : lay b σ) (w1 : Int32) (w2 : Int32) (w3 : Int32) (w4 : Int32) (q1_w1 : (0 : Int) ≤ w1.toInt) (q2_w1 : w1.toInt ≤ (19 : Int)) (q1_w2 : (0 : Int) ≤ w2.toInt) (q2_w2 : w2.toInt ≤ (17 : Int)) (q1_w3 : (-2147483648 : Int) ≤ w3.toInt) (q2_w3 : w3.toInt ≤ (-1 : Int))  : Met l yX9_set (.code yX9_set cX9_set 7 (some .int) :: lw_g) { frames := 2, cells := 0, slots := 0, locals := 44 } (va_Pc [.ref (b + 405), .int 3, .int w1, .int w2, .int w3, .int w4] (zx_w g σ)) (va_Qi (fun r u => r = 0 ∧ u = (ap b σ [(405, 0, 2)] [] [])) (zx_w g) (gx_Q g)) 0 0 (gx_Q g) := by
  refine z_met (by decide) (Nat.le_of_ble_eq_true rfl) (fun p e s m below meth c B hr hin => ?_)
  refine z_eqs (σ' := (ap b σ [] [] [])) rfl ?_
  show zx p l e _ s m _ below meth c g 7 0 0 _ _ 0 [(0, .ref (b + 405)), (1, .int 3), (2, .int w1), (3, .int w2), (4, .int w3), (5, .int w4)] []
  refine z_aload_n B dX9_set_0 rfl 0 rfl ?_
  refine z_iload_n B dX9_set_1 rfl 1 rfl ?_
  refine z_iload_n B dX9_set_2 rfl 2 rfl ?_
  refine z_cSi (As := [.int 3, .int w1]) (rest := [.ref (b + 405)]) B cw_X9_238 dX9_set_3 (ci_X9_isStep_234 l (σ := (ap b σ [] [] [])) (b := b) (lyA hK) w1 q1_w1 q2_w1) rfl (by decide) rfl (Nat.le_of_ble_eq_true rfl) (by decide) (fun r u hu => ?_)
  refine z_eqs (σ' := (ap b σ [] [] [])) hu.2 ?_
  show zx p l e _ s m _ below meth c g 7 0 0 _ _ 6 [(0, .ref (b + 405)), (1, .int 3), (2, .int w1), (3, .int w2), (4, .int w3), (5, .int w4)] _
  refine z_seti (y := 1) hu.1 ?_
  refine z_iload_n B dX9_set_6 rfl 3 rfl ?_
  refine z_iload B dX9_set_7 4 rfl ?_
  refine z_iload B dX9_set_9 5 rfl ?_
  refine z_cSi (As := [.int w2, .int w3, .int w4]) (rest := [.int 1, .ref (b + 405)]) B cw_X9_242 dX9_set_11 (ci_X9_isOperation_34 l (σ := (ap b σ [] [] [])) (b := b) (lyA hK) w2 w3 w4 q1_w2 q2_w2 q1_w3 q2_w3) rfl (by decide) rfl (Nat.le_of_ble_eq_true rfl) (by decide) (fun r u hu => ?_)
  refine z_eqs (σ' := (ap b σ [] [] [])) hu.2 ?_
  show zx p l e _ s m _ below meth c g 7 0 0 _ _ 14 [(0, .ref (b + 405)), (1, .int 3), (2, .int w1), (3, .int w2), (4, .int w3), (5, .int w4)] _
  refine z_seti (y := 0) hu.1 ?_
  refine z_cVi (As := [.int 1, .int 0]) (rest := []) B cw_X9_245 cx_10 dX9_set_14 (ci_X9_needs__71 l (σ := (ap b σ [] [] [])) (b := b) (lyA hK) ) (lKA (hk_K hK 405 rfl rfl)) rfl (by decide) rfl (Nat.le_of_ble_eq_true rfl) (by decide) (fun r u hu => ?_)
  refine z_eqs (σ' := (ap b σ [(405, 0, 2)] [] [])) (hu.2.trans ap_ap) ?_
  show zx p l e _ s m _ below meth c g 7 0 0 _ _ 17 [(0, .ref (b + 405)), (1, .int 3), (2, .int w1), (3, .int w2), (4, .int w3), (5, .int w4)] _
  refine z_seti (y := 0) hu.1 ?_
  refine z_if_ne (tgt := 22) B dX9_set_17 (by decide) (fun h => absurd (by decide) h) (fun _ => ?_)
  refine z_iconst (v := 0) B dX9_set_20 (by decide) ?_
  exact z_iret B hr (by decide) (by decide) dX9_set_21 ⟨rfl, rfl⟩
set_option maxRecDepth 100000 in
set_option maxHeartbeats 4000000 in
theorem ci_X8_set_239 (l : Launch) (hlt : l.stackTraces = false) {g : gx_T} {σ : sx_T} {b : Nat} (hK : lay b σ) (w1 : Int32) (w2 : Int32) (w3 : Int32) (w4 : Int32) (q1_w1 : (0 : Int) ≤ w1.toInt) (q2_w1 : w1.toInt ≤ (19 : Int)) (q1_w2 : (0 : Int) ≤ w2.toInt) (q2_w2 : w2.toInt ≤ (17 : Int)) (q1_w3 : (0 : Int) ≤ w3.toInt) (q2_w3 : w3.toInt ≤ (99 : Int)) (q1_w4 : (-2147483648 : Int) ≤ w4.toInt) (q2_w4 : w4.toInt ≤ (-1 : Int)) (hR_0_0 : sx_R σ (b + 0) 0 = (some (b + 1))) (hR_1_3 : sx_R σ (b + 1) 3 = (some (b + 21))) : vx_Met l yX8_set (.code yX8_set cX8_set 9 (some .int) :: lw_g) { frames := 7, cells := 1, slots := 6, locals := 136 } (va_Pc [.ref (b + 0), .int 3, .int w1, .int w2, .int w3, .int w4] (zx_w g σ)) (va_Qi (S := sx_T) (fun _ _ => False) (zx_w g) (gx_Q g)) (vx_X (fun u : sx_T => ∃ z, u = wx_Z σ z) (fun E u t => E = "java/lang/IllegalArgumentException" ∧ zx_h g u t.heap) (gx_Q g)) 1 6 (gx_Q g) := by
  refine z_metX (by decide) (Nat.le_of_ble_eq_true rfl) (fun p e s m below meth c B hr hin hout => ?_)
  refine z_eqs (σ' := (ap b σ [] [] [])) rfl ?_
  show zx p l e _ s m _ below meth c g 9 0 0 _ _ 0 [(0, .ref (b + 0)), (1, .int 3), (2, .int w1), (3, .int w2), (4, .int w3), (5, .int w4)] []
  refine z_aload_n B dX8_set_0 rfl 0 rfl ?_
  refine z_iload_n B dX8_set_1 rfl 1 rfl ?_
  refine z_cVq (As := [.int 3]) (rest := []) B cw_X8_64 cx_9 dX8_set_2 (ci_X8_programAt_220 l (σ := (ap b σ [] [] [])) (b := b) (lyA hK) (rR_at 0 0 hR_0_0) (rR_at 1 3 hR_1_3)) (lKA (hk_K hK 0 rfl rfl)) rfl (by decide) rfl (Nat.le_of_ble_eq_true rfl) (by decide) (fun r u hu => ?_)
  refine z_eqs (σ' := (ap b σ [] [] [])) hu.2 ?_
  show zx p l e _ s m _ below meth c g 9 0 0 _ _ 5 [(0, .ref (b + 0)), (1, .int 3), (2, .int w1), (3, .int w2), (4, .int w3), (5, .int w4)] _
  refine z_setr (y := (some (b + 21))) hu.1 ?_
  refine z_astore (lv' := [(6, .ref (b + 21)), (0, .ref (b + 0)), (1, .int 3), (2, .int w1), (3, .int w2), (4, .int w3), (5, .int w4)]) B dX8_set_5 (by decide) rfl ?_
  refine z_aload B dX8_set_7 0 rfl ?_
  refine z_ifnull (r := (some (b + 21))) (tgt := 21) B dX8_set_9 (by decide) (fun h => nomatch h) (fun _ _ => ?_)
  refine z_iload_n B dX8_set_12 rfl 3 rfl ?_
  refine z_bipush (v := 20) B dX8_set_13 (by decide) ?_
  refine z_cSi (As := [.int w1, .int 20]) (rest := []) B cw_X8_68 dX8_set_15 (ci_X8_isBelow_64 l (σ := (ap b σ [] [] [])) (b := b) (lyA hK) w1 q1_w1 q2_w1) rfl (by decide) rfl (Nat.le_of_ble_eq_true rfl) (by decide) (fun r u hu => ?_)
  refine z_eqs (σ' := (ap b σ [] [] [])) hu.2 ?_
  show zx p l e _ s m _ below meth c g 9 0 0 _ _ 18 [(6, .ref (b + 21)), (0, .ref (b + 0)), (1, .int 3), (2, .int w1), (3, .int w2), (4, .int w3), (5, .int w4)] _
  refine z_seti (y := 1) hu.1 ?_
  refine z_if_ne (tgt := 31) B dX8_set_18 (by decide) (fun _ => ?_) (fun h => absurd h (by decide))
  refine z_iload_n B dX8_set_31 rfl 4 rfl ?_
  refine z_iload B dX8_set_32 5 rfl ?_
  refine z_iload B dX8_set_34 6 rfl ?_
  refine z_cSi (As := [.int w2, .int w3, .int w4]) (rest := []) B cw_X8_79 dX8_set_36 (ci_X8_isStep_81 l (σ := (ap b σ [] [] [])) (b := b) (lyA hK) w2 w3 w4 q1_w2 q2_w2 q1_w3 q2_w3 q1_w4 q2_w4) rfl (by decide) rfl (Nat.le_of_ble_eq_true rfl) (by decide) (fun r u hu => ?_)
  refine z_eqs (σ' := (ap b σ [] [] [])) hu.2 ?_
  show zx p l e _ s m _ below meth c g 9 0 0 _ _ 39 [(6, .ref (b + 21)), (0, .ref (b + 0)), (1, .int 3), (2, .int w1), (3, .int w2), (4, .int w3), (5, .int w4)] _
  refine z_seti (y := 0) hu.1 ?_
  refine z_if_ne (tgt := 52) B dX8_set_39 (by decide) (fun h => absurd (by decide) h) (fun _ => ?_)
  exact z_throw B hlt hout (cls := "java/lang/IllegalArgumentException") (text := "no such operation") tw_X8_83_85_87 dX8_set_42 dX8_set_45 dX8_set_46 dX8_set_48 dX8_set_51 (by decide) (by decide) (by decide) (by decide) (by decide) (by decide) (fun z => ⟨z, rfl⟩)
set_option maxRecDepth 100000 in
set_option maxHeartbeats 4000000 in
theorem ci_L_set_240 (l : Launch) (hlt : l.stackTraces = false) {g : gx_T} {σ : sx_T} {b : Nat} (hK : lay b σ) (w1 : Int32) (w2 : Int32) (w3 : Int32) (w4 : Int32) (q1_w1 : (0 : Int) ≤ w1.toInt) (q2_w1 : w1.toInt ≤ (19 : Int)) (q1_w2 : (0 : Int) ≤ w2.toInt) (q2_w2 : w2.toInt ≤ (17 : Int)) (q1_w3 : (0 : Int) ≤ w3.toInt) (q2_w3 : w3.toInt ≤ (99 : Int)) (q1_w4 : (-2147483648 : Int) ≤ w4.toInt) (q2_w4 : w4.toInt ≤ (-1 : Int)) (hR_0_0 : sx_R σ (b + 0) 0 = (some (b + 1))) (hR_1_3 : sx_R σ (b + 1) 3 = (some (b + 21))) : Met l yL_set (.codeWith yL_set cL_set 8 (some .int) [(0, 16, 19, 13), (0, 16, 23, 15)] :: lw_g) { frames := 8, cells := 1, slots := 6, locals := 164 } (va_Pc [.ref (b + 0), .int 3, .int w1, .int w2, .int w3, .int w4, .ref (b + 431)] (zx_w g σ)) (va_Qi (fun r u => r = 2 ∧ ∃ z, u = (ap b (wx_Z σ z) [] [] [])) (zx_w g) (gx_Q g)) 1 6 (gx_Q g) := by
  refine z_metW (by decide) (Nat.le_of_ble_eq_true rfl) (fun p e s m below meth c B hr htab => ?_)
  refine z_eqs (σ' := (ap b σ [] [] [])) rfl ?_
  show zx p l e _ s m _ below meth c g 8 0 0 _ _ 0 [(0, .ref (b + 0)), (1, .int 3), (2, .int w1), (3, .int w2), (4, .int w3), (5, .int w4), (6, .ref (b + 431))] []
  refine z_aload B dL_set_0 6 rfl ?_
  refine z_iconst (v := 0) B dL_set_2 (by decide) ?_
  refine z_aload_n B dL_set_3 rfl 0 rfl ?_
  refine z_iload_n B dL_set_4 rfl 1 rfl ?_
  refine z_iload_n B dL_set_5 rfl 2 rfl ?_
  refine z_iload_n B dL_set_6 rfl 3 rfl ?_
  refine z_iload B dL_set_7 4 rfl ?_
  refine z_iload B dL_set_9 5 rfl ?_
  refine z_cXi (As := [.int 3, .int w1, .int w2, .int w3, .int w4]) (rest := [.int 0, .ref (b + 431)]) B htab tc_set_11_IllegalArgumentException cw_L_7 cx_9 dL_set_11 (ci_X8_set_239 l hlt (σ := (ap b σ [] [] [])) (b := b) (lyA hK) w1 w2 w3 w4 q1_w1 q2_w1 q1_w2 q2_w2 q1_w3 q2_w3 q1_w4 q2_w4 (rR_at 0 0 hR_0_0) (rR_at 1 3 hR_1_3)) (lKA (hk_K hK 0 rfl rfl)) rfl (by decide) rfl (Nat.le_of_ble_eq_true rfl) (by decide) (fun z q => ?_)
  refine z_eqs (σ' := (ap b (wx_Z σ z) [] [] [])) rfl ?_
  show zx p l e _ s m _ below meth c g 8 _ _ _ _ 23 [(0, .ref (b + 0)), (1, .int 3), (2, .int w1), (3, .int w2), (4, .int w3), (5, .int w4), (6, .ref (b + 431))] _
  refine z_astore (lv' := [(7, .ref q), (0, .ref (b + 0)), (1, .int 3), (2, .int w1), (3, .int w2), (4, .int w3), (5, .int w4), (6, .ref (b + 431))]) B dL_set_23 (by decide) rfl ?_
  refine z_iconst (v := 2) B dL_set_25 (by decide) ?_
  exact z_iret B hr (by decide) (by decide) dL_set_26 ⟨rfl, _, rfl⟩
set_option maxRecDepth 100000 in
set_option maxHeartbeats 4000000 in
theorem ci_X9_set_241 (l : Launch) {g : gx_T} {σ : sx_T} {b : Nat} (hK : lay b σ) (w1 : Int32) (w2 : Int32) (w3 : Int32) (w4 : Int32) (q1_w1 : (0 : Int) ≤ w1.toInt) (q2_w1 : w1.toInt ≤ (19 : Int)) (q1_w2 : (0 : Int) ≤ w2.toInt) (q2_w2 : w2.toInt ≤ (17 : Int)) (q1_w3 : (0 : Int) ≤ w3.toInt) (q2_w3 : w3.toInt ≤ (99 : Int)) (q1_w4 : (-2147483648 : Int) ≤ w4.toInt) (q2_w4 : w4.toInt ≤ (-1 : Int))  : Met l yX9_set (.code yX9_set cX9_set 7 (some .int) :: lw_g) { frames := 2, cells := 0, slots := 0, locals := 44 } (va_Pc [.ref (b + 405), .int 3, .int w1, .int w2, .int w3, .int w4] (zx_w g σ)) (va_Qi (fun r u => r = 0 ∧ u = (ap b σ [(405, 0, 2)] [] [])) (zx_w g) (gx_Q g)) 0 0 (gx_Q g) := by
  refine z_met (by decide) (Nat.le_of_ble_eq_true rfl) (fun p e s m below meth c B hr hin => ?_)
  refine z_eqs (σ' := (ap b σ [] [] [])) rfl ?_
  show zx p l e _ s m _ below meth c g 7 0 0 _ _ 0 [(0, .ref (b + 405)), (1, .int 3), (2, .int w1), (3, .int w2), (4, .int w3), (5, .int w4)] []
  refine z_aload_n B dX9_set_0 rfl 0 rfl ?_
  refine z_iload_n B dX9_set_1 rfl 1 rfl ?_
  refine z_iload_n B dX9_set_2 rfl 2 rfl ?_
  refine z_cSi (As := [.int 3, .int w1]) (rest := [.ref (b + 405)]) B cw_X9_238 dX9_set_3 (ci_X9_isStep_234 l (σ := (ap b σ [] [] [])) (b := b) (lyA hK) w1 q1_w1 q2_w1) rfl (by decide) rfl (Nat.le_of_ble_eq_true rfl) (by decide) (fun r u hu => ?_)
  refine z_eqs (σ' := (ap b σ [] [] [])) hu.2 ?_
  show zx p l e _ s m _ below meth c g 7 0 0 _ _ 6 [(0, .ref (b + 405)), (1, .int 3), (2, .int w1), (3, .int w2), (4, .int w3), (5, .int w4)] _
  refine z_seti (y := 1) hu.1 ?_
  refine z_iload_n B dX9_set_6 rfl 3 rfl ?_
  refine z_iload B dX9_set_7 4 rfl ?_
  refine z_iload B dX9_set_9 5 rfl ?_
  refine z_cSi (As := [.int w2, .int w3, .int w4]) (rest := [.int 1, .ref (b + 405)]) B cw_X9_242 dX9_set_11 (ci_X9_isOperation_37 l (σ := (ap b σ [] [] [])) (b := b) (lyA hK) w2 w3 w4 q1_w2 q2_w2 q1_w3 q2_w3 q1_w4 q2_w4) rfl (by decide) rfl (Nat.le_of_ble_eq_true rfl) (by decide) (fun r u hu => ?_)
  refine z_eqs (σ' := (ap b σ [] [] [])) hu.2 ?_
  show zx p l e _ s m _ below meth c g 7 0 0 _ _ 14 [(0, .ref (b + 405)), (1, .int 3), (2, .int w1), (3, .int w2), (4, .int w3), (5, .int w4)] _
  refine z_seti (y := 0) hu.1 ?_
  refine z_cVi (As := [.int 1, .int 0]) (rest := []) B cw_X9_245 cx_10 dX9_set_14 (ci_X9_needs__71 l (σ := (ap b σ [] [] [])) (b := b) (lyA hK) ) (lKA (hk_K hK 405 rfl rfl)) rfl (by decide) rfl (Nat.le_of_ble_eq_true rfl) (by decide) (fun r u hu => ?_)
  refine z_eqs (σ' := (ap b σ [(405, 0, 2)] [] [])) (hu.2.trans ap_ap) ?_
  show zx p l e _ s m _ below meth c g 7 0 0 _ _ 17 [(0, .ref (b + 405)), (1, .int 3), (2, .int w1), (3, .int w2), (4, .int w3), (5, .int w4)] _
  refine z_seti (y := 0) hu.1 ?_
  refine z_if_ne (tgt := 22) B dX9_set_17 (by decide) (fun h => absurd (by decide) h) (fun _ => ?_)
  refine z_iconst (v := 0) B dX9_set_20 (by decide) ?_
  exact z_iret B hr (by decide) (by decide) dX9_set_21 ⟨rfl, rfl⟩
set_option maxRecDepth 100000 in
set_option maxHeartbeats 4000000 in
theorem ci_X4_put_242 (l : Launch) {g : gx_T} {σ : sx_T} {b : Nat} (hK : lay b σ) (w1 : Int32) (w2 : Int32) (w3 : Int32) (w4 : Int32) (q1_w1 : (0 : Int) ≤ w1.toInt) (q2_w1 : w1.toInt ≤ (19 : Int)) (hR_21_1 : sx_R σ (b + 21) 1 = (some (b + 22))) (hR_21_2 : sx_R σ (b + 21) 2 = (some (b + 23))) (hR_21_3 : sx_R σ (b + 21) 3 = (some (b + 24))) : Met l yX4_put (.code yX4_put cX4_put 5 none :: lw_g) { frames := 0, cells := 0, slots := 0, locals := 0 } (va_Pc [.ref (b + 21), .int w1, .int w2, .int w3, .int w4] (zx_w g σ)) (va_Qv (fun u => u = (ap b (wx_I (ap b (wx_I (ap b (wx_I (ap b σ [] [] []) (b + 22) w1.toNatClampNeg w2) [] [] []) (b + 23) w1.toNatClampNeg w3) [] [] []) (b + 24) w1.toNatClampNeg w4) [] [] [])) (zx_w g) (gx_Q g)) 0 0 (gx_Q g) := by
  refine z_met (by decide) (Nat.le_of_ble_eq_true rfl) (fun p e s m below meth c B hr hin => ?_)
  refine z_eqs (σ' := (ap b σ [] [] [])) rfl ?_
  show zx p l e _ s m _ below meth c g 5 0 0 _ _ 0 [(0, .ref (b + 21)), (1, .int w1), (2, .int w2), (3, .int w3), (4, .int w4)] []
  refine z_iload_n B dX4_put_0 rfl 1 rfl ?_
  refine z_if_lt (tgt := 53) B dX4_put_1 (by decide) (fun h => absurd h (iv_nlt q1_w1 (by decide))) (fun _ => ?_)
  refine z_iload_n B dX4_put_4 rfl 1 rfl ?_
  refine z_aload_n B dX4_put_5 rfl 0 rfl ?_
  refine gf_X4_9 (x := (some (b + 22))) B (lKA (hk_K hK 21 rfl rfl)) (rR_at 21 1 hR_21_1) dX4_put_6 ?_
  refine z_alen (kd := 13) (ti := 1) (v := 20) B (lKA (hk_K hK 22 rfl rfl)) (by decide) rfl (congrArg Int32.ofNat (lNA (hk_N hK 22 rfl rfl))) dX4_put_9 ?_
  refine z_icmp_ge (tgt := 53) B dX4_put_10 (by decide) (fun h => absurd h (iv_nge q2_w1 (by decide))) (fun _ => ?_)
  refine z_iload_n B dX4_put_13 rfl 1 rfl ?_
  refine z_aload_n B dX4_put_14 rfl 0 rfl ?_
  refine gf_X4_15 (x := (some (b + 23))) B (lKA (hk_K hK 21 rfl rfl)) (rR_at 21 2 hR_21_2) dX4_put_15 ?_
  refine z_alen (kd := 13) (ti := 1) (v := 20) B (lKA (hk_K hK 23 rfl rfl)) (by decide) rfl (congrArg Int32.ofNat (lNA (hk_N hK 23 rfl rfl))) dX4_put_18 ?_
  refine z_icmp_ge (tgt := 53) B dX4_put_19 (by decide) (fun h => absurd h (iv_nge q2_w1 (by decide))) (fun _ => ?_)
  refine z_iload_n B dX4_put_22 rfl 1 rfl ?_
  refine z_aload_n B dX4_put_23 rfl 0 rfl ?_
  refine gf_X4_18 (x := (some (b + 24))) B (lKA (hk_K hK 21 rfl rfl)) (rR_at 21 3 hR_21_3) dX4_put_24 ?_
  refine z_alen (kd := 13) (ti := 1) (v := 20) B (lKA (hk_K hK 24 rfl rfl)) (by decide) rfl (congrArg Int32.ofNat (lNA (hk_N hK 24 rfl rfl))) dX4_put_27 ?_
  refine z_icmp_ge (tgt := 53) B dX4_put_28 (by decide) (fun h => absurd h (iv_nge q2_w1 (by decide))) (fun _ => ?_)
  refine z_aload_n B dX4_put_31 rfl 0 rfl ?_
  refine gf_X4_9 (x := (some (b + 22))) B (lKA (hk_K hK 21 rfl rfl)) (rR_at 21 1 hR_21_1) dX4_put_32 ?_
  refine z_iload_n B dX4_put_35 rfl 1 rfl ?_
  refine z_iload_n B dX4_put_36 rfl 2 rfl ?_
  refine z_iast (j := w1.toNatClampNeg) (σ' := (wx_I (ap b σ [] [] []) (b + 22) w1.toNatClampNeg w2)) B (lKA (hk_K hK 22 rfl rfl)) rfl (in_of (lNA (hk_N hK 22 rfl rfl)) (iv_in q1_w1 q2_w1 (by decide) (by decide))) rfl dX4_put_37 ?_
  refine z_eqs (σ' := (ap b (wx_I (ap b σ [] [] []) (b + 22) w1.toNatClampNeg w2) [] [] [])) ap_nil ?_
  refine z_aload_n B dX4_put_38 rfl 0 rfl ?_
  refine gf_X4_15 (x := (some (b + 23))) B (lKA (lKW (lKA (hk_K hK 21 rfl rfl)))) (rR_at 21 2 (rR_w (rR_at 21 2 hR_21_2))) dX4_put_39 ?_
  refine z_iload_n B dX4_put_42 rfl 1 rfl ?_
  refine z_iload_n B dX4_put_43 rfl 3 rfl ?_
  refine z_iast (j := w1.toNatClampNeg) (σ' := (wx_I (ap b (wx_I (ap b σ [] [] []) (b + 22) w1.toNatClampNeg w2) [] [] []) (b + 23) w1.toNatClampNeg w3)) B (lKA (lKW (lKA (hk_K hK 23 rfl rfl)))) rfl (in_of (lNA (lNW (lNA (hk_N hK 23 rfl rfl)))) (iv_in q1_w1 q2_w1 (by decide) (by decide))) rfl dX4_put_44 ?_
  refine z_eqs (σ' := (ap b (wx_I (ap b (wx_I (ap b σ [] [] []) (b + 22) w1.toNatClampNeg w2) [] [] []) (b + 23) w1.toNatClampNeg w3) [] [] [])) ap_nil ?_
  refine z_aload_n B dX4_put_45 rfl 0 rfl ?_
  refine gf_X4_18 (x := (some (b + 24))) B (lKA (lKW (lKA (lKW (lKA (hk_K hK 21 rfl rfl)))))) (rR_at 21 3 (rR_w (rR_at 21 3 (rR_w (rR_at 21 3 hR_21_3))))) dX4_put_46 ?_
  refine z_iload_n B dX4_put_49 rfl 1 rfl ?_
  refine z_iload B dX4_put_50 4 rfl ?_
  refine z_iast (j := w1.toNatClampNeg) (σ' := (wx_I (ap b (wx_I (ap b (wx_I (ap b σ [] [] []) (b + 22) w1.toNatClampNeg w2) [] [] []) (b + 23) w1.toNatClampNeg w3) [] [] []) (b + 24) w1.toNatClampNeg w4)) B (lKA (lKW (lKA (lKW (lKA (hk_K hK 24 rfl rfl)))))) rfl (in_of (lNA (lNW (lNA (lNW (lNA (hk_N hK 24 rfl rfl)))))) (iv_in q1_w1 q2_w1 (by decide) (by decide))) rfl dX4_put_52 ?_
  refine z_eqs (σ' := (ap b (wx_I (ap b (wx_I (ap b (wx_I (ap b σ [] [] []) (b + 22) w1.toNatClampNeg w2) [] [] []) (b + 23) w1.toNatClampNeg w3) [] [] []) (b + 24) w1.toNatClampNeg w4) [] [] [])) ap_nil ?_
  exact z_vret B hr (by decide) (by decide) dX4_put_53 rfl
set_option maxRecDepth 100000 in
set_option maxHeartbeats 4000000 in
theorem ci_X8_findAgain_243 (l : Launch) {g : gx_T} {σ : sx_T} {b : Nat} (hK : lay b σ)   (hI_0_7 : sx_I σ (b + 0) 7 = 0) : Met l yX8_findAgain (.code yX8_findAgain cX8_findAgain 4 none :: lw_g) { frames := 0, cells := 0, slots := 0, locals := 0 } (va_Pc [.ref (b + 0), .ref (b + 21)] (zx_w g σ)) (va_Qv (fun u => u = σ) (zx_w g) (gx_Q g)) 0 0 (gx_Q g) := by
  refine z_met (by decide) (Nat.le_of_ble_eq_true rfl) (fun p e s m below meth c B hr hin => ?_)
  refine z_eqs (σ' := (ap b σ [] [] [])) rfl ?_
  show zx p l e _ s m _ below meth c g 4 0 0 _ _ 0 [(0, .ref (b + 0)), (1, .ref (b + 21))] []
  refine z_iconst (v := 0) B dX8_findAgain_0 (by decide) ?_
  refine z_istore_n (lv' := [(2, .int 0), (0, .ref (b + 0)), (1, .ref (b + 21))]) B dX8_findAgain_1 rfl (by decide) rfl ?_
  refine z_iload_n B dX8_findAgain_2 rfl 0 rfl ?_
  refine z_aload_n B dX8_findAgain_3 rfl 1 rfl ?_
  refine gf_X8_96 (x := 0) B (lKA (hk_K hK 0 rfl rfl)) (rI_at 0 7 hI_0_7) dX8_findAgain_4 ?_
  refine z_icmp_ge (tgt := 45) B dX8_findAgain_7 (by decide) (fun _ => ?_) (fun h => absurd (by decide) h)
  exact z_vret B hr (by decide) (by decide) dX8_findAgain_45 rfl
set_option maxRecDepth 100000 in
set_option maxHeartbeats 4000000 in
theorem ci_X8_countAstray_244 (l : Launch) {g : gx_T} {σ : sx_T} {b : Nat} (hK : lay b σ)   (hI_0_7 : sx_I σ (b + 0) 7 = 0) : Met l yX8_countAstray (.code yX8_countAstray cX8_countAstray 5 (some .int) :: lw_g) { frames := 0, cells := 0, slots := 0, locals := 0 } (va_Pc [.ref (b + 0), .ref (b + 21)] (zx_w g σ)) (va_Qi (fun r u => r = 0 ∧ u = σ) (zx_w g) (gx_Q g)) 0 0 (gx_Q g) := by
  refine z_met (by decide) (Nat.le_of_ble_eq_true rfl) (fun p e s m below meth c B hr hin => ?_)
  refine z_eqs (σ' := (ap b σ [] [] [])) rfl ?_
  show zx p l e _ s m _ below meth c g 5 0 0 _ _ 0 [(0, .ref (b + 0)), (1, .ref (b + 21))] []
  refine z_iconst (v := 0) B dX8_countAstray_0 (by decide) ?_
  refine z_istore_n (lv' := [(2, .int 0), (0, .ref (b + 0)), (1, .ref (b + 21))]) B dX8_countAstray_1 rfl (by decide) rfl ?_
  refine z_iconst (v := 0) B dX8_countAstray_2 (by decide) ?_
  refine z_istore_n (lv' := [(3, .int 0), (2, .int 0), (0, .ref (b + 0)), (1, .ref (b + 21))]) B dX8_countAstray_3 rfl (by decide) rfl ?_
  refine z_iload_n B dX8_countAstray_4 rfl 0 rfl ?_
  refine z_aload_n B dX8_countAstray_5 rfl 2 rfl ?_
  refine gf_X8_96 (x := 0) B (lKA (hk_K hK 0 rfl rfl)) (rI_at 0 7 hI_0_7) dX8_countAstray_6 ?_
  refine z_icmp_ge (tgt := 61) B dX8_countAstray_9 (by decide) (fun _ => ?_) (fun h => absurd (by decide) h)
  refine z_iload_n B dX8_countAstray_61 rfl 1 rfl ?_
  exact z_iret B hr (by decide) (by decide) dX8_countAstray_62 ⟨rfl, rfl⟩
set_option maxRecDepth 100000 in
set_option maxHeartbeats 4000000 in
theorem ci_X8_set_245 (l : Launch) {g : gx_T} {σ : sx_T} {b : Nat} (hK : lay b σ) (w1 : Int32) (w2 : Int32) (w3 : Int32) (w4 : Int32) (q1_w1 : (0 : Int) ≤ w1.toInt) (q2_w1 : w1.toInt ≤ (19 : Int)) (q1_w2 : (0 : Int) ≤ w2.toInt) (q2_w2 : w2.toInt ≤ (17 : Int)) (q1_w3 : (0 : Int) ≤ w3.toInt) (q2_w3 : w3.toInt ≤ (99 : Int)) (q1_w4 : (0 : Int) ≤ w4.toInt) (q2_w4 : w4.toInt ≤ (99 : Int)) (hI_0_7 : sx_I σ (b + 0) 7 = 0) (hR_0_0 : sx_R σ (b + 0) 0 = (some (b + 1))) (hR_1_3 : sx_R σ (b + 1) 3 = (some (b + 21))) (hR_21_1 : sx_R σ (b + 21) 1 = (some (b + 22))) (hR_21_2 : sx_R σ (b + 21) 2 = (some (b + 23))) (hR_21_3 : sx_R σ (b + 21) 3 = (some (b + 24))) : Met l yX8_set (.code yX8_set cX8_set 9 (some .int) :: lw_g) { frames := 2, cells := 0, slots := 0, locals := 43 } (va_Pc [.ref (b + 0), .int 3, .int w1, .int w2, .int w3, .int w4] (zx_w g σ)) (va_Qi (fun r u => r = 0 ∧ u = (ap b (wx_I (ap b (wx_I (ap b (wx_I (ap b (ap b σ [] [] []) [] [] []) (b + 22) w1.toNatClampNeg w2) [] [] []) (b + 23) w1.toNatClampNeg w3) [] [] []) (b + 24) w1.toNatClampNeg w4) [] [] [])) (zx_w g) (gx_Q g)) 0 0 (gx_Q g) := by
  refine z_met (by decide) (Nat.le_of_ble_eq_true rfl) (fun p e s m below meth c B hr hin => ?_)
  refine z_eqs (σ' := (ap b σ [] [] [])) rfl ?_
  show zx p l e _ s m _ below meth c g 9 0 0 _ _ 0 [(0, .ref (b + 0)), (1, .int 3), (2, .int w1), (3, .int w2), (4, .int w3), (5, .int w4)] []
  refine z_aload_n B dX8_set_0 rfl 0 rfl ?_
  refine z_iload_n B dX8_set_1 rfl 1 rfl ?_
  refine z_cVq (As := [.int 3]) (rest := []) B cw_X8_64 cx_9 dX8_set_2 (ci_X8_programAt_220 l (σ := (ap b σ [] [] [])) (b := b) (lyA hK) (rR_at 0 0 hR_0_0) (rR_at 1 3 hR_1_3)) (lKA (hk_K hK 0 rfl rfl)) rfl (by decide) rfl (Nat.le_of_ble_eq_true rfl) (by decide) (fun r u hu => ?_)
  refine z_eqs (σ' := (ap b σ [] [] [])) hu.2 ?_
  show zx p l e _ s m _ below meth c g 9 0 0 _ _ 5 [(0, .ref (b + 0)), (1, .int 3), (2, .int w1), (3, .int w2), (4, .int w3), (5, .int w4)] _
  refine z_setr (y := (some (b + 21))) hu.1 ?_
  refine z_astore (lv' := [(6, .ref (b + 21)), (0, .ref (b + 0)), (1, .int 3), (2, .int w1), (3, .int w2), (4, .int w3), (5, .int w4)]) B dX8_set_5 (by decide) rfl ?_
  refine z_aload B dX8_set_7 0 rfl ?_
  refine z_ifnull (r := (some (b + 21))) (tgt := 21) B dX8_set_9 (by decide) (fun h => nomatch h) (fun _ _ => ?_)
  refine z_iload_n B dX8_set_12 rfl 3 rfl ?_
  refine z_bipush (v := 20) B dX8_set_13 (by decide) ?_
  refine z_cSi (As := [.int w1, .int 20]) (rest := []) B cw_X8_68 dX8_set_15 (ci_X8_isBelow_64 l (σ := (ap b σ [] [] [])) (b := b) (lyA hK) w1 q1_w1 q2_w1) rfl (by decide) rfl (Nat.le_of_ble_eq_true rfl) (by decide) (fun r u hu => ?_)
  refine z_eqs (σ' := (ap b σ [] [] [])) hu.2 ?_
  show zx p l e _ s m _ below meth c g 9 0 0 _ _ 18 [(6, .ref (b + 21)), (0, .ref (b + 0)), (1, .int 3), (2, .int w1), (3, .int w2), (4, .int w3), (5, .int w4)] _
  refine z_seti (y := 1) hu.1 ?_
  refine z_if_ne (tgt := 31) B dX8_set_18 (by decide) (fun _ => ?_) (fun h => absurd h (by decide))
  refine z_iload_n B dX8_set_31 rfl 4 rfl ?_
  refine z_iload B dX8_set_32 5 rfl ?_
  refine z_iload B dX8_set_34 6 rfl ?_
  refine z_cSi (As := [.int w2, .int w3, .int w4]) (rest := []) B cw_X8_79 dX8_set_36 (ci_X8_isStep_85 l (σ := (ap b σ [] [] [])) (b := b) (lyA hK) w2 w3 w4 q1_w2 q2_w2 q1_w3 q2_w3 q1_w4 q2_w4) rfl (by decide) rfl (Nat.le_of_ble_eq_true rfl) (by decide) (fun r u hu => ?_)
  refine z_eqs (σ' := (ap b σ [] [] [])) hu.2 ?_
  show zx p l e _ s m _ below meth c g 9 0 0 _ _ 39 [(6, .ref (b + 21)), (0, .ref (b + 0)), (1, .int 3), (2, .int w1), (3, .int w2), (4, .int w3), (5, .int w4)] _
  refine z_seti (y := 1) hu.1 ?_
  refine z_if_ne (tgt := 52) B dX8_set_39 (by decide) (fun _ => ?_) (fun h => absurd h (by decide))
  refine z_aload B dX8_set_52 0 rfl ?_
  refine z_iload_n B dX8_set_54 rfl 3 rfl ?_
  refine z_iload_n B dX8_set_55 rfl 4 rfl ?_
  refine z_iload B dX8_set_56 5 rfl ?_
  refine z_iload B dX8_set_58 6 rfl ?_
  refine z_cVv (As := [.int w1, .int w2, .int w3, .int w4]) (rest := []) B cw_X8_88 cx_5 dX8_set_60 (ci_X4_put_242 l (σ := (ap b σ [] [] [])) (b := b) (lyA hK) w1 w2 w3 w4 q1_w1 q2_w1 (rR_at 21 1 hR_21_1) (rR_at 21 2 hR_21_2) (rR_at 21 3 hR_21_3)) (lKA (hk_K hK 21 rfl rfl)) rfl (by decide) rfl (Nat.le_of_ble_eq_true rfl) (by decide) (fun u hu => ?_)
  refine z_eqs (σ' := (ap b (wx_I (ap b (wx_I (ap b (wx_I (ap b (ap b σ [] [] []) [] [] []) (b + 22) w1.toNatClampNeg w2) [] [] []) (b + 23) w1.toNatClampNeg w3) [] [] []) (b + 24) w1.toNatClampNeg w4) [] [] [])) hu ?_
  show zx p l e _ s m _ below meth c g 9 0 0 _ _ 63 [(6, .ref (b + 21)), (0, .ref (b + 0)), (1, .int 3), (2, .int w1), (3, .int w2), (4, .int w3), (5, .int w4)] _
  refine z_aload_n B dX8_set_63 rfl 1 rfl ?_
  refine z_aload B dX8_set_64 0 rfl ?_
  refine z_cVv (As := [.ref (b + 21)]) (rest := []) B cw_X8_92 cx_9 dX8_set_66 (ci_X8_findAgain_243 l (σ := (ap b (wx_I (ap b (wx_I (ap b (wx_I (ap b (ap b σ [] [] []) [] [] []) (b + 22) w1.toNatClampNeg w2) [] [] []) (b + 23) w1.toNatClampNeg w3) [] [] []) (b + 24) w1.toNatClampNeg w4) [] [] [])) (b := b) (lyA (lyW (lyA (lyW (lyA (lyW (lyA (lyA hK)))))))) (rI_at 0 7 ((ux_a (by omega)).trans (rI_at 0 7 ((ux_a (by omega)).trans (rI_at 0 7 ((ux_a (by omega)).trans (rI_at 0 7 (rI_at 0 7 hI_0_7))))))))) (lKA (lKW (lKA (lKW (lKA (lKW (lKA (lKA (hk_K hK 0 rfl rfl))))))))) rfl (by decide) rfl (Nat.le_of_ble_eq_true rfl) (by decide) (fun u hu => ?_)
  refine z_eqs (σ' := (ap b (wx_I (ap b (wx_I (ap b (wx_I (ap b (ap b σ [] [] []) [] [] []) (b + 22) w1.toNatClampNeg w2) [] [] []) (b + 23) w1.toNatClampNeg w3) [] [] []) (b + 24) w1.toNatClampNeg w4) [] [] [])) hu ?_
  show zx p l e _ s m _ below meth c g 9 0 0 _ _ 69 [(6, .ref (b + 21)), (0, .ref (b + 0)), (1, .int 3), (2, .int w1), (3, .int w2), (4, .int w3), (5, .int w4)] _
  refine z_iconst (v := 0) B dX8_set_69 (by decide) ?_
  refine z_istore (lv' := [(7, .int 0), (6, .ref (b + 21)), (0, .ref (b + 0)), (1, .int 3), (2, .int w1), (3, .int w2), (4, .int w3), (5, .int w4)]) B dX8_set_70 (by decide) rfl ?_
  refine z_iload B dX8_set_72 0 rfl ?_
  refine z_aload_n B dX8_set_74 rfl 2 rfl ?_
  refine gf_X8_96 (x := 0) B (lKA (lKW (lKA (lKW (lKA (lKW (lKA (lKA (hk_K hK 0 rfl rfl))))))))) (rI_at 0 7 ((ux_a (by omega)).trans (rI_at 0 7 ((ux_a (by omega)).trans (rI_at 0 7 ((ux_a (by omega)).trans (rI_at 0 7 (rI_at 0 7 hI_0_7)))))))) dX8_set_75 ?_
  refine z_icmp_ge (tgt := 124) B dX8_set_78 (by decide) (fun _ => ?_) (fun h => absurd (by decide) h)
  refine z_aload_n B dX8_set_124 rfl 2 rfl ?_
  refine z_aload B dX8_set_125 1 rfl ?_
  refine z_cVi (As := [.ref (b + 21)]) (rest := []) B cw_X8_115 cx_9 dX8_set_127 (ci_X8_countAstray_244 l (σ := (ap b (wx_I (ap b (wx_I (ap b (wx_I (ap b (ap b σ [] [] []) [] [] []) (b + 22) w1.toNatClampNeg w2) [] [] []) (b + 23) w1.toNatClampNeg w3) [] [] []) (b + 24) w1.toNatClampNeg w4) [] [] [])) (b := b) (lyA (lyW (lyA (lyW (lyA (lyW (lyA (lyA hK)))))))) (rI_at 0 7 ((ux_a (by omega)).trans (rI_at 0 7 ((ux_a (by omega)).trans (rI_at 0 7 ((ux_a (by omega)).trans (rI_at 0 7 (rI_at 0 7 hI_0_7))))))))) (lKA (lKW (lKA (lKW (lKA (lKW (lKA (lKA (hk_K hK 0 rfl rfl))))))))) rfl (by decide) rfl (Nat.le_of_ble_eq_true rfl) (by decide) (fun r u hu => ?_)
  refine z_eqs (σ' := (ap b (wx_I (ap b (wx_I (ap b (wx_I (ap b (ap b σ [] [] []) [] [] []) (b + 22) w1.toNatClampNeg w2) [] [] []) (b + 23) w1.toNatClampNeg w3) [] [] []) (b + 24) w1.toNatClampNeg w4) [] [] [])) hu.2 ?_
  show zx p l e _ s m _ below meth c g 9 0 0 _ _ 130 [(7, .int 0), (6, .ref (b + 21)), (0, .ref (b + 0)), (1, .int 3), (2, .int w1), (3, .int w2), (4, .int w3), (5, .int w4)] _
  refine z_seti (y := 0) hu.1 ?_
  exact z_iret B hr (by decide) (by decide) dX8_set_130 ⟨rfl, rfl⟩
set_option maxRecDepth 100000 in
set_option maxHeartbeats 4000000 in
theorem ci_L_set_246 (l : Launch) {g : gx_T} {σ : sx_T} {b : Nat} (hK : lay b σ) (w1 : Int32) (w2 : Int32) (w3 : Int32) (w4 : Int32) (q1_w1 : (0 : Int) ≤ w1.toInt) (q2_w1 : w1.toInt ≤ (19 : Int)) (q1_w2 : (0 : Int) ≤ w2.toInt) (q2_w2 : w2.toInt ≤ (17 : Int)) (q1_w3 : (0 : Int) ≤ w3.toInt) (q2_w3 : w3.toInt ≤ (99 : Int)) (q1_w4 : (0 : Int) ≤ w4.toInt) (q2_w4 : w4.toInt ≤ (99 : Int)) (hI_0_7 : sx_I σ (b + 0) 7 = 0) (hR_0_0 : sx_R σ (b + 0) 0 = (some (b + 1))) (hR_1_3 : sx_R σ (b + 1) 3 = (some (b + 21))) (hR_21_1 : sx_R σ (b + 21) 1 = (some (b + 22))) (hR_21_2 : sx_R σ (b + 21) 2 = (some (b + 23))) (hR_21_3 : sx_R σ (b + 21) 3 = (some (b + 24))) : Met l yL_set (.codeWith yL_set cL_set 8 (some .int) [(0, 16, 19, 13), (0, 16, 23, 15)] :: lw_g) { frames := 3, cells := 0, slots := 0, locals := 71 } (va_Pc [.ref (b + 0), .int 3, .int w1, .int w2, .int w3, .int w4, .ref (b + 431)] (zx_w g σ)) (va_Qi (fun r u => r = 0 ∧ u = (ap b (wx_I (ap b (wx_I (ap b (wx_I (ap b (ap b (ap b σ [] [] []) [] [] []) [] [] []) (b + 22) w1.toNatClampNeg w2) [] [] []) (b + 23) w1.toNatClampNeg w3) [] [] []) (b + 24) w1.toNatClampNeg w4) [] [(431, 0, 0)] [])) (zx_w g) (gx_Q g)) 0 0 (gx_Q g) := by
  refine z_metW (by decide) (Nat.le_of_ble_eq_true rfl) (fun p e s m below meth c B hr htab => ?_)
  refine z_eqs (σ' := (ap b σ [] [] [])) rfl ?_
  show zx p l e _ s m _ below meth c g 8 0 0 _ _ 0 [(0, .ref (b + 0)), (1, .int 3), (2, .int w1), (3, .int w2), (4, .int w3), (5, .int w4), (6, .ref (b + 431))] []
  refine z_aload B dL_set_0 6 rfl ?_
  refine z_iconst (v := 0) B dL_set_2 (by decide) ?_
  refine z_aload_n B dL_set_3 rfl 0 rfl ?_
  refine z_iload_n B dL_set_4 rfl 1 rfl ?_
  refine z_iload_n B dL_set_5 rfl 2 rfl ?_
  refine z_iload_n B dL_set_6 rfl 3 rfl ?_
  refine z_iload B dL_set_7 4 rfl ?_
  refine z_iload B dL_set_9 5 rfl ?_
  refine z_cVi (As := [.int 3, .int w1, .int w2, .int w3, .int w4]) (rest := [.int 0, .ref (b + 431)]) B cw_L_7 cx_9 dL_set_11 (ci_X8_set_245 l (σ := (ap b σ [] [] [])) (b := b) (lyA hK) w1 w2 w3 w4 q1_w1 q2_w1 q1_w2 q2_w2 q1_w3 q2_w3 q1_w4 q2_w4 (rI_at 0 7 hI_0_7) (rR_at 0 0 hR_0_0) (rR_at 1 3 hR_1_3) (rR_at 21 1 hR_21_1) (rR_at 21 2 hR_21_2) (rR_at 21 3 hR_21_3)) (lKA (hk_K hK 0 rfl rfl)) rfl (by decide) rfl (Nat.le_of_ble_eq_true rfl) (by decide) (fun r u hu => ?_)
  refine z_eqs (σ' := (ap b (wx_I (ap b (wx_I (ap b (wx_I (ap b (ap b (ap b σ [] [] []) [] [] []) [] [] []) (b + 22) w1.toNatClampNeg w2) [] [] []) (b + 23) w1.toNatClampNeg w3) [] [] []) (b + 24) w1.toNatClampNeg w4) [] [] [])) hu.2 ?_
  show zx p l e _ s m _ below meth c g 8 0 0 _ _ 14 [(0, .ref (b + 0)), (1, .int 3), (2, .int w1), (3, .int w2), (4, .int w3), (5, .int w4), (6, .ref (b + 431))] _
  refine z_seti (y := 0) hu.1 ?_
  refine z_i2l (v := 0) B dL_set_14 (by decide) ?_
  refine z_last (j := 0) (σ' := (ap b (wx_I (ap b (wx_I (ap b (wx_I (ap b (ap b (ap b σ [] [] []) [] [] []) [] [] []) (b + 22) w1.toNatClampNeg w2) [] [] []) (b + 23) w1.toNatClampNeg w3) [] [] []) (b + 24) w1.toNatClampNeg w4) [] [(431, 0, 0)] [])) B (lKA (lKW (lKA (lKW (lKA (lKW (lKA (lKA (lKA (hk_K hK 431 rfl rfl)))))))))) (by decide) (in_of (lNA (lNW (lNA (lNW (lNA (lNW (lNA (lNA (lNA (hk_N hK 431 rfl rfl)))))))))) (show ¬ ((0 : Int32) < 0 ∨ 1 ≤ (0 : Int32).toNatClampNeg) by decide)) wJ_ap dL_set_15 ?_
  refine z_goto (tgt := 27) B dL_set_16 (by decide) ?_
  refine z_iconst (v := 0) B dL_set_27 (by decide) ?_
  exact z_iret B hr (by decide) (by decide) dL_set_28 ⟨rfl, rfl⟩
set_option maxRecDepth 100000 in
set_option maxHeartbeats 4000000 in
theorem ci_X9_lays_247 (l : Launch) {g : gx_T} {σ : sx_T} {b : Nat} (hK : lay b σ) (w1 : Int32) (w2 : Int32) (w3 : Int32) (w4 : Int32) (q1_w1 : (0 : Int) ≤ w1.toInt) (q2_w1 : w1.toInt ≤ (19 : Int)) (hR_405_3 : sx_R σ (b + 405) 3 = (some (b + 406))) (hR_405_4 : sx_R σ (b + 405) 4 = (some (b + 407))) (hR_405_5 : sx_R σ (b + 405) 5 = (some (b + 408))) : Met l yX9_lays (.code yX9_lays cX9_lays 6 none :: lw_g) { frames := 0, cells := 0, slots := 0, locals := 0 } (va_Pc [.ref (b + 405), .int 3, .int w1, .int w2, .int w3, .int w4] (zx_w g σ)) (va_Qv (fun u => u = (ap b (wx_I (ap b (wx_I (ap b (wx_I (ap b σ [] [] []) (b + 406) (60 + w1).toNatClampNeg w2) [] [] []) (b + 407) (60 + w1).toNatClampNeg w3) [] [] []) (b + 408) (60 + w1).toNatClampNeg w4) [] [] [])) (zx_w g) (gx_Q g)) 0 0 (gx_Q g) := by
  refine z_met (by decide) (Nat.le_of_ble_eq_true rfl) (fun p e s m below meth c B hr hin => ?_)
  refine z_eqs (σ' := (ap b σ [] [] [])) rfl ?_
  show zx p l e _ s m _ below meth c g 6 0 0 _ _ 0 [(0, .ref (b + 405)), (1, .int 3), (2, .int w1), (3, .int w2), (4, .int w3), (5, .int w4)] []
  refine z_aload_n B dX9_lays_0 rfl 0 rfl ?_
  refine gf_X9_13 (x := (some (b + 406))) B (lKA (hk_K hK 405 rfl rfl)) (rR_at 405 3 hR_405_3) dX9_lays_1 ?_
  refine z_bipush (v := 20) B dX9_lays_4 (by decide) ?_
  refine z_iload_n B dX9_lays_6 rfl 1 rfl ?_
  refine z_imul B dX9_lays_7 ?_
  refine z_seti (y := 60) (by decide) ?_
  refine z_iload_n B dX9_lays_8 rfl 2 rfl ?_
  refine z_iadd B dX9_lays_9 ?_
  refine z_iload_n B dX9_lays_10 rfl 3 rfl ?_
  refine z_iast (j := (60 + w1).toNatClampNeg) (σ' := (wx_I (ap b σ [] [] []) (b + 406) (60 + w1).toNatClampNeg w2)) B (lKA (hk_K hK 406 rfl rfl)) rfl (in_of (lNA (hk_N hK 406 rfl rfl)) (iv_inadd q1_w1 q2_w1 (by decide) (by decide))) rfl dX9_lays_11 ?_
  refine z_eqs (σ' := (ap b (wx_I (ap b σ [] [] []) (b + 406) (60 + w1).toNatClampNeg w2) [] [] [])) ap_nil ?_
  refine z_aload_n B dX9_lays_12 rfl 0 rfl ?_
  refine gf_X9_17 (x := (some (b + 407))) B (lKA (lKW (lKA (hk_K hK 405 rfl rfl)))) (rR_at 405 4 (rR_w (rR_at 405 4 hR_405_4))) dX9_lays_13 ?_
  refine z_bipush (v := 20) B dX9_lays_16 (by decide) ?_
  refine z_iload_n B dX9_lays_18 rfl 1 rfl ?_
  refine z_imul B dX9_lays_19 ?_
  refine z_seti (y := 60) (by decide) ?_
  refine z_iload_n B dX9_lays_20 rfl 2 rfl ?_
  refine z_iadd B dX9_lays_21 ?_
  refine z_iload B dX9_lays_22 4 rfl ?_
  refine z_iast (j := (60 + w1).toNatClampNeg) (σ' := (wx_I (ap b (wx_I (ap b σ [] [] []) (b + 406) (60 + w1).toNatClampNeg w2) [] [] []) (b + 407) (60 + w1).toNatClampNeg w3)) B (lKA (lKW (lKA (hk_K hK 407 rfl rfl)))) rfl (in_of (lNA (lNW (lNA (hk_N hK 407 rfl rfl)))) (iv_inadd q1_w1 q2_w1 (by decide) (by decide))) rfl dX9_lays_24 ?_
  refine z_eqs (σ' := (ap b (wx_I (ap b (wx_I (ap b σ [] [] []) (b + 406) (60 + w1).toNatClampNeg w2) [] [] []) (b + 407) (60 + w1).toNatClampNeg w3) [] [] [])) ap_nil ?_
  refine z_aload_n B dX9_lays_25 rfl 0 rfl ?_
  refine gf_X9_20 (x := (some (b + 408))) B (lKA (lKW (lKA (lKW (lKA (hk_K hK 405 rfl rfl)))))) (rR_at 405 5 (rR_w (rR_at 405 5 (rR_w (rR_at 405 5 hR_405_5))))) dX9_lays_26 ?_
  refine z_bipush (v := 20) B dX9_lays_29 (by decide) ?_
  refine z_iload_n B dX9_lays_31 rfl 1 rfl ?_
  refine z_imul B dX9_lays_32 ?_
  refine z_seti (y := 60) (by decide) ?_
  refine z_iload_n B dX9_lays_33 rfl 2 rfl ?_
  refine z_iadd B dX9_lays_34 ?_
  refine z_iload B dX9_lays_35 5 rfl ?_
  refine z_iast (j := (60 + w1).toNatClampNeg) (σ' := (wx_I (ap b (wx_I (ap b (wx_I (ap b σ [] [] []) (b + 406) (60 + w1).toNatClampNeg w2) [] [] []) (b + 407) (60 + w1).toNatClampNeg w3) [] [] []) (b + 408) (60 + w1).toNatClampNeg w4)) B (lKA (lKW (lKA (lKW (lKA (hk_K hK 408 rfl rfl)))))) rfl (in_of (lNA (lNW (lNA (lNW (lNA (hk_N hK 408 rfl rfl)))))) (iv_inadd q1_w1 q2_w1 (by decide) (by decide))) rfl dX9_lays_37 ?_
  refine z_eqs (σ' := (ap b (wx_I (ap b (wx_I (ap b (wx_I (ap b σ [] [] []) (b + 406) (60 + w1).toNatClampNeg w2) [] [] []) (b + 407) (60 + w1).toNatClampNeg w3) [] [] []) (b + 408) (60 + w1).toNatClampNeg w4) [] [] [])) ap_nil ?_
  exact z_vret B hr (by decide) (by decide) dX9_lays_38 rfl
set_option maxRecDepth 100000 in
set_option maxHeartbeats 4000000 in
theorem ci_X9_unfit_248 (l : Launch) {g : gx_T} {σ : sx_T} {b : Nat} (hK : lay b σ)   (hI_405_6 : sx_I σ (b + 405) 6 = 0) : Met l yX9_unfit (.code yX9_unfit cX9_unfit 4 (some .int) :: lw_g) { frames := 0, cells := 0, slots := 0, locals := 0 } (va_Pc [.ref (b + 405), .int 3] (zx_w g σ)) (va_Qi (fun r u => r = 0 ∧ u = σ) (zx_w g) (gx_Q g)) 0 0 (gx_Q g) := by
  refine z_met (by decide) (Nat.le_of_ble_eq_true rfl) (fun p e s m below meth c B hr hin => ?_)
  refine z_eqs (σ' := (ap b σ [] [] [])) rfl ?_
  show zx p l e _ s m _ below meth c g 4 0 0 _ _ 0 [(0, .ref (b + 405)), (1, .int 3)] []
  refine z_iconst (v := 0) B dX9_unfit_0 (by decide) ?_
  refine z_istore_n (lv' := [(2, .int 0), (0, .ref (b + 405)), (1, .int 3)]) B dX9_unfit_1 rfl (by decide) rfl ?_
  refine z_iconst (v := 0) B dX9_unfit_2 (by decide) ?_
  refine z_istore_n (lv' := [(3, .int 0), (2, .int 0), (0, .ref (b + 405)), (1, .int 3)]) B dX9_unfit_3 rfl (by decide) rfl ?_
  refine z_iload_n B dX9_unfit_4 rfl 0 rfl ?_
  refine z_aload_n B dX9_unfit_5 rfl 2 rfl ?_
  refine gf_X9_93 (x := 0) B (lKA (hk_K hK 405 rfl rfl)) (rI_at 405 6 hI_405_6) dX9_unfit_6 ?_
  refine z_icmp_ge (tgt := 53) B dX9_unfit_9 (by decide) (fun _ => ?_) (fun h => absurd (by decide) h)
  refine z_iload_n B dX9_unfit_53 rfl 1 rfl ?_
  exact z_iret B hr (by decide) (by decide) dX9_unfit_54 ⟨rfl, rfl⟩
set_option maxRecDepth 100000 in
set_option maxHeartbeats 4000000 in
theorem ci_X9_set_249 (l : Launch) {g : gx_T} {σ : sx_T} {b : Nat} (hK : lay b σ) (w1 : Int32) (w2 : Int32) (w3 : Int32) (w4 : Int32) (q1_w1 : (0 : Int) ≤ w1.toInt) (q2_w1 : w1.toInt ≤ (19 : Int)) (q1_w2 : (0 : Int) ≤ w2.toInt) (q2_w2 : w2.toInt ≤ (17 : Int)) (q1_w3 : (0 : Int) ≤ w3.toInt) (q2_w3 : w3.toInt ≤ (99 : Int)) (q1_w4 : (0 : Int) ≤ w4.toInt) (q2_w4 : w4.toInt ≤ (99 : Int)) (hI_405_6 : sx_I σ (b + 405) 6 = 0) (hR_405_3 : sx_R σ (b + 405) 3 = (some (b + 406))) (hR_405_4 : sx_R σ (b + 405) 4 = (some (b + 407))) (hR_405_5 : sx_R σ (b + 405) 5 = (some (b + 408))) : Met l yX9_set (.code yX9_set cX9_set 7 (some .int) :: lw_g) { frames := 2, cells := 0, slots := 0, locals := 44 } (va_Pc [.ref (b + 405), .int 3, .int w1, .int w2, .int w3, .int w4] (zx_w g σ)) (va_Qi (fun r u => r = 0 ∧ u = (ap b (wx_I (ap b (wx_I (ap b (wx_I (ap b (ap b σ [(405, 0, 0)] [] []) [] [] []) (b + 406) (60 + w1).toNatClampNeg w2) [] [] []) (b + 407) (60 + w1).toNatClampNeg w3) [] [] []) (b + 408) (60 + w1).toNatClampNeg w4) [] [] [])) (zx_w g) (gx_Q g)) 0 0 (gx_Q g) := by
  refine z_met (by decide) (Nat.le_of_ble_eq_true rfl) (fun p e s m below meth c B hr hin => ?_)
  refine z_eqs (σ' := (ap b σ [] [] [])) rfl ?_
  show zx p l e _ s m _ below meth c g 7 0 0 _ _ 0 [(0, .ref (b + 405)), (1, .int 3), (2, .int w1), (3, .int w2), (4, .int w3), (5, .int w4)] []
  refine z_aload_n B dX9_set_0 rfl 0 rfl ?_
  refine z_iload_n B dX9_set_1 rfl 1 rfl ?_
  refine z_iload_n B dX9_set_2 rfl 2 rfl ?_
  refine z_cSi (As := [.int 3, .int w1]) (rest := [.ref (b + 405)]) B cw_X9_238 dX9_set_3 (ci_X9_isStep_234 l (σ := (ap b σ [] [] [])) (b := b) (lyA hK) w1 q1_w1 q2_w1) rfl (by decide) rfl (Nat.le_of_ble_eq_true rfl) (by decide) (fun r u hu => ?_)
  refine z_eqs (σ' := (ap b σ [] [] [])) hu.2 ?_
  show zx p l e _ s m _ below meth c g 7 0 0 _ _ 6 [(0, .ref (b + 405)), (1, .int 3), (2, .int w1), (3, .int w2), (4, .int w3), (5, .int w4)] _
  refine z_seti (y := 1) hu.1 ?_
  refine z_iload_n B dX9_set_6 rfl 3 rfl ?_
  refine z_iload B dX9_set_7 4 rfl ?_
  refine z_iload B dX9_set_9 5 rfl ?_
  refine z_cSi (As := [.int w2, .int w3, .int w4]) (rest := [.int 1, .ref (b + 405)]) B cw_X9_242 dX9_set_11 (ci_X9_isOperation_39 l (σ := (ap b σ [] [] [])) (b := b) (lyA hK) w2 w3 w4 q1_w2 q2_w2 q1_w3 q2_w3 q1_w4 q2_w4) rfl (by decide) rfl (Nat.le_of_ble_eq_true rfl) (by decide) (fun r u hu => ?_)
  refine z_eqs (σ' := (ap b σ [] [] [])) hu.2 ?_
  show zx p l e _ s m _ below meth c g 7 0 0 _ _ 14 [(0, .ref (b + 405)), (1, .int 3), (2, .int w1), (3, .int w2), (4, .int w3), (5, .int w4)] _
  refine z_seti (y := 1) hu.1 ?_
  refine z_cVi (As := [.int 1, .int 1]) (rest := []) B cw_X9_245 cx_10 dX9_set_14 (ci_X9_needs__91 l (σ := (ap b σ [] [] [])) (b := b) (lyA hK) ) (lKA (hk_K hK 405 rfl rfl)) rfl (by decide) rfl (Nat.le_of_ble_eq_true rfl) (by decide) (fun r u hu => ?_)
  refine z_eqs (σ' := (ap b σ [(405, 0, 0)] [] [])) (hu.2.trans ap_ap) ?_
  show zx p l e _ s m _ below meth c g 7 0 0 _ _ 17 [(0, .ref (b + 405)), (1, .int 3), (2, .int w1), (3, .int w2), (4, .int w3), (5, .int w4)] _
  refine z_seti (y := 1) hu.1 ?_
  refine z_if_ne (tgt := 22) B dX9_set_17 (by decide) (fun _ => ?_) (fun h => absurd h (by decide))
  refine z_aload_n B dX9_set_22 rfl 0 rfl ?_
  refine z_iload_n B dX9_set_23 rfl 1 rfl ?_
  refine z_iload_n B dX9_set_24 rfl 2 rfl ?_
  refine z_iload_n B dX9_set_25 rfl 3 rfl ?_
  refine z_iload B dX9_set_26 4 rfl ?_
  refine z_iload B dX9_set_28 5 rfl ?_
  refine z_cVv (As := [.int 3, .int w1, .int w2, .int w3, .int w4]) (rest := []) B cw_X9_249 cx_10 dX9_set_30 (ci_X9_lays_247 l (σ := (ap b σ [(405, 0, 0)] [] [])) (b := b) (lyA hK) w1 w2 w3 w4 q1_w1 q2_w1 (rR_at 405 3 hR_405_3) (rR_at 405 4 hR_405_4) (rR_at 405 5 hR_405_5)) (lKA (hk_K hK 405 rfl rfl)) rfl (by decide) rfl (Nat.le_of_ble_eq_true rfl) (by decide) (fun u hu => ?_)
  refine z_eqs (σ' := (ap b (wx_I (ap b (wx_I (ap b (wx_I (ap b (ap b σ [(405, 0, 0)] [] []) [] [] []) (b + 406) (60 + w1).toNatClampNeg w2) [] [] []) (b + 407) (60 + w1).toNatClampNeg w3) [] [] []) (b + 408) (60 + w1).toNatClampNeg w4) [] [] [])) hu ?_
  show zx p l e _ s m _ below meth c g 7 0 0 _ _ 33 [(0, .ref (b + 405)), (1, .int 3), (2, .int w1), (3, .int w2), (4, .int w3), (5, .int w4)] _
  refine z_iconst (v := 0) B dX9_set_33 (by decide) ?_
  refine z_istore (lv' := [(6, .int 0), (0, .ref (b + 405)), (1, .int 3), (2, .int w1), (3, .int w2), (4, .int w3), (5, .int w4)]) B dX9_set_34 (by decide) rfl ?_
  refine z_iload B dX9_set_36 0 rfl ?_
  refine z_aload_n B dX9_set_38 rfl 1 rfl ?_
  refine gf_X9_93 (x := 0) B (lKA (lKW (lKA (lKW (lKA (lKW (lKA (lKA (hk_K hK 405 rfl rfl))))))))) (rI_at 405 6 ((ux_a (by omega)).trans (rI_at 405 6 ((ux_a (by omega)).trans (rI_at 405 6 ((ux_a (by omega)).trans (rI_at 405 6 (rI_at 405 6 hI_405_6)))))))) dX9_set_39 ?_
  refine z_icmp_ge (tgt := 87) B dX9_set_42 (by decide) (fun _ => ?_) (fun h => absurd (by decide) h)
  refine z_aload_n B dX9_set_87 rfl 1 rfl ?_
  refine z_iload_n B dX9_set_88 rfl 2 rfl ?_
  refine z_cVi (As := [.int 3]) (rest := []) B cw_X9_256 cx_10 dX9_set_89 (ci_X9_unfit_248 l (σ := (ap b (wx_I (ap b (wx_I (ap b (wx_I (ap b (ap b σ [(405, 0, 0)] [] []) [] [] []) (b + 406) (60 + w1).toNatClampNeg w2) [] [] []) (b + 407) (60 + w1).toNatClampNeg w3) [] [] []) (b + 408) (60 + w1).toNatClampNeg w4) [] [] [])) (b := b) (lyA (lyW (lyA (lyW (lyA (lyW (lyA (lyA hK)))))))) (rI_at 405 6 ((ux_a (by omega)).trans (rI_at 405 6 ((ux_a (by omega)).trans (rI_at 405 6 ((ux_a (by omega)).trans (rI_at 405 6 (rI_at 405 6 hI_405_6))))))))) (lKA (lKW (lKA (lKW (lKA (lKW (lKA (lKA (hk_K hK 405 rfl rfl))))))))) rfl (by decide) rfl (Nat.le_of_ble_eq_true rfl) (by decide) (fun r u hu => ?_)
  refine z_eqs (σ' := (ap b (wx_I (ap b (wx_I (ap b (wx_I (ap b (ap b σ [(405, 0, 0)] [] []) [] [] []) (b + 406) (60 + w1).toNatClampNeg w2) [] [] []) (b + 407) (60 + w1).toNatClampNeg w3) [] [] []) (b + 408) (60 + w1).toNatClampNeg w4) [] [] [])) hu.2 ?_
  show zx p l e _ s m _ below meth c g 7 0 0 _ _ 92 [(6, .int 0), (0, .ref (b + 405)), (1, .int 3), (2, .int w1), (3, .int w2), (4, .int w3), (5, .int w4)] _
  refine z_seti (y := 0) hu.1 ?_
  exact z_iret B hr (by decide) (by decide) dX9_set_92 ⟨rfl, rfl⟩
set_option maxRecDepth 100000 in
set_option maxHeartbeats 4000000 in
theorem ci_X8_set_250 (l : Launch) (hlt : l.stackTraces = false) {g : gx_T} {σ : sx_T} {b : Nat} (hK : lay b σ) (w1 : Int32) (w2 : Int32) (w3 : Int32) (w4 : Int32) (q1_w1 : (0 : Int) ≤ w1.toInt) (q2_w1 : w1.toInt ≤ (19 : Int)) (q1_w2 : (0 : Int) ≤ w2.toInt) (q2_w2 : w2.toInt ≤ (17 : Int)) (q1_w3 : (0 : Int) ≤ w3.toInt) (q2_w3 : w3.toInt ≤ (99 : Int)) (q1_w4 : (100 : Int) ≤ w4.toInt) (q2_w4 : w4.toInt ≤ (2147483647 : Int)) (hR_0_0 : sx_R σ (b + 0) 0 = (some (b + 1))) (hR_1_3 : sx_R σ (b + 1) 3 = (some (b + 21))) : vx_Met l yX8_set (.code yX8_set cX8_set 9 (some .int) :: lw_g) { frames := 7, cells := 1, slots := 6, locals := 136 } (va_Pc [.ref (b + 0), .int 3, .int w1, .int w2, .int w3, .int w4] (zx_w g σ)) (va_Qi (S := sx_T) (fun _ _ => False) (zx_w g) (gx_Q g)) (vx_X (fun u : sx_T => ∃ z, u = wx_Z σ z) (fun E u t => E = "java/lang/IllegalArgumentException" ∧ zx_h g u t.heap) (gx_Q g)) 1 6 (gx_Q g) := by
  refine z_metX (by decide) (Nat.le_of_ble_eq_true rfl) (fun p e s m below meth c B hr hin hout => ?_)
  refine z_eqs (σ' := (ap b σ [] [] [])) rfl ?_
  show zx p l e _ s m _ below meth c g 9 0 0 _ _ 0 [(0, .ref (b + 0)), (1, .int 3), (2, .int w1), (3, .int w2), (4, .int w3), (5, .int w4)] []
  refine z_aload_n B dX8_set_0 rfl 0 rfl ?_
  refine z_iload_n B dX8_set_1 rfl 1 rfl ?_
  refine z_cVq (As := [.int 3]) (rest := []) B cw_X8_64 cx_9 dX8_set_2 (ci_X8_programAt_220 l (σ := (ap b σ [] [] [])) (b := b) (lyA hK) (rR_at 0 0 hR_0_0) (rR_at 1 3 hR_1_3)) (lKA (hk_K hK 0 rfl rfl)) rfl (by decide) rfl (Nat.le_of_ble_eq_true rfl) (by decide) (fun r u hu => ?_)
  refine z_eqs (σ' := (ap b σ [] [] [])) hu.2 ?_
  show zx p l e _ s m _ below meth c g 9 0 0 _ _ 5 [(0, .ref (b + 0)), (1, .int 3), (2, .int w1), (3, .int w2), (4, .int w3), (5, .int w4)] _
  refine z_setr (y := (some (b + 21))) hu.1 ?_
  refine z_astore (lv' := [(6, .ref (b + 21)), (0, .ref (b + 0)), (1, .int 3), (2, .int w1), (3, .int w2), (4, .int w3), (5, .int w4)]) B dX8_set_5 (by decide) rfl ?_
  refine z_aload B dX8_set_7 0 rfl ?_
  refine z_ifnull (r := (some (b + 21))) (tgt := 21) B dX8_set_9 (by decide) (fun h => nomatch h) (fun _ _ => ?_)
  refine z_iload_n B dX8_set_12 rfl 3 rfl ?_
  refine z_bipush (v := 20) B dX8_set_13 (by decide) ?_
  refine z_cSi (As := [.int w1, .int 20]) (rest := []) B cw_X8_68 dX8_set_15 (ci_X8_isBelow_64 l (σ := (ap b σ [] [] [])) (b := b) (lyA hK) w1 q1_w1 q2_w1) rfl (by decide) rfl (Nat.le_of_ble_eq_true rfl) (by decide) (fun r u hu => ?_)
  refine z_eqs (σ' := (ap b σ [] [] [])) hu.2 ?_
  show zx p l e _ s m _ below meth c g 9 0 0 _ _ 18 [(6, .ref (b + 21)), (0, .ref (b + 0)), (1, .int 3), (2, .int w1), (3, .int w2), (4, .int w3), (5, .int w4)] _
  refine z_seti (y := 1) hu.1 ?_
  refine z_if_ne (tgt := 31) B dX8_set_18 (by decide) (fun _ => ?_) (fun h => absurd h (by decide))
  refine z_iload_n B dX8_set_31 rfl 4 rfl ?_
  refine z_iload B dX8_set_32 5 rfl ?_
  refine z_iload B dX8_set_34 6 rfl ?_
  refine z_cSi (As := [.int w2, .int w3, .int w4]) (rest := []) B cw_X8_79 dX8_set_36 (ci_X8_isStep_97 l (σ := (ap b σ [] [] [])) (b := b) (lyA hK) w2 w3 w4 q1_w2 q2_w2 q1_w3 q2_w3 q1_w4 q2_w4) rfl (by decide) rfl (Nat.le_of_ble_eq_true rfl) (by decide) (fun r u hu => ?_)
  refine z_eqs (σ' := (ap b σ [] [] [])) hu.2 ?_
  show zx p l e _ s m _ below meth c g 9 0 0 _ _ 39 [(6, .ref (b + 21)), (0, .ref (b + 0)), (1, .int 3), (2, .int w1), (3, .int w2), (4, .int w3), (5, .int w4)] _
  refine z_seti (y := 0) hu.1 ?_
  refine z_if_ne (tgt := 52) B dX8_set_39 (by decide) (fun h => absurd (by decide) h) (fun _ => ?_)
  exact z_throw B hlt hout (cls := "java/lang/IllegalArgumentException") (text := "no such operation") tw_X8_83_85_87 dX8_set_42 dX8_set_45 dX8_set_46 dX8_set_48 dX8_set_51 (by decide) (by decide) (by decide) (by decide) (by decide) (by decide) (fun z => ⟨z, rfl⟩)
set_option maxRecDepth 100000 in
set_option maxHeartbeats 4000000 in
theorem ci_L_set_251 (l : Launch) (hlt : l.stackTraces = false) {g : gx_T} {σ : sx_T} {b : Nat} (hK : lay b σ) (w1 : Int32) (w2 : Int32) (w3 : Int32) (w4 : Int32) (q1_w1 : (0 : Int) ≤ w1.toInt) (q2_w1 : w1.toInt ≤ (19 : Int)) (q1_w2 : (0 : Int) ≤ w2.toInt) (q2_w2 : w2.toInt ≤ (17 : Int)) (q1_w3 : (0 : Int) ≤ w3.toInt) (q2_w3 : w3.toInt ≤ (99 : Int)) (q1_w4 : (100 : Int) ≤ w4.toInt) (q2_w4 : w4.toInt ≤ (2147483647 : Int)) (hR_0_0 : sx_R σ (b + 0) 0 = (some (b + 1))) (hR_1_3 : sx_R σ (b + 1) 3 = (some (b + 21))) : Met l yL_set (.codeWith yL_set cL_set 8 (some .int) [(0, 16, 19, 13), (0, 16, 23, 15)] :: lw_g) { frames := 8, cells := 1, slots := 6, locals := 164 } (va_Pc [.ref (b + 0), .int 3, .int w1, .int w2, .int w3, .int w4, .ref (b + 431)] (zx_w g σ)) (va_Qi (fun r u => r = 2 ∧ ∃ z, u = (ap b (wx_Z σ z) [] [] [])) (zx_w g) (gx_Q g)) 1 6 (gx_Q g) := by
  refine z_metW (by decide) (Nat.le_of_ble_eq_true rfl) (fun p e s m below meth c B hr htab => ?_)
  refine z_eqs (σ' := (ap b σ [] [] [])) rfl ?_
  show zx p l e _ s m _ below meth c g 8 0 0 _ _ 0 [(0, .ref (b + 0)), (1, .int 3), (2, .int w1), (3, .int w2), (4, .int w3), (5, .int w4), (6, .ref (b + 431))] []
  refine z_aload B dL_set_0 6 rfl ?_
  refine z_iconst (v := 0) B dL_set_2 (by decide) ?_
  refine z_aload_n B dL_set_3 rfl 0 rfl ?_
  refine z_iload_n B dL_set_4 rfl 1 rfl ?_
  refine z_iload_n B dL_set_5 rfl 2 rfl ?_
  refine z_iload_n B dL_set_6 rfl 3 rfl ?_
  refine z_iload B dL_set_7 4 rfl ?_
  refine z_iload B dL_set_9 5 rfl ?_
  refine z_cXi (As := [.int 3, .int w1, .int w2, .int w3, .int w4]) (rest := [.int 0, .ref (b + 431)]) B htab tc_set_11_IllegalArgumentException cw_L_7 cx_9 dL_set_11 (ci_X8_set_250 l hlt (σ := (ap b σ [] [] [])) (b := b) (lyA hK) w1 w2 w3 w4 q1_w1 q2_w1 q1_w2 q2_w2 q1_w3 q2_w3 q1_w4 q2_w4 (rR_at 0 0 hR_0_0) (rR_at 1 3 hR_1_3)) (lKA (hk_K hK 0 rfl rfl)) rfl (by decide) rfl (Nat.le_of_ble_eq_true rfl) (by decide) (fun z q => ?_)
  refine z_eqs (σ' := (ap b (wx_Z σ z) [] [] [])) rfl ?_
  show zx p l e _ s m _ below meth c g 8 _ _ _ _ 23 [(0, .ref (b + 0)), (1, .int 3), (2, .int w1), (3, .int w2), (4, .int w3), (5, .int w4), (6, .ref (b + 431))] _
  refine z_astore (lv' := [(7, .ref q), (0, .ref (b + 0)), (1, .int 3), (2, .int w1), (3, .int w2), (4, .int w3), (5, .int w4), (6, .ref (b + 431))]) B dL_set_23 (by decide) rfl ?_
  refine z_iconst (v := 2) B dL_set_25 (by decide) ?_
  exact z_iret B hr (by decide) (by decide) dL_set_26 ⟨rfl, _, rfl⟩
set_option maxRecDepth 100000 in
set_option maxHeartbeats 4000000 in
theorem ci_X9_set_252 (l : Launch) {g : gx_T} {σ : sx_T} {b : Nat} (hK : lay b σ) (w1 : Int32) (w2 : Int32) (w3 : Int32) (w4 : Int32) (q1_w1 : (0 : Int) ≤ w1.toInt) (q2_w1 : w1.toInt ≤ (19 : Int)) (q1_w2 : (0 : Int) ≤ w2.toInt) (q2_w2 : w2.toInt ≤ (17 : Int)) (q1_w3 : (0 : Int) ≤ w3.toInt) (q2_w3 : w3.toInt ≤ (99 : Int)) (q1_w4 : (100 : Int) ≤ w4.toInt) (q2_w4 : w4.toInt ≤ (2147483647 : Int))  : Met l yX9_set (.code yX9_set cX9_set 7 (some .int) :: lw_g) { frames := 2, cells := 0, slots := 0, locals := 44 } (va_Pc [.ref (b + 405), .int 3, .int w1, .int w2, .int w3, .int w4] (zx_w g σ)) (va_Qi (fun r u => r = 0 ∧ u = (ap b σ [(405, 0, 2)] [] [])) (zx_w g) (gx_Q g)) 0 0 (gx_Q g) := by
  refine z_met (by decide) (Nat.le_of_ble_eq_true rfl) (fun p e s m below meth c B hr hin => ?_)
  refine z_eqs (σ' := (ap b σ [] [] [])) rfl ?_
  show zx p l e _ s m _ below meth c g 7 0 0 _ _ 0 [(0, .ref (b + 405)), (1, .int 3), (2, .int w1), (3, .int w2), (4, .int w3), (5, .int w4)] []
  refine z_aload_n B dX9_set_0 rfl 0 rfl ?_
  refine z_iload_n B dX9_set_1 rfl 1 rfl ?_
  refine z_iload_n B dX9_set_2 rfl 2 rfl ?_
  refine z_cSi (As := [.int 3, .int w1]) (rest := [.ref (b + 405)]) B cw_X9_238 dX9_set_3 (ci_X9_isStep_234 l (σ := (ap b σ [] [] [])) (b := b) (lyA hK) w1 q1_w1 q2_w1) rfl (by decide) rfl (Nat.le_of_ble_eq_true rfl) (by decide) (fun r u hu => ?_)
  refine z_eqs (σ' := (ap b σ [] [] [])) hu.2 ?_
  show zx p l e _ s m _ below meth c g 7 0 0 _ _ 6 [(0, .ref (b + 405)), (1, .int 3), (2, .int w1), (3, .int w2), (4, .int w3), (5, .int w4)] _
  refine z_seti (y := 1) hu.1 ?_
  refine z_iload_n B dX9_set_6 rfl 3 rfl ?_
  refine z_iload B dX9_set_7 4 rfl ?_
  refine z_iload B dX9_set_9 5 rfl ?_
  refine z_cSi (As := [.int w2, .int w3, .int w4]) (rest := [.int 1, .ref (b + 405)]) B cw_X9_242 dX9_set_11 (ci_X9_isOperation_43 l (σ := (ap b σ [] [] [])) (b := b) (lyA hK) w2 w3 w4 q1_w2 q2_w2 q1_w3 q2_w3 q1_w4 q2_w4) rfl (by decide) rfl (Nat.le_of_ble_eq_true rfl) (by decide) (fun r u hu => ?_)
  refine z_eqs (σ' := (ap b σ [] [] [])) hu.2 ?_
  show zx p l e _ s m _ below meth c g 7 0 0 _ _ 14 [(0, .ref (b + 405)), (1, .int 3), (2, .int w1), (3, .int w2), (4, .int w3), (5, .int w4)] _
  refine z_seti (y := 0) hu.1 ?_
  refine z_cVi (As := [.int 1, .int 0]) (rest := []) B cw_X9_245 cx_10 dX9_set_14 (ci_X9_needs__71 l (σ := (ap b σ [] [] [])) (b := b) (lyA hK) ) (lKA (hk_K hK 405 rfl rfl)) rfl (by decide) rfl (Nat.le_of_ble_eq_true rfl) (by decide) (fun r u hu => ?_)
  refine z_eqs (σ' := (ap b σ [(405, 0, 2)] [] [])) (hu.2.trans ap_ap) ?_
  show zx p l e _ s m _ below meth c g 7 0 0 _ _ 17 [(0, .ref (b + 405)), (1, .int 3), (2, .int w1), (3, .int w2), (4, .int w3), (5, .int w4)] _
  refine z_seti (y := 0) hu.1 ?_
  refine z_if_ne (tgt := 22) B dX9_set_17 (by decide) (fun h => absurd (by decide) h) (fun _ => ?_)
  refine z_iconst (v := 0) B dX9_set_20 (by decide) ?_
  exact z_iret B hr (by decide) (by decide) dX9_set_21 ⟨rfl, rfl⟩
set_option maxRecDepth 100000 in
set_option maxHeartbeats 4000000 in
theorem ci_X8_set_253 (l : Launch) (hlt : l.stackTraces = false) {g : gx_T} {σ : sx_T} {b : Nat} (hK : lay b σ) (w1 : Int32) (w2 : Int32) (w3 : Int32) (w4 : Int32) (q1_w1 : (0 : Int) ≤ w1.toInt) (q2_w1 : w1.toInt ≤ (19 : Int)) (q1_w2 : (0 : Int) ≤ w2.toInt) (q2_w2 : w2.toInt ≤ (17 : Int)) (q1_w3 : (100 : Int) ≤ w3.toInt) (q2_w3 : w3.toInt ≤ (2147483647 : Int)) (hR_0_0 : sx_R σ (b + 0) 0 = (some (b + 1))) (hR_1_3 : sx_R σ (b + 1) 3 = (some (b + 21))) : vx_Met l yX8_set (.code yX8_set cX8_set 9 (some .int) :: lw_g) { frames := 7, cells := 1, slots := 6, locals := 136 } (va_Pc [.ref (b + 0), .int 3, .int w1, .int w2, .int w3, .int w4] (zx_w g σ)) (va_Qi (S := sx_T) (fun _ _ => False) (zx_w g) (gx_Q g)) (vx_X (fun u : sx_T => ∃ z, u = wx_Z σ z) (fun E u t => E = "java/lang/IllegalArgumentException" ∧ zx_h g u t.heap) (gx_Q g)) 1 6 (gx_Q g) := by
  refine z_metX (by decide) (Nat.le_of_ble_eq_true rfl) (fun p e s m below meth c B hr hin hout => ?_)
  refine z_eqs (σ' := (ap b σ [] [] [])) rfl ?_
  show zx p l e _ s m _ below meth c g 9 0 0 _ _ 0 [(0, .ref (b + 0)), (1, .int 3), (2, .int w1), (3, .int w2), (4, .int w3), (5, .int w4)] []
  refine z_aload_n B dX8_set_0 rfl 0 rfl ?_
  refine z_iload_n B dX8_set_1 rfl 1 rfl ?_
  refine z_cVq (As := [.int 3]) (rest := []) B cw_X8_64 cx_9 dX8_set_2 (ci_X8_programAt_220 l (σ := (ap b σ [] [] [])) (b := b) (lyA hK) (rR_at 0 0 hR_0_0) (rR_at 1 3 hR_1_3)) (lKA (hk_K hK 0 rfl rfl)) rfl (by decide) rfl (Nat.le_of_ble_eq_true rfl) (by decide) (fun r u hu => ?_)
  refine z_eqs (σ' := (ap b σ [] [] [])) hu.2 ?_
  show zx p l e _ s m _ below meth c g 9 0 0 _ _ 5 [(0, .ref (b + 0)), (1, .int 3), (2, .int w1), (3, .int w2), (4, .int w3), (5, .int w4)] _
  refine z_setr (y := (some (b + 21))) hu.1 ?_
  refine z_astore (lv' := [(6, .ref (b + 21)), (0, .ref (b + 0)), (1, .int 3), (2, .int w1), (3, .int w2), (4, .int w3), (5, .int w4)]) B dX8_set_5 (by decide) rfl ?_
  refine z_aload B dX8_set_7 0 rfl ?_
  refine z_ifnull (r := (some (b + 21))) (tgt := 21) B dX8_set_9 (by decide) (fun h => nomatch h) (fun _ _ => ?_)
  refine z_iload_n B dX8_set_12 rfl 3 rfl ?_
  refine z_bipush (v := 20) B dX8_set_13 (by decide) ?_
  refine z_cSi (As := [.int w1, .int 20]) (rest := []) B cw_X8_68 dX8_set_15 (ci_X8_isBelow_64 l (σ := (ap b σ [] [] [])) (b := b) (lyA hK) w1 q1_w1 q2_w1) rfl (by decide) rfl (Nat.le_of_ble_eq_true rfl) (by decide) (fun r u hu => ?_)
  refine z_eqs (σ' := (ap b σ [] [] [])) hu.2 ?_
  show zx p l e _ s m _ below meth c g 9 0 0 _ _ 18 [(6, .ref (b + 21)), (0, .ref (b + 0)), (1, .int 3), (2, .int w1), (3, .int w2), (4, .int w3), (5, .int w4)] _
  refine z_seti (y := 1) hu.1 ?_
  refine z_if_ne (tgt := 31) B dX8_set_18 (by decide) (fun _ => ?_) (fun h => absurd h (by decide))
  refine z_iload_n B dX8_set_31 rfl 4 rfl ?_
  refine z_iload B dX8_set_32 5 rfl ?_
  refine z_iload B dX8_set_34 6 rfl ?_
  refine z_cSi (As := [.int w2, .int w3, .int w4]) (rest := []) B cw_X8_79 dX8_set_36 (ci_X8_isStep_101 l (σ := (ap b σ [] [] [])) (b := b) (lyA hK) w2 w3 w4 q1_w2 q2_w2 q1_w3 q2_w3) rfl (by decide) rfl (Nat.le_of_ble_eq_true rfl) (by decide) (fun r u hu => ?_)
  refine z_eqs (σ' := (ap b σ [] [] [])) hu.2 ?_
  show zx p l e _ s m _ below meth c g 9 0 0 _ _ 39 [(6, .ref (b + 21)), (0, .ref (b + 0)), (1, .int 3), (2, .int w1), (3, .int w2), (4, .int w3), (5, .int w4)] _
  refine z_seti (y := 0) hu.1 ?_
  refine z_if_ne (tgt := 52) B dX8_set_39 (by decide) (fun h => absurd (by decide) h) (fun _ => ?_)
  exact z_throw B hlt hout (cls := "java/lang/IllegalArgumentException") (text := "no such operation") tw_X8_83_85_87 dX8_set_42 dX8_set_45 dX8_set_46 dX8_set_48 dX8_set_51 (by decide) (by decide) (by decide) (by decide) (by decide) (by decide) (fun z => ⟨z, rfl⟩)
set_option maxRecDepth 100000 in
set_option maxHeartbeats 4000000 in
theorem ci_L_set_254 (l : Launch) (hlt : l.stackTraces = false) {g : gx_T} {σ : sx_T} {b : Nat} (hK : lay b σ) (w1 : Int32) (w2 : Int32) (w3 : Int32) (w4 : Int32) (q1_w1 : (0 : Int) ≤ w1.toInt) (q2_w1 : w1.toInt ≤ (19 : Int)) (q1_w2 : (0 : Int) ≤ w2.toInt) (q2_w2 : w2.toInt ≤ (17 : Int)) (q1_w3 : (100 : Int) ≤ w3.toInt) (q2_w3 : w3.toInt ≤ (2147483647 : Int)) (hR_0_0 : sx_R σ (b + 0) 0 = (some (b + 1))) (hR_1_3 : sx_R σ (b + 1) 3 = (some (b + 21))) : Met l yL_set (.codeWith yL_set cL_set 8 (some .int) [(0, 16, 19, 13), (0, 16, 23, 15)] :: lw_g) { frames := 8, cells := 1, slots := 6, locals := 164 } (va_Pc [.ref (b + 0), .int 3, .int w1, .int w2, .int w3, .int w4, .ref (b + 431)] (zx_w g σ)) (va_Qi (fun r u => r = 2 ∧ ∃ z, u = (ap b (wx_Z σ z) [] [] [])) (zx_w g) (gx_Q g)) 1 6 (gx_Q g) := by
  refine z_metW (by decide) (Nat.le_of_ble_eq_true rfl) (fun p e s m below meth c B hr htab => ?_)
  refine z_eqs (σ' := (ap b σ [] [] [])) rfl ?_
  show zx p l e _ s m _ below meth c g 8 0 0 _ _ 0 [(0, .ref (b + 0)), (1, .int 3), (2, .int w1), (3, .int w2), (4, .int w3), (5, .int w4), (6, .ref (b + 431))] []
  refine z_aload B dL_set_0 6 rfl ?_
  refine z_iconst (v := 0) B dL_set_2 (by decide) ?_
  refine z_aload_n B dL_set_3 rfl 0 rfl ?_
  refine z_iload_n B dL_set_4 rfl 1 rfl ?_
  refine z_iload_n B dL_set_5 rfl 2 rfl ?_
  refine z_iload_n B dL_set_6 rfl 3 rfl ?_
  refine z_iload B dL_set_7 4 rfl ?_
  refine z_iload B dL_set_9 5 rfl ?_
  refine z_cXi (As := [.int 3, .int w1, .int w2, .int w3, .int w4]) (rest := [.int 0, .ref (b + 431)]) B htab tc_set_11_IllegalArgumentException cw_L_7 cx_9 dL_set_11 (ci_X8_set_253 l hlt (σ := (ap b σ [] [] [])) (b := b) (lyA hK) w1 w2 w3 w4 q1_w1 q2_w1 q1_w2 q2_w2 q1_w3 q2_w3 (rR_at 0 0 hR_0_0) (rR_at 1 3 hR_1_3)) (lKA (hk_K hK 0 rfl rfl)) rfl (by decide) rfl (Nat.le_of_ble_eq_true rfl) (by decide) (fun z q => ?_)
  refine z_eqs (σ' := (ap b (wx_Z σ z) [] [] [])) rfl ?_
  show zx p l e _ s m _ below meth c g 8 _ _ _ _ 23 [(0, .ref (b + 0)), (1, .int 3), (2, .int w1), (3, .int w2), (4, .int w3), (5, .int w4), (6, .ref (b + 431))] _
  refine z_astore (lv' := [(7, .ref q), (0, .ref (b + 0)), (1, .int 3), (2, .int w1), (3, .int w2), (4, .int w3), (5, .int w4), (6, .ref (b + 431))]) B dL_set_23 (by decide) rfl ?_
  refine z_iconst (v := 2) B dL_set_25 (by decide) ?_
  exact z_iret B hr (by decide) (by decide) dL_set_26 ⟨rfl, _, rfl⟩
set_option maxRecDepth 100000 in
set_option maxHeartbeats 4000000 in
theorem ci_X9_set_255 (l : Launch) {g : gx_T} {σ : sx_T} {b : Nat} (hK : lay b σ) (w1 : Int32) (w2 : Int32) (w3 : Int32) (w4 : Int32) (q1_w1 : (0 : Int) ≤ w1.toInt) (q2_w1 : w1.toInt ≤ (19 : Int)) (q1_w2 : (0 : Int) ≤ w2.toInt) (q2_w2 : w2.toInt ≤ (17 : Int)) (q1_w3 : (100 : Int) ≤ w3.toInt) (q2_w3 : w3.toInt ≤ (2147483647 : Int))  : Met l yX9_set (.code yX9_set cX9_set 7 (some .int) :: lw_g) { frames := 2, cells := 0, slots := 0, locals := 44 } (va_Pc [.ref (b + 405), .int 3, .int w1, .int w2, .int w3, .int w4] (zx_w g σ)) (va_Qi (fun r u => r = 0 ∧ u = (ap b σ [(405, 0, 2)] [] [])) (zx_w g) (gx_Q g)) 0 0 (gx_Q g) := by
  refine z_met (by decide) (Nat.le_of_ble_eq_true rfl) (fun p e s m below meth c B hr hin => ?_)
  refine z_eqs (σ' := (ap b σ [] [] [])) rfl ?_
  show zx p l e _ s m _ below meth c g 7 0 0 _ _ 0 [(0, .ref (b + 405)), (1, .int 3), (2, .int w1), (3, .int w2), (4, .int w3), (5, .int w4)] []
  refine z_aload_n B dX9_set_0 rfl 0 rfl ?_
  refine z_iload_n B dX9_set_1 rfl 1 rfl ?_
  refine z_iload_n B dX9_set_2 rfl 2 rfl ?_
  refine z_cSi (As := [.int 3, .int w1]) (rest := [.ref (b + 405)]) B cw_X9_238 dX9_set_3 (ci_X9_isStep_234 l (σ := (ap b σ [] [] [])) (b := b) (lyA hK) w1 q1_w1 q2_w1) rfl (by decide) rfl (Nat.le_of_ble_eq_true rfl) (by decide) (fun r u hu => ?_)
  refine z_eqs (σ' := (ap b σ [] [] [])) hu.2 ?_
  show zx p l e _ s m _ below meth c g 7 0 0 _ _ 6 [(0, .ref (b + 405)), (1, .int 3), (2, .int w1), (3, .int w2), (4, .int w3), (5, .int w4)] _
  refine z_seti (y := 1) hu.1 ?_
  refine z_iload_n B dX9_set_6 rfl 3 rfl ?_
  refine z_iload B dX9_set_7 4 rfl ?_
  refine z_iload B dX9_set_9 5 rfl ?_
  refine z_cSi (As := [.int w2, .int w3, .int w4]) (rest := [.int 1, .ref (b + 405)]) B cw_X9_242 dX9_set_11 (ci_X9_isOperation_45 l (σ := (ap b σ [] [] [])) (b := b) (lyA hK) w2 w3 w4 q1_w2 q2_w2 q1_w3 q2_w3) rfl (by decide) rfl (Nat.le_of_ble_eq_true rfl) (by decide) (fun r u hu => ?_)
  refine z_eqs (σ' := (ap b σ [] [] [])) hu.2 ?_
  show zx p l e _ s m _ below meth c g 7 0 0 _ _ 14 [(0, .ref (b + 405)), (1, .int 3), (2, .int w1), (3, .int w2), (4, .int w3), (5, .int w4)] _
  refine z_seti (y := 0) hu.1 ?_
  refine z_cVi (As := [.int 1, .int 0]) (rest := []) B cw_X9_245 cx_10 dX9_set_14 (ci_X9_needs__71 l (σ := (ap b σ [] [] [])) (b := b) (lyA hK) ) (lKA (hk_K hK 405 rfl rfl)) rfl (by decide) rfl (Nat.le_of_ble_eq_true rfl) (by decide) (fun r u hu => ?_)
  refine z_eqs (σ' := (ap b σ [(405, 0, 2)] [] [])) (hu.2.trans ap_ap) ?_
  show zx p l e _ s m _ below meth c g 7 0 0 _ _ 17 [(0, .ref (b + 405)), (1, .int 3), (2, .int w1), (3, .int w2), (4, .int w3), (5, .int w4)] _
  refine z_seti (y := 0) hu.1 ?_
  refine z_if_ne (tgt := 22) B dX9_set_17 (by decide) (fun h => absurd (by decide) h) (fun _ => ?_)
  refine z_iconst (v := 0) B dX9_set_20 (by decide) ?_
  exact z_iret B hr (by decide) (by decide) dX9_set_21 ⟨rfl, rfl⟩
set_option maxRecDepth 100000 in
set_option maxHeartbeats 4000000 in
theorem ci_X8_set_256 (l : Launch) (hlt : l.stackTraces = false) {g : gx_T} {σ : sx_T} {b : Nat} (hK : lay b σ) (w1 : Int32) (w2 : Int32) (w3 : Int32) (w4 : Int32) (q1_w1 : (0 : Int) ≤ w1.toInt) (q2_w1 : w1.toInt ≤ (19 : Int)) (q1_w2 : (18 : Int) ≤ w2.toInt) (q2_w2 : w2.toInt ≤ (2147483647 : Int)) (hR_0_0 : sx_R σ (b + 0) 0 = (some (b + 1))) (hR_1_3 : sx_R σ (b + 1) 3 = (some (b + 21))) : vx_Met l yX8_set (.code yX8_set cX8_set 9 (some .int) :: lw_g) { frames := 7, cells := 1, slots := 6, locals := 136 } (va_Pc [.ref (b + 0), .int 3, .int w1, .int w2, .int w3, .int w4] (zx_w g σ)) (va_Qi (S := sx_T) (fun _ _ => False) (zx_w g) (gx_Q g)) (vx_X (fun u : sx_T => ∃ z, u = wx_Z σ z) (fun E u t => E = "java/lang/IllegalArgumentException" ∧ zx_h g u t.heap) (gx_Q g)) 1 6 (gx_Q g) := by
  refine z_metX (by decide) (Nat.le_of_ble_eq_true rfl) (fun p e s m below meth c B hr hin hout => ?_)
  refine z_eqs (σ' := (ap b σ [] [] [])) rfl ?_
  show zx p l e _ s m _ below meth c g 9 0 0 _ _ 0 [(0, .ref (b + 0)), (1, .int 3), (2, .int w1), (3, .int w2), (4, .int w3), (5, .int w4)] []
  refine z_aload_n B dX8_set_0 rfl 0 rfl ?_
  refine z_iload_n B dX8_set_1 rfl 1 rfl ?_
  refine z_cVq (As := [.int 3]) (rest := []) B cw_X8_64 cx_9 dX8_set_2 (ci_X8_programAt_220 l (σ := (ap b σ [] [] [])) (b := b) (lyA hK) (rR_at 0 0 hR_0_0) (rR_at 1 3 hR_1_3)) (lKA (hk_K hK 0 rfl rfl)) rfl (by decide) rfl (Nat.le_of_ble_eq_true rfl) (by decide) (fun r u hu => ?_)
  refine z_eqs (σ' := (ap b σ [] [] [])) hu.2 ?_
  show zx p l e _ s m _ below meth c g 9 0 0 _ _ 5 [(0, .ref (b + 0)), (1, .int 3), (2, .int w1), (3, .int w2), (4, .int w3), (5, .int w4)] _
  refine z_setr (y := (some (b + 21))) hu.1 ?_
  refine z_astore (lv' := [(6, .ref (b + 21)), (0, .ref (b + 0)), (1, .int 3), (2, .int w1), (3, .int w2), (4, .int w3), (5, .int w4)]) B dX8_set_5 (by decide) rfl ?_
  refine z_aload B dX8_set_7 0 rfl ?_
  refine z_ifnull (r := (some (b + 21))) (tgt := 21) B dX8_set_9 (by decide) (fun h => nomatch h) (fun _ _ => ?_)
  refine z_iload_n B dX8_set_12 rfl 3 rfl ?_
  refine z_bipush (v := 20) B dX8_set_13 (by decide) ?_
  refine z_cSi (As := [.int w1, .int 20]) (rest := []) B cw_X8_68 dX8_set_15 (ci_X8_isBelow_64 l (σ := (ap b σ [] [] [])) (b := b) (lyA hK) w1 q1_w1 q2_w1) rfl (by decide) rfl (Nat.le_of_ble_eq_true rfl) (by decide) (fun r u hu => ?_)
  refine z_eqs (σ' := (ap b σ [] [] [])) hu.2 ?_
  show zx p l e _ s m _ below meth c g 9 0 0 _ _ 18 [(6, .ref (b + 21)), (0, .ref (b + 0)), (1, .int 3), (2, .int w1), (3, .int w2), (4, .int w3), (5, .int w4)] _
  refine z_seti (y := 1) hu.1 ?_
  refine z_if_ne (tgt := 31) B dX8_set_18 (by decide) (fun _ => ?_) (fun h => absurd h (by decide))
  refine z_iload_n B dX8_set_31 rfl 4 rfl ?_
  refine z_iload B dX8_set_32 5 rfl ?_
  refine z_iload B dX8_set_34 6 rfl ?_
  refine z_cSi (As := [.int w2, .int w3, .int w4]) (rest := []) B cw_X8_79 dX8_set_36 (ci_X8_isStep_106 l (σ := (ap b σ [] [] [])) (b := b) (lyA hK) w2 w3 w4 q1_w2 q2_w2) rfl (by decide) rfl (Nat.le_of_ble_eq_true rfl) (by decide) (fun r u hu => ?_)
  refine z_eqs (σ' := (ap b σ [] [] [])) hu.2 ?_
  show zx p l e _ s m _ below meth c g 9 0 0 _ _ 39 [(6, .ref (b + 21)), (0, .ref (b + 0)), (1, .int 3), (2, .int w1), (3, .int w2), (4, .int w3), (5, .int w4)] _
  refine z_seti (y := 0) hu.1 ?_
  refine z_if_ne (tgt := 52) B dX8_set_39 (by decide) (fun h => absurd (by decide) h) (fun _ => ?_)
  exact z_throw B hlt hout (cls := "java/lang/IllegalArgumentException") (text := "no such operation") tw_X8_83_85_87 dX8_set_42 dX8_set_45 dX8_set_46 dX8_set_48 dX8_set_51 (by decide) (by decide) (by decide) (by decide) (by decide) (by decide) (fun z => ⟨z, rfl⟩)
set_option maxRecDepth 100000 in
set_option maxHeartbeats 4000000 in
theorem ci_L_set_257 (l : Launch) (hlt : l.stackTraces = false) {g : gx_T} {σ : sx_T} {b : Nat} (hK : lay b σ) (w1 : Int32) (w2 : Int32) (w3 : Int32) (w4 : Int32) (q1_w1 : (0 : Int) ≤ w1.toInt) (q2_w1 : w1.toInt ≤ (19 : Int)) (q1_w2 : (18 : Int) ≤ w2.toInt) (q2_w2 : w2.toInt ≤ (2147483647 : Int)) (hR_0_0 : sx_R σ (b + 0) 0 = (some (b + 1))) (hR_1_3 : sx_R σ (b + 1) 3 = (some (b + 21))) : Met l yL_set (.codeWith yL_set cL_set 8 (some .int) [(0, 16, 19, 13), (0, 16, 23, 15)] :: lw_g) { frames := 8, cells := 1, slots := 6, locals := 164 } (va_Pc [.ref (b + 0), .int 3, .int w1, .int w2, .int w3, .int w4, .ref (b + 431)] (zx_w g σ)) (va_Qi (fun r u => r = 2 ∧ ∃ z, u = (ap b (wx_Z σ z) [] [] [])) (zx_w g) (gx_Q g)) 1 6 (gx_Q g) := by
  refine z_metW (by decide) (Nat.le_of_ble_eq_true rfl) (fun p e s m below meth c B hr htab => ?_)
  refine z_eqs (σ' := (ap b σ [] [] [])) rfl ?_
  show zx p l e _ s m _ below meth c g 8 0 0 _ _ 0 [(0, .ref (b + 0)), (1, .int 3), (2, .int w1), (3, .int w2), (4, .int w3), (5, .int w4), (6, .ref (b + 431))] []
  refine z_aload B dL_set_0 6 rfl ?_
  refine z_iconst (v := 0) B dL_set_2 (by decide) ?_
  refine z_aload_n B dL_set_3 rfl 0 rfl ?_
  refine z_iload_n B dL_set_4 rfl 1 rfl ?_
  refine z_iload_n B dL_set_5 rfl 2 rfl ?_
  refine z_iload_n B dL_set_6 rfl 3 rfl ?_
  refine z_iload B dL_set_7 4 rfl ?_
  refine z_iload B dL_set_9 5 rfl ?_
  refine z_cXi (As := [.int 3, .int w1, .int w2, .int w3, .int w4]) (rest := [.int 0, .ref (b + 431)]) B htab tc_set_11_IllegalArgumentException cw_L_7 cx_9 dL_set_11 (ci_X8_set_256 l hlt (σ := (ap b σ [] [] [])) (b := b) (lyA hK) w1 w2 w3 w4 q1_w1 q2_w1 q1_w2 q2_w2 (rR_at 0 0 hR_0_0) (rR_at 1 3 hR_1_3)) (lKA (hk_K hK 0 rfl rfl)) rfl (by decide) rfl (Nat.le_of_ble_eq_true rfl) (by decide) (fun z q => ?_)
  refine z_eqs (σ' := (ap b (wx_Z σ z) [] [] [])) rfl ?_
  show zx p l e _ s m _ below meth c g 8 _ _ _ _ 23 [(0, .ref (b + 0)), (1, .int 3), (2, .int w1), (3, .int w2), (4, .int w3), (5, .int w4), (6, .ref (b + 431))] _
  refine z_astore (lv' := [(7, .ref q), (0, .ref (b + 0)), (1, .int 3), (2, .int w1), (3, .int w2), (4, .int w3), (5, .int w4), (6, .ref (b + 431))]) B dL_set_23 (by decide) rfl ?_
  refine z_iconst (v := 2) B dL_set_25 (by decide) ?_
  exact z_iret B hr (by decide) (by decide) dL_set_26 ⟨rfl, _, rfl⟩
set_option maxRecDepth 100000 in
set_option maxHeartbeats 4000000 in
theorem ci_X9_set_258 (l : Launch) {g : gx_T} {σ : sx_T} {b : Nat} (hK : lay b σ) (w1 : Int32) (w2 : Int32) (w3 : Int32) (w4 : Int32) (q1_w1 : (0 : Int) ≤ w1.toInt) (q2_w1 : w1.toInt ≤ (19 : Int)) (q1_w2 : (18 : Int) ≤ w2.toInt) (q2_w2 : w2.toInt ≤ (2147483647 : Int))  : Met l yX9_set (.code yX9_set cX9_set 7 (some .int) :: lw_g) { frames := 2, cells := 0, slots := 0, locals := 44 } (va_Pc [.ref (b + 405), .int 3, .int w1, .int w2, .int w3, .int w4] (zx_w g σ)) (va_Qi (fun r u => r = 0 ∧ u = (ap b σ [(405, 0, 2)] [] [])) (zx_w g) (gx_Q g)) 0 0 (gx_Q g) := by
  refine z_met (by decide) (Nat.le_of_ble_eq_true rfl) (fun p e s m below meth c B hr hin => ?_)
  refine z_eqs (σ' := (ap b σ [] [] [])) rfl ?_
  show zx p l e _ s m _ below meth c g 7 0 0 _ _ 0 [(0, .ref (b + 405)), (1, .int 3), (2, .int w1), (3, .int w2), (4, .int w3), (5, .int w4)] []
  refine z_aload_n B dX9_set_0 rfl 0 rfl ?_
  refine z_iload_n B dX9_set_1 rfl 1 rfl ?_
  refine z_iload_n B dX9_set_2 rfl 2 rfl ?_
  refine z_cSi (As := [.int 3, .int w1]) (rest := [.ref (b + 405)]) B cw_X9_238 dX9_set_3 (ci_X9_isStep_234 l (σ := (ap b σ [] [] [])) (b := b) (lyA hK) w1 q1_w1 q2_w1) rfl (by decide) rfl (Nat.le_of_ble_eq_true rfl) (by decide) (fun r u hu => ?_)
  refine z_eqs (σ' := (ap b σ [] [] [])) hu.2 ?_
  show zx p l e _ s m _ below meth c g 7 0 0 _ _ 6 [(0, .ref (b + 405)), (1, .int 3), (2, .int w1), (3, .int w2), (4, .int w3), (5, .int w4)] _
  refine z_seti (y := 1) hu.1 ?_
  refine z_iload_n B dX9_set_6 rfl 3 rfl ?_
  refine z_iload B dX9_set_7 4 rfl ?_
  refine z_iload B dX9_set_9 5 rfl ?_
  refine z_cSi (As := [.int w2, .int w3, .int w4]) (rest := [.int 1, .ref (b + 405)]) B cw_X9_242 dX9_set_11 (ci_X9_isOperation_48 l (σ := (ap b σ [] [] [])) (b := b) (lyA hK) w2 w3 w4 q1_w2 q2_w2) rfl (by decide) rfl (Nat.le_of_ble_eq_true rfl) (by decide) (fun r u hu => ?_)
  refine z_eqs (σ' := (ap b σ [] [] [])) hu.2 ?_
  show zx p l e _ s m _ below meth c g 7 0 0 _ _ 14 [(0, .ref (b + 405)), (1, .int 3), (2, .int w1), (3, .int w2), (4, .int w3), (5, .int w4)] _
  refine z_seti (y := 0) hu.1 ?_
  refine z_cVi (As := [.int 1, .int 0]) (rest := []) B cw_X9_245 cx_10 dX9_set_14 (ci_X9_needs__71 l (σ := (ap b σ [] [] [])) (b := b) (lyA hK) ) (lKA (hk_K hK 405 rfl rfl)) rfl (by decide) rfl (Nat.le_of_ble_eq_true rfl) (by decide) (fun r u hu => ?_)
  refine z_eqs (σ' := (ap b σ [(405, 0, 2)] [] [])) (hu.2.trans ap_ap) ?_
  show zx p l e _ s m _ below meth c g 7 0 0 _ _ 17 [(0, .ref (b + 405)), (1, .int 3), (2, .int w1), (3, .int w2), (4, .int w3), (5, .int w4)] _
  refine z_seti (y := 0) hu.1 ?_
  refine z_if_ne (tgt := 22) B dX9_set_17 (by decide) (fun h => absurd (by decide) h) (fun _ => ?_)
  refine z_iconst (v := 0) B dX9_set_20 (by decide) ?_
  exact z_iret B hr (by decide) (by decide) dX9_set_21 ⟨rfl, rfl⟩
set_option maxRecDepth 100000 in
set_option maxHeartbeats 4000000 in
theorem ci_X8_set_259 (l : Launch) (hlt : l.stackTraces = false) {g : gx_T} {σ : sx_T} {b : Nat} (hK : lay b σ) (w1 : Int32) (w2 : Int32) (w3 : Int32) (w4 : Int32) (q1_w1 : (20 : Int) ≤ w1.toInt) (q2_w1 : w1.toInt ≤ (2147483647 : Int)) (hR_0_0 : sx_R σ (b + 0) 0 = (some (b + 1))) (hR_1_3 : sx_R σ (b + 1) 3 = (some (b + 21))) : vx_Met l yX8_set (.code yX8_set cX8_set 9 (some .int) :: lw_g) { frames := 7, cells := 1, slots := 6, locals := 136 } (va_Pc [.ref (b + 0), .int 3, .int w1, .int w2, .int w3, .int w4] (zx_w g σ)) (va_Qi (S := sx_T) (fun _ _ => False) (zx_w g) (gx_Q g)) (vx_X (fun u : sx_T => ∃ z, u = wx_Z σ z) (fun E u t => E = "java/lang/IndexOutOfBoundsException" ∧ zx_h g u t.heap) (gx_Q g)) 1 6 (gx_Q g) := by
  refine z_metX (by decide) (Nat.le_of_ble_eq_true rfl) (fun p e s m below meth c B hr hin hout => ?_)
  refine z_eqs (σ' := (ap b σ [] [] [])) rfl ?_
  show zx p l e _ s m _ below meth c g 9 0 0 _ _ 0 [(0, .ref (b + 0)), (1, .int 3), (2, .int w1), (3, .int w2), (4, .int w3), (5, .int w4)] []
  refine z_aload_n B dX8_set_0 rfl 0 rfl ?_
  refine z_iload_n B dX8_set_1 rfl 1 rfl ?_
  refine z_cVq (As := [.int 3]) (rest := []) B cw_X8_64 cx_9 dX8_set_2 (ci_X8_programAt_220 l (σ := (ap b σ [] [] [])) (b := b) (lyA hK) (rR_at 0 0 hR_0_0) (rR_at 1 3 hR_1_3)) (lKA (hk_K hK 0 rfl rfl)) rfl (by decide) rfl (Nat.le_of_ble_eq_true rfl) (by decide) (fun r u hu => ?_)
  refine z_eqs (σ' := (ap b σ [] [] [])) hu.2 ?_
  show zx p l e _ s m _ below meth c g 9 0 0 _ _ 5 [(0, .ref (b + 0)), (1, .int 3), (2, .int w1), (3, .int w2), (4, .int w3), (5, .int w4)] _
  refine z_setr (y := (some (b + 21))) hu.1 ?_
  refine z_astore (lv' := [(6, .ref (b + 21)), (0, .ref (b + 0)), (1, .int 3), (2, .int w1), (3, .int w2), (4, .int w3), (5, .int w4)]) B dX8_set_5 (by decide) rfl ?_
  refine z_aload B dX8_set_7 0 rfl ?_
  refine z_ifnull (r := (some (b + 21))) (tgt := 21) B dX8_set_9 (by decide) (fun h => nomatch h) (fun _ _ => ?_)
  refine z_iload_n B dX8_set_12 rfl 3 rfl ?_
  refine z_bipush (v := 20) B dX8_set_13 (by decide) ?_
  refine z_cSi (As := [.int w1, .int 20]) (rest := []) B cw_X8_68 dX8_set_15 (ci_X8_isBelow_110 l (σ := (ap b σ [] [] [])) (b := b) (lyA hK) w1 q1_w1 q2_w1) rfl (by decide) rfl (Nat.le_of_ble_eq_true rfl) (by decide) (fun r u hu => ?_)
  refine z_eqs (σ' := (ap b σ [] [] [])) hu.2 ?_
  show zx p l e _ s m _ below meth c g 9 0 0 _ _ 18 [(6, .ref (b + 21)), (0, .ref (b + 0)), (1, .int 3), (2, .int w1), (3, .int w2), (4, .int w3), (5, .int w4)] _
  refine z_seti (y := 0) hu.1 ?_
  refine z_if_ne (tgt := 31) B dX8_set_18 (by decide) (fun h => absurd (by decide) h) (fun _ => ?_)
  exact z_throw B hlt hout (cls := "java/lang/IndexOutOfBoundsException") (text := "no such step") tw_X8_72_74_76 dX8_set_21 dX8_set_24 dX8_set_25 dX8_set_27 dX8_set_30 (by decide) (by decide) (by decide) (by decide) (by decide) (by decide) (fun z => ⟨z, rfl⟩)
set_option maxRecDepth 100000 in
set_option maxHeartbeats 4000000 in
theorem ci_L_set_260 (l : Launch) (hlt : l.stackTraces = false) {g : gx_T} {σ : sx_T} {b : Nat} (hK : lay b σ) (w1 : Int32) (w2 : Int32) (w3 : Int32) (w4 : Int32) (q1_w1 : (20 : Int) ≤ w1.toInt) (q2_w1 : w1.toInt ≤ (2147483647 : Int)) (hR_0_0 : sx_R σ (b + 0) 0 = (some (b + 1))) (hR_1_3 : sx_R σ (b + 1) 3 = (some (b + 21))) : Met l yL_set (.codeWith yL_set cL_set 8 (some .int) [(0, 16, 19, 13), (0, 16, 23, 15)] :: lw_g) { frames := 8, cells := 1, slots := 6, locals := 164 } (va_Pc [.ref (b + 0), .int 3, .int w1, .int w2, .int w3, .int w4, .ref (b + 431)] (zx_w g σ)) (va_Qi (fun r u => r = 1 ∧ ∃ z, u = (ap b (wx_Z σ z) [] [] [])) (zx_w g) (gx_Q g)) 1 6 (gx_Q g) := by
  refine z_metW (by decide) (Nat.le_of_ble_eq_true rfl) (fun p e s m below meth c B hr htab => ?_)
  refine z_eqs (σ' := (ap b σ [] [] [])) rfl ?_
  show zx p l e _ s m _ below meth c g 8 0 0 _ _ 0 [(0, .ref (b + 0)), (1, .int 3), (2, .int w1), (3, .int w2), (4, .int w3), (5, .int w4), (6, .ref (b + 431))] []
  refine z_aload B dL_set_0 6 rfl ?_
  refine z_iconst (v := 0) B dL_set_2 (by decide) ?_
  refine z_aload_n B dL_set_3 rfl 0 rfl ?_
  refine z_iload_n B dL_set_4 rfl 1 rfl ?_
  refine z_iload_n B dL_set_5 rfl 2 rfl ?_
  refine z_iload_n B dL_set_6 rfl 3 rfl ?_
  refine z_iload B dL_set_7 4 rfl ?_
  refine z_iload B dL_set_9 5 rfl ?_
  refine z_cXi (As := [.int 3, .int w1, .int w2, .int w3, .int w4]) (rest := [.int 0, .ref (b + 431)]) B htab tc_set_11_IndexOutOfBoundsException cw_L_7 cx_9 dL_set_11 (ci_X8_set_259 l hlt (σ := (ap b σ [] [] [])) (b := b) (lyA hK) w1 w2 w3 w4 q1_w1 q2_w1 (rR_at 0 0 hR_0_0) (rR_at 1 3 hR_1_3)) (lKA (hk_K hK 0 rfl rfl)) rfl (by decide) rfl (Nat.le_of_ble_eq_true rfl) (by decide) (fun z q => ?_)
  refine z_eqs (σ' := (ap b (wx_Z σ z) [] [] [])) rfl ?_
  show zx p l e _ s m _ below meth c g 8 _ _ _ _ 19 [(0, .ref (b + 0)), (1, .int 3), (2, .int w1), (3, .int w2), (4, .int w3), (5, .int w4), (6, .ref (b + 431))] _
  refine z_astore (lv' := [(7, .ref q), (0, .ref (b + 0)), (1, .int 3), (2, .int w1), (3, .int w2), (4, .int w3), (5, .int w4), (6, .ref (b + 431))]) B dL_set_19 (by decide) rfl ?_
  refine z_iconst (v := 1) B dL_set_21 (by decide) ?_
  exact z_iret B hr (by decide) (by decide) dL_set_22 ⟨rfl, _, rfl⟩
set_option maxRecDepth 100000 in
set_option maxHeartbeats 4000000 in
theorem ci_X9_isStep_261 (l : Launch) {g : gx_T} {σ : sx_T} {b : Nat} (hK : lay b σ) (w1 : Int32) (q1_w1 : (20 : Int) ≤ w1.toInt) (q2_w1 : w1.toInt ≤ (2147483647 : Int))  : Met l yX9_isStep (.code yX9_isStep cX9_isStep 2 (some .boolean) :: lw_g) { frames := 1, cells := 0, slots := 0, locals := 22 } (va_Pc [.int 3, .int w1] (zx_w g σ)) (va_Qi (fun r u => r = 0 ∧ u = σ) (zx_w g) (gx_Q g)) 0 0 (gx_Q g) := by
  refine z_met (by decide) (Nat.le_of_ble_eq_true rfl) (fun p e s m below meth c B hr hin => ?_)
  refine z_eqs (σ' := (ap b σ [] [] [])) rfl ?_
  show zx p l e _ s m _ below meth c g 2 0 0 _ _ 0 [(0, .int 3), (1, .int w1)] []
  refine z_iload_n B dX9_isStep_0 rfl 0 rfl ?_
  refine z_iconst (v := 0) B dX9_isStep_1 (by decide) ?_
  refine z_iconst (v := 5) B dX9_isStep_2 (by decide) ?_
  refine z_cSi (As := [.int 3, .int 0, .int 5]) (rest := []) B cw_X9_96 dX9_isStep_3 (ci_X9_in_223 l (σ := (ap b σ [] [] [])) (b := b) (lyA hK) ) rfl (by decide) rfl (Nat.le_of_ble_eq_true rfl) (by decide) (fun r u hu => ?_)
  refine z_eqs (σ' := (ap b σ [] [] [])) hu.2 ?_
  show zx p l e _ s m _ below meth c g 2 0 0 _ _ 6 [(0, .int 3), (1, .int w1)] _
  refine z_seti (y := 1) hu.1 ?_
  refine z_if_eq (tgt := 23) B dX9_isStep_6 (by decide) (fun h => absurd h (by decide)) (fun _ => ?_)
  refine z_iload_n B dX9_isStep_9 rfl 1 rfl ?_
  refine z_iconst (v := 0) B dX9_isStep_10 (by decide) ?_
  refine z_bipush (v := 19) B dX9_isStep_11 (by decide) ?_
  refine z_cSi (As := [.int w1, .int 0, .int 19]) (rest := []) B cw_X9_96 dX9_isStep_13 (ci_X9_in_113 l (σ := (ap b σ [] [] [])) (b := b) (lyA hK) w1 q1_w1 q2_w1) rfl (by decide) rfl (Nat.le_of_ble_eq_true rfl) (by decide) (fun r u hu => ?_)
  refine z_eqs (σ' := (ap b σ [] [] [])) hu.2 ?_
  show zx p l e _ s m _ below meth c g 2 0 0 _ _ 16 [(0, .int 3), (1, .int w1)] _
  refine z_seti (y := 0) hu.1 ?_
  refine z_if_eq (tgt := 23) B dX9_isStep_16 (by decide) (fun _ => ?_) (fun h => absurd (by decide) h)
  refine z_iconst (v := 0) B dX9_isStep_23 (by decide) ?_
  exact z_zret B hr (by decide) (by decide) (by decide) dX9_isStep_24 ⟨rfl, rfl⟩
set_option maxRecDepth 100000 in
set_option maxHeartbeats 4000000 in
theorem ci_X9_set_262 (l : Launch) {g : gx_T} {σ : sx_T} {b : Nat} (hK : lay b σ) (w1 : Int32) (w2 : Int32) (w3 : Int32) (w4 : Int32) (q1_w1 : (20 : Int) ≤ w1.toInt) (q2_w1 : w1.toInt ≤ (2147483647 : Int)) (q1_w2 : (-2147483648 : Int) ≤ w2.toInt) (q2_w2 : w2.toInt ≤ (-1 : Int))  : Met l yX9_set (.code yX9_set cX9_set 7 (some .int) :: lw_g) { frames := 2, cells := 0, slots := 0, locals := 44 } (va_Pc [.ref (b + 405), .int 3, .int w1, .int w2, .int w3, .int w4] (zx_w g σ)) (va_Qi (fun r u => r = 0 ∧ u = (ap b σ [(405, 0, 1)] [] [])) (zx_w g) (gx_Q g)) 0 0 (gx_Q g) := by
  refine z_met (by decide) (Nat.le_of_ble_eq_true rfl) (fun p e s m below meth c B hr hin => ?_)
  refine z_eqs (σ' := (ap b σ [] [] [])) rfl ?_
  show zx p l e _ s m _ below meth c g 7 0 0 _ _ 0 [(0, .ref (b + 405)), (1, .int 3), (2, .int w1), (3, .int w2), (4, .int w3), (5, .int w4)] []
  refine z_aload_n B dX9_set_0 rfl 0 rfl ?_
  refine z_iload_n B dX9_set_1 rfl 1 rfl ?_
  refine z_iload_n B dX9_set_2 rfl 2 rfl ?_
  refine z_cSi (As := [.int 3, .int w1]) (rest := [.ref (b + 405)]) B cw_X9_238 dX9_set_3 (ci_X9_isStep_261 l (σ := (ap b σ [] [] [])) (b := b) (lyA hK) w1 q1_w1 q2_w1) rfl (by decide) rfl (Nat.le_of_ble_eq_true rfl) (by decide) (fun r u hu => ?_)
  refine z_eqs (σ' := (ap b σ [] [] [])) hu.2 ?_
  show zx p l e _ s m _ below meth c g 7 0 0 _ _ 6 [(0, .ref (b + 405)), (1, .int 3), (2, .int w1), (3, .int w2), (4, .int w3), (5, .int w4)] _
  refine z_seti (y := 0) hu.1 ?_
  refine z_iload_n B dX9_set_6 rfl 3 rfl ?_
  refine z_iload B dX9_set_7 4 rfl ?_
  refine z_iload B dX9_set_9 5 rfl ?_
  refine z_cSi (As := [.int w2, .int w3, .int w4]) (rest := [.int 0, .ref (b + 405)]) B cw_X9_242 dX9_set_11 (ci_X9_isOperation_28 l (σ := (ap b σ [] [] [])) (b := b) (lyA hK) w2 w3 w4 q1_w2 q2_w2) rfl (by decide) rfl (Nat.le_of_ble_eq_true rfl) (by decide) (fun r u hu => ?_)
  refine z_eqs (σ' := (ap b σ [] [] [])) hu.2 ?_
  show zx p l e _ s m _ below meth c g 7 0 0 _ _ 14 [(0, .ref (b + 405)), (1, .int 3), (2, .int w1), (3, .int w2), (4, .int w3), (5, .int w4)] _
  refine z_seti (y := 0) hu.1 ?_
  refine z_cVi (As := [.int 0, .int 0]) (rest := []) B cw_X9_245 cx_10 dX9_set_14 (ci_X9_needs__29 l (σ := (ap b σ [] [] [])) (b := b) (lyA hK) ) (lKA (hk_K hK 405 rfl rfl)) rfl (by decide) rfl (Nat.le_of_ble_eq_true rfl) (by decide) (fun r u hu => ?_)
  refine z_eqs (σ' := (ap b σ [(405, 0, 1)] [] [])) (hu.2.trans ap_ap) ?_
  show zx p l e _ s m _ below meth c g 7 0 0 _ _ 17 [(0, .ref (b + 405)), (1, .int 3), (2, .int w1), (3, .int w2), (4, .int w3), (5, .int w4)] _
  refine z_seti (y := 0) hu.1 ?_
  refine z_if_ne (tgt := 22) B dX9_set_17 (by decide) (fun h => absurd (by decide) h) (fun _ => ?_)
  refine z_iconst (v := 0) B dX9_set_20 (by decide) ?_
  exact z_iret B hr (by decide) (by decide) dX9_set_21 ⟨rfl, rfl⟩
set_option maxRecDepth 100000 in
set_option maxHeartbeats 4000000 in
theorem ci_X9_set_263 (l : Launch) {g : gx_T} {σ : sx_T} {b : Nat} (hK : lay b σ) (w1 : Int32) (w2 : Int32) (w3 : Int32) (w4 : Int32) (q1_w1 : (20 : Int) ≤ w1.toInt) (q2_w1 : w1.toInt ≤ (2147483647 : Int)) (q1_w2 : (0 : Int) ≤ w2.toInt) (q2_w2 : w2.toInt ≤ (17 : Int)) (q1_w3 : (-2147483648 : Int) ≤ w3.toInt) (q2_w3 : w3.toInt ≤ (-1 : Int))  : Met l yX9_set (.code yX9_set cX9_set 7 (some .int) :: lw_g) { frames := 2, cells := 0, slots := 0, locals := 44 } (va_Pc [.ref (b + 405), .int 3, .int w1, .int w2, .int w3, .int w4] (zx_w g σ)) (va_Qi (fun r u => r = 0 ∧ u = (ap b σ [(405, 0, 1)] [] [])) (zx_w g) (gx_Q g)) 0 0 (gx_Q g) := by
  refine z_met (by decide) (Nat.le_of_ble_eq_true rfl) (fun p e s m below meth c B hr hin => ?_)
  refine z_eqs (σ' := (ap b σ [] [] [])) rfl ?_
  show zx p l e _ s m _ below meth c g 7 0 0 _ _ 0 [(0, .ref (b + 405)), (1, .int 3), (2, .int w1), (3, .int w2), (4, .int w3), (5, .int w4)] []
  refine z_aload_n B dX9_set_0 rfl 0 rfl ?_
  refine z_iload_n B dX9_set_1 rfl 1 rfl ?_
  refine z_iload_n B dX9_set_2 rfl 2 rfl ?_
  refine z_cSi (As := [.int 3, .int w1]) (rest := [.ref (b + 405)]) B cw_X9_238 dX9_set_3 (ci_X9_isStep_261 l (σ := (ap b σ [] [] [])) (b := b) (lyA hK) w1 q1_w1 q2_w1) rfl (by decide) rfl (Nat.le_of_ble_eq_true rfl) (by decide) (fun r u hu => ?_)
  refine z_eqs (σ' := (ap b σ [] [] [])) hu.2 ?_
  show zx p l e _ s m _ below meth c g 7 0 0 _ _ 6 [(0, .ref (b + 405)), (1, .int 3), (2, .int w1), (3, .int w2), (4, .int w3), (5, .int w4)] _
  refine z_seti (y := 0) hu.1 ?_
  refine z_iload_n B dX9_set_6 rfl 3 rfl ?_
  refine z_iload B dX9_set_7 4 rfl ?_
  refine z_iload B dX9_set_9 5 rfl ?_
  refine z_cSi (As := [.int w2, .int w3, .int w4]) (rest := [.int 0, .ref (b + 405)]) B cw_X9_242 dX9_set_11 (ci_X9_isOperation_34 l (σ := (ap b σ [] [] [])) (b := b) (lyA hK) w2 w3 w4 q1_w2 q2_w2 q1_w3 q2_w3) rfl (by decide) rfl (Nat.le_of_ble_eq_true rfl) (by decide) (fun r u hu => ?_)
  refine z_eqs (σ' := (ap b σ [] [] [])) hu.2 ?_
  show zx p l e _ s m _ below meth c g 7 0 0 _ _ 14 [(0, .ref (b + 405)), (1, .int 3), (2, .int w1), (3, .int w2), (4, .int w3), (5, .int w4)] _
  refine z_seti (y := 0) hu.1 ?_
  refine z_cVi (As := [.int 0, .int 0]) (rest := []) B cw_X9_245 cx_10 dX9_set_14 (ci_X9_needs__29 l (σ := (ap b σ [] [] [])) (b := b) (lyA hK) ) (lKA (hk_K hK 405 rfl rfl)) rfl (by decide) rfl (Nat.le_of_ble_eq_true rfl) (by decide) (fun r u hu => ?_)
  refine z_eqs (σ' := (ap b σ [(405, 0, 1)] [] [])) (hu.2.trans ap_ap) ?_
  show zx p l e _ s m _ below meth c g 7 0 0 _ _ 17 [(0, .ref (b + 405)), (1, .int 3), (2, .int w1), (3, .int w2), (4, .int w3), (5, .int w4)] _
  refine z_seti (y := 0) hu.1 ?_
  refine z_if_ne (tgt := 22) B dX9_set_17 (by decide) (fun h => absurd (by decide) h) (fun _ => ?_)
  refine z_iconst (v := 0) B dX9_set_20 (by decide) ?_
  exact z_iret B hr (by decide) (by decide) dX9_set_21 ⟨rfl, rfl⟩
set_option maxRecDepth 100000 in
set_option maxHeartbeats 4000000 in
theorem ci_X9_set_264 (l : Launch) {g : gx_T} {σ : sx_T} {b : Nat} (hK : lay b σ) (w1 : Int32) (w2 : Int32) (w3 : Int32) (w4 : Int32) (q1_w1 : (20 : Int) ≤ w1.toInt) (q2_w1 : w1.toInt ≤ (2147483647 : Int)) (q1_w2 : (0 : Int) ≤ w2.toInt) (q2_w2 : w2.toInt ≤ (17 : Int)) (q1_w3 : (0 : Int) ≤ w3.toInt) (q2_w3 : w3.toInt ≤ (99 : Int)) (q1_w4 : (-2147483648 : Int) ≤ w4.toInt) (q2_w4 : w4.toInt ≤ (-1 : Int))  : Met l yX9_set (.code yX9_set cX9_set 7 (some .int) :: lw_g) { frames := 2, cells := 0, slots := 0, locals := 44 } (va_Pc [.ref (b + 405), .int 3, .int w1, .int w2, .int w3, .int w4] (zx_w g σ)) (va_Qi (fun r u => r = 0 ∧ u = (ap b σ [(405, 0, 1)] [] [])) (zx_w g) (gx_Q g)) 0 0 (gx_Q g) := by
  refine z_met (by decide) (Nat.le_of_ble_eq_true rfl) (fun p e s m below meth c B hr hin => ?_)
  refine z_eqs (σ' := (ap b σ [] [] [])) rfl ?_
  show zx p l e _ s m _ below meth c g 7 0 0 _ _ 0 [(0, .ref (b + 405)), (1, .int 3), (2, .int w1), (3, .int w2), (4, .int w3), (5, .int w4)] []
  refine z_aload_n B dX9_set_0 rfl 0 rfl ?_
  refine z_iload_n B dX9_set_1 rfl 1 rfl ?_
  refine z_iload_n B dX9_set_2 rfl 2 rfl ?_
  refine z_cSi (As := [.int 3, .int w1]) (rest := [.ref (b + 405)]) B cw_X9_238 dX9_set_3 (ci_X9_isStep_261 l (σ := (ap b σ [] [] [])) (b := b) (lyA hK) w1 q1_w1 q2_w1) rfl (by decide) rfl (Nat.le_of_ble_eq_true rfl) (by decide) (fun r u hu => ?_)
  refine z_eqs (σ' := (ap b σ [] [] [])) hu.2 ?_
  show zx p l e _ s m _ below meth c g 7 0 0 _ _ 6 [(0, .ref (b + 405)), (1, .int 3), (2, .int w1), (3, .int w2), (4, .int w3), (5, .int w4)] _
  refine z_seti (y := 0) hu.1 ?_
  refine z_iload_n B dX9_set_6 rfl 3 rfl ?_
  refine z_iload B dX9_set_7 4 rfl ?_
  refine z_iload B dX9_set_9 5 rfl ?_
  refine z_cSi (As := [.int w2, .int w3, .int w4]) (rest := [.int 0, .ref (b + 405)]) B cw_X9_242 dX9_set_11 (ci_X9_isOperation_37 l (σ := (ap b σ [] [] [])) (b := b) (lyA hK) w2 w3 w4 q1_w2 q2_w2 q1_w3 q2_w3 q1_w4 q2_w4) rfl (by decide) rfl (Nat.le_of_ble_eq_true rfl) (by decide) (fun r u hu => ?_)
  refine z_eqs (σ' := (ap b σ [] [] [])) hu.2 ?_
  show zx p l e _ s m _ below meth c g 7 0 0 _ _ 14 [(0, .ref (b + 405)), (1, .int 3), (2, .int w1), (3, .int w2), (4, .int w3), (5, .int w4)] _
  refine z_seti (y := 0) hu.1 ?_
  refine z_cVi (As := [.int 0, .int 0]) (rest := []) B cw_X9_245 cx_10 dX9_set_14 (ci_X9_needs__29 l (σ := (ap b σ [] [] [])) (b := b) (lyA hK) ) (lKA (hk_K hK 405 rfl rfl)) rfl (by decide) rfl (Nat.le_of_ble_eq_true rfl) (by decide) (fun r u hu => ?_)
  refine z_eqs (σ' := (ap b σ [(405, 0, 1)] [] [])) (hu.2.trans ap_ap) ?_
  show zx p l e _ s m _ below meth c g 7 0 0 _ _ 17 [(0, .ref (b + 405)), (1, .int 3), (2, .int w1), (3, .int w2), (4, .int w3), (5, .int w4)] _
  refine z_seti (y := 0) hu.1 ?_
  refine z_if_ne (tgt := 22) B dX9_set_17 (by decide) (fun h => absurd (by decide) h) (fun _ => ?_)
  refine z_iconst (v := 0) B dX9_set_20 (by decide) ?_
  exact z_iret B hr (by decide) (by decide) dX9_set_21 ⟨rfl, rfl⟩
set_option maxRecDepth 100000 in
set_option maxHeartbeats 4000000 in
theorem ci_X9_set_265 (l : Launch) {g : gx_T} {σ : sx_T} {b : Nat} (hK : lay b σ) (w1 : Int32) (w2 : Int32) (w3 : Int32) (w4 : Int32) (q1_w1 : (20 : Int) ≤ w1.toInt) (q2_w1 : w1.toInt ≤ (2147483647 : Int)) (q1_w2 : (0 : Int) ≤ w2.toInt) (q2_w2 : w2.toInt ≤ (17 : Int)) (q1_w3 : (0 : Int) ≤ w3.toInt) (q2_w3 : w3.toInt ≤ (99 : Int)) (q1_w4 : (0 : Int) ≤ w4.toInt) (q2_w4 : w4.toInt ≤ (99 : Int))  : Met l yX9_set (.code yX9_set cX9_set 7 (some .int) :: lw_g) { frames := 2, cells := 0, slots := 0, locals := 44 } (va_Pc [.ref (b + 405), .int 3, .int w1, .int w2, .int w3, .int w4] (zx_w g σ)) (va_Qi (fun r u => r = 0 ∧ u = (ap b σ [(405, 0, 1)] [] [])) (zx_w g) (gx_Q g)) 0 0 (gx_Q g) := by
  refine z_met (by decide) (Nat.le_of_ble_eq_true rfl) (fun p e s m below meth c B hr hin => ?_)
  refine z_eqs (σ' := (ap b σ [] [] [])) rfl ?_
  show zx p l e _ s m _ below meth c g 7 0 0 _ _ 0 [(0, .ref (b + 405)), (1, .int 3), (2, .int w1), (3, .int w2), (4, .int w3), (5, .int w4)] []
  refine z_aload_n B dX9_set_0 rfl 0 rfl ?_
  refine z_iload_n B dX9_set_1 rfl 1 rfl ?_
  refine z_iload_n B dX9_set_2 rfl 2 rfl ?_
  refine z_cSi (As := [.int 3, .int w1]) (rest := [.ref (b + 405)]) B cw_X9_238 dX9_set_3 (ci_X9_isStep_261 l (σ := (ap b σ [] [] [])) (b := b) (lyA hK) w1 q1_w1 q2_w1) rfl (by decide) rfl (Nat.le_of_ble_eq_true rfl) (by decide) (fun r u hu => ?_)
  refine z_eqs (σ' := (ap b σ [] [] [])) hu.2 ?_
  show zx p l e _ s m _ below meth c g 7 0 0 _ _ 6 [(0, .ref (b + 405)), (1, .int 3), (2, .int w1), (3, .int w2), (4, .int w3), (5, .int w4)] _
  refine z_seti (y := 0) hu.1 ?_
  refine z_iload_n B dX9_set_6 rfl 3 rfl ?_
  refine z_iload B dX9_set_7 4 rfl ?_
  refine z_iload B dX9_set_9 5 rfl ?_
  refine z_cSi (As := [.int w2, .int w3, .int w4]) (rest := [.int 0, .ref (b + 405)]) B cw_X9_242 dX9_set_11 (ci_X9_isOperation_39 l (σ := (ap b σ [] [] [])) (b := b) (lyA hK) w2 w3 w4 q1_w2 q2_w2 q1_w3 q2_w3 q1_w4 q2_w4) rfl (by decide) rfl (Nat.le_of_ble_eq_true rfl) (by decide) (fun r u hu => ?_)
  refine z_eqs (σ' := (ap b σ [] [] [])) hu.2 ?_
  show zx p l e _ s m _ below meth c g 7 0 0 _ _ 14 [(0, .ref (b + 405)), (1, .int 3), (2, .int w1), (3, .int w2), (4, .int w3), (5, .int w4)] _
  refine z_seti (y := 1) hu.1 ?_
  refine z_cVi (As := [.int 0, .int 1]) (rest := []) B cw_X9_245 cx_10 dX9_set_14 (ci_X9_needs__40 l (σ := (ap b σ [] [] [])) (b := b) (lyA hK) ) (lKA (hk_K hK 405 rfl rfl)) rfl (by decide) rfl (Nat.le_of_ble_eq_true rfl) (by decide) (fun r u hu => ?_)
  refine z_eqs (σ' := (ap b σ [(405, 0, 1)] [] [])) (hu.2.trans ap_ap) ?_
  show zx p l e _ s m _ below meth c g 7 0 0 _ _ 17 [(0, .ref (b + 405)), (1, .int 3), (2, .int w1), (3, .int w2), (4, .int w3), (5, .int w4)] _
  refine z_seti (y := 0) hu.1 ?_
  refine z_if_ne (tgt := 22) B dX9_set_17 (by decide) (fun h => absurd (by decide) h) (fun _ => ?_)
  refine z_iconst (v := 0) B dX9_set_20 (by decide) ?_
  exact z_iret B hr (by decide) (by decide) dX9_set_21 ⟨rfl, rfl⟩
