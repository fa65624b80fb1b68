set_option maxRecDepth 100000 in
set_option maxHeartbeats 4000000 in
theorem ct_Jxa1e45_init_da8c8_0 (l : Launch) {g : gx_T} {σ : sx_T} {b : Nat}  (hz : sx_Z σ = b + 5)     : Met l yJxa1e45_init_da8c8 (.code yJxa1e45_init_da8c8 cJxa1e45_init_da8c8 1 none :: lw_g) { frames := 1, cells := 0, slots := 0, locals := 12 } (va_Pc [.ref (b + 4)] (zx_w g σ)) (va_Qv (fun u => u = (ap b (al σ []) [] [] [])) (zx_w g) (gx_Q g)) 0 0 (gx_Q g) := by
  refine z_met (by decide) (Nat.le_of_ble_eq_true rfl) (fun p e s m below meth c B hr hin => ?_)
  refine z_eqs (σ' := (ap b (al σ []) [] [] [])) rfl ?_
  show zx p l e _ s m _ below meth c g 1 0 0 _ _ 0 [(0, .ref (b + 4))] []
  refine z_aload_n B dJxa1e45_init_da8c8_0 rfl 0 rfl ?_
  refine z_oinit B ⟨wg_49, wg_32, wg_33⟩ dJxa1e45_init_da8c8_1 (by decide) (by decide) ?_
  exact z_vret B hr (by decide) (by decide) dJxa1e45_init_da8c8_4 rfl
set_option maxRecDepth 100000 in
set_option maxHeartbeats 4000000 in
theorem ct_Jxc12de_init_da8c8_1 (l : Launch) {g : gx_T} {σ : sx_T} {b : Nat}  (hz : sx_Z σ = b + 5)  (k_4 : sx_K σ (b + 4) = 1)   : Met l yJxc12de_init_da8c8 (.code yJxc12de_init_da8c8 cJxc12de_init_da8c8 1 none :: lw_g) { frames := 2, cells := 0, slots := 0, locals := 32 } (va_Pc [.ref (b + 4)] (zx_w g σ)) (va_Qv (fun u => u = (ap b (al σ []) [(4, 0, 0)] [] [])) (zx_w g) (gx_Q g)) 0 0 (gx_Q g) := by
  refine z_met (by decide) (Nat.le_of_ble_eq_true rfl) (fun p e s m below meth c B hr hin => ?_)
  refine z_eqs (σ' := (ap b (al σ []) [] [] [])) rfl ?_
  show zx p l e _ s m _ below meth c g 1 0 0 _ _ 0 [(0, .ref (b + 4))] []
  refine z_aload_n B dJxc12de_init_da8c8_0 rfl 0 rfl ?_
  refine z_cI (As := []) (rest := []) B cw_Jxc12de_1 dJxc12de_init_da8c8_1 (ct_Jxa1e45_init_da8c8_0 l (σ := (ap b (al σ []) [] [] [])) (b := b) (ap_Z hz rfl) ) rfl (by decide) rfl (Nat.le_of_ble_eq_true rfl) (by decide) (fun u hu => ?_)
  refine z_eqs (σ' := (ap b (al σ []) [] [] [])) (hu.trans (ct_ct hz rfl rfl rfl rfl)) ?_
  show zx p l e _ s m _ below meth c g 1 _ _ _ _ 4 [(0, .ref (b + 4))] _
  refine z_aload_n B dJxc12de_init_da8c8_4 rfl 0 rfl ?_
  refine z_iconst (v := 0) B dJxc12de_init_da8c8_5 (by decide) ?_
  refine pf_Jxc12de_7 (x := 0) (σ' := (ap b (al σ []) [(4, 0, 0)] [] [])) B (apK ((al_old [] σ (by omega)).1.trans k_4)) wI_ap dJxc12de_init_da8c8_6 ?_
  exact z_vret B hr (by decide) (by decide) dJxc12de_init_da8c8_9 rfl
set_option maxRecDepth 100000 in
set_option maxHeartbeats 4000000 in
theorem ct_Jx4a65c_init_da8c8_2 (l : Launch) {g : gx_T} {σ : sx_T} {b : Nat}  (hz : sx_Z σ = b + 5)  (k_4 : sx_K σ (b + 4) = 1)   : Met l yJx4a65c_init_da8c8 (.code yJx4a65c_init_da8c8 cJx4a65c_init_da8c8 1 none :: lw_g) { frames := 3, cells := 0, slots := 0, locals := 52 } (va_Pc [.ref (b + 4)] (zx_w g σ)) (va_Qv (fun u => ∃ t : Nat, t = gx_e g ∧ u = (ap b (al σ []) [(4, 0, 0)] [] [(4, 1, (some t))])) (zx_w g) (gx_Q g)) 0 0 (gx_Q g) := by
  refine z_met (by decide) (Nat.le_of_ble_eq_true rfl) (fun p e s m below meth c B hr hin => ?_)
  refine z_eqs (σ' := (ap b (al σ []) [] [] [])) rfl ?_
  show zx p l e _ s m _ below meth c g 1 0 0 _ _ 0 [(0, .ref (b + 4))] []
  refine z_aload_n B dJx4a65c_init_da8c8_0 rfl 0 rfl ?_
  refine z_cI (As := []) (rest := []) B cw_Jx4a65c_1 dJx4a65c_init_da8c8_1 (ct_Jxc12de_init_da8c8_1 l (σ := (ap b (al σ []) [] [] [])) (b := b) (ap_Z hz rfl) (apK ((al_old [] σ (by omega)).1.trans k_4))) rfl (by decide) rfl (Nat.le_of_ble_eq_true rfl) (by decide) (fun u hu => ?_)
  refine z_eqs (σ' := (ap b (al σ []) [(4, 0, 0)] [] [])) (hu.trans (ct_ct hz rfl rfl rfl rfl)) ?_
  show zx p l e _ s m _ below meth c g 1 _ _ _ _ 4 [(0, .ref (b + 4))] _
  refine z_aload_n B dJx4a65c_init_da8c8_4 rfl 0 rfl ?_
  refine z_gets B wg_50 dJx4a65c_init_da8c8_5 (fun t ht => ?_)
  refine pf_Jx4a65c_9 (x := (some t)) (σ' := (ap b (al σ []) [(4, 0, 0)] [] [(4, 1, (some t))])) B (apK ((al_old [] σ (by omega)).1.trans k_4)) wR_ap dJx4a65c_init_da8c8_8 ?_
  exact z_vret B hr (by decide) (by decide) dJx4a65c_init_da8c8_11 ⟨t, ht, rfl⟩
set_option maxRecDepth 100000 in
set_option maxHeartbeats 4000000 in
theorem ct_X2_init_3 (l : Launch) {g : gx_T} {σ : sx_T} {b : Nat}  (hz : sx_Z σ = b + 6)  (k_5 : sx_K σ (b + 5) = 4)   : Met l yX2_init (.code yX2_init cX2_init 1 none :: lw_g) { frames := 1, cells := 1, slots := 128, locals := 12 } (va_Pc [.ref (b + 5)] (zx_w g σ)) (va_Qv (fun u => u = (ap b (al σ [(15, 128)]) [] [] [(5, 0, (some (b + 6)))])) (zx_w g) (gx_Q g)) 1 128 (gx_Q g) := by
  refine z_met (by decide) (Nat.le_of_ble_eq_true rfl) (fun p e s m below meth c B hr hin => ?_)
  refine z_eqs (σ' := (ap b (al σ []) [] [] [])) rfl ?_
  show zx p l e _ s m _ below meth c g 1 0 0 _ _ 0 [(0, .ref (b + 5))] []
  refine z_aload_n B dX2_init_0 rfl 0 rfl ?_
  refine z_oinit B ⟨wg_70, wg_32, wg_33⟩ dX2_init_1 (by decide) (by decide) ?_
  refine z_aload_n B dX2_init_4 rfl 0 rfl ?_
  refine z_sipush (v := 128) B dX2_init_5 (by decide) ?_
  refine z_newQ (kd := 15) (ti := 3) (n := 128) (a := (b + 6)) (σ' := (ap b (al σ [(15, 128)]) [] [] [])) B wg_71 wn_37 rfl (by decide) (by decide) (by decide) (by decide) (by decide) (by decide) dX2_init_8 (ap_Z hz rfl) (nw_al hz rfl rfl rfl rfl) ?_
  refine pF_X2_11 (x := (some (b + 6))) (σ' := (ap b (al σ [(15, 128)]) [] [] [(5, 0, (some (b + 6)))])) B hin (apK ((al_old [(15, 128)] σ (by omega)).1.trans k_5)) wR_ap dX2_init_11 ?_
  exact z_vret B hr (by decide) (by decide) dX2_init_14 rfl
set_option maxRecDepth 100000 in
set_option maxHeartbeats 4000000 in
theorem ct_X2_init_4 (l : Launch) {g : gx_T} {σ : sx_T} {b : Nat}  (hz : sx_Z σ = b + 8)  (k_7 : sx_K σ (b + 7) = 4)   : Met l yX2_init (.code yX2_init cX2_init 1 none :: lw_g) { frames := 1, cells := 1, slots := 128, locals := 12 } (va_Pc [.ref (b + 7)] (zx_w g σ)) (va_Qv (fun u => u = (ap b (al σ [(15, 128)]) [] [] [(7, 0, (some (b + 8)))])) (zx_w g) (gx_Q g)) 1 128 (gx_Q g) := by
  refine z_met (by decide) (Nat.le_of_ble_eq_true rfl) (fun p e s m below meth c B hr hin => ?_)
  refine z_eqs (σ' := (ap b (al σ []) [] [] [])) rfl ?_
  show zx p l e _ s m _ below meth c g 1 0 0 _ _ 0 [(0, .ref (b + 7))] []
  refine z_aload_n B dX2_init_0 rfl 0 rfl ?_
  refine z_oinit B ⟨wg_70, wg_32, wg_33⟩ dX2_init_1 (by decide) (by decide) ?_
  refine z_aload_n B dX2_init_4 rfl 0 rfl ?_
  refine z_sipush (v := 128) B dX2_init_5 (by decide) ?_
  refine z_newQ (kd := 15) (ti := 3) (n := 128) (a := (b + 8)) (σ' := (ap b (al σ [(15, 128)]) [] [] [])) B wg_71 wn_37 rfl (by decide) (by decide) (by decide) (by decide) (by decide) (by decide) dX2_init_8 (ap_Z hz rfl) (nw_al hz rfl rfl rfl rfl) ?_
  refine pF_X2_11 (x := (some (b + 8))) (σ' := (ap b (al σ [(15, 128)]) [] [] [(7, 0, (some (b + 8)))])) B hin (apK ((al_old [(15, 128)] σ (by omega)).1.trans k_7)) wR_ap dX2_init_11 ?_
  exact z_vret B hr (by decide) (by decide) dX2_init_14 rfl
set_option maxRecDepth 100000 in
set_option maxHeartbeats 4000000 in
theorem ct_X4_init_5 (l : Launch) {g : gx_T} {σ : sx_T} {b : Nat}  (hz : sx_Z σ = b + 10)  (k_9 : sx_K σ (b + 9) = 6)   : Met l yX4_init (.code yX4_init cX4_init 2 none :: lw_g) { frames := 1, cells := 3, slots := 60, locals := 12 } (va_Pc [.ref (b + 9), .int 0] (zx_w g σ)) (va_Qv (fun u => u = (ap b (al σ [(13, 20), (13, 20), (13, 20)]) [(9, 0, 0)] [] [(9, 3, (some (b + 12))), (9, 2, (some (b + 11))), (9, 1, (some (b + 10)))])) (zx_w g) (gx_Q g)) 3 60 (gx_Q g) := by
  refine z_met (by decide) (Nat.le_of_ble_eq_true rfl) (fun p e s m below meth c B hr hin => ?_)
  refine z_eqs (σ' := (ap b (al σ []) [] [] [])) rfl ?_
  show zx p l e _ s m _ below meth c g 2 0 0 _ _ 0 [(0, .ref (b + 9)), (1, .int 0)] []
  refine z_aload_n B dX4_init_0 rfl 0 rfl ?_
  refine z_oinit B ⟨wg_86, wg_32, wg_33⟩ dX4_init_1 (by decide) (by decide) ?_
  refine z_aload_n B dX4_init_4 rfl 0 rfl ?_
  refine z_bipush (v := 20) B dX4_init_5 (by decide) ?_
  refine z_newI (kd := 13) (ti := 1) (atype := .int) (ty := .int) (n := 20) (a := (b + 10)) (σ' := (ap b (al σ [(13, 20)]) [] [] [])) B (by decide) rfl wg_64 (by decide) (by decide) (by decide) (by decide) (by decide) dX4_init_7 (ap_Z hz rfl) (nw_al hz rfl rfl rfl rfl) ?_
  refine pF_X4_9 (x := (some (b + 10))) (σ' := (ap b (al σ [(13, 20)]) [] [] [(9, 1, (some (b + 10)))])) B hin (apK ((al_old [(13, 20)] σ (by omega)).1.trans k_9)) wR_ap dX4_init_9 ?_
  refine z_aload_n B dX4_init_12 rfl 0 rfl ?_
  refine z_bipush (v := 20) B dX4_init_13 (by decide) ?_
  refine z_newI (kd := 13) (ti := 1) (atype := .int) (ty := .int) (n := 20) (a := (b + 11)) (σ' := (ap b (al σ [(13, 20), (13, 20)]) [] [] [(9, 1, (some (b + 10)))])) B (by decide) rfl wg_64 (by decide) (by decide) (by decide) (by decide) (by decide) dX4_init_15 (ap_Z hz rfl) (nw_al hz rfl rfl rfl rfl) ?_
  refine pF_X4_15 (x := (some (b + 11))) (σ' := (ap b (al σ [(13, 20), (13, 20)]) [] [] [(9, 2, (some (b + 11))), (9, 1, (some (b + 10)))])) B hin (apK ((al_old [(13, 20), (13, 20)] σ (by omega)).1.trans k_9)) wR_ap dX4_init_17 ?_
  refine z_aload_n B dX4_init_20 rfl 0 rfl ?_
  refine z_bipush (v := 20) B dX4_init_21 (by decide) ?_
  refine z_newI (kd := 13) (ti := 1) (atype := .int) (ty := .int) (n := 20) (a := (b + 12)) (σ' := (ap b (al σ [(13, 20), (13, 20), (13, 20)]) [] [] [(9, 2, (some (b + 11))), (9, 1, (some (b + 10)))])) B (by decide) rfl wg_64 (by decide) (by decide) (by decide) (by decide) (by decide) dX4_init_23 (ap_Z hz rfl) (nw_al hz rfl rfl rfl rfl) ?_
  refine pF_X4_18 (x := (some (b + 12))) (σ' := (ap b (al σ [(13, 20), (13, 20), (13, 20)]) [] [] [(9, 3, (some (b + 12))), (9, 2, (some (b + 11))), (9, 1, (some (b + 10)))])) B hin (apK ((al_old [(13, 20), (13, 20), (13, 20)] σ (by omega)).1.trans k_9)) wR_ap dX4_init_25 ?_
  refine z_aload_n B dX4_init_28 rfl 0 rfl ?_
  refine z_iload_n B dX4_init_29 rfl 1 rfl ?_
  refine pF_X4_21 (x := 0) (σ' := (ap b (al σ [(13, 20), (13, 20), (13, 20)]) [(9, 0, 0)] [] [(9, 3, (some (b + 12))), (9, 2, (some (b + 11))), (9, 1, (some (b + 10)))])) B hin (apK ((al_old [(13, 20), (13, 20), (13, 20)] σ (by omega)).1.trans k_9)) wI_ap dX4_init_30 ?_
  exact z_vret B hr (by decide) (by decide) dX4_init_33 rfl
set_option maxRecDepth 100000 in
set_option maxHeartbeats 4000000 in
theorem ct_X4_init_6 (l : Launch) {g : gx_T} {σ : sx_T} {b : Nat}  (hz : sx_Z σ = b + 14)  (k_13 : sx_K σ (b + 13) = 6)   : Met l yX4_init (.code yX4_init cX4_init 2 none :: lw_g) { frames := 1, cells := 3, slots := 60, locals := 12 } (va_Pc [.ref (b + 13), .int 1] (zx_w g σ)) (va_Qv (fun u => u = (ap b (al σ [(13, 20), (13, 20), (13, 20)]) [(13, 0, 1)] [] [(13, 3, (some (b + 16))), (13, 2, (some (b + 15))), (13, 1, (some (b + 14)))])) (zx_w g) (gx_Q g)) 3 60 (gx_Q g) := by
  refine z_met (by decide) (Nat.le_of_ble_eq_true rfl) (fun p e s m below meth c B hr hin => ?_)
  refine z_eqs (σ' := (ap b (al σ []) [] [] [])) rfl ?_
  show zx p l e _ s m _ below meth c g 2 0 0 _ _ 0 [(0, .ref (b + 13)), (1, .int 1)] []
  refine z_aload_n B dX4_init_0 rfl 0 rfl ?_
  refine z_oinit B ⟨wg_86, wg_32, wg_33⟩ dX4_init_1 (by decide) (by decide) ?_
  refine z_aload_n B dX4_init_4 rfl 0 rfl ?_
  refine z_bipush (v := 20) B dX4_init_5 (by decide) ?_
  refine z_newI (kd := 13) (ti := 1) (atype := .int) (ty := .int) (n := 20) (a := (b + 14)) (σ' := (ap b (al σ [(13, 20)]) [] [] [])) B (by decide) rfl wg_64 (by decide) (by decide) (by decide) (by decide) (by decide) dX4_init_7 (ap_Z hz rfl) (nw_al hz rfl rfl rfl rfl) ?_
  refine pF_X4_9 (x := (some (b + 14))) (σ' := (ap b (al σ [(13, 20)]) [] [] [(13, 1, (some (b + 14)))])) B hin (apK ((al_old [(13, 20)] σ (by omega)).1.trans k_13)) wR_ap dX4_init_9 ?_
  refine z_aload_n B dX4_init_12 rfl 0 rfl ?_
  refine z_bipush (v := 20) B dX4_init_13 (by decide) ?_
  refine z_newI (kd := 13) (ti := 1) (atype := .int) (ty := .int) (n := 20) (a := (b + 15)) (σ' := (ap b (al σ [(13, 20), (13, 20)]) [] [] [(13, 1, (some (b + 14)))])) B (by decide) rfl wg_64 (by decide) (by decide) (by decide) (by decide) (by decide) dX4_init_15 (ap_Z hz rfl) (nw_al hz rfl rfl rfl rfl) ?_
  refine pF_X4_15 (x := (some (b + 15))) (σ' := (ap b (al σ [(13, 20), (13, 20)]) [] [] [(13, 2, (some (b + 15))), (13, 1, (some (b + 14)))])) B hin (apK ((al_old [(13, 20), (13, 20)] σ (by omega)).1.trans k_13)) wR_ap dX4_init_17 ?_
  refine z_aload_n B dX4_init_20 rfl 0 rfl ?_
  refine z_bipush (v := 20) B dX4_init_21 (by decide) ?_
  refine z_newI (kd := 13) (ti := 1) (atype := .int) (ty := .int) (n := 20) (a := (b + 16)) (σ' := (ap b (al σ [(13, 20), (13, 20), (13, 20)]) [] [] [(13, 2, (some (b + 15))), (13, 1, (some (b + 14)))])) B (by decide) rfl wg_64 (by decide) (by decide) (by decide) (by decide) (by decide) dX4_init_23 (ap_Z hz rfl) (nw_al hz rfl rfl rfl rfl) ?_
  refine pF_X4_18 (x := (some (b + 16))) (σ' := (ap b (al σ [(13, 20), (13, 20), (13, 20)]) [] [] [(13, 3, (some (b + 16))), (13, 2, (some (b + 15))), (13, 1, (some (b + 14)))])) B hin (apK ((al_old [(13, 20), (13, 20), (13, 20)] σ (by omega)).1.trans k_13)) wR_ap dX4_init_25 ?_
  refine z_aload_n B dX4_init_28 rfl 0 rfl ?_
  refine z_iload_n B dX4_init_29 rfl 1 rfl ?_
  refine pF_X4_21 (x := 1) (σ' := (ap b (al σ [(13, 20), (13, 20), (13, 20)]) [(13, 0, 1)] [] [(13, 3, (some (b + 16))), (13, 2, (some (b + 15))), (13, 1, (some (b + 14)))])) B hin (apK ((al_old [(13, 20), (13, 20), (13, 20)] σ (by omega)).1.trans k_13)) wI_ap dX4_init_30 ?_
  exact z_vret B hr (by decide) (by decide) dX4_init_33 rfl
set_option maxRecDepth 100000 in
set_option maxHeartbeats 4000000 in
theorem ct_X4_init_7 (l : Launch) {g : gx_T} {σ : sx_T} {b : Nat}  (hz : sx_Z σ = b + 18)  (k_17 : sx_K σ (b + 17) = 6)   : Met l yX4_init (.code yX4_init cX4_init 2 none :: lw_g) { frames := 1, cells := 3, slots := 60, locals := 12 } (va_Pc [.ref (b + 17), .int 2] (zx_w g σ)) (va_Qv (fun u => u = (ap b (al σ [(13, 20), (13, 20), (13, 20)]) [(17, 0, 2)] [] [(17, 3, (some (b + 20))), (17, 2, (some (b + 19))), (17, 1, (some (b + 18)))])) (zx_w g) (gx_Q g)) 3 60 (gx_Q g) := by
  refine z_met (by decide) (Nat.le_of_ble_eq_true rfl) (fun p e s m below meth c B hr hin => ?_)
  refine z_eqs (σ' := (ap b (al σ []) [] [] [])) rfl ?_
  show zx p l e _ s m _ below meth c g 2 0 0 _ _ 0 [(0, .ref (b + 17)), (1, .int 2)] []
  refine z_aload_n B dX4_init_0 rfl 0 rfl ?_
  refine z_oinit B ⟨wg_86, wg_32, wg_33⟩ dX4_init_1 (by decide) (by decide) ?_
  refine z_aload_n B dX4_init_4 rfl 0 rfl ?_
  refine z_bipush (v := 20) B dX4_init_5 (by decide) ?_
  refine z_newI (kd := 13) (ti := 1) (atype := .int) (ty := .int) (n := 20) (a := (b + 18)) (σ' := (ap b (al σ [(13, 20)]) [] [] [])) B (by decide) rfl wg_64 (by decide) (by decide) (by decide) (by decide) (by decide) dX4_init_7 (ap_Z hz rfl) (nw_al hz rfl rfl rfl rfl) ?_
  refine pF_X4_9 (x := (some (b + 18))) (σ' := (ap b (al σ [(13, 20)]) [] [] [(17, 1, (some (b + 18)))])) B hin (apK ((al_old [(13, 20)] σ (by omega)).1.trans k_17)) wR_ap dX4_init_9 ?_
  refine z_aload_n B dX4_init_12 rfl 0 rfl ?_
  refine z_bipush (v := 20) B dX4_init_13 (by decide) ?_
  refine z_newI (kd := 13) (ti := 1) (atype := .int) (ty := .int) (n := 20) (a := (b + 19)) (σ' := (ap b (al σ [(13, 20), (13, 20)]) [] [] [(17, 1, (some (b + 18)))])) B (by decide) rfl wg_64 (by decide) (by decide) (by decide) (by decide) (by decide) dX4_init_15 (ap_Z hz rfl) (nw_al hz rfl rfl rfl rfl) ?_
  refine pF_X4_15 (x := (some (b + 19))) (σ' := (ap b (al σ [(13, 20), (13, 20)]) [] [] [(17, 2, (some (b + 19))), (17, 1, (some (b + 18)))])) B hin (apK ((al_old [(13, 20), (13, 20)] σ (by omega)).1.trans k_17)) wR_ap dX4_init_17 ?_
  refine z_aload_n B dX4_init_20 rfl 0 rfl ?_
  refine z_bipush (v := 20) B dX4_init_21 (by decide) ?_
  refine z_newI (kd := 13) (ti := 1) (atype := .int) (ty := .int) (n := 20) (a := (b + 20)) (σ' := (ap b (al σ [(13, 20), (13, 20), (13, 20)]) [] [] [(17, 2, (some (b + 19))), (17, 1, (some (b + 18)))])) B (by decide) rfl wg_64 (by decide) (by decide) (by decide) (by decide) (by decide) dX4_init_23 (ap_Z hz rfl) (nw_al hz rfl rfl rfl rfl) ?_
  refine pF_X4_18 (x := (some (b + 20))) (σ' := (ap b (al σ [(13, 20), (13, 20), (13, 20)]) [] [] [(17, 3, (some (b + 20))), (17, 2, (some (b + 19))), (17, 1, (some (b + 18)))])) B hin (apK ((al_old [(13, 20), (13, 20), (13, 20)] σ (by omega)).1.trans k_17)) wR_ap dX4_init_25 ?_
  refine z_aload_n B dX4_init_28 rfl 0 rfl ?_
  refine z_iload_n B dX4_init_29 rfl 1 rfl ?_
  refine pF_X4_21 (x := 2) (σ' := (ap b (al σ [(13, 20), (13, 20), (13, 20)]) [(17, 0, 2)] [] [(17, 3, (some (b + 20))), (17, 2, (some (b + 19))), (17, 1, (some (b + 18)))])) B hin (apK ((al_old [(13, 20), (13, 20), (13, 20)] σ (by omega)).1.trans k_17)) wI_ap dX4_init_30 ?_
  exact z_vret B hr (by decide) (by decide) dX4_init_33 rfl
set_option maxRecDepth 100000 in
set_option maxHeartbeats 4000000 in
theorem ct_X4_init_8 (l : Launch) {g : gx_T} {σ : sx_T} {b : Nat}  (hz : sx_Z σ = b + 22)  (k_21 : sx_K σ (b + 21) = 6)   : Met l yX4_init (.code yX4_init cX4_init 2 none :: lw_g) { frames := 1, cells := 3, slots := 60, locals := 12 } (va_Pc [.ref (b + 21), .int 3] (zx_w g σ)) (va_Qv (fun u => u = (ap b (al σ [(13, 20), (13, 20), (13, 20)]) [(21, 0, 3)] [] [(21, 3, (some (b + 24))), (21, 2, (some (b + 23))), (21, 1, (some (b + 22)))])) (zx_w g) (gx_Q g)) 3 60 (gx_Q g) := by
  refine z_met (by decide) (Nat.le_of_ble_eq_true rfl) (fun p e s m below meth c B hr hin => ?_)
  refine z_eqs (σ' := (ap b (al σ []) [] [] [])) rfl ?_
  show zx p l e _ s m _ below meth c g 2 0 0 _ _ 0 [(0, .ref (b + 21)), (1, .int 3)] []
  refine z_aload_n B dX4_init_0 rfl 0 rfl ?_
  refine z_oinit B ⟨wg_86, wg_32, wg_33⟩ dX4_init_1 (by decide) (by decide) ?_
  refine z_aload_n B dX4_init_4 rfl 0 rfl ?_
  refine z_bipush (v := 20) B dX4_init_5 (by decide) ?_
  refine z_newI (kd := 13) (ti := 1) (atype := .int) (ty := .int) (n := 20) (a := (b + 22)) (σ' := (ap b (al σ [(13, 20)]) [] [] [])) B (by decide) rfl wg_64 (by decide) (by decide) (by decide) (by decide) (by decide) dX4_init_7 (ap_Z hz rfl) (nw_al hz rfl rfl rfl rfl) ?_
  refine pF_X4_9 (x := (some (b + 22))) (σ' := (ap b (al σ [(13, 20)]) [] [] [(21, 1, (some (b + 22)))])) B hin (apK ((al_old [(13, 20)] σ (by omega)).1.trans k_21)) wR_ap dX4_init_9 ?_
  refine z_aload_n B dX4_init_12 rfl 0 rfl ?_
  refine z_bipush (v := 20) B dX4_init_13 (by decide) ?_
  refine z_newI (kd := 13) (ti := 1) (atype := .int) (ty := .int) (n := 20) (a := (b + 23)) (σ' := (ap b (al σ [(13, 20), (13, 20)]) [] [] [(21, 1, (some (b + 22)))])) B (by decide) rfl wg_64 (by decide) (by decide) (by decide) (by decide) (by decide) dX4_init_15 (ap_Z hz rfl) (nw_al hz rfl rfl rfl rfl) ?_
  refine pF_X4_15 (x := (some (b + 23))) (σ' := (ap b (al σ [(13, 20), (13, 20)]) [] [] [(21, 2, (some (b + 23))), (21, 1, (some (b + 22)))])) B hin (apK ((al_old [(13, 20), (13, 20)] σ (by omega)).1.trans k_21)) wR_ap dX4_init_17 ?_
  refine z_aload_n B dX4_init_20 rfl 0 rfl ?_
  refine z_bipush (v := 20) B dX4_init_21 (by decide) ?_
  refine z_newI (kd := 13) (ti := 1) (atype := .int) (ty := .int) (n := 20) (a := (b + 24)) (σ' := (ap b (al σ [(13, 20), (13, 20), (13, 20)]) [] [] [(21, 2, (some (b + 23))), (21, 1, (some (b + 22)))])) B (by decide) rfl wg_64 (by decide) (by decide) (by decide) (by decide) (by decide) dX4_init_23 (ap_Z hz rfl) (nw_al hz rfl rfl rfl rfl) ?_
  refine pF_X4_18 (x := (some (b + 24))) (σ' := (ap b (al σ [(13, 20), (13, 20), (13, 20)]) [] [] [(21, 3, (some (b + 24))), (21, 2, (some (b + 23))), (21, 1, (some (b + 22)))])) B hin (apK ((al_old [(13, 20), (13, 20), (13, 20)] σ (by omega)).1.trans k_21)) wR_ap dX4_init_25 ?_
  refine z_aload_n B dX4_init_28 rfl 0 rfl ?_
  refine z_iload_n B dX4_init_29 rfl 1 rfl ?_
  refine pF_X4_21 (x := 3) (σ' := (ap b (al σ [(13, 20), (13, 20), (13, 20)]) [(21, 0, 3)] [] [(21, 3, (some (b + 24))), (21, 2, (some (b + 23))), (21, 1, (some (b + 22)))])) B hin (apK ((al_old [(13, 20), (13, 20), (13, 20)] σ (by omega)).1.trans k_21)) wI_ap dX4_init_30 ?_
  exact z_vret B hr (by decide) (by decide) dX4_init_33 rfl
set_option maxRecDepth 100000 in
set_option maxHeartbeats 4000000 in
theorem ct_X4_init_9 (l : Launch) {g : gx_T} {σ : sx_T} {b : Nat}  (hz : sx_Z σ = b + 26)  (k_25 : sx_K σ (b + 25) = 6)   : Met l yX4_init (.code yX4_init cX4_init 2 none :: lw_g) { frames := 1, cells := 3, slots := 60, locals := 12 } (va_Pc [.ref (b + 25), .int 4] (zx_w g σ)) (va_Qv (fun u => u = (ap b (al σ [(13, 20), (13, 20), (13, 20)]) [(25, 0, 4)] [] [(25, 3, (some (b + 28))), (25, 2, (some (b + 27))), (25, 1, (some (b + 26)))])) (zx_w g) (gx_Q g)) 3 60 (gx_Q g) := by
  refine z_met (by decide) (Nat.le_of_ble_eq_true rfl) (fun p e s m below meth c B hr hin => ?_)
  refine z_eqs (σ' := (ap b (al σ []) [] [] [])) rfl ?_
  show zx p l e _ s m _ below meth c g 2 0 0 _ _ 0 [(0, .ref (b + 25)), (1, .int 4)] []
  refine z_aload_n B dX4_init_0 rfl 0 rfl ?_
  refine z_oinit B ⟨wg_86, wg_32, wg_33⟩ dX4_init_1 (by decide) (by decide) ?_
  refine z_aload_n B dX4_init_4 rfl 0 rfl ?_
  refine z_bipush (v := 20) B dX4_init_5 (by decide) ?_
  refine z_newI (kd := 13) (ti := 1) (atype := .int) (ty := .int) (n := 20) (a := (b + 26)) (σ' := (ap b (al σ [(13, 20)]) [] [] [])) B (by decide) rfl wg_64 (by decide) (by decide) (by decide) (by decide) (by decide) dX4_init_7 (ap_Z hz rfl) (nw_al hz rfl rfl rfl rfl) ?_
  refine pF_X4_9 (x := (some (b + 26))) (σ' := (ap b (al σ [(13, 20)]) [] [] [(25, 1, (some (b + 26)))])) B hin (apK ((al_old [(13, 20)] σ (by omega)).1.trans k_25)) wR_ap dX4_init_9 ?_
  refine z_aload_n B dX4_init_12 rfl 0 rfl ?_
  refine z_bipush (v := 20) B dX4_init_13 (by decide) ?_
  refine z_newI (kd := 13) (ti := 1) (atype := .int) (ty := .int) (n := 20) (a := (b + 27)) (σ' := (ap b (al σ [(13, 20), (13, 20)]) [] [] [(25, 1, (some (b + 26)))])) B (by decide) rfl wg_64 (by decide) (by decide) (by decide) (by decide) (by decide) dX4_init_15 (ap_Z hz rfl) (nw_al hz rfl rfl rfl rfl) ?_
  refine pF_X4_15 (x := (some (b + 27))) (σ' := (ap b (al σ [(13, 20), (13, 20)]) [] [] [(25, 2, (some (b + 27))), (25, 1, (some (b + 26)))])) B hin (apK ((al_old [(13, 20), (13, 20)] σ (by omega)).1.trans k_25)) wR_ap dX4_init_17 ?_
  refine z_aload_n B dX4_init_20 rfl 0 rfl ?_
  refine z_bipush (v := 20) B dX4_init_21 (by decide) ?_
  refine z_newI (kd := 13) (ti := 1) (atype := .int) (ty := .int) (n := 20) (a := (b + 28)) (σ' := (ap b (al σ [(13, 20), (13, 20), (13, 20)]) [] [] [(25, 2, (some (b + 27))), (25, 1, (some (b + 26)))])) B (by decide) rfl wg_64 (by decide) (by decide) (by decide) (by decide) (by decide) dX4_init_23 (ap_Z hz rfl) (nw_al hz rfl rfl rfl rfl) ?_
  refine pF_X4_18 (x := (some (b + 28))) (σ' := (ap b (al σ [(13, 20), (13, 20), (13, 20)]) [] [] [(25, 3, (some (b + 28))), (25, 2, (some (b + 27))), (25, 1, (some (b + 26)))])) B hin (apK ((al_old [(13, 20), (13, 20), (13, 20)] σ (by omega)).1.trans k_25)) wR_ap dX4_init_25 ?_
  refine z_aload_n B dX4_init_28 rfl 0 rfl ?_
  refine z_iload_n B dX4_init_29 rfl 1 rfl ?_
  refine pF_X4_21 (x := 4) (σ' := (ap b (al σ [(13, 20), (13, 20), (13, 20)]) [(25, 0, 4)] [] [(25, 3, (some (b + 28))), (25, 2, (some (b + 27))), (25, 1, (some (b + 26)))])) B hin (apK ((al_old [(13, 20), (13, 20), (13, 20)] σ (by omega)).1.trans k_25)) wI_ap dX4_init_30 ?_
  exact z_vret B hr (by decide) (by decide) dX4_init_33 rfl
set_option maxRecDepth 100000 in
set_option maxHeartbeats 4000000 in
theorem ct_X4_init_10 (l : Launch) {g : gx_T} {σ : sx_T} {b : Nat}  (hz : sx_Z σ = b + 30)  (k_29 : sx_K σ (b + 29) = 6)   : Met l yX4_init (.code yX4_init cX4_init 2 none :: lw_g) { frames := 1, cells := 3, slots := 60, locals := 12 } (va_Pc [.ref (b + 29), .int 5] (zx_w g σ)) (va_Qv (fun u => u = (ap b (al σ [(13, 20), (13, 20), (13, 20)]) [(29, 0, 5)] [] [(29, 3, (some (b + 32))), (29, 2, (some (b + 31))), (29, 1, (some (b + 30)))])) (zx_w g) (gx_Q g)) 3 60 (gx_Q g) := by
  refine z_met (by decide) (Nat.le_of_ble_eq_true rfl) (fun p e s m below meth c B hr hin => ?_)
  refine z_eqs (σ' := (ap b (al σ []) [] [] [])) rfl ?_
  show zx p l e _ s m _ below meth c g 2 0 0 _ _ 0 [(0, .ref (b + 29)), (1, .int 5)] []
  refine z_aload_n B dX4_init_0 rfl 0 rfl ?_
  refine z_oinit B ⟨wg_86, wg_32, wg_33⟩ dX4_init_1 (by decide) (by decide) ?_
  refine z_aload_n B dX4_init_4 rfl 0 rfl ?_
  refine z_bipush (v := 20) B dX4_init_5 (by decide) ?_
  refine z_newI (kd := 13) (ti := 1) (atype := .int) (ty := .int) (n := 20) (a := (b + 30)) (σ' := (ap b (al σ [(13, 20)]) [] [] [])) B (by decide) rfl wg_64 (by decide) (by decide) (by decide) (by decide) (by decide) dX4_init_7 (ap_Z hz rfl) (nw_al hz rfl rfl rfl rfl) ?_
  refine pF_X4_9 (x := (some (b + 30))) (σ' := (ap b (al σ [(13, 20)]) [] [] [(29, 1, (some (b + 30)))])) B hin (apK ((al_old [(13, 20)] σ (by omega)).1.trans k_29)) wR_ap dX4_init_9 ?_
  refine z_aload_n B dX4_init_12 rfl 0 rfl ?_
  refine z_bipush (v := 20) B dX4_init_13 (by decide) ?_
  refine z_newI (kd := 13) (ti := 1) (atype := .int) (ty := .int) (n := 20) (a := (b + 31)) (σ' := (ap b (al σ [(13, 20), (13, 20)]) [] [] [(29, 1, (some (b + 30)))])) B (by decide) rfl wg_64 (by decide) (by decide) (by decide) (by decide) (by decide) dX4_init_15 (ap_Z hz rfl) (nw_al hz rfl rfl rfl rfl) ?_
  refine pF_X4_15 (x := (some (b + 31))) (σ' := (ap b (al σ [(13, 20), (13, 20)]) [] [] [(29, 2, (some (b + 31))), (29, 1, (some (b + 30)))])) B hin (apK ((al_old [(13, 20), (13, 20)] σ (by omega)).1.trans k_29)) wR_ap dX4_init_17 ?_
  refine z_aload_n B dX4_init_20 rfl 0 rfl ?_
  refine z_bipush (v := 20) B dX4_init_21 (by decide) ?_
  refine z_newI (kd := 13) (ti := 1) (atype := .int) (ty := .int) (n := 20) (a := (b + 32)) (σ' := (ap b (al σ [(13, 20), (13, 20), (13, 20)]) [] [] [(29, 2, (some (b + 31))), (29, 1, (some (b + 30)))])) B (by decide) rfl wg_64 (by decide) (by decide) (by decide) (by decide) (by decide) dX4_init_23 (ap_Z hz rfl) (nw_al hz rfl rfl rfl rfl) ?_
  refine pF_X4_18 (x := (some (b + 32))) (σ' := (ap b (al σ [(13, 20), (13, 20), (13, 20)]) [] [] [(29, 3, (some (b + 32))), (29, 2, (some (b + 31))), (29, 1, (some (b + 30)))])) B hin (apK ((al_old [(13, 20), (13, 20), (13, 20)] σ (by omega)).1.trans k_29)) wR_ap dX4_init_25 ?_
  refine z_aload_n B dX4_init_28 rfl 0 rfl ?_
  refine z_iload_n B dX4_init_29 rfl 1 rfl ?_
  refine pF_X4_21 (x := 5) (σ' := (ap b (al σ [(13, 20), (13, 20), (13, 20)]) [(29, 0, 5)] [] [(29, 3, (some (b + 32))), (29, 2, (some (b + 31))), (29, 1, (some (b + 30)))])) B hin (apK ((al_old [(13, 20), (13, 20), (13, 20)] σ (by omega)).1.trans k_29)) wI_ap dX4_init_30 ?_
  exact z_vret B hr (by decide) (by decide) dX4_init_33 rfl
set_option maxRecDepth 100000 in
set_option maxHeartbeats 4000000 in
theorem ct_X4_init_11 (l : Launch) {g : gx_T} {σ : sx_T} {b : Nat}  (hz : sx_Z σ = b + 34)  (k_33 : sx_K σ (b + 33) = 6)   : Met l yX4_init (.code yX4_init cX4_init 2 none :: lw_g) { frames := 1, cells := 3, slots := 60, locals := 12 } (va_Pc [.ref (b + 33), .int 0] (zx_w g σ)) (va_Qv (fun u => u = (ap b (al σ [(13, 20), (13, 20), (13, 20)]) [(33, 0, 0)] [] [(33, 3, (some (b + 36))), (33, 2, (some (b + 35))), (33, 1, (some (b + 34)))])) (zx_w g) (gx_Q g)) 3 60 (gx_Q g) := by
  refine z_met (by decide) (Nat.le_of_ble_eq_true rfl) (fun p e s m below meth c B hr hin => ?_)
  refine z_eqs (σ' := (ap b (al σ []) [] [] [])) rfl ?_
  show zx p l e _ s m _ below meth c g 2 0 0 _ _ 0 [(0, .ref (b + 33)), (1, .int 0)] []
  refine z_aload_n B dX4_init_0 rfl 0 rfl ?_
  refine z_oinit B ⟨wg_86, wg_32, wg_33⟩ dX4_init_1 (by decide) (by decide) ?_
  refine z_aload_n B dX4_init_4 rfl 0 rfl ?_
  refine z_bipush (v := 20) B dX4_init_5 (by decide) ?_
  refine z_newI (kd := 13) (ti := 1) (atype := .int) (ty := .int) (n := 20) (a := (b + 34)) (σ' := (ap b (al σ [(13, 20)]) [] [] [])) B (by decide) rfl wg_64 (by decide) (by decide) (by decide) (by decide) (by decide) dX4_init_7 (ap_Z hz rfl) (nw_al hz rfl rfl rfl rfl) ?_
  refine pF_X4_9 (x := (some (b + 34))) (σ' := (ap b (al σ [(13, 20)]) [] [] [(33, 1, (some (b + 34)))])) B hin (apK ((al_old [(13, 20)] σ (by omega)).1.trans k_33)) wR_ap dX4_init_9 ?_
  refine z_aload_n B dX4_init_12 rfl 0 rfl ?_
  refine z_bipush (v := 20) B dX4_init_13 (by decide) ?_
  refine z_newI (kd := 13) (ti := 1) (atype := .int) (ty := .int) (n := 20) (a := (b + 35)) (σ' := (ap b (al σ [(13, 20), (13, 20)]) [] [] [(33, 1, (some (b + 34)))])) B (by decide) rfl wg_64 (by decide) (by decide) (by decide) (by decide) (by decide) dX4_init_15 (ap_Z hz rfl) (nw_al hz rfl rfl rfl rfl) ?_
  refine pF_X4_15 (x := (some (b + 35))) (σ' := (ap b (al σ [(13, 20), (13, 20)]) [] [] [(33, 2, (some (b + 35))), (33, 1, (some (b + 34)))])) B hin (apK ((al_old [(13, 20), (13, 20)] σ (by omega)).1.trans k_33)) wR_ap dX4_init_17 ?_
  refine z_aload_n B dX4_init_20 rfl 0 rfl ?_
  refine z_bipush (v := 20) B dX4_init_21 (by decide) ?_
  refine z_newI (kd := 13) (ti := 1) (atype := .int) (ty := .int) (n := 20) (a := (b + 36)) (σ' := (ap b (al σ [(13, 20), (13, 20), (13, 20)]) [] [] [(33, 2, (some (b + 35))), (33, 1, (some (b + 34)))])) B (by decide) rfl wg_64 (by decide) (by decide) (by decide) (by decide) (by decide) dX4_init_23 (ap_Z hz rfl) (nw_al hz rfl rfl rfl rfl) ?_
  refine pF_X4_18 (x := (some (b + 36))) (σ' := (ap b (al σ [(13, 20), (13, 20), (13, 20)]) [] [] [(33, 3, (some (b + 36))), (33, 2, (some (b + 35))), (33, 1, (some (b + 34)))])) B hin (apK ((al_old [(13, 20), (13, 20), (13, 20)] σ (by omega)).1.trans k_33)) wR_ap dX4_init_25 ?_
  refine z_aload_n B dX4_init_28 rfl 0 rfl ?_
  refine z_iload_n B dX4_init_29 rfl 1 rfl ?_
  refine pF_X4_21 (x := 0) (σ' := (ap b (al σ [(13, 20), (13, 20), (13, 20)]) [(33, 0, 0)] [] [(33, 3, (some (b + 36))), (33, 2, (some (b + 35))), (33, 1, (some (b + 34)))])) B hin (apK ((al_old [(13, 20), (13, 20), (13, 20)] σ (by omega)).1.trans k_33)) wI_ap dX4_init_30 ?_
  exact z_vret B hr (by decide) (by decide) dX4_init_33 rfl
set_option maxRecDepth 100000 in
set_option maxHeartbeats 4000000 in
theorem ct_X1_init_12 (l : Launch) {g : gx_T} {σ : sx_T} {b : Nat}  (hz : sx_Z σ = b + 1)  (k_0 : sx_K σ (b + 0) = 3)   : Met l yX1_init (.code yX1_init cX1_init 1 none :: lw_g) { frames := 1, cells := 2, slots := 280, locals := 12 } (va_Pc [.ref (b + 0)] (zx_w g σ)) (va_Qv (fun u => u = (ap b (al σ [(12, 140), (14, 140)]) [] [] [(0, 1, (some (b + 2))), (0, 0, (some (b + 1)))])) (zx_w g) (gx_Q g)) 2 280 (gx_Q g) := by
  refine z_met (by decide) (Nat.le_of_ble_eq_true rfl) (fun p e s m below meth c B hr hin => ?_)
  refine z_eqs (σ' := (ap b (al σ []) [] [] [])) rfl ?_
  show zx p l e _ s m _ below meth c g 1 0 0 _ _ 0 [(0, .ref (b + 0))] []
  refine z_aload_n B dX1_init_0 rfl 0 rfl ?_
  refine z_oinit B ⟨wg_106, wg_32, wg_33⟩ dX1_init_1 (by decide) (by decide) ?_
  refine z_aload_n B dX1_init_4 rfl 0 rfl ?_
  refine z_sipush (v := 140) B dX1_init_5 (by decide) ?_
  refine z_newI (kd := 12) (ti := 0) (atype := .byte) (ty := .byte) (n := 140) (a := (b + 1)) (σ' := (ap b (al σ [(12, 140)]) [] [] [])) B (by decide) rfl wg_117 (by decide) (by decide) (by decide) (by decide) (by decide) dX1_init_8 (ap_Z hz rfl) (nw_al hz rfl rfl rfl rfl) ?_
  refine pF_X1_9 (x := (some (b + 1))) (σ' := (ap b (al σ [(12, 140)]) [] [] [(0, 0, (some (b + 1)))])) B hin (apK ((al_old [(12, 140)] σ (by omega)).1.trans k_0)) wR_ap dX1_init_10 ?_
  refine z_aload_n B dX1_init_13 rfl 0 rfl ?_
  refine z_sipush (v := 140) B dX1_init_14 (by decide) ?_
  refine z_newJ (atype := .long) (n := 140) (a := (b + 2)) (σ' := (ap b (al σ [(12, 140), (14, 140)]) [] [] [(0, 0, (some (b + 1)))])) B rfl wg_118 (by decide) (by decide) (by decide) (by decide) (by decide) dX1_init_17 (ap_Z hz rfl) (nw_al hz rfl rfl rfl rfl) ?_
  refine pF_X1_15 (x := (some (b + 2))) (σ' := (ap b (al σ [(12, 140), (14, 140)]) [] [] [(0, 1, (some (b + 2))), (0, 0, (some (b + 1)))])) B hin (apK ((al_old [(12, 140), (14, 140)] σ (by omega)).1.trans k_0)) wR_ap dX1_init_19 ?_
  exact z_vret B hr (by decide) (by decide) dX1_init_22 rfl
set_option maxRecDepth 100000 in
set_option maxHeartbeats 4000000 in
theorem ct_X3_init_13 (l : Launch) {g : gx_T} {σ : sx_T} {b : Nat}  (hz : sx_Z σ = b + 6)  (k_5 : sx_K σ (b + 5) = 5)   : Met l yX3_init (.code yX3_init cX3_init 1 none :: lw_g) { frames := 1, cells := 1, slots := 20, locals := 12 } (va_Pc [.ref (b + 5)] (zx_w g σ)) (va_Qv (fun u => u = (ap b (al σ [(13, 20)]) [] [] [(5, 0, (some (b + 6)))])) (zx_w g) (gx_Q g)) 1 20 (gx_Q g) := by
  refine z_met (by decide) (Nat.le_of_ble_eq_true rfl) (fun p e s m below meth c B hr hin => ?_)
  refine z_eqs (σ' := (ap b (al σ []) [] [] [])) rfl ?_
  show zx p l e _ s m _ below meth c g 1 0 0 _ _ 0 [(0, .ref (b + 5))] []
  refine z_aload_n B dX3_init_0 rfl 0 rfl ?_
  refine z_oinit B ⟨wg_131, wg_32, wg_33⟩ dX3_init_1 (by decide) (by decide) ?_
  refine z_aload_n B dX3_init_4 rfl 0 rfl ?_
  refine z_bipush (v := 20) B dX3_init_5 (by decide) ?_
  refine z_newI (kd := 13) (ti := 1) (atype := .int) (ty := .int) (n := 20) (a := (b + 6)) (σ' := (ap b (al σ [(13, 20)]) [] [] [])) B (by decide) rfl wg_64 (by decide) (by decide) (by decide) (by decide) (by decide) dX3_init_7 (ap_Z hz rfl) (nw_al hz rfl rfl rfl rfl) ?_
  refine pF_X3_9 (x := (some (b + 6))) (σ' := (ap b (al σ [(13, 20)]) [] [] [(5, 0, (some (b + 6)))])) B hin (apK ((al_old [(13, 20)] σ (by omega)).1.trans k_5)) wR_ap dX3_init_9 ?_
  exact z_vret B hr (by decide) (by decide) dX3_init_12 rfl
set_option maxRecDepth 100000 in
set_option maxHeartbeats 4000000 in
theorem ct_X6_init_14 (l : Launch) {g : gx_T} {σ : sx_T} {b : Nat}  (hz : sx_Z σ = b + 8)  (k_7 : sx_K σ (b + 7) = 8)   : Met l yX6_init (.code yX6_init cX6_init 1 none :: lw_g) { frames := 1, cells := 1, slots := 90, locals := 12 } (va_Pc [.ref (b + 7)] (zx_w g σ)) (va_Qv (fun u => u = (ap b (al σ [(13, 90)]) [] [] [(7, 0, (some (b + 8)))])) (zx_w g) (gx_Q g)) 1 90 (gx_Q g) := by
  refine z_met (by decide) (Nat.le_of_ble_eq_true rfl) (fun p e s m below meth c B hr hin => ?_)
  refine z_eqs (σ' := (ap b (al σ []) [] [] [])) rfl ?_
  show zx p l e _ s m _ below meth c g 1 0 0 _ _ 0 [(0, .ref (b + 7))] []
  refine z_aload_n B dX6_init_0 rfl 0 rfl ?_
  refine z_oinit B ⟨wg_145, wg_32, wg_33⟩ dX6_init_1 (by decide) (by decide) ?_
  refine z_aload_n B dX6_init_4 rfl 0 rfl ?_
  refine z_bipush (v := 90) B dX6_init_5 (by decide) ?_
  refine z_newI (kd := 13) (ti := 1) (atype := .int) (ty := .int) (n := 90) (a := (b + 8)) (σ' := (ap b (al σ [(13, 90)]) [] [] [])) B (by decide) rfl wg_64 (by decide) (by decide) (by decide) (by decide) (by decide) dX6_init_7 (ap_Z hz rfl) (nw_al hz rfl rfl rfl rfl) ?_
  refine pF_X6_9 (x := (some (b + 8))) (σ' := (ap b (al σ [(13, 90)]) [] [] [(7, 0, (some (b + 8)))])) B hin (apK ((al_old [(13, 90)] σ (by omega)).1.trans k_7)) wR_ap dX6_init_9 ?_
  exact z_vret B hr (by decide) (by decide) dX6_init_12 rfl
set_option maxRecDepth 100000 in
set_option maxHeartbeats 4000000 in
theorem ct_X5_init_15 (l : Launch) {g : gx_T} {σ : sx_T} {b : Nat} {pa : Nat} (hz : sx_Z σ = b + 5)  (k_4 : sx_K σ (b + 4) = 7)   : Met l yX5_init (.code yX5_init cX5_init 3 none :: lw_g) { frames := 2, cells := 4, slots := 114, locals := 32 } (va_Pc [.ref (b + 4), .ref pa, .ref (b + 0)] (zx_w g σ)) (va_Qv (fun u => u = (ap b (al σ [(5, 0), (13, 20), (8, 0), (13, 90)]) [] [] [(4, 3, (some (b + 0))), (4, 2, (some pa)), (4, 1, (some (b + 7))), (7, 0, (some (b + 8))), (4, 0, (some (b + 5))), (5, 0, (some (b + 6)))])) (zx_w g) (gx_Q g)) 4 114 (gx_Q g) := by
  refine z_met (by decide) (Nat.le_of_ble_eq_true rfl) (fun p e s m below meth c B hr hin => ?_)
  refine z_eqs (σ' := (ap b (al σ []) [] [] [])) rfl ?_
  show zx p l e _ s m _ below meth c g 3 0 0 _ _ 0 [(0, .ref (b + 4)), (1, .ref pa), (2, .ref (b + 0))] []
  refine z_aload_n B dX5_init_0 rfl 0 rfl ?_
  refine z_oinit B ⟨wg_125, wg_32, wg_33⟩ dX5_init_1 (by decide) (by decide) ?_
  refine z_aload_n B dX5_init_4 rfl 0 rfl ?_
  refine z_newo (a := (b + 5)) (σ' := (ap b (al σ [(5, 0)]) [] [] [])) B cx_4 df_4 wg_126 (by decide) (by decide) dX5_init_5 (ap_Z hz rfl) (nw_al hz rfl rfl rfl rfl) ?_
  refine z_dup B dX5_init_8 rfl ?_
  refine z_cD (As := []) (rest := [.ref (b + 5), .ref (b + 4)]) B cw_X5_11 dX5_init_9 (ct_X3_init_13 l (σ := (ap b (al σ [(5, 0)]) [] [] [])) (b := b) (ap_Z hz rfl) (apK (alK (j := 0) (kd := 5) (n := 0) (ks := [(5, 0)]) hz 5 rfl rfl).1)) rfl (by decide) rfl (Nat.le_of_ble_eq_true rfl) (by decide) (fun u hu => ?_)
  refine z_eqs (σ' := (ap b (al σ [(5, 0), (13, 20)]) [] [] [(5, 0, (some (b + 6)))])) (hu.trans (ct_ct hz rfl rfl rfl rfl)) ?_
  show zx p l e _ s m _ below meth c g 3 _ _ _ _ 12 [(0, .ref (b + 4)), (1, .ref pa), (2, .ref (b + 0))] _
  refine pF_X5_12 (x := (some (b + 5))) (σ' := (ap b (al σ [(5, 0), (13, 20)]) [] [] [(4, 0, (some (b + 5))), (5, 0, (some (b + 6)))])) B hin (apK ((al_old [(5, 0), (13, 20)] σ (by omega)).1.trans k_4)) wR_ap dX5_init_12 ?_
  refine z_aload_n B dX5_init_15 rfl 0 rfl ?_
  refine z_newo (a := (b + 7)) (σ' := (ap b (al σ [(5, 0), (13, 20), (8, 0)]) [] [] [(4, 0, (some (b + 5))), (5, 0, (some (b + 6)))])) B cx_7 df_7 wg_140 (by decide) (by decide) dX5_init_16 (ap_Z hz rfl) (nw_al hz rfl rfl rfl rfl) ?_
  refine z_dup B dX5_init_19 rfl ?_
  refine z_cD (As := []) (rest := [.ref (b + 7), .ref (b + 4)]) B cw_X5_20 dX5_init_20 (ct_X6_init_14 l (σ := (ap b (al σ [(5, 0), (13, 20), (8, 0)]) [] [] [(4, 0, (some (b + 5))), (5, 0, (some (b + 6)))])) (b := b) (ap_Z hz rfl) (apK (alK (j := 2) (kd := 8) (n := 0) (ks := [(5, 0), (13, 20), (8, 0)]) hz 7 rfl rfl).1)) rfl (by decide) rfl (Nat.le_of_ble_eq_true rfl) (by decide) (fun u hu => ?_)
  refine z_eqs (σ' := (ap b (al σ [(5, 0), (13, 20), (8, 0), (13, 90)]) [] [] [(7, 0, (some (b + 8))), (4, 0, (some (b + 5))), (5, 0, (some (b + 6)))])) (hu.trans (ct_ct hz rfl rfl rfl rfl)) ?_
  show zx p l e _ s m _ below meth c g 3 _ _ _ _ 23 [(0, .ref (b + 4)), (1, .ref pa), (2, .ref (b + 0))] _
  refine pF_X5_21 (x := (some (b + 7))) (σ' := (ap b (al σ [(5, 0), (13, 20), (8, 0), (13, 90)]) [] [] [(4, 1, (some (b + 7))), (7, 0, (some (b + 8))), (4, 0, (some (b + 5))), (5, 0, (some (b + 6)))])) B hin (apK ((al_old [(5, 0), (13, 20), (8, 0), (13, 90)] σ (by omega)).1.trans k_4)) wR_ap dX5_init_23 ?_
  refine z_aload_n B dX5_init_26 rfl 0 rfl ?_
  refine z_aload_n B dX5_init_27 rfl 1 rfl ?_
  refine pf_X5_25 (x := (some pa)) (σ' := (ap b (al σ [(5, 0), (13, 20), (8, 0), (13, 90)]) [] [] [(4, 2, (some pa)), (4, 1, (some (b + 7))), (7, 0, (some (b + 8))), (4, 0, (some (b + 5))), (5, 0, (some (b + 6)))])) B (apK ((al_old [(5, 0), (13, 20), (8, 0), (13, 90)] σ (by omega)).1.trans k_4)) wR_ap dX5_init_28 ?_
  refine z_aload_n B dX5_init_31 rfl 0 rfl ?_
  refine z_aload_n B dX5_init_32 rfl 2 rfl ?_
  refine pf_X5_29 (x := (some (b + 0))) (σ' := (ap b (al σ [(5, 0), (13, 20), (8, 0), (13, 90)]) [] [] [(4, 3, (some (b + 0))), (4, 2, (some pa)), (4, 1, (some (b + 7))), (7, 0, (some (b + 8))), (4, 0, (some (b + 5))), (5, 0, (some (b + 6)))])) B (apK ((al_old [(5, 0), (13, 20), (8, 0), (13, 90)] σ (by omega)).1.trans k_4)) wR_ap dX5_init_33 ?_
  exact z_vret B hr (by decide) (by decide) dX5_init_36 rfl
set_option maxRecDepth 100000 in
set_option maxHeartbeats 4000000 in
theorem ct_X0_init_16 (l : Launch) {g : gx_T} {σ : sx_T} {b : Nat} {pa : Nat} (hz : sx_Z σ = b + 9) (w1 : Int32) (k_3 : sx_K σ (b + 3) = 2)   : Met l yX0_init (.code yX0_init cX0_init 5 none :: lw_g) { frames := 1, cells := 0, slots := 0, locals := 12 } (va_Pc [.ref (b + 3), .int w1, .ref pa, .ref (b + 0), .ref (b + 4)] (zx_w g σ)) (va_Qv (fun u => u = (ap b (al σ []) [(3, 0, w1), (3, 6, (-1)), (3, 5, (-1)), (3, 4, (-1))] [] [(3, 2, (some (b + 4))), (3, 1, (some (b + 0))), (3, 3, (some pa))])) (zx_w g) (gx_Q g)) 0 0 (gx_Q g) := by
  refine z_met (by decide) (Nat.le_of_ble_eq_true rfl) (fun p e s m below meth c B hr hin => ?_)
  refine z_eqs (σ' := (ap b (al σ []) [] [] [])) rfl ?_
  show zx p l e _ s m _ below meth c g 5 0 0 _ _ 0 [(0, .ref (b + 3)), (1, .int w1), (2, .ref pa), (3, .ref (b + 0)), (4, .ref (b + 4))] []
  refine z_aload_n B dX0_init_0 rfl 0 rfl ?_
  refine z_oinit B ⟨wg_235, wg_32, wg_33⟩ dX0_init_1 (by decide) (by decide) ?_
  refine z_aload_n B dX0_init_4 rfl 0 rfl ?_
  refine z_iconst (v := (-1)) B dX0_init_5 (by decide) ?_
  refine pf_X0_9 (x := (-1)) (σ' := (ap b (al σ []) [(3, 4, (-1))] [] [])) B (apK ((al_old [] σ (by omega)).1.trans k_3)) wI_ap dX0_init_6 ?_
  refine z_aload_n B dX0_init_9 rfl 0 rfl ?_
  refine z_iconst (v := (-1)) B dX0_init_10 (by decide) ?_
  refine pf_X0_15 (x := (-1)) (σ' := (ap b (al σ []) [(3, 5, (-1)), (3, 4, (-1))] [] [])) B (apK ((al_old [] σ (by omega)).1.trans k_3)) wI_ap dX0_init_11 ?_
  refine z_aload_n B dX0_init_14 rfl 0 rfl ?_
  refine z_iconst (v := (-1)) B dX0_init_15 (by decide) ?_
  refine pf_X0_18 (x := (-1)) (σ' := (ap b (al σ []) [(3, 6, (-1)), (3, 5, (-1)), (3, 4, (-1))] [] [])) B (apK ((al_old [] σ (by omega)).1.trans k_3)) wI_ap dX0_init_16 ?_
  refine z_aload_n B dX0_init_19 rfl 0 rfl ?_
  refine z_iload_n B dX0_init_20 rfl 1 rfl ?_
  refine pF_X0_21 (x := w1) (σ' := (ap b (al σ []) [(3, 0, w1), (3, 6, (-1)), (3, 5, (-1)), (3, 4, (-1))] [] [])) B hin (apK ((al_old [] σ (by omega)).1.trans k_3)) wI_ap dX0_init_21 ?_
  refine z_aload_n B dX0_init_24 rfl 0 rfl ?_
  refine z_aload_n B dX0_init_25 rfl 2 rfl ?_
  refine pf_X0_24 (x := (some pa)) (σ' := (ap b (al σ []) [(3, 0, w1), (3, 6, (-1)), (3, 5, (-1)), (3, 4, (-1))] [] [(3, 3, (some pa))])) B (apK ((al_old [] σ (by omega)).1.trans k_3)) wR_ap dX0_init_26 ?_
  refine z_aload_n B dX0_init_29 rfl 0 rfl ?_
  refine z_aload_n B dX0_init_30 rfl 3 rfl ?_
  refine pF_X0_28 (x := (some (b + 0))) (σ' := (ap b (al σ []) [(3, 0, w1), (3, 6, (-1)), (3, 5, (-1)), (3, 4, (-1))] [] [(3, 1, (some (b + 0))), (3, 3, (some pa))])) B hin (apK ((al_old [] σ (by omega)).1.trans k_3)) wR_ap dX0_init_31 ?_
  refine z_aload_n B dX0_init_34 rfl 0 rfl ?_
  refine z_aload B dX0_init_35 4 rfl ?_
  refine pF_X0_32 (x := (some (b + 4))) (σ' := (ap b (al σ []) [(3, 0, w1), (3, 6, (-1)), (3, 5, (-1)), (3, 4, (-1))] [] [(3, 2, (some (b + 4))), (3, 1, (some (b + 0))), (3, 3, (some pa))])) B hin (apK ((al_old [] σ (by omega)).1.trans k_3)) wR_ap dX0_init_37 ?_
  exact z_vret B hr (by decide) (by decide) dX0_init_40 rfl
set_option maxRecDepth 100000 in
set_option maxHeartbeats 4000000 in
theorem ct_X1_init_17 (l : Launch) {g : gx_T} {σ : sx_T} {b : Nat}  (hz : sx_Z σ = b + 2)  (k_1 : sx_K σ (b + 1) = 3)   : Met l yX1_init (.code yX1_init cX1_init 1 none :: lw_g) { frames := 1, cells := 2, slots := 280, locals := 12 } (va_Pc [.ref (b + 1)] (zx_w g σ)) (va_Qv (fun u => u = (ap b (al σ [(12, 140), (14, 140)]) [] [] [(1, 1, (some (b + 3))), (1, 0, (some (b + 2)))])) (zx_w g) (gx_Q g)) 2 280 (gx_Q g) := by
  refine z_met (by decide) (Nat.le_of_ble_eq_true rfl) (fun p e s m below meth c B hr hin => ?_)
  refine z_eqs (σ' := (ap b (al σ []) [] [] [])) rfl ?_
  show zx p l e _ s m _ below meth c g 1 0 0 _ _ 0 [(0, .ref (b + 1))] []
  refine z_aload_n B dX1_init_0 rfl 0 rfl ?_
  refine z_oinit B ⟨wg_106, wg_32, wg_33⟩ dX1_init_1 (by decide) (by decide) ?_
  refine z_aload_n B dX1_init_4 rfl 0 rfl ?_
  refine z_sipush (v := 140) B dX1_init_5 (by decide) ?_
  refine z_newI (kd := 12) (ti := 0) (atype := .byte) (ty := .byte) (n := 140) (a := (b + 2)) (σ' := (ap b (al σ [(12, 140)]) [] [] [])) B (by decide) rfl wg_117 (by decide) (by decide) (by decide) (by decide) (by decide) dX1_init_8 (ap_Z hz rfl) (nw_al hz rfl rfl rfl rfl) ?_
  refine pF_X1_9 (x := (some (b + 2))) (σ' := (ap b (al σ [(12, 140)]) [] [] [(1, 0, (some (b + 2)))])) B hin (apK ((al_old [(12, 140)] σ (by omega)).1.trans k_1)) wR_ap dX1_init_10 ?_
  refine z_aload_n B dX1_init_13 rfl 0 rfl ?_
  refine z_sipush (v := 140) B dX1_init_14 (by decide) ?_
  refine z_newJ (atype := .long) (n := 140) (a := (b + 3)) (σ' := (ap b (al σ [(12, 140), (14, 140)]) [] [] [(1, 0, (some (b + 2)))])) B rfl wg_118 (by decide) (by decide) (by decide) (by decide) (by decide) dX1_init_17 (ap_Z hz rfl) (nw_al hz rfl rfl rfl rfl) ?_
  refine pF_X1_15 (x := (some (b + 3))) (σ' := (ap b (al σ [(12, 140), (14, 140)]) [] [] [(1, 1, (some (b + 3))), (1, 0, (some (b + 2)))])) B hin (apK ((al_old [(12, 140), (14, 140)] σ (by omega)).1.trans k_1)) wR_ap dX1_init_19 ?_
  exact z_vret B hr (by decide) (by decide) dX1_init_22 rfl
set_option maxRecDepth 100000 in
set_option maxHeartbeats 4000000 in
theorem ct_X3_init_18 (l : Launch) {g : gx_T} {σ : sx_T} {b : Nat}  (hz : sx_Z σ = b + 5)  (k_4 : sx_K σ (b + 4) = 5)   : Met l yX3_init (.code yX3_init cX3_init 1 none :: lw_g) { frames := 1, cells := 1, slots := 20, locals := 12 } (va_Pc [.ref (b + 4)] (zx_w g σ)) (va_Qv (fun u => u = (ap b (al σ [(13, 20)]) [] [] [(4, 0, (some (b + 5)))])) (zx_w g) (gx_Q g)) 1 20 (gx_Q g) := by
  refine z_met (by decide) (Nat.le_of_ble_eq_true rfl) (fun p e s m below meth c B hr hin => ?_)
  refine z_eqs (σ' := (ap b (al σ []) [] [] [])) rfl ?_
  show zx p l e _ s m _ below meth c g 1 0 0 _ _ 0 [(0, .ref (b + 4))] []
  refine z_aload_n B dX3_init_0 rfl 0 rfl ?_
  refine z_oinit B ⟨wg_131, wg_32, wg_33⟩ dX3_init_1 (by decide) (by decide) ?_
  refine z_aload_n B dX3_init_4 rfl 0 rfl ?_
  refine z_bipush (v := 20) B dX3_init_5 (by decide) ?_
  refine z_newI (kd := 13) (ti := 1) (atype := .int) (ty := .int) (n := 20) (a := (b + 5)) (σ' := (ap b (al σ [(13, 20)]) [] [] [])) B (by decide) rfl wg_64 (by decide) (by decide) (by decide) (by decide) (by decide) dX3_init_7 (ap_Z hz rfl) (nw_al hz rfl rfl rfl rfl) ?_
  refine pF_X3_9 (x := (some (b + 5))) (σ' := (ap b (al σ [(13, 20)]) [] [] [(4, 0, (some (b + 5)))])) B hin (apK ((al_old [(13, 20)] σ (by omega)).1.trans k_4)) wR_ap dX3_init_9 ?_
  exact z_vret B hr (by decide) (by decide) dX3_init_12 rfl
set_option maxRecDepth 100000 in
set_option maxHeartbeats 4000000 in
theorem ct_X6_init_19 (l : Launch) {g : gx_T} {σ : sx_T} {b : Nat}  (hz : sx_Z σ = b + 7)  (k_6 : sx_K σ (b + 6) = 8)   : Met l yX6_init (.code yX6_init cX6_init 1 none :: lw_g) { frames := 1, cells := 1, slots := 90, locals := 12 } (va_Pc [.ref (b + 6)] (zx_w g σ)) (va_Qv (fun u => u = (ap b (al σ [(13, 90)]) [] [] [(6, 0, (some (b + 7)))])) (zx_w g) (gx_Q g)) 1 90 (gx_Q g) := by
  refine z_met (by decide) (Nat.le_of_ble_eq_true rfl) (fun p e s m below meth c B hr hin => ?_)
  refine z_eqs (σ' := (ap b (al σ []) [] [] [])) rfl ?_
  show zx p l e _ s m _ below meth c g 1 0 0 _ _ 0 [(0, .ref (b + 6))] []
  refine z_aload_n B dX6_init_0 rfl 0 rfl ?_
  refine z_oinit B ⟨wg_145, wg_32, wg_33⟩ dX6_init_1 (by decide) (by decide) ?_
  refine z_aload_n B dX6_init_4 rfl 0 rfl ?_
  refine z_bipush (v := 90) B dX6_init_5 (by decide) ?_
  refine z_newI (kd := 13) (ti := 1) (atype := .int) (ty := .int) (n := 90) (a := (b + 7)) (σ' := (ap b (al σ [(13, 90)]) [] [] [])) B (by decide) rfl wg_64 (by decide) (by decide) (by decide) (by decide) (by decide) dX6_init_7 (ap_Z hz rfl) (nw_al hz rfl rfl rfl rfl) ?_
  refine pF_X6_9 (x := (some (b + 7))) (σ' := (ap b (al σ [(13, 90)]) [] [] [(6, 0, (some (b + 7)))])) B hin (apK ((al_old [(13, 90)] σ (by omega)).1.trans k_6)) wR_ap dX6_init_9 ?_
  exact z_vret B hr (by decide) (by decide) dX6_init_12 rfl
set_option maxRecDepth 100000 in
set_option maxHeartbeats 4000000 in
theorem ct_X5_init_20 (l : Launch) {g : gx_T} {σ : sx_T} {b : Nat} {pa : Nat} (hz : sx_Z σ = b + 4)  (k_0 : sx_K σ (b + 0) = 7)   : Met l yX5_init (.code yX5_init cX5_init 3 none :: lw_g) { frames := 2, cells := 4, slots := 114, locals := 32 } (va_Pc [.ref (b + 0), .ref pa, .ref (b + 1)] (zx_w g σ)) (va_Qv (fun u => u = (ap b (al σ [(5, 0), (13, 20), (8, 0), (13, 90)]) [] [] [(0, 3, (some (b + 1))), (0, 2, (some pa)), (0, 1, (some (b + 6))), (6, 0, (some (b + 7))), (0, 0, (some (b + 4))), (4, 0, (some (b + 5)))])) (zx_w g) (gx_Q g)) 4 114 (gx_Q g) := by
  refine z_met (by decide) (Nat.le_of_ble_eq_true rfl) (fun p e s m below meth c B hr hin => ?_)
  refine z_eqs (σ' := (ap b (al σ []) [] [] [])) rfl ?_
  show zx p l e _ s m _ below meth c g 3 0 0 _ _ 0 [(0, .ref (b + 0)), (1, .ref pa), (2, .ref (b + 1))] []
  refine z_aload_n B dX5_init_0 rfl 0 rfl ?_
  refine z_oinit B ⟨wg_125, wg_32, wg_33⟩ dX5_init_1 (by decide) (by decide) ?_
  refine z_aload_n B dX5_init_4 rfl 0 rfl ?_
  refine z_newo (a := (b + 4)) (σ' := (ap b (al σ [(5, 0)]) [] [] [])) B cx_4 df_4 wg_126 (by decide) (by decide) dX5_init_5 (ap_Z hz rfl) (nw_al hz rfl rfl rfl rfl) ?_
  refine z_dup B dX5_init_8 rfl ?_
  refine z_cD (As := []) (rest := [.ref (b + 4), .ref (b + 0)]) B cw_X5_11 dX5_init_9 (ct_X3_init_18 l (σ := (ap b (al σ [(5, 0)]) [] [] [])) (b := b) (ap_Z hz rfl) (apK (alK (j := 0) (kd := 5) (n := 0) (ks := [(5, 0)]) hz 4 rfl rfl).1)) rfl (by decide) rfl (Nat.le_of_ble_eq_true rfl) (by decide) (fun u hu => ?_)
  refine z_eqs (σ' := (ap b (al σ [(5, 0), (13, 20)]) [] [] [(4, 0, (some (b + 5)))])) (hu.trans (ct_ct hz rfl rfl rfl rfl)) ?_
  show zx p l e _ s m _ below meth c g 3 _ _ _ _ 12 [(0, .ref (b + 0)), (1, .ref pa), (2, .ref (b + 1))] _
  refine pF_X5_12 (x := (some (b + 4))) (σ' := (ap b (al σ [(5, 0), (13, 20)]) [] [] [(0, 0, (some (b + 4))), (4, 0, (some (b + 5)))])) B hin (apK ((al_old [(5, 0), (13, 20)] σ (by omega)).1.trans k_0)) wR_ap dX5_init_12 ?_
  refine z_aload_n B dX5_init_15 rfl 0 rfl ?_
  refine z_newo (a := (b + 6)) (σ' := (ap b (al σ [(5, 0), (13, 20), (8, 0)]) [] [] [(0, 0, (some (b + 4))), (4, 0, (some (b + 5)))])) B cx_7 df_7 wg_140 (by decide) (by decide) dX5_init_16 (ap_Z hz rfl) (nw_al hz rfl rfl rfl rfl) ?_
  refine z_dup B dX5_init_19 rfl ?_
  refine z_cD (As := []) (rest := [.ref (b + 6), .ref (b + 0)]) B cw_X5_20 dX5_init_20 (ct_X6_init_19 l (σ := (ap b (al σ [(5, 0), (13, 20), (8, 0)]) [] [] [(0, 0, (some (b + 4))), (4, 0, (some (b + 5)))])) (b := b) (ap_Z hz rfl) (apK (alK (j := 2) (kd := 8) (n := 0) (ks := [(5, 0), (13, 20), (8, 0)]) hz 6 rfl rfl).1)) rfl (by decide) rfl (Nat.le_of_ble_eq_true rfl) (by decide) (fun u hu => ?_)
  refine z_eqs (σ' := (ap b (al σ [(5, 0), (13, 20), (8, 0), (13, 90)]) [] [] [(6, 0, (some (b + 7))), (0, 0, (some (b + 4))), (4, 0, (some (b + 5)))])) (hu.trans (ct_ct hz rfl rfl rfl rfl)) ?_
  show zx p l e _ s m _ below meth c g 3 _ _ _ _ 23 [(0, .ref (b + 0)), (1, .ref pa), (2, .ref (b + 1))] _
  refine pF_X5_21 (x := (some (b + 6))) (σ' := (ap b (al σ [(5, 0), (13, 20), (8, 0), (13, 90)]) [] [] [(0, 1, (some (b + 6))), (6, 0, (some (b + 7))), (0, 0, (some (b + 4))), (4, 0, (some (b + 5)))])) B hin (apK ((al_old [(5, 0), (13, 20), (8, 0), (13, 90)] σ (by omega)).1.trans k_0)) wR_ap dX5_init_23 ?_
  refine z_aload_n B dX5_init_26 rfl 0 rfl ?_
  refine z_aload_n B dX5_init_27 rfl 1 rfl ?_
  refine pf_X5_25 (x := (some pa)) (σ' := (ap b (al σ [(5, 0), (13, 20), (8, 0), (13, 90)]) [] [] [(0, 2, (some pa)), (0, 1, (some (b + 6))), (6, 0, (some (b + 7))), (0, 0, (some (b + 4))), (4, 0, (some (b + 5)))])) B (apK ((al_old [(5, 0), (13, 20), (8, 0), (13, 90)] σ (by omega)).1.trans k_0)) wR_ap dX5_init_28 ?_
  refine z_aload_n B dX5_init_31 rfl 0 rfl ?_
  refine z_aload_n B dX5_init_32 rfl 2 rfl ?_
  refine pf_X5_29 (x := (some (b + 1))) (σ' := (ap b (al σ [(5, 0), (13, 20), (8, 0), (13, 90)]) [] [] [(0, 3, (some (b + 1))), (0, 2, (some pa)), (0, 1, (some (b + 6))), (6, 0, (some (b + 7))), (0, 0, (some (b + 4))), (4, 0, (some (b + 5)))])) B (apK ((al_old [(5, 0), (13, 20), (8, 0), (13, 90)] σ (by omega)).1.trans k_0)) wR_ap dX5_init_33 ?_
  exact z_vret B hr (by decide) (by decide) dX5_init_36 rfl
set_option maxRecDepth 100000 in
set_option maxHeartbeats 4000000 in
theorem ct_X9_init_21 (l : Launch) {g : gx_T} {σ : sx_T} {b : Nat}  (hz : sx_Z σ = b + 406)  (k_405 : sx_K σ (b + 405) = 11)   : Met l yX9_init (.code yX9_init cX9_init 1 none :: lw_g) { frames := 1, cells := 25, slots := 27563, locals := 12 } (va_Pc [.ref (b + 405)] (zx_w g σ)) (va_Qv (fun u => u = (ap b (al σ [(13, 120), (13, 120), (13, 120), (13, 41), (13, 41), (13, 41), (13, 41), (13, 41), (13, 41), (13, 41), (13, 6560), (14, 6560), (13, 2100), (13, 2100), (13, 2100), (13, 2100), (13, 2100), (13, 2100), (13, 6), (13, 20), (13, 160), (13, 160), (13, 50), (13, 400), (13, 400)]) [(405, 2, 1)] [] [(405, 46, (some (b + 430))), (405, 44, (some (b + 429))), (405, 42, (some (b + 428))), (405, 41, (some (b + 427))), (405, 40, (some (b + 426))), (405, 33, (some (b + 425))), (405, 25, (some (b + 424))), (405, 22, (some (b + 423))), (405, 21, (some (b + 422))), (405, 20, (some (b + 421))), (405, 19, (some (b + 420))), (405, 18, (some (b + 419))), (405, 17, (some (b + 418))), (405, 15, (some (b + 417))), (405, 14, (some (b + 416))), (405, 13, (some (b + 415))), (405, 12, (some (b + 414))), (405, 11, (some (b + 413))), (405, 10, (some (b + 412))), (405, 9, (some (b + 411))), (405, 8, (some (b + 410))), (405, 7, (some (b + 409))), (405, 5, (some (b + 408))), (405, 4, (some (b + 407))), (405, 3, (some (b + 406)))])) (zx_w g) (gx_Q g)) 25 27563 (gx_Q g) := by
  refine z_met (by decide) (Nat.le_of_ble_eq_true rfl) (fun p e s m below meth c B hr hin => ?_)
  refine z_eqs (σ' := (ap b (al σ []) [] [] [])) rfl ?_
  show zx p l e _ s m _ below meth c g 1 0 0 _ _ 0 [(0, .ref (b + 405))] []
  refine z_aload_n B dX9_init_0 rfl 0 rfl ?_
  refine z_oinit B ⟨wg_1045, wg_32, wg_33⟩ dX9_init_1 (by decide) (by decide) ?_
  refine z_aload_n B dX9_init_4 rfl 0 rfl ?_
  refine z_iconst (v := 1) B dX9_init_5 (by decide) ?_
  refine pf_X9_7 (x := 1) (σ' := (ap b (al σ []) [(405, 2, 1)] [] [])) B (apK ((al_old [] σ (by omega)).1.trans k_405)) wI_ap dX9_init_6 ?_
  refine z_aload_n B dX9_init_9 rfl 0 rfl ?_
  refine z_bipush (v := 120) B dX9_init_10 (by decide) ?_
  refine z_newI (kd := 13) (ti := 1) (atype := .int) (ty := .int) (n := 120) (a := (b + 406)) (σ' := (ap b (al σ [(13, 120)]) [(405, 2, 1)] [] [])) B (by decide) rfl wg_64 (by decide) (by decide) (by decide) (by decide) (by decide) dX9_init_12 (ap_Z hz rfl) (nw_al hz rfl rfl rfl rfl) ?_
  refine pF_X9_13 (x := (some (b + 406))) (σ' := (ap b (al σ [(13, 120)]) [(405, 2, 1)] [] [(405, 3, (some (b + 406)))])) B hin (apK ((al_old [(13, 120)] σ (by omega)).1.trans k_405)) wR_ap dX9_init_14 ?_
  refine z_aload_n B dX9_init_17 rfl 0 rfl ?_
  refine z_bipush (v := 120) B dX9_init_18 (by decide) ?_
  refine z_newI (kd := 13) (ti := 1) (atype := .int) (ty := .int) (n := 120) (a := (b + 407)) (σ' := (ap b (al σ [(13, 120), (13, 120)]) [(405, 2, 1)] [] [(405, 3, (some (b + 406)))])) B (by decide) rfl wg_64 (by decide) (by decide) (by decide) (by decide) (by decide) dX9_init_20 (ap_Z hz rfl) (nw_al hz rfl rfl rfl rfl) ?_
  refine pF_X9_17 (x := (some (b + 407))) (σ' := (ap b (al σ [(13, 120), (13, 120)]) [(405, 2, 1)] [] [(405, 4, (some (b + 407))), (405, 3, (some (b + 406)))])) B hin (apK ((al_old [(13, 120), (13, 120)] σ (by omega)).1.trans k_405)) wR_ap dX9_init_22 ?_
  refine z_aload_n B dX9_init_25 rfl 0 rfl ?_
  refine z_bipush (v := 120) B dX9_init_26 (by decide) ?_
  refine z_newI (kd := 13) (ti := 1) (atype := .int) (ty := .int) (n := 120) (a := (b + 408)) (σ' := (ap b (al σ [(13, 120), (13, 120), (13, 120)]) [(405, 2, 1)] [] [(405, 4, (some (b + 407))), (405, 3, (some (b + 406)))])) B (by decide) rfl wg_64 (by decide) (by decide) (by decide) (by decide) (by decide) dX9_init_28 (ap_Z hz rfl) (nw_al hz rfl rfl rfl rfl) ?_
  refine pF_X9_20 (x := (some (b + 408))) (σ' := (ap b (al σ [(13, 120), (13, 120), (13, 120)]) [(405, 2, 1)] [] [(405, 5, (some (b + 408))), (405, 4, (some (b + 407))), (405, 3, (some (b + 406)))])) B hin (apK ((al_old [(13, 120), (13, 120), (13, 120)] σ (by omega)).1.trans k_405)) wR_ap dX9_init_30 ?_
  refine z_aload_n B dX9_init_33 rfl 0 rfl ?_
  refine z_bipush (v := 41) B dX9_init_34 (by decide) ?_
  refine z_newI (kd := 13) (ti := 1) (atype := .int) (ty := .int) (n := 41) (a := (b + 409)) (σ' := (ap b (al σ [(13, 120), (13, 120), (13, 120), (13, 41)]) [(405, 2, 1)] [] [(405, 5, (some (b + 408))), (405, 4, (some (b + 407))), (405, 3, (some (b + 406)))])) B (by decide) rfl wg_64 (by decide) (by decide) (by decide) (by decide) (by decide) dX9_init_36 (ap_Z hz rfl) (nw_al hz rfl rfl rfl rfl) ?_
  refine pF_X9_23 (x := (some (b + 409))) (σ' := (ap b (al σ [(13, 120), (13, 120), (13, 120), (13, 41)]) [(405, 2, 1)] [] [(405, 7, (some (b + 409))), (405, 5, (some (b + 408))), (405, 4, (some (b + 407))), (405, 3, (some (b + 406)))])) B hin (apK ((al_old [(13, 120), (13, 120), (13, 120), (13, 41)] σ (by omega)).1.trans k_405)) wR_ap dX9_init_38 ?_
  refine z_aload_n B dX9_init_41 rfl 0 rfl ?_
  refine z_bipush (v := 41) B dX9_init_42 (by decide) ?_
  refine z_newI (kd := 13) (ti := 1) (atype := .int) (ty := .int) (n := 41) (a := (b + 410)) (σ' := (ap b (al σ [(13, 120), (13, 120), (13, 120), (13, 41), (13, 41)]) [(405, 2, 1)] [] [(405, 7, (some (b + 409))), (405, 5, (some (b + 408))), (405, 4, (some (b + 407))), (405, 3, (some (b + 406)))])) B (by decide) rfl wg_64 (by decide) (by decide) (by decide) (by decide) (by decide) dX9_init_44 (ap_Z hz rfl) (nw_al hz rfl rfl rfl rfl) ?_
  refine pF_X9_26 (x := (some (b + 410))) (σ' := (ap b (al σ [(13, 120), (13, 120), (13, 120), (13, 41), (13, 41)]) [(405, 2, 1)] [] [(405, 8, (some (b + 410))), (405, 7, (some (b + 409))), (405, 5, (some (b + 408))), (405, 4, (some (b + 407))), (405, 3, (some (b + 406)))])) B hin (apK ((al_old [(13, 120), (13, 120), (13, 120), (13, 41), (13, 41)] σ (by omega)).1.trans k_405)) wR_ap dX9_init_46 ?_
  refine z_aload_n B dX9_init_49 rfl 0 rfl ?_
  refine z_bipush (v := 41) B dX9_init_50 (by decide) ?_
  refine z_newI (kd := 13) (ti := 1) (atype := .int) (ty := .int) (n := 41) (a := (b + 411)) (σ' := (ap b (al σ [(13, 120), (13, 120), (13, 120), (13, 41), (13, 41), (13, 41)]) [(405, 2, 1)] [] [(405, 8, (some (b + 410))), (405, 7, (some (b + 409))), (405, 5, (some (b + 408))), (405, 4, (some (b + 407))), (405, 3, (some (b + 406)))])) B (by decide) rfl wg_64 (by decide) (by decide) (by decide) (by decide) (by decide) dX9_init_52 (ap_Z hz rfl) (nw_al hz rfl rfl rfl rfl) ?_
  refine pF_X9_29 (x := (some (b + 411))) (σ' := (ap b (al σ [(13, 120), (13, 120), (13, 120), (13, 41), (13, 41), (13, 41)]) [(405, 2, 1)] [] [(405, 9, (some (b + 411))), (405, 8, (some (b + 410))), (405, 7, (some (b + 409))), (405, 5, (some (b + 408))), (405, 4, (some (b + 407))), (405, 3, (some (b + 406)))])) B hin (apK ((al_old [(13, 120), (13, 120), (13, 120), (13, 41), (13, 41), (13, 41)] σ (by omega)).1.trans k_405)) wR_ap dX9_init_54 ?_
  refine z_aload_n B dX9_init_57 rfl 0 rfl ?_
  refine z_bipush (v := 41) B dX9_init_58 (by decide) ?_
  refine z_newI (kd := 13) (ti := 1) (atype := .int) (ty := .int) (n := 41) (a := (b + 412)) (σ' := (ap b (al σ [(13, 120), (13, 120), (13, 120), (13, 41), (13, 41), (13, 41), (13, 41)]) [(405, 2, 1)] [] [(405, 9, (some (b + 411))), (405, 8, (some (b + 410))), (405, 7, (some (b + 409))), (405, 5, (some (b + 408))), (405, 4, (some (b + 407))), (405, 3, (some (b + 406)))])) B (by decide) rfl wg_64 (by decide) (by decide) (by decide) (by decide) (by decide) dX9_init_60 (ap_Z hz rfl) (nw_al hz rfl rfl rfl rfl) ?_
  refine pF_X9_32 (x := (some (b + 412))) (σ' := (ap b (al σ [(13, 120), (13, 120), (13, 120), (13, 41), (13, 41), (13, 41), (13, 41)]) [(405, 2, 1)] [] [(405, 10, (some (b + 412))), (405, 9, (some (b + 411))), (405, 8, (some (b + 410))), (405, 7, (some (b + 409))), (405, 5, (some (b + 408))), (405, 4, (some (b + 407))), (405, 3, (some (b + 406)))])) B hin (apK ((al_old [(13, 120), (13, 120), (13, 120), (13, 41), (13, 41), (13, 41), (13, 41)] σ (by omega)).1.trans k_405)) wR_ap dX9_init_62 ?_
  refine z_aload_n B dX9_init_65 rfl 0 rfl ?_
  refine z_bipush (v := 41) B dX9_init_66 (by decide) ?_
  refine z_newI (kd := 13) (ti := 1) (atype := .int) (ty := .int) (n := 41) (a := (b + 413)) (σ' := (ap b (al σ [(13, 120), (13, 120), (13, 120), (13, 41), (13, 41), (13, 41), (13, 41), (13, 41)]) [(405, 2, 1)] [] [(405, 10, (some (b + 412))), (405, 9, (some (b + 411))), (405, 8, (some (b + 410))), (405, 7, (some (b + 409))), (405, 5, (some (b + 408))), (405, 4, (some (b + 407))), (405, 3, (some (b + 406)))])) B (by decide) rfl wg_64 (by decide) (by decide) (by decide) (by decide) (by decide) dX9_init_68 (ap_Z hz rfl) (nw_al hz rfl rfl rfl rfl) ?_
  refine pF_X9_35 (x := (some (b + 413))) (σ' := (ap b (al σ [(13, 120), (13, 120), (13, 120), (13, 41), (13, 41), (13, 41), (13, 41), (13, 41)]) [(405, 2, 1)] [] [(405, 11, (some (b + 413))), (405, 10, (some (b + 412))), (405, 9, (some (b + 411))), (405, 8, (some (b + 410))), (405, 7, (some (b + 409))), (405, 5, (some (b + 408))), (405, 4, (some (b + 407))), (405, 3, (some (b + 406)))])) B hin (apK ((al_old [(13, 120), (13, 120), (13, 120), (13, 41), (13, 41), (13, 41), (13, 41), (13, 41)] σ (by omega)).1.trans k_405)) wR_ap dX9_init_70 ?_
  refine z_aload_n B dX9_init_73 rfl 0 rfl ?_
  refine z_bipush (v := 41) B dX9_init_74 (by decide) ?_
  refine z_newI (kd := 13) (ti := 1) (atype := .int) (ty := .int) (n := 41) (a := (b + 414)) (σ' := (ap b (al σ [(13, 120), (13, 120), (13, 120), (13, 41), (13, 41), (13, 41), (13, 41), (13, 41), (13, 41)]) [(405, 2, 1)] [] [(405, 11, (some (b + 413))), (405, 10, (some (b + 412))), (405, 9, (some (b + 411))), (405, 8, (some (b + 410))), (405, 7, (some (b + 409))), (405, 5, (some (b + 408))), (405, 4, (some (b + 407))), (405, 3, (some (b + 406)))])) B (by decide) rfl wg_64 (by decide) (by decide) (by decide) (by decide) (by decide) dX9_init_76 (ap_Z hz rfl) (nw_al hz rfl rfl rfl rfl) ?_
  refine pF_X9_38 (x := (some (b + 414))) (σ' := (ap b (al σ [(13, 120), (13, 120), (13, 120), (13, 41), (13, 41), (13, 41), (13, 41), (13, 41), (13, 41)]) [(405, 2, 1)] [] [(405, 12, (some (b + 414))), (405, 11, (some (b + 413))), (405, 10, (some (b + 412))), (405, 9, (some (b + 411))), (405, 8, (some (b + 410))), (405, 7, (some (b + 409))), (405, 5, (some (b + 408))), (405, 4, (some (b + 407))), (405, 3, (some (b + 406)))])) B hin (apK ((al_old [(13, 120), (13, 120), (13, 120), (13, 41), (13, 41), (13, 41), (13, 41), (13, 41), (13, 41)] σ (by omega)).1.trans k_405)) wR_ap dX9_init_78 ?_
  refine z_aload_n B dX9_init_81 rfl 0 rfl ?_
  refine z_bipush (v := 41) B dX9_init_82 (by decide) ?_
  refine z_newI (kd := 13) (ti := 1) (atype := .int) (ty := .int) (n := 41) (a := (b + 415)) (σ' := (ap b (al σ [(13, 120), (13, 120), (13, 120), (13, 41), (13, 41), (13, 41), (13, 41), (13, 41), (13, 41), (13, 41)]) [(405, 2, 1)] [] [(405, 12, (some (b + 414))), (405, 11, (some (b + 413))), (405, 10, (some (b + 412))), (405, 9, (some (b + 411))), (405, 8, (some (b + 410))), (405, 7, (some (b + 409))), (405, 5, (some (b + 408))), (405, 4, (some (b + 407))), (405, 3, (some (b + 406)))])) B (by decide) rfl wg_64 (by decide) (by decide) (by decide) (by decide) (by decide) dX9_init_84 (ap_Z hz rfl) (nw_al hz rfl rfl rfl rfl) ?_
  refine pF_X9_41 (x := (some (b + 415))) (σ' := (ap b (al σ [(13, 120), (13, 120), (13, 120), (13, 41), (13, 41), (13, 41), (13, 41), (13, 41), (13, 41), (13, 41)]) [(405, 2, 1)] [] [(405, 13, (some (b + 415))), (405, 12, (some (b + 414))), (405, 11, (some (b + 413))), (405, 10, (some (b + 412))), (405, 9, (some (b + 411))), (405, 8, (some (b + 410))), (405, 7, (some (b + 409))), (405, 5, (some (b + 408))), (405, 4, (some (b + 407))), (405, 3, (some (b + 406)))])) B hin (apK ((al_old [(13, 120), (13, 120), (13, 120), (13, 41), (13, 41), (13, 41), (13, 41), (13, 41), (13, 41), (13, 41)] σ (by omega)).1.trans k_405)) wR_ap dX9_init_86 ?_
  refine z_aload_n B dX9_init_89 rfl 0 rfl ?_
  refine z_sipush (v := 6560) B dX9_init_90 (by decide) ?_
  refine z_newI (kd := 13) (ti := 1) (atype := .int) (ty := .int) (n := 6560) (a := (b + 416)) (σ' := (ap b (al σ [(13, 120), (13, 120), (13, 120), (13, 41), (13, 41), (13, 41), (13, 41), (13, 41), (13, 41), (13, 41), (13, 6560)]) [(405, 2, 1)] [] [(405, 13, (some (b + 415))), (405, 12, (some (b + 414))), (405, 11, (some (b + 413))), (405, 10, (some (b + 412))), (405, 9, (some (b + 411))), (405, 8, (some (b + 410))), (405, 7, (some (b + 409))), (405, 5, (some (b + 408))), (405, 4, (some (b + 407))), (405, 3, (some (b + 406)))])) B (by decide) rfl wg_64 (by decide) (by decide) (by decide) (by decide) (by decide) dX9_init_93 (ap_Z hz rfl) (nw_al hz rfl rfl rfl rfl) ?_
  refine pF_X9_44 (x := (some (b + 416))) (σ' := (ap b (al σ [(13, 120), (13, 120), (13, 120), (13, 41), (13, 41), (13, 41), (13, 41), (13, 41), (13, 41), (13, 41), (13, 6560)]) [(405, 2, 1)] [] [(405, 14, (some (b + 416))), (405, 13, (some (b + 415))), (405, 12, (some (b + 414))), (405, 11, (some (b + 413))), (405, 10, (some (b + 412))), (405, 9, (some (b + 411))), (405, 8, (some (b + 410))), (405, 7, (some (b + 409))), (405, 5, (some (b + 408))), (405, 4, (some (b + 407))), (405, 3, (some (b + 406)))])) B hin (apK ((al_old [(13, 120), (13, 120), (13, 120), (13, 41), (13, 41), (13, 41), (13, 41), (13, 41), (13, 41), (13, 41), (13, 6560)] σ (by omega)).1.trans k_405)) wR_ap dX9_init_95 ?_
  refine z_aload_n B dX9_init_98 rfl 0 rfl ?_
  refine z_sipush (v := 6560) B dX9_init_99 (by decide) ?_
  refine z_newJ (atype := .long) (n := 6560) (a := (b + 417)) (σ' := (ap b (al σ [(13, 120), (13, 120), (13, 120), (13, 41), (13, 41), (13, 41), (13, 41), (13, 41), (13, 41), (13, 41), (13, 6560), (14, 6560)]) [(405, 2, 1)] [] [(405, 14, (some (b + 416))), (405, 13, (some (b + 415))), (405, 12, (some (b + 414))), (405, 11, (some (b + 413))), (405, 10, (some (b + 412))), (405, 9, (some (b + 411))), (405, 8, (some (b + 410))), (405, 7, (some (b + 409))), (405, 5, (some (b + 408))), (405, 4, (some (b + 407))), (405, 3, (some (b + 406)))])) B rfl wg_118 (by decide) (by decide) (by decide) (by decide) (by decide) dX9_init_102 (ap_Z hz rfl) (nw_al hz rfl rfl rfl rfl) ?_
  refine pF_X9_47 (x := (some (b + 417))) (σ' := (ap b (al σ [(13, 120), (13, 120), (13, 120), (13, 41), (13, 41), (13, 41), (13, 41), (13, 41), (13, 41), (13, 41), (13, 6560), (14, 6560)]) [(405, 2, 1)] [] [(405, 15, (some (b + 417))), (405, 14, (some (b + 416))), (405, 13, (some (b + 415))), (405, 12, (some (b + 414))), (405, 11, (some (b + 413))), (405, 10, (some (b + 412))), (405, 9, (some (b + 411))), (405, 8, (some (b + 410))), (405, 7, (some (b + 409))), (405, 5, (some (b + 408))), (405, 4, (some (b + 407))), (405, 3, (some (b + 406)))])) B hin (apK ((al_old [(13, 120), (13, 120), (13, 120), (13, 41), (13, 41), (13, 41), (13, 41), (13, 41), (13, 41), (13, 41), (13, 6560), (14, 6560)] σ (by omega)).1.trans k_405)) wR_ap dX9_init_104 ?_
  refine z_aload_n B dX9_init_107 rfl 0 rfl ?_
  refine z_sipush (v := 2100) B dX9_init_108 (by decide) ?_
  refine z_newI (kd := 13) (ti := 1) (atype := .int) (ty := .int) (n := 2100) (a := (b + 418)) (σ' := (ap b (al σ [(13, 120), (13, 120), (13, 120), (13, 41), (13, 41), (13, 41), (13, 41), (13, 41), (13, 41), (13, 41), (13, 6560), (14, 6560), (13, 2100)]) [(405, 2, 1)] [] [(405, 15, (some (b + 417))), (405, 14, (some (b + 416))), (405, 13, (some (b + 415))), (405, 12, (some (b + 414))), (405, 11, (some (b + 413))), (405, 10, (some (b + 412))), (405, 9, (some (b + 411))), (405, 8, (some (b + 410))), (405, 7, (some (b + 409))), (405, 5, (some (b + 408))), (405, 4, (some (b + 407))), (405, 3, (some (b + 406)))])) B (by decide) rfl wg_64 (by decide) (by decide) (by decide) (by decide) (by decide) dX9_init_111 (ap_Z hz rfl) (nw_al hz rfl rfl rfl rfl) ?_
  refine pF_X9_51 (x := (some (b + 418))) (σ' := (ap b (al σ [(13, 120), (13, 120), (13, 120), (13, 41), (13, 41), (13, 41), (13, 41), (13, 41), (13, 41), (13, 41), (13, 6560), (14, 6560), (13, 2100)]) [(405, 2, 1)] [] [(405, 17, (some (b + 418))), (405, 15, (some (b + 417))), (405, 14, (some (b + 416))), (405, 13, (some (b + 415))), (405, 12, (some (b + 414))), (405, 11, (some (b + 413))), (405, 10, (some (b + 412))), (405, 9, (some (b + 411))), (405, 8, (some (b + 410))), (405, 7, (some (b + 409))), (405, 5, (some (b + 408))), (405, 4, (some (b + 407))), (405, 3, (some (b + 406)))])) B hin (apK ((al_old [(13, 120), (13, 120), (13, 120), (13, 41), (13, 41), (13, 41), (13, 41), (13, 41), (13, 41), (13, 41), (13, 6560), (14, 6560), (13, 2100)] σ (by omega)).1.trans k_405)) wR_ap dX9_init_113 ?_
  refine z_aload_n B dX9_init_116 rfl 0 rfl ?_
  refine z_sipush (v := 2100) B dX9_init_117 (by decide) ?_
  refine z_newI (kd := 13) (ti := 1) (atype := .int) (ty := .int) (n := 2100) (a := (b + 419)) (σ' := (ap b (al σ [(13, 120), (13, 120), (13, 120), (13, 41), (13, 41), (13, 41), (13, 41), (13, 41), (13, 41), (13, 41), (13, 6560), (14, 6560), (13, 2100), (13, 2100)]) [(405, 2, 1)] [] [(405, 17, (some (b + 418))), (405, 15, (some (b + 417))), (405, 14, (some (b + 416))), (405, 13, (some (b + 415))), (405, 12, (some (b + 414))), (405, 11, (some (b + 413))), (405, 10, (some (b + 412))), (405, 9, (some (b + 411))), (405, 8, (some (b + 410))), (405, 7, (some (b + 409))), (405, 5, (some (b + 408))), (405, 4, (some (b + 407))), (405, 3, (some (b + 406)))])) B (by decide) rfl wg_64 (by decide) (by decide) (by decide) (by decide) (by decide) dX9_init_120 (ap_Z hz rfl) (nw_al hz rfl rfl rfl rfl) ?_
  refine pF_X9_54 (x := (some (b + 419))) (σ' := (ap b (al σ [(13, 120), (13, 120), (13, 120), (13, 41), (13, 41), (13, 41), (13, 41), (13, 41), (13, 41), (13, 41), (13, 6560), (14, 6560), (13, 2100), (13, 2100)]) [(405, 2, 1)] [] [(405, 18, (some (b + 419))), (405, 17, (some (b + 418))), (405, 15, (some (b + 417))), (405, 14, (some (b + 416))), (405, 13, (some (b + 415))), (405, 12, (some (b + 414))), (405, 11, (some (b + 413))), (405, 10, (some (b + 412))), (405, 9, (some (b + 411))), (405, 8, (some (b + 410))), (405, 7, (some (b + 409))), (405, 5, (some (b + 408))), (405, 4, (some (b + 407))), (405, 3, (some (b + 406)))])) B hin (apK ((al_old [(13, 120), (13, 120), (13, 120), (13, 41), (13, 41), (13, 41), (13, 41), (13, 41), (13, 41), (13, 41), (13, 6560), (14, 6560), (13, 2100), (13, 2100)] σ (by omega)).1.trans k_405)) wR_ap dX9_init_122 ?_
  refine z_aload_n B dX9_init_125 rfl 0 rfl ?_
  refine z_sipush (v := 2100) B dX9_init_126 (by decide) ?_
  refine z_newI (kd := 13) (ti := 1) (atype := .int) (ty := .int) (n := 2100) (a := (b + 420)) (σ' := (ap b (al σ [(13, 120), (13, 120), (13, 120), (13, 41), (13, 41), (13, 41), (13, 41), (13, 41), (13, 41), (13, 41), (13, 6560), (14, 6560), (13, 2100), (13, 2100), (13, 2100)]) [(405, 2, 1)] [] [(405, 18, (some (b + 419))), (405, 17, (some (b + 418))), (405, 15, (some (b + 417))), (405, 14, (some (b + 416))), (405, 13, (some (b + 415))), (405, 12, (some (b + 414))), (405, 11, (some (b + 413))), (405, 10, (some (b + 412))), (405, 9, (some (b + 411))), (405, 8, (some (b + 410))), (405, 7, (some (b + 409))), (405, 5, (some (b + 408))), (405, 4, (some (b + 407))), (405, 3, (some (b + 406)))])) B (by decide) rfl wg_64 (by decide) (by decide) (by decide) (by decide) (by decide) dX9_init_129 (ap_Z hz rfl) (nw_al hz rfl rfl rfl rfl) ?_
  refine pF_X9_57 (x := (some (b + 420))) (σ' := (ap b (al σ [(13, 120), (13, 120), (13, 120), (13, 41), (13, 41), (13, 41), (13, 41), (13, 41), (13, 41), (13, 41), (13, 6560), (14, 6560), (13, 2100), (13, 2100), (13, 2100)]) [(405, 2, 1)] [] [(405, 19, (some (b + 420))), (405, 18, (some (b + 419))), (405, 17, (some (b + 418))), (405, 15, (some (b + 417))), (405, 14, (some (b + 416))), (405, 13, (some (b + 415))), (405, 12, (some (b + 414))), (405, 11, (some (b + 413))), (405, 10, (some (b + 412))), (405, 9, (some (b + 411))), (405, 8, (some (b + 410))), (405, 7, (some (b + 409))), (405, 5, (some (b + 408))), (405, 4, (some (b + 407))), (405, 3, (some (b + 406)))])) B hin (apK ((al_old [(13, 120), (13, 120), (13, 120), (13, 41), (13, 41), (13, 41), (13, 41), (13, 41), (13, 41), (13, 41), (13, 6560), (14, 6560), (13, 2100), (13, 2100), (13, 2100)] σ (by omega)).1.trans k_405)) wR_ap dX9_init_131 ?_
  refine z_aload_n B dX9_init_134 rfl 0 rfl ?_
  refine z_sipush (v := 2100) B dX9_init_135 (by decide) ?_
  refine z_newI (kd := 13) (ti := 1) (atype := .int) (ty := .int) (n := 2100) (a := (b + 421)) (σ' := (ap b (al σ [(13, 120), (13, 120), (13, 120), (13, 41), (13, 41), (13, 41), (13, 41), (13, 41), (13, 41), (13, 41), (13, 6560), (14, 6560), (13, 2100), (13, 2100), (13, 2100), (13, 2100)]) [(405, 2, 1)] [] [(405, 19, (some (b + 420))), (405, 18, (some (b + 419))), (405, 17, (some (b + 418))), (405, 15, (some (b + 417))), (405, 14, (some (b + 416))), (405, 13, (some (b + 415))), (405, 12, (some (b + 414))), (405, 11, (some (b + 413))), (405, 10, (some (b + 412))), (405, 9, (some (b + 411))), (405, 8, (some (b + 410))), (405, 7, (some (b + 409))), (405, 5, (some (b + 408))), (405, 4, (some (b + 407))), (405, 3, (some (b + 406)))])) B (by decide) rfl wg_64 (by decide) (by decide) (by decide) (by decide) (by decide) dX9_init_138 (ap_Z hz rfl) (nw_al hz rfl rfl rfl rfl) ?_
  refine pF_X9_60 (x := (some (b + 421))) (σ' := (ap b (al σ [(13, 120), (13, 120), (13, 120), (13, 41), (13, 41), (13, 41), (13, 41), (13, 41), (13, 41), (13, 41), (13, 6560), (14, 6560), (13, 2100), (13, 2100), (13, 2100), (13, 2100)]) [(405, 2, 1)] [] [(405, 20, (some (b + 421))), (405, 19, (some (b + 420))), (405, 18, (some (b + 419))), (405, 17, (some (b + 418))), (405, 15, (some (b + 417))), (405, 14, (some (b + 416))), (405, 13, (some (b + 415))), (405, 12, (some (b + 414))), (405, 11, (some (b + 413))), (405, 10, (some (b + 412))), (405, 9, (some (b + 411))), (405, 8, (some (b + 410))), (405, 7, (some (b + 409))), (405, 5, (some (b + 408))), (405, 4, (some (b + 407))), (405, 3, (some (b + 406)))])) B hin (apK ((al_old [(13, 120), (13, 120), (13, 120), (13, 41), (13, 41), (13, 41), (13, 41), (13, 41), (13, 41), (13, 41), (13, 6560), (14, 6560), (13, 2100), (13, 2100), (13, 2100), (13, 2100)] σ (by omega)).1.trans k_405)) wR_ap dX9_init_140 ?_
  refine z_aload_n B dX9_init_143 rfl 0 rfl ?_
  refine z_sipush (v := 2100) B dX9_init_144 (by decide) ?_
  refine z_newI (kd := 13) (ti := 1) (atype := .int) (ty := .int) (n := 2100) (a := (b + 422)) (σ' := (ap b (al σ [(13, 120), (13, 120), (13, 120), (13, 41), (13, 41), (13, 41), (13, 41), (13, 41), (13, 41), (13, 41), (13, 6560), (14, 6560), (13, 2100), (13, 2100), (13, 2100), (13, 2100), (13, 2100)]) [(405, 2, 1)] [] [(405, 20, (some (b + 421))), (405, 19, (some (b + 420))), (405, 18, (some (b + 419))), (405, 17, (some (b + 418))), (405, 15, (some (b + 417))), (405, 14, (some (b + 416))), (405, 13, (some (b + 415))), (405, 12, (some (b + 414))), (405, 11, (some (b + 413))), (405, 10, (some (b + 412))), (405, 9, (some (b + 411))), (405, 8, (some (b + 410))), (405, 7, (some (b + 409))), (405, 5, (some (b + 408))), (405, 4, (some (b + 407))), (405, 3, (some (b + 406)))])) B (by decide) rfl wg_64 (by decide) (by decide) (by decide) (by decide) (by decide) dX9_init_147 (ap_Z hz rfl) (nw_al hz rfl rfl rfl rfl) ?_
  refine pF_X9_63 (x := (some (b + 422))) (σ' := (ap b (al σ [(13, 120), (13, 120), (13, 120), (13, 41), (13, 41), (13, 41), (13, 41), (13, 41), (13, 41), (13, 41), (13, 6560), (14, 6560), (13, 2100), (13, 2100), (13, 2100), (13, 2100), (13, 2100)]) [(405, 2, 1)] [] [(405, 21, (some (b + 422))), (405, 20, (some (b + 421))), (405, 19, (some (b + 420))), (405, 18, (some (b + 419))), (405, 17, (some (b + 418))), (405, 15, (some (b + 417))), (405, 14, (some (b + 416))), (405, 13, (some (b + 415))), (405, 12, (some (b + 414))), (405, 11, (some (b + 413))), (405, 10, (some (b + 412))), (405, 9, (some (b + 411))), (405, 8, (some (b + 410))), (405, 7, (some (b + 409))), (405, 5, (some (b + 408))), (405, 4, (some (b + 407))), (405, 3, (some (b + 406)))])) B hin (apK ((al_old [(13, 120), (13, 120), (13, 120), (13, 41), (13, 41), (13, 41), (13, 41), (13, 41), (13, 41), (13, 41), (13, 6560), (14, 6560), (13, 2100), (13, 2100), (13, 2100), (13, 2100), (13, 2100)] σ (by omega)).1.trans k_405)) wR_ap dX9_init_149 ?_
  refine z_aload_n B dX9_init_152 rfl 0 rfl ?_
  refine z_sipush (v := 2100) B dX9_init_153 (by decide) ?_
  refine z_newI (kd := 13) (ti := 1) (atype := .int) (ty := .int) (n := 2100) (a := (b + 423)) (σ' := (ap b (al σ [(13, 120), (13, 120), (13, 120), (13, 41), (13, 41), (13, 41), (13, 41), (13, 41), (13, 41), (13, 41), (13, 6560), (14, 6560), (13, 2100), (13, 2100), (13, 2100), (13, 2100), (13, 2100), (13, 2100)]) [(405, 2, 1)] [] [(405, 21, (some (b + 422))), (405, 20, (some (b + 421))), (405, 19, (some (b + 420))), (405, 18, (some (b + 419))), (405, 17, (some (b + 418))), (405, 15, (some (b + 417))), (405, 14, (some (b + 416))), (405, 13, (some (b + 415))), (405, 12, (some (b + 414))), (405, 11, (some (b + 413))), (405, 10, (some (b + 412))), (405, 9, (some (b + 411))), (405, 8, (some (b + 410))), (405, 7, (some (b + 409))), (405, 5, (some (b + 408))), (405, 4, (some (b + 407))), (405, 3, (some (b + 406)))])) B (by decide) rfl wg_64 (by decide) (by decide) (by decide) (by decide) (by decide) dX9_init_156 (ap_Z hz rfl) (nw_al hz rfl rfl rfl rfl) ?_
  refine pF_X9_66 (x := (some (b + 423))) (σ' := (ap b (al σ [(13, 120), (13, 120), (13, 120), (13, 41), (13, 41), (13, 41), (13, 41), (13, 41), (13, 41), (13, 41), (13, 6560), (14, 6560), (13, 2100), (13, 2100), (13, 2100), (13, 2100), (13, 2100), (13, 2100)]) [(405, 2, 1)] [] [(405, 22, (some (b + 423))), (405, 21, (some (b + 422))), (405, 20, (some (b + 421))), (405, 19, (some (b + 420))), (405, 18, (some (b + 419))), (405, 17, (some (b + 418))), (405, 15, (some (b + 417))), (405, 14, (some (b + 416))), (405, 13, (some (b + 415))), (405, 12, (some (b + 414))), (405, 11, (some (b + 413))), (405, 10, (some (b + 412))), (405, 9, (some (b + 411))), (405, 8, (some (b + 410))), (405, 7, (some (b + 409))), (405, 5, (some (b + 408))), (405, 4, (some (b + 407))), (405, 3, (some (b + 406)))])) B hin (apK ((al_old [(13, 120), (13, 120), (13, 120), (13, 41), (13, 41), (13, 41), (13, 41), (13, 41), (13, 41), (13, 41), (13, 6560), (14, 6560), (13, 2100), (13, 2100), (13, 2100), (13, 2100), (13, 2100), (13, 2100)] σ (by omega)).1.trans k_405)) wR_ap dX9_init_158 ?_
  refine z_aload_n B dX9_init_161 rfl 0 rfl ?_
  refine z_bipush (v := 6) B dX9_init_162 (by decide) ?_
  refine z_newI (kd := 13) (ti := 1) (atype := .int) (ty := .int) (n := 6) (a := (b + 424)) (σ' := (ap b (al σ [(13, 120), (13, 120), (13, 120), (13, 41), (13, 41), (13, 41), (13, 41), (13, 41), (13, 41), (13, 41), (13, 6560), (14, 6560), (13, 2100), (13, 2100), (13, 2100), (13, 2100), (13, 2100), (13, 2100), (13, 6)]) [(405, 2, 1)] [] [(405, 22, (some (b + 423))), (405, 21, (some (b + 422))), (405, 20, (some (b + 421))), (405, 19, (some (b + 420))), (405, 18, (some (b + 419))), (405, 17, (some (b + 418))), (405, 15, (some (b + 417))), (405, 14, (some (b + 416))), (405, 13, (some (b + 415))), (405, 12, (some (b + 414))), (405, 11, (some (b + 413))), (405, 10, (some (b + 412))), (405, 9, (some (b + 411))), (405, 8, (some (b + 410))), (405, 7, (some (b + 409))), (405, 5, (some (b + 408))), (405, 4, (some (b + 407))), (405, 3, (some (b + 406)))])) B (by decide) rfl wg_64 (by decide) (by decide) (by decide) (by decide) (by decide) dX9_init_164 (ap_Z hz rfl) (nw_al hz rfl rfl rfl rfl) ?_
  refine pF_X9_69 (x := (some (b + 424))) (σ' := (ap b (al σ [(13, 120), (13, 120), (13, 120), (13, 41), (13, 41), (13, 41), (13, 41), (13, 41), (13, 41), (13, 41), (13, 6560), (14, 6560), (13, 2100), (13, 2100), (13, 2100), (13, 2100), (13, 2100), (13, 2100), (13, 6)]) [(405, 2, 1)] [] [(405, 25, (some (b + 424))), (405, 22, (some (b + 423))), (405, 21, (some (b + 422))), (405, 20, (some (b + 421))), (405, 19, (some (b + 420))), (405, 18, (some (b + 419))), (405, 17, (some (b + 418))), (405, 15, (some (b + 417))), (405, 14, (some (b + 416))), (405, 13, (some (b + 415))), (405, 12, (some (b + 414))), (405, 11, (some (b + 413))), (405, 10, (some (b + 412))), (405, 9, (some (b + 411))), (405, 8, (some (b + 410))), (405, 7, (some (b + 409))), (405, 5, (some (b + 408))), (405, 4, (some (b + 407))), (405, 3, (some (b + 406)))])) B hin (apK ((al_old [(13, 120), (13, 120), (13, 120), (13, 41), (13, 41), (13, 41), (13, 41), (13, 41), (13, 41), (13, 41), (13, 6560), (14, 6560), (13, 2100), (13, 2100), (13, 2100), (13, 2100), (13, 2100), (13, 2100), (13, 6)] σ (by omega)).1.trans k_405)) wR_ap dX9_init_166 ?_
  refine z_aload_n B dX9_init_169 rfl 0 rfl ?_
  refine z_bipush (v := 20) B dX9_init_170 (by decide) ?_
  refine z_newI (kd := 13) (ti := 1) (atype := .int) (ty := .int) (n := 20) (a := (b + 425)) (σ' := (ap b (al σ [(13, 120), (13, 120), (13, 120), (13, 41), (13, 41), (13, 41), (13, 41), (13, 41), (13, 41), (13, 41), (13, 6560), (14, 6560), (13, 2100), (13, 2100), (13, 2100), (13, 2100), (13, 2100), (13, 2100), (13, 6), (13, 20)]) [(405, 2, 1)] [] [(405, 25, (some (b + 424))), (405, 22, (some (b + 423))), (405, 21, (some (b + 422))), (405, 20, (some (b + 421))), (405, 19, (some (b + 420))), (405, 18, (some (b + 419))), (405, 17, (some (b + 418))), (405, 15, (some (b + 417))), (405, 14, (some (b + 416))), (405, 13, (some (b + 415))), (405, 12, (some (b + 414))), (405, 11, (some (b + 413))), (405, 10, (some (b + 412))), (405, 9, (some (b + 411))), (405, 8, (some (b + 410))), (405, 7, (some (b + 409))), (405, 5, (some (b + 408))), (405, 4, (some (b + 407))), (405, 3, (some (b + 406)))])) B (by decide) rfl wg_64 (by decide) (by decide) (by decide) (by decide) (by decide) dX9_init_172 (ap_Z hz rfl) (nw_al hz rfl rfl rfl rfl) ?_
  refine pF_X9_72 (x := (some (b + 425))) (σ' := (ap b (al σ [(13, 120), (13, 120), (13, 120), (13, 41), (13, 41), (13, 41), (13, 41), (13, 41), (13, 41), (13, 41), (13, 6560), (14, 6560), (13, 2100), (13, 2100), (13, 2100), (13, 2100), (13, 2100), (13, 2100), (13, 6), (13, 20)]) [(405, 2, 1)] [] [(405, 33, (some (b + 425))), (405, 25, (some (b + 424))), (405, 22, (some (b + 423))), (405, 21, (some (b + 422))), (405, 20, (some (b + 421))), (405, 19, (some (b + 420))), (405, 18, (some (b + 419))), (405, 17, (some (b + 418))), (405, 15, (some (b + 417))), (405, 14, (some (b + 416))), (405, 13, (some (b + 415))), (405, 12, (some (b + 414))), (405, 11, (some (b + 413))), (405, 10, (some (b + 412))), (405, 9, (some (b + 411))), (405, 8, (some (b + 410))), (405, 7, (some (b + 409))), (405, 5, (some (b + 408))), (405, 4, (some (b + 407))), (405, 3, (some (b + 406)))])) B hin (apK ((al_old [(13, 120), (13, 120), (13, 120), (13, 41), (13, 41), (13, 41), (13, 41), (13, 41), (13, 41), (13, 41), (13, 6560), (14, 6560), (13, 2100), (13, 2100), (13, 2100), (13, 2100), (13, 2100), (13, 2100), (13, 6), (13, 20)] σ (by omega)).1.trans k_405)) wR_ap dX9_init_174 ?_
  refine z_aload_n B dX9_init_177 rfl 0 rfl ?_
  refine z_sipush (v := 160) B dX9_init_178 (by decide) ?_
  refine z_newI (kd := 13) (ti := 1) (atype := .int) (ty := .int) (n := 160) (a := (b + 426)) (σ' := (ap b (al σ [(13, 120), (13, 120), (13, 120), (13, 41), (13, 41), (13, 41), (13, 41), (13, 41), (13, 41), (13, 41), (13, 6560), (14, 6560), (13, 2100), (13, 2100), (13, 2100), (13, 2100), (13, 2100), (13, 2100), (13, 6), (13, 20), (13, 160)]) [(405, 2, 1)] [] [(405, 33, (some (b + 425))), (405, 25, (some (b + 424))), (405, 22, (some (b + 423))), (405, 21, (some (b + 422))), (405, 20, (some (b + 421))), (405, 19, (some (b + 420))), (405, 18, (some (b + 419))), (405, 17, (some (b + 418))), (405, 15, (some (b + 417))), (405, 14, (some (b + 416))), (405, 13, (some (b + 415))), (405, 12, (some (b + 414))), (405, 11, (some (b + 413))), (405, 10, (some (b + 412))), (405, 9, (some (b + 411))), (405, 8, (some (b + 410))), (405, 7, (some (b + 409))), (405, 5, (some (b + 408))), (405, 4, (some (b + 407))), (405, 3, (some (b + 406)))])) B (by decide) rfl wg_64 (by decide) (by decide) (by decide) (by decide) (by decide) dX9_init_181 (ap_Z hz rfl) (nw_al hz rfl rfl rfl rfl) ?_
  refine pF_X9_75 (x := (some (b + 426))) (σ' := (ap b (al σ [(13, 120), (13, 120), (13, 120), (13, 41), (13, 41), (13, 41), (13, 41), (13, 41), (13, 41), (13, 41), (13, 6560), (14, 6560), (13, 2100), (13, 2100), (13, 2100), (13, 2100), (13, 2100), (13, 2100), (13, 6), (13, 20), (13, 160)]) [(405, 2, 1)] [] [(405, 40, (some (b + 426))), (405, 33, (some (b + 425))), (405, 25, (some (b + 424))), (405, 22, (some (b + 423))), (405, 21, (some (b + 422))), (405, 20, (some (b + 421))), (405, 19, (some (b + 420))), (405, 18, (some (b + 419))), (405, 17, (some (b + 418))), (405, 15, (some (b + 417))), (405, 14, (some (b + 416))), (405, 13, (some (b + 415))), (405, 12, (some (b + 414))), (405, 11, (some (b + 413))), (405, 10, (some (b + 412))), (405, 9, (some (b + 411))), (405, 8, (some (b + 410))), (405, 7, (some (b + 409))), (405, 5, (some (b + 408))), (405, 4, (some (b + 407))), (405, 3, (some (b + 406)))])) B hin (apK ((al_old [(13, 120), (13, 120), (13, 120), (13, 41), (13, 41), (13, 41), (13, 41), (13, 41), (13, 41), (13, 41), (13, 6560), (14, 6560), (13, 2100), (13, 2100), (13, 2100), (13, 2100), (13, 2100), (13, 2100), (13, 6), (13, 20), (13, 160)] σ (by omega)).1.trans k_405)) wR_ap dX9_init_183 ?_
  refine z_aload_n B dX9_init_186 rfl 0 rfl ?_
  refine z_sipush (v := 160) B dX9_init_187 (by decide) ?_
  refine z_newI (kd := 13) (ti := 1) (atype := .int) (ty := .int) (n := 160) (a := (b + 427)) (σ' := (ap b (al σ [(13, 120), (13, 120), (13, 120), (13, 41), (13, 41), (13, 41), (13, 41), (13, 41), (13, 41), (13, 41), (13, 6560), (14, 6560), (13, 2100), (13, 2100), (13, 2100), (13, 2100), (13, 2100), (13, 2100), (13, 6), (13, 20), (13, 160), (13, 160)]) [(405, 2, 1)] [] [(405, 40, (some (b + 426))), (405, 33, (some (b + 425))), (405, 25, (some (b + 424))), (405, 22, (some (b + 423))), (405, 21, (some (b + 422))), (405, 20, (some (b + 421))), (405, 19, (some (b + 420))), (405, 18, (some (b + 419))), (405, 17, (some (b + 418))), (405, 15, (some (b + 417))), (405, 14, (some (b + 416))), (405, 13, (some (b + 415))), (405, 12, (some (b + 414))), (405, 11, (some (b + 413))), (405, 10, (some (b + 412))), (405, 9, (some (b + 411))), (405, 8, (some (b + 410))), (405, 7, (some (b + 409))), (405, 5, (some (b + 408))), (405, 4, (some (b + 407))), (405, 3, (some (b + 406)))])) B (by decide) rfl wg_64 (by decide) (by decide) (by decide) (by decide) (by decide) dX9_init_190 (ap_Z hz rfl) (nw_al hz rfl rfl rfl rfl) ?_
  refine pF_X9_78 (x := (some (b + 427))) (σ' := (ap b (al σ [(13, 120), (13, 120), (13, 120), (13, 41), (13, 41), (13, 41), (13, 41), (13, 41), (13, 41), (13, 41), (13, 6560), (14, 6560), (13, 2100), (13, 2100), (13, 2100), (13, 2100), (13, 2100), (13, 2100), (13, 6), (13, 20), (13, 160), (13, 160)]) [(405, 2, 1)] [] [(405, 41, (some (b + 427))), (405, 40, (some (b + 426))), (405, 33, (some (b + 425))), (405, 25, (some (b + 424))), (405, 22, (some (b + 423))), (405, 21, (some (b + 422))), (405, 20, (some (b + 421))), (405, 19, (some (b + 420))), (405, 18, (some (b + 419))), (405, 17, (some (b + 418))), (405, 15, (some (b + 417))), (405, 14, (some (b + 416))), (405, 13, (some (b + 415))), (405, 12, (some (b + 414))), (405, 11, (some (b + 413))), (405, 10, (some (b + 412))), (405, 9, (some (b + 411))), (405, 8, (some (b + 410))), (405, 7, (some (b + 409))), (405, 5, (some (b + 408))), (405, 4, (some (b + 407))), (405, 3, (some (b + 406)))])) B hin (apK ((al_old [(13, 120), (13, 120), (13, 120), (13, 41), (13, 41), (13, 41), (13, 41), (13, 41), (13, 41), (13, 41), (13, 6560), (14, 6560), (13, 2100), (13, 2100), (13, 2100), (13, 2100), (13, 2100), (13, 2100), (13, 6), (13, 20), (13, 160), (13, 160)] σ (by omega)).1.trans k_405)) wR_ap dX9_init_192 ?_
  refine z_aload_n B dX9_init_195 rfl 0 rfl ?_
  refine z_bipush (v := 50) B dX9_init_196 (by decide) ?_
  refine z_newI (kd := 13) (ti := 1) (atype := .int) (ty := .int) (n := 50) (a := (b + 428)) (σ' := (ap b (al σ [(13, 120), (13, 120), (13, 120), (13, 41), (13, 41), (13, 41), (13, 41), (13, 41), (13, 41), (13, 41), (13, 6560), (14, 6560), (13, 2100), (13, 2100), (13, 2100), (13, 2100), (13, 2100), (13, 2100), (13, 6), (13, 20), (13, 160), (13, 160), (13, 50)]) [(405, 2, 1)] [] [(405, 41, (some (b + 427))), (405, 40, (some (b + 426))), (405, 33, (some (b + 425))), (405, 25, (some (b + 424))), (405, 22, (some (b + 423))), (405, 21, (some (b + 422))), (405, 20, (some (b + 421))), (405, 19, (some (b + 420))), (405, 18, (some (b + 419))), (405, 17, (some (b + 418))), (405, 15, (some (b + 417))), (405, 14, (some (b + 416))), (405, 13, (some (b + 415))), (405, 12, (some (b + 414))), (405, 11, (some (b + 413))), (405, 10, (some (b + 412))), (405, 9, (some (b + 411))), (405, 8, (some (b + 410))), (405, 7, (some (b + 409))), (405, 5, (some (b + 408))), (405, 4, (some (b + 407))), (405, 3, (some (b + 406)))])) B (by decide) rfl wg_64 (by decide) (by decide) (by decide) (by decide) (by decide) dX9_init_198 (ap_Z hz rfl) (nw_al hz rfl rfl rfl rfl) ?_
  refine pF_X9_81 (x := (some (b + 428))) (σ' := (ap b (al σ [(13, 120), (13, 120), (13, 120), (13, 41), (13, 41), (13, 41), (13, 41), (13, 41), (13, 41), (13, 41), (13, 6560), (14, 6560), (13, 2100), (13, 2100), (13, 2100), (13, 2100), (13, 2100), (13, 2100), (13, 6), (13, 20), (13, 160), (13, 160), (13, 50)]) [(405, 2, 1)] [] [(405, 42, (some (b + 428))), (405, 41, (some (b + 427))), (405, 40, (some (b + 426))), (405, 33, (some (b + 425))), (405, 25, (some (b + 424))), (405, 22, (some (b + 423))), (405, 21, (some (b + 422))), (405, 20, (some (b + 421))), (405, 19, (some (b + 420))), (405, 18, (some (b + 419))), (405, 17, (some (b + 418))), (405, 15, (some (b + 417))), (405, 14, (some (b + 416))), (405, 13, (some (b + 415))), (405, 12, (some (b + 414))), (405, 11, (some (b + 413))), (405, 10, (some (b + 412))), (405, 9, (some (b + 411))), (405, 8, (some (b + 410))), (405, 7, (some (b + 409))), (405, 5, (some (b + 408))), (405, 4, (some (b + 407))), (405, 3, (some (b + 406)))])) B hin (apK ((al_old [(13, 120), (13, 120), (13, 120), (13, 41), (13, 41), (13, 41), (13, 41), (13, 41), (13, 41), (13, 41), (13, 6560), (14, 6560), (13, 2100), (13, 2100), (13, 2100), (13, 2100), (13, 2100), (13, 2100), (13, 6), (13, 20), (13, 160), (13, 160), (13, 50)] σ (by omega)).1.trans k_405)) wR_ap dX9_init_200 ?_
  refine z_aload_n B dX9_init_203 rfl 0 rfl ?_
  refine z_sipush (v := 400) B dX9_init_204 (by decide) ?_
  refine z_newI (kd := 13) (ti := 1) (atype := .int) (ty := .int) (n := 400) (a := (b + 429)) (σ' := (ap b (al σ [(13, 120), (13, 120), (13, 120), (13, 41), (13, 41), (13, 41), (13, 41), (13, 41), (13, 41), (13, 41), (13, 6560), (14, 6560), (13, 2100), (13, 2100), (13, 2100), (13, 2100), (13, 2100), (13, 2100), (13, 6), (13, 20), (13, 160), (13, 160), (13, 50), (13, 400)]) [(405, 2, 1)] [] [(405, 42, (some (b + 428))), (405, 41, (some (b + 427))), (405, 40, (some (b + 426))), (405, 33, (some (b + 425))), (405, 25, (some (b + 424))), (405, 22, (some (b + 423))), (405, 21, (some (b + 422))), (405, 20, (some (b + 421))), (405, 19, (some (b + 420))), (405, 18, (some (b + 419))), (405, 17, (some (b + 418))), (405, 15, (some (b + 417))), (405, 14, (some (b + 416))), (405, 13, (some (b + 415))), (405, 12, (some (b + 414))), (405, 11, (some (b + 413))), (405, 10, (some (b + 412))), (405, 9, (some (b + 411))), (405, 8, (some (b + 410))), (405, 7, (some (b + 409))), (405, 5, (some (b + 408))), (405, 4, (some (b + 407))), (405, 3, (some (b + 406)))])) B (by decide) rfl wg_64 (by decide) (by decide) (by decide) (by decide) (by decide) dX9_init_207 (ap_Z hz rfl) (nw_al hz rfl rfl rfl rfl) ?_
  refine pF_X9_84 (x := (some (b + 429))) (σ' := (ap b (al σ [(13, 120), (13, 120), (13, 120), (13, 41), (13, 41), (13, 41), (13, 41), (13, 41), (13, 41), (13, 41), (13, 6560), (14, 6560), (13, 2100), (13, 2100), (13, 2100), (13, 2100), (13, 2100), (13, 2100), (13, 6), (13, 20), (13, 160), (13, 160), (13, 50), (13, 400)]) [(405, 2, 1)] [] [(405, 44, (some (b + 429))), (405, 42, (some (b + 428))), (405, 41, (some (b + 427))), (405, 40, (some (b + 426))), (405, 33, (some (b + 425))), (405, 25, (some (b + 424))), (405, 22, (some (b + 423))), (405, 21, (some (b + 422))), (405, 20, (some (b + 421))), (405, 19, (some (b + 420))), (405, 18, (some (b + 419))), (405, 17, (some (b + 418))), (405, 15, (some (b + 417))), (405, 14, (some (b + 416))), (405, 13, (some (b + 415))), (405, 12, (some (b + 414))), (405, 11, (some (b + 413))), (405, 10, (some (b + 412))), (405, 9, (some (b + 411))), (405, 8, (some (b + 410))), (405, 7, (some (b + 409))), (405, 5, (some (b + 408))), (405, 4, (some (b + 407))), (405, 3, (some (b + 406)))])) B hin (apK ((al_old [(13, 120), (13, 120), (13, 120), (13, 41), (13, 41), (13, 41), (13, 41), (13, 41), (13, 41), (13, 41), (13, 6560), (14, 6560), (13, 2100), (13, 2100), (13, 2100), (13, 2100), (13, 2100), (13, 2100), (13, 6), (13, 20), (13, 160), (13, 160), (13, 50), (13, 400)] σ (by omega)).1.trans k_405)) wR_ap dX9_init_209 ?_
  refine z_aload_n B dX9_init_212 rfl 0 rfl ?_
  refine z_sipush (v := 400) B dX9_init_213 (by decide) ?_
  refine z_newI (kd := 13) (ti := 1) (atype := .int) (ty := .int) (n := 400) (a := (b + 430)) (σ' := (ap b (al σ [(13, 120), (13, 120), (13, 120), (13, 41), (13, 41), (13, 41), (13, 41), (13, 41), (13, 41), (13, 41), (13, 6560), (14, 6560), (13, 2100), (13, 2100), (13, 2100), (13, 2100), (13, 2100), (13, 2100), (13, 6), (13, 20), (13, 160), (13, 160), (13, 50), (13, 400), (13, 400)]) [(405, 2, 1)] [] [(405, 44, (some (b + 429))), (405, 42, (some (b + 428))), (405, 41, (some (b + 427))), (405, 40, (some (b + 426))), (405, 33, (some (b + 425))), (405, 25, (some (b + 424))), (405, 22, (some (b + 423))), (405, 21, (some (b + 422))), (405, 20, (some (b + 421))), (405, 19, (some (b + 420))), (405, 18, (some (b + 419))), (405, 17, (some (b + 418))), (405, 15, (some (b + 417))), (405, 14, (some (b + 416))), (405, 13, (some (b + 415))), (405, 12, (some (b + 414))), (405, 11, (some (b + 413))), (405, 10, (some (b + 412))), (405, 9, (some (b + 411))), (405, 8, (some (b + 410))), (405, 7, (some (b + 409))), (405, 5, (some (b + 408))), (405, 4, (some (b + 407))), (405, 3, (some (b + 406)))])) B (by decide) rfl wg_64 (by decide) (by decide) (by decide) (by decide) (by decide) dX9_init_216 (ap_Z hz rfl) (nw_al hz rfl rfl rfl rfl) ?_
  refine pF_X9_87 (x := (some (b + 430))) (σ' := (ap b (al σ [(13, 120), (13, 120), (13, 120), (13, 41), (13, 41), (13, 41), (13, 41), (13, 41), (13, 41), (13, 41), (13, 6560), (14, 6560), (13, 2100), (13, 2100), (13, 2100), (13, 2100), (13, 2100), (13, 2100), (13, 6), (13, 20), (13, 160), (13, 160), (13, 50), (13, 400), (13, 400)]) [(405, 2, 1)] [] [(405, 46, (some (b + 430))), (405, 44, (some (b + 429))), (405, 42, (some (b + 428))), (405, 41, (some (b + 427))), (405, 40, (some (b + 426))), (405, 33, (some (b + 425))), (405, 25, (some (b + 424))), (405, 22, (some (b + 423))), (405, 21, (some (b + 422))), (405, 20, (some (b + 421))), (405, 19, (some (b + 420))), (405, 18, (some (b + 419))), (405, 17, (some (b + 418))), (405, 15, (some (b + 417))), (405, 14, (some (b + 416))), (405, 13, (some (b + 415))), (405, 12, (some (b + 414))), (405, 11, (some (b + 413))), (405, 10, (some (b + 412))), (405, 9, (some (b + 411))), (405, 8, (some (b + 410))), (405, 7, (some (b + 409))), (405, 5, (some (b + 408))), (405, 4, (some (b + 407))), (405, 3, (some (b + 406)))])) B hin (apK ((al_old [(13, 120), (13, 120), (13, 120), (13, 41), (13, 41), (13, 41), (13, 41), (13, 41), (13, 41), (13, 41), (13, 6560), (14, 6560), (13, 2100), (13, 2100), (13, 2100), (13, 2100), (13, 2100), (13, 2100), (13, 6), (13, 20), (13, 160), (13, 160), (13, 50), (13, 400), (13, 400)] σ (by omega)).1.trans k_405)) wR_ap dX9_init_218 ?_
  exact z_vret B hr (by decide) (by decide) dX9_init_221 rfl
