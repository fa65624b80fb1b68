set_option maxRecDepth 100000 in
set_option maxHeartbeats 4000000 in
theorem ci_X8_tick_1167 (l : Launch) {g : gx_T} {σ : sx_T} {b : Nat} (hK : lay b σ)   (hI_0_7 : sx_I σ (b + 0) 7 = 0) (hI_0_8 : sx_I σ (b + 0) 8 = 0) (hI_4_2 : sx_I σ (b + 4) 2 = 0) (hR_0_3 : sx_R σ (b + 0) 3 = (some (b + 4))) : Met l yX8_tick (.code yX8_tick cX8_tick 3 (some .int) :: lw_g) { frames := 2, cells := 0, slots := 0, locals := 42 } (va_Pc [.ref (b + 0), .int 50] (zx_w g σ)) (va_Qi (fun r u => r = 50 ∧ u = (ap b σ [(0, 8, 50), (0, 8, 49), (0, 8, 48), (0, 8, 47), (0, 8, 46), (0, 8, 45), (0, 8, 44), (0, 8, 43), (0, 8, 42), (0, 8, 41), (0, 8, 40), (0, 8, 39), (0, 8, 38), (0, 8, 37), (0, 8, 36), (0, 8, 35), (0, 8, 34), (0, 8, 33), (0, 8, 32), (0, 8, 31), (0, 8, 30), (0, 8, 29), (0, 8, 28), (0, 8, 27), (0, 8, 26), (0, 8, 25), (0, 8, 24), (0, 8, 23), (0, 8, 22), (0, 8, 21), (0, 8, 20), (0, 8, 19), (0, 8, 18), (0, 8, 17), (0, 8, 16), (0, 8, 15), (0, 8, 14), (0, 8, 13), (0, 8, 12), (0, 8, 11), (0, 8, 10), (0, 8, 9), (0, 8, 8), (0, 8, 7), (0, 8, 6), (0, 8, 5), (0, 8, 4), (0, 8, 3), (0, 8, 2), (0, 8, 1)] [] [])) (zx_w g) (gx_Q g)) 0 0 (gx_Q g) := by
  refine z_met (by decide) (Nat.le_of_ble_eq_true rfl) (fun p e s m below meth c B hr hin => ?_)
  refine z_eqs (σ' := (ap b σ [] [] [])) rfl ?_
  show zx p l e _ s m _ below meth c g 3 0 0 _ _ 0 [(0, .ref (b + 0)), (1, .int 50)] []
  refine z_iload_n B dX8_tick_0 rfl 1 rfl ?_
  refine z_iconst (v := 1) B dX8_tick_1 (by decide) ?_
  refine z_icmp_lt (tgt := 11) B dX8_tick_2 (by decide) (fun h => absurd h (by decide)) (fun _ => ?_)
  refine z_iload_n B dX8_tick_5 rfl 1 rfl ?_
  refine z_bipush (v := 50) B dX8_tick_6 (by decide) ?_
  refine z_icmp_le (tgt := 21) B dX8_tick_8 (by decide) (fun _ => ?_) (fun h => absurd (by decide) h)
  refine z_iconst (v := 0) B dX8_tick_21 (by decide) ?_
  refine z_istore_n (lv' := [(2, .int 0), (0, .ref (b + 0)), (1, .int 50)]) B dX8_tick_22 rfl (by decide) rfl ?_
  refine z_iload_n B dX8_tick_23 rfl 0 rfl ?_
  refine z_iload_n B dX8_tick_24 rfl 2 rfl ?_
  refine z_icmp_ge (tgt := 52) B dX8_tick_25 (by decide) (fun h => absurd h (by decide)) (fun _ => ?_)
  refine z_aload_n B dX8_tick_28 rfl 1 rfl ?_
  refine z_dup B dX8_tick_29 rfl ?_
  refine gf_X8_206 (x := 0) B (lKA (hk_K hK 0 rfl rfl)) (rI_at 0 8 hI_0_8) dX8_tick_30 ?_
  refine z_iconst (v := 1) B dX8_tick_33 (by decide) ?_
  refine z_iadd B dX8_tick_34 ?_
  refine z_seti (y := 1) (by decide) ?_
  refine pf_X8_206 (x := 1) (σ' := (ap b σ [(0, 8, 1)] [] [])) B (lKA (hk_K hK 0 rfl rfl)) wI_ap dX8_tick_35 ?_
  refine z_aload_n B dX8_tick_38 rfl 1 rfl ?_
  refine z_cVv (As := []) (rest := []) B cw_X8_240 cx_9 dX8_tick_39 (ci_X8_passTasks_920 l (σ := (ap b σ [(0, 8, 1)] [] [])) (b := b) (lyA hK) (rI_at 4 2 hI_4_2) (rR_at 0 3 hR_0_3)) (lKA (hk_K hK 0 rfl rfl)) rfl (by decide) rfl (Nat.le_of_ble_eq_true rfl) (by decide) (fun u hu => ?_)
  refine z_eqs (σ' := (ap b σ [(0, 8, 1)] [] [])) hu ?_
  show zx p l e _ s m _ below meth c g 3 0 0 _ _ 42 [(2, .int 0), (0, .ref (b + 0)), (1, .int 50)] _
  refine z_aload_n B dX8_tick_42 rfl 1 rfl ?_
  refine z_cVv (As := []) (rest := []) B cw_X8_243 cx_9 dX8_tick_43 (ci_X8_passTimers_921 l (σ := (ap b σ [(0, 8, 1)] [] [])) (b := b) (lyA hK) (rI_at 0 7 hI_0_7)) (lKA (hk_K hK 0 rfl rfl)) rfl (by decide) rfl (Nat.le_of_ble_eq_true rfl) (by decide) (fun u hu => ?_)
  refine z_eqs (σ' := (ap b σ [(0, 8, 1)] [] [])) hu ?_
  show zx p l e _ s m _ below meth c g 3 0 0 _ _ 46 [(2, .int 0), (0, .ref (b + 0)), (1, .int 50)] _
  refine z_iinc (v := 1) (lv' := [(2, .int 1), (0, .ref (b + 0)), (1, .int 50)]) B dX8_tick_46 0 rfl (by decide) (by decide) rfl ?_
  refine z_goto (tgt := 23) B dX8_tick_49 (by decide) ?_
  refine z_iload_n B dX8_tick_23 rfl 0 rfl ?_
  refine z_iload_n B dX8_tick_24 rfl 2 rfl ?_
  refine z_icmp_ge (tgt := 52) B dX8_tick_25 (by decide) (fun h => absurd h (by decide)) (fun _ => ?_)
  refine z_aload_n B dX8_tick_28 rfl 1 rfl ?_
  refine z_dup B dX8_tick_29 rfl ?_
  refine gf_X8_206 (x := 1) B (lKA (hk_K hK 0 rfl rfl)) (rI_at 0 8 rfl) dX8_tick_30 ?_
  refine z_iconst (v := 1) B dX8_tick_33 (by decide) ?_
  refine z_iadd B dX8_tick_34 ?_
  refine z_seti (y := 2) (by decide) ?_
  refine pf_X8_206 (x := 2) (σ' := (ap b σ [(0, 8, 2), (0, 8, 1)] [] [])) B (lKA (hk_K hK 0 rfl rfl)) wI_ap dX8_tick_35 ?_
  refine z_aload_n B dX8_tick_38 rfl 1 rfl ?_
  refine z_cVv (As := []) (rest := []) B cw_X8_240 cx_9 dX8_tick_39 (ci_X8_passTasks_920 l (σ := (ap b σ [(0, 8, 2), (0, 8, 1)] [] [])) (b := b) (lyA hK) (rI_at 4 2 hI_4_2) (rR_at 0 3 hR_0_3)) (lKA (hk_K hK 0 rfl rfl)) rfl (by decide) rfl (Nat.le_of_ble_eq_true rfl) (by decide) (fun u hu => ?_)
  refine z_eqs (σ' := (ap b σ [(0, 8, 2), (0, 8, 1)] [] [])) hu ?_
  show zx p l e _ s m _ below meth c g 3 0 0 _ _ 42 [(2, .int 1), (0, .ref (b + 0)), (1, .int 50)] _
  refine z_aload_n B dX8_tick_42 rfl 1 rfl ?_
  refine z_cVv (As := []) (rest := []) B cw_X8_243 cx_9 dX8_tick_43 (ci_X8_passTimers_921 l (σ := (ap b σ [(0, 8, 2), (0, 8, 1)] [] [])) (b := b) (lyA hK) (rI_at 0 7 hI_0_7)) (lKA (hk_K hK 0 rfl rfl)) rfl (by decide) rfl (Nat.le_of_ble_eq_true rfl) (by decide) (fun u hu => ?_)
  refine z_eqs (σ' := (ap b σ [(0, 8, 2), (0, 8, 1)] [] [])) hu ?_
  show zx p l e _ s m _ below meth c g 3 0 0 _ _ 46 [(2, .int 1), (0, .ref (b + 0)), (1, .int 50)] _
  refine z_iinc (v := 2) (lv' := [(2, .int 2), (0, .ref (b + 0)), (1, .int 50)]) B dX8_tick_46 0 rfl (by decide) (by decide) rfl ?_
  refine z_goto (tgt := 23) B dX8_tick_49 (by decide) ?_
  refine z_iload_n B dX8_tick_23 rfl 0 rfl ?_
  refine z_iload_n B dX8_tick_24 rfl 2 rfl ?_
  refine z_icmp_ge (tgt := 52) B dX8_tick_25 (by decide) (fun h => absurd h (by decide)) (fun _ => ?_)
  refine z_aload_n B dX8_tick_28 rfl 1 rfl ?_
  refine z_dup B dX8_tick_29 rfl ?_
  refine gf_X8_206 (x := 2) B (lKA (hk_K hK 0 rfl rfl)) (rI_at 0 8 rfl) dX8_tick_30 ?_
  refine z_iconst (v := 1) B dX8_tick_33 (by decide) ?_
  refine z_iadd B dX8_tick_34 ?_
  refine z_seti (y := 3) (by decide) ?_
  refine pf_X8_206 (x := 3) (σ' := (ap b σ [(0, 8, 3), (0, 8, 2), (0, 8, 1)] [] [])) B (lKA (hk_K hK 0 rfl rfl)) wI_ap dX8_tick_35 ?_
  refine z_aload_n B dX8_tick_38 rfl 1 rfl ?_
  refine z_cVv (As := []) (rest := []) B cw_X8_240 cx_9 dX8_tick_39 (ci_X8_passTasks_920 l (σ := (ap b σ [(0, 8, 3), (0, 8, 2), (0, 8, 1)] [] [])) (b := b) (lyA hK) (rI_at 4 2 hI_4_2) (rR_at 0 3 hR_0_3)) (lKA (hk_K hK 0 rfl rfl)) rfl (by decide) rfl (Nat.le_of_ble_eq_true rfl) (by decide) (fun u hu => ?_)
  refine z_eqs (σ' := (ap b σ [(0, 8, 3), (0, 8, 2), (0, 8, 1)] [] [])) hu ?_
  show zx p l e _ s m _ below meth c g 3 0 0 _ _ 42 [(2, .int 2), (0, .ref (b + 0)), (1, .int 50)] _
  refine z_aload_n B dX8_tick_42 rfl 1 rfl ?_
  refine z_cVv (As := []) (rest := []) B cw_X8_243 cx_9 dX8_tick_43 (ci_X8_passTimers_921 l (σ := (ap b σ [(0, 8, 3), (0, 8, 2), (0, 8, 1)] [] [])) (b := b) (lyA hK) (rI_at 0 7 hI_0_7)) (lKA (hk_K hK 0 rfl rfl)) rfl (by decide) rfl (Nat.le_of_ble_eq_true rfl) (by decide) (fun u hu => ?_)
  refine z_eqs (σ' := (ap b σ [(0, 8, 3), (0, 8, 2), (0, 8, 1)] [] [])) hu ?_
  show zx p l e _ s m _ below meth c g 3 0 0 _ _ 46 [(2, .int 2), (0, .ref (b + 0)), (1, .int 50)] _
  refine z_iinc (v := 3) (lv' := [(2, .int 3), (0, .ref (b + 0)), (1, .int 50)]) B dX8_tick_46 0 rfl (by decide) (by decide) rfl ?_
  refine z_goto (tgt := 23) B dX8_tick_49 (by decide) ?_
  refine z_iload_n B dX8_tick_23 rfl 0 rfl ?_
  refine z_iload_n B dX8_tick_24 rfl 2 rfl ?_
  refine z_icmp_ge (tgt := 52) B dX8_tick_25 (by decide) (fun h => absurd h (by decide)) (fun _ => ?_)
  refine z_aload_n B dX8_tick_28 rfl 1 rfl ?_
  refine z_dup B dX8_tick_29 rfl ?_
  refine gf_X8_206 (x := 3) B (lKA (hk_K hK 0 rfl rfl)) (rI_at 0 8 rfl) dX8_tick_30 ?_
  refine z_iconst (v := 1) B dX8_tick_33 (by decide) ?_
  refine z_iadd B dX8_tick_34 ?_
  refine z_seti (y := 4) (by decide) ?_
  refine pf_X8_206 (x := 4) (σ' := (ap b σ [(0, 8, 4), (0, 8, 3), (0, 8, 2), (0, 8, 1)] [] [])) B (lKA (hk_K hK 0 rfl rfl)) wI_ap dX8_tick_35 ?_
  refine z_aload_n B dX8_tick_38 rfl 1 rfl ?_
  refine z_cVv (As := []) (rest := []) B cw_X8_240 cx_9 dX8_tick_39 (ci_X8_passTasks_920 l (σ := (ap b σ [(0, 8, 4), (0, 8, 3), (0, 8, 2), (0, 8, 1)] [] [])) (b := b) (lyA hK) (rI_at 4 2 hI_4_2) (rR_at 0 3 hR_0_3)) (lKA (hk_K hK 0 rfl rfl)) rfl (by decide) rfl (Nat.le_of_ble_eq_true rfl) (by decide) (fun u hu => ?_)
  refine z_eqs (σ' := (ap b σ [(0, 8, 4), (0, 8, 3), (0, 8, 2), (0, 8, 1)] [] [])) hu ?_
  show zx p l e _ s m _ below meth c g 3 0 0 _ _ 42 [(2, .int 3), (0, .ref (b + 0)), (1, .int 50)] _
  refine z_aload_n B dX8_tick_42 rfl 1 rfl ?_
  refine z_cVv (As := []) (rest := []) B cw_X8_243 cx_9 dX8_tick_43 (ci_X8_passTimers_921 l (σ := (ap b σ [(0, 8, 4), (0, 8, 3), (0, 8, 2), (0, 8, 1)] [] [])) (b := b) (lyA hK) (rI_at 0 7 hI_0_7)) (lKA (hk_K hK 0 rfl rfl)) rfl (by decide) rfl (Nat.le_of_ble_eq_true rfl) (by decide) (fun u hu => ?_)
  refine z_eqs (σ' := (ap b σ [(0, 8, 4), (0, 8, 3), (0, 8, 2), (0, 8, 1)] [] [])) hu ?_
  show zx p l e _ s m _ below meth c g 3 0 0 _ _ 46 [(2, .int 3), (0, .ref (b + 0)), (1, .int 50)] _
  refine z_iinc (v := 4) (lv' := [(2, .int 4), (0, .ref (b + 0)), (1, .int 50)]) B dX8_tick_46 0 rfl (by decide) (by decide) rfl ?_
  refine z_goto (tgt := 23) B dX8_tick_49 (by decide) ?_
  refine z_iload_n B dX8_tick_23 rfl 0 rfl ?_
  refine z_iload_n B dX8_tick_24 rfl 2 rfl ?_
  refine z_icmp_ge (tgt := 52) B dX8_tick_25 (by decide) (fun h => absurd h (by decide)) (fun _ => ?_)
  refine z_aload_n B dX8_tick_28 rfl 1 rfl ?_
  refine z_dup B dX8_tick_29 rfl ?_
  refine gf_X8_206 (x := 4) B (lKA (hk_K hK 0 rfl rfl)) (rI_at 0 8 rfl) dX8_tick_30 ?_
  refine z_iconst (v := 1) B dX8_tick_33 (by decide) ?_
  refine z_iadd B dX8_tick_34 ?_
  refine z_seti (y := 5) (by decide) ?_
  refine pf_X8_206 (x := 5) (σ' := (ap b σ [(0, 8, 5), (0, 8, 4), (0, 8, 3), (0, 8, 2), (0, 8, 1)] [] [])) B (lKA (hk_K hK 0 rfl rfl)) wI_ap dX8_tick_35 ?_
  refine z_aload_n B dX8_tick_38 rfl 1 rfl ?_
  refine z_cVv (As := []) (rest := []) B cw_X8_240 cx_9 dX8_tick_39 (ci_X8_passTasks_920 l (σ := (ap b σ [(0, 8, 5), (0, 8, 4), (0, 8, 3), (0, 8, 2), (0, 8, 1)] [] [])) (b := b) (lyA hK) (rI_at 4 2 hI_4_2) (rR_at 0 3 hR_0_3)) (lKA (hk_K hK 0 rfl rfl)) rfl (by decide) rfl (Nat.le_of_ble_eq_true rfl) (by decide) (fun u hu => ?_)
  refine z_eqs (σ' := (ap b σ [(0, 8, 5), (0, 8, 4), (0, 8, 3), (0, 8, 2), (0, 8, 1)] [] [])) hu ?_
  show zx p l e _ s m _ below meth c g 3 0 0 _ _ 42 [(2, .int 4), (0, .ref (b + 0)), (1, .int 50)] _
  refine z_aload_n B dX8_tick_42 rfl 1 rfl ?_
  refine z_cVv (As := []) (rest := []) B cw_X8_243 cx_9 dX8_tick_43 (ci_X8_passTimers_921 l (σ := (ap b σ [(0, 8, 5), (0, 8, 4), (0, 8, 3), (0, 8, 2), (0, 8, 1)] [] [])) (b := b) (lyA hK) (rI_at 0 7 hI_0_7)) (lKA (hk_K hK 0 rfl rfl)) rfl (by decide) rfl (Nat.le_of_ble_eq_true rfl) (by decide) (fun u hu => ?_)
  refine z_eqs (σ' := (ap b σ [(0, 8, 5), (0, 8, 4), (0, 8, 3), (0, 8, 2), (0, 8, 1)] [] [])) hu ?_
  show zx p l e _ s m _ below meth c g 3 0 0 _ _ 46 [(2, .int 4), (0, .ref (b + 0)), (1, .int 50)] _
  refine z_iinc (v := 5) (lv' := [(2, .int 5), (0, .ref (b + 0)), (1, .int 50)]) B dX8_tick_46 0 rfl (by decide) (by decide) rfl ?_
  refine z_goto (tgt := 23) B dX8_tick_49 (by decide) ?_
  refine z_iload_n B dX8_tick_23 rfl 0 rfl ?_
  refine z_iload_n B dX8_tick_24 rfl 2 rfl ?_
  refine z_icmp_ge (tgt := 52) B dX8_tick_25 (by decide) (fun h => absurd h (by decide)) (fun _ => ?_)
  refine z_aload_n B dX8_tick_28 rfl 1 rfl ?_
  refine z_dup B dX8_tick_29 rfl ?_
  refine gf_X8_206 (x := 5) B (lKA (hk_K hK 0 rfl rfl)) (rI_at 0 8 rfl) dX8_tick_30 ?_
  refine z_iconst (v := 1) B dX8_tick_33 (by decide) ?_
  refine z_iadd B dX8_tick_34 ?_
  refine z_seti (y := 6) (by decide) ?_
  refine pf_X8_206 (x := 6) (σ' := (ap b σ [(0, 8, 6), (0, 8, 5), (0, 8, 4), (0, 8, 3), (0, 8, 2), (0, 8, 1)] [] [])) B (lKA (hk_K hK 0 rfl rfl)) wI_ap dX8_tick_35 ?_
  refine z_aload_n B dX8_tick_38 rfl 1 rfl ?_
  refine z_cVv (As := []) (rest := []) B cw_X8_240 cx_9 dX8_tick_39 (ci_X8_passTasks_920 l (σ := (ap b σ [(0, 8, 6), (0, 8, 5), (0, 8, 4), (0, 8, 3), (0, 8, 2), (0, 8, 1)] [] [])) (b := b) (lyA hK) (rI_at 4 2 hI_4_2) (rR_at 0 3 hR_0_3)) (lKA (hk_K hK 0 rfl rfl)) rfl (by decide) rfl (Nat.le_of_ble_eq_true rfl) (by decide) (fun u hu => ?_)
  refine z_eqs (σ' := (ap b σ [(0, 8, 6), (0, 8, 5), (0, 8, 4), (0, 8, 3), (0, 8, 2), (0, 8, 1)] [] [])) hu ?_
  show zx p l e _ s m _ below meth c g 3 0 0 _ _ 42 [(2, .int 5), (0, .ref (b + 0)), (1, .int 50)] _
  refine z_aload_n B dX8_tick_42 rfl 1 rfl ?_
  refine z_cVv (As := []) (rest := []) B cw_X8_243 cx_9 dX8_tick_43 (ci_X8_passTimers_921 l (σ := (ap b σ [(0, 8, 6), (0, 8, 5), (0, 8, 4), (0, 8, 3), (0, 8, 2), (0, 8, 1)] [] [])) (b := b) (lyA hK) (rI_at 0 7 hI_0_7)) (lKA (hk_K hK 0 rfl rfl)) rfl (by decide) rfl (Nat.le_of_ble_eq_true rfl) (by decide) (fun u hu => ?_)
  refine z_eqs (σ' := (ap b σ [(0, 8, 6), (0, 8, 5), (0, 8, 4), (0, 8, 3), (0, 8, 2), (0, 8, 1)] [] [])) hu ?_
  show zx p l e _ s m _ below meth c g 3 0 0 _ _ 46 [(2, .int 5), (0, .ref (b + 0)), (1, .int 50)] _
  refine z_iinc (v := 6) (lv' := [(2, .int 6), (0, .ref (b + 0)), (1, .int 50)]) B dX8_tick_46 0 rfl (by decide) (by decide) rfl ?_
  refine z_goto (tgt := 23) B dX8_tick_49 (by decide) ?_
  refine z_iload_n B dX8_tick_23 rfl 0 rfl ?_
  refine z_iload_n B dX8_tick_24 rfl 2 rfl ?_
  refine z_icmp_ge (tgt := 52) B dX8_tick_25 (by decide) (fun h => absurd h (by decide)) (fun _ => ?_)
  refine z_aload_n B dX8_tick_28 rfl 1 rfl ?_
  refine z_dup B dX8_tick_29 rfl ?_
  refine gf_X8_206 (x := 6) B (lKA (hk_K hK 0 rfl rfl)) (rI_at 0 8 rfl) dX8_tick_30 ?_
  refine z_iconst (v := 1) B dX8_tick_33 (by decide) ?_
  refine z_iadd B dX8_tick_34 ?_
  refine z_seti (y := 7) (by decide) ?_
  refine pf_X8_206 (x := 7) (σ' := (ap b σ [(0, 8, 7), (0, 8, 6), (0, 8, 5), (0, 8, 4), (0, 8, 3), (0, 8, 2), (0, 8, 1)] [] [])) B (lKA (hk_K hK 0 rfl rfl)) wI_ap dX8_tick_35 ?_
  refine z_aload_n B dX8_tick_38 rfl 1 rfl ?_
  refine z_cVv (As := []) (rest := []) B cw_X8_240 cx_9 dX8_tick_39 (ci_X8_passTasks_920 l (σ := (ap b σ [(0, 8, 7), (0, 8, 6), (0, 8, 5), (0, 8, 4), (0, 8, 3), (0, 8, 2), (0, 8, 1)] [] [])) (b := b) (lyA hK) (rI_at 4 2 hI_4_2) (rR_at 0 3 hR_0_3)) (lKA (hk_K hK 0 rfl rfl)) rfl (by decide) rfl (Nat.le_of_ble_eq_true rfl) (by decide) (fun u hu => ?_)
  refine z_eqs (σ' := (ap b σ [(0, 8, 7), (0, 8, 6), (0, 8, 5), (0, 8, 4), (0, 8, 3), (0, 8, 2), (0, 8, 1)] [] [])) hu ?_
  show zx p l e _ s m _ below meth c g 3 0 0 _ _ 42 [(2, .int 6), (0, .ref (b + 0)), (1, .int 50)] _
  refine z_aload_n B dX8_tick_42 rfl 1 rfl ?_
  refine z_cVv (As := []) (rest := []) B cw_X8_243 cx_9 dX8_tick_43 (ci_X8_passTimers_921 l (σ := (ap b σ [(0, 8, 7), (0, 8, 6), (0, 8, 5), (0, 8, 4), (0, 8, 3), (0, 8, 2), (0, 8, 1)] [] [])) (b := b) (lyA hK) (rI_at 0 7 hI_0_7)) (lKA (hk_K hK 0 rfl rfl)) rfl (by decide) rfl (Nat.le_of_ble_eq_true rfl) (by decide) (fun u hu => ?_)
  refine z_eqs (σ' := (ap b σ [(0, 8, 7), (0, 8, 6), (0, 8, 5), (0, 8, 4), (0, 8, 3), (0, 8, 2), (0, 8, 1)] [] [])) hu ?_
  show zx p l e _ s m _ below meth c g 3 0 0 _ _ 46 [(2, .int 6), (0, .ref (b + 0)), (1, .int 50)] _
  refine z_iinc (v := 7) (lv' := [(2, .int 7), (0, .ref (b + 0)), (1, .int 50)]) B dX8_tick_46 0 rfl (by decide) (by decide) rfl ?_
  refine z_goto (tgt := 23) B dX8_tick_49 (by decide) ?_
  refine z_iload_n B dX8_tick_23 rfl 0 rfl ?_
  refine z_iload_n B dX8_tick_24 rfl 2 rfl ?_
  refine z_icmp_ge (tgt := 52) B dX8_tick_25 (by decide) (fun h => absurd h (by decide)) (fun _ => ?_)
  refine z_aload_n B dX8_tick_28 rfl 1 rfl ?_
  refine z_dup B dX8_tick_29 rfl ?_
  refine gf_X8_206 (x := 7) B (lKA (hk_K hK 0 rfl rfl)) (rI_at 0 8 rfl) dX8_tick_30 ?_
  refine z_iconst (v := 1) B dX8_tick_33 (by decide) ?_
  refine z_iadd B dX8_tick_34 ?_
  refine z_seti (y := 8) (by decide) ?_
  refine pf_X8_206 (x := 8) (σ' := (ap b σ [(0, 8, 8), (0, 8, 7), (0, 8, 6), (0, 8, 5), (0, 8, 4), (0, 8, 3), (0, 8, 2), (0, 8, 1)] [] [])) B (lKA (hk_K hK 0 rfl rfl)) wI_ap dX8_tick_35 ?_
  refine z_aload_n B dX8_tick_38 rfl 1 rfl ?_
  refine z_cVv (As := []) (rest := []) B cw_X8_240 cx_9 dX8_tick_39 (ci_X8_passTasks_920 l (σ := (ap b σ [(0, 8, 8), (0, 8, 7), (0, 8, 6), (0, 8, 5), (0, 8, 4), (0, 8, 3), (0, 8, 2), (0, 8, 1)] [] [])) (b := b) (lyA hK) (rI_at 4 2 hI_4_2) (rR_at 0 3 hR_0_3)) (lKA (hk_K hK 0 rfl rfl)) rfl (by decide) rfl (Nat.le_of_ble_eq_true rfl) (by decide) (fun u hu => ?_)
  refine z_eqs (σ' := (ap b σ [(0, 8, 8), (0, 8, 7), (0, 8, 6), (0, 8, 5), (0, 8, 4), (0, 8, 3), (0, 8, 2), (0, 8, 1)] [] [])) hu ?_
  show zx p l e _ s m _ below meth c g 3 0 0 _ _ 42 [(2, .int 7), (0, .ref (b + 0)), (1, .int 50)] _
  refine z_aload_n B dX8_tick_42 rfl 1 rfl ?_
  refine z_cVv (As := []) (rest := []) B cw_X8_243 cx_9 dX8_tick_43 (ci_X8_passTimers_921 l (σ := (ap b σ [(0, 8, 8), (0, 8, 7), (0, 8, 6), (0, 8, 5), (0, 8, 4), (0, 8, 3), (0, 8, 2), (0, 8, 1)] [] [])) (b := b) (lyA hK) (rI_at 0 7 hI_0_7)) (lKA (hk_K hK 0 rfl rfl)) rfl (by decide) rfl (Nat.le_of_ble_eq_true rfl) (by decide) (fun u hu => ?_)
  refine z_eqs (σ' := (ap b σ [(0, 8, 8), (0, 8, 7), (0, 8, 6), (0, 8, 5), (0, 8, 4), (0, 8, 3), (0, 8, 2), (0, 8, 1)] [] [])) hu ?_
  show zx p l e _ s m _ below meth c g 3 0 0 _ _ 46 [(2, .int 7), (0, .ref (b + 0)), (1, .int 50)] _
  refine z_iinc (v := 8) (lv' := [(2, .int 8), (0, .ref (b + 0)), (1, .int 50)]) B dX8_tick_46 0 rfl (by decide) (by decide) rfl ?_
  refine z_goto (tgt := 23) B dX8_tick_49 (by decide) ?_
  refine z_iload_n B dX8_tick_23 rfl 0 rfl ?_
  refine z_iload_n B dX8_tick_24 rfl 2 rfl ?_
  refine z_icmp_ge (tgt := 52) B dX8_tick_25 (by decide) (fun h => absurd h (by decide)) (fun _ => ?_)
  refine z_aload_n B dX8_tick_28 rfl 1 rfl ?_
  refine z_dup B dX8_tick_29 rfl ?_
  refine gf_X8_206 (x := 8) B (lKA (hk_K hK 0 rfl rfl)) (rI_at 0 8 rfl) dX8_tick_30 ?_
  refine z_iconst (v := 1) B dX8_tick_33 (by decide) ?_
  refine z_iadd B dX8_tick_34 ?_
  refine z_seti (y := 9) (by decide) ?_
  refine pf_X8_206 (x := 9) (σ' := (ap b σ [(0, 8, 9), (0, 8, 8), (0, 8, 7), (0, 8, 6), (0, 8, 5), (0, 8, 4), (0, 8, 3), (0, 8, 2), (0, 8, 1)] [] [])) B (lKA (hk_K hK 0 rfl rfl)) wI_ap dX8_tick_35 ?_
  refine z_aload_n B dX8_tick_38 rfl 1 rfl ?_
  refine z_cVv (As := []) (rest := []) B cw_X8_240 cx_9 dX8_tick_39 (ci_X8_passTasks_920 l (σ := (ap b σ [(0, 8, 9), (0, 8, 8), (0, 8, 7), (0, 8, 6), (0, 8, 5), (0, 8, 4), (0, 8, 3), (0, 8, 2), (0, 8, 1)] [] [])) (b := b) (lyA hK) (rI_at 4 2 hI_4_2) (rR_at 0 3 hR_0_3)) (lKA (hk_K hK 0 rfl rfl)) rfl (by decide) rfl (Nat.le_of_ble_eq_true rfl) (by decide) (fun u hu => ?_)
  refine z_eqs (σ' := (ap b σ [(0, 8, 9), (0, 8, 8), (0, 8, 7), (0, 8, 6), (0, 8, 5), (0, 8, 4), (0, 8, 3), (0, 8, 2), (0, 8, 1)] [] [])) hu ?_
  show zx p l e _ s m _ below meth c g 3 0 0 _ _ 42 [(2, .int 8), (0, .ref (b + 0)), (1, .int 50)] _
  refine z_aload_n B dX8_tick_42 rfl 1 rfl ?_
  refine z_cVv (As := []) (rest := []) B cw_X8_243 cx_9 dX8_tick_43 (ci_X8_passTimers_921 l (σ := (ap b σ [(0, 8, 9), (0, 8, 8), (0, 8, 7), (0, 8, 6), (0, 8, 5), (0, 8, 4), (0, 8, 3), (0, 8, 2), (0, 8, 1)] [] [])) (b := b) (lyA hK) (rI_at 0 7 hI_0_7)) (lKA (hk_K hK 0 rfl rfl)) rfl (by decide) rfl (Nat.le_of_ble_eq_true rfl) (by decide) (fun u hu => ?_)
  refine z_eqs (σ' := (ap b σ [(0, 8, 9), (0, 8, 8), (0, 8, 7), (0, 8, 6), (0, 8, 5), (0, 8, 4), (0, 8, 3), (0, 8, 2), (0, 8, 1)] [] [])) hu ?_
  show zx p l e _ s m _ below meth c g 3 0 0 _ _ 46 [(2, .int 8), (0, .ref (b + 0)), (1, .int 50)] _
  refine z_iinc (v := 9) (lv' := [(2, .int 9), (0, .ref (b + 0)), (1, .int 50)]) B dX8_tick_46 0 rfl (by decide) (by decide) rfl ?_
  refine z_goto (tgt := 23) B dX8_tick_49 (by decide) ?_
  refine z_iload_n B dX8_tick_23 rfl 0 rfl ?_
  refine z_iload_n B dX8_tick_24 rfl 2 rfl ?_
  refine z_icmp_ge (tgt := 52) B dX8_tick_25 (by decide) (fun h => absurd h (by decide)) (fun _ => ?_)
  refine z_aload_n B dX8_tick_28 rfl 1 rfl ?_
  refine z_dup B dX8_tick_29 rfl ?_
  refine gf_X8_206 (x := 9) B (lKA (hk_K hK 0 rfl rfl)) (rI_at 0 8 rfl) dX8_tick_30 ?_
  refine z_iconst (v := 1) B dX8_tick_33 (by decide) ?_
  refine z_iadd B dX8_tick_34 ?_
  refine z_seti (y := 10) (by decide) ?_
  refine pf_X8_206 (x := 10) (σ' := (ap b σ [(0, 8, 10), (0, 8, 9), (0, 8, 8), (0, 8, 7), (0, 8, 6), (0, 8, 5), (0, 8, 4), (0, 8, 3), (0, 8, 2), (0, 8, 1)] [] [])) B (lKA (hk_K hK 0 rfl rfl)) wI_ap dX8_tick_35 ?_
  refine z_aload_n B dX8_tick_38 rfl 1 rfl ?_
  refine z_cVv (As := []) (rest := []) B cw_X8_240 cx_9 dX8_tick_39 (ci_X8_passTasks_920 l (σ := (ap b σ [(0, 8, 10), (0, 8, 9), (0, 8, 8), (0, 8, 7), (0, 8, 6), (0, 8, 5), (0, 8, 4), (0, 8, 3), (0, 8, 2), (0, 8, 1)] [] [])) (b := b) (lyA hK) (rI_at 4 2 hI_4_2) (rR_at 0 3 hR_0_3)) (lKA (hk_K hK 0 rfl rfl)) rfl (by decide) rfl (Nat.le_of_ble_eq_true rfl) (by decide) (fun u hu => ?_)
  refine z_eqs (σ' := (ap b σ [(0, 8, 10), (0, 8, 9), (0, 8, 8), (0, 8, 7), (0, 8, 6), (0, 8, 5), (0, 8, 4), (0, 8, 3), (0, 8, 2), (0, 8, 1)] [] [])) hu ?_
  show zx p l e _ s m _ below meth c g 3 0 0 _ _ 42 [(2, .int 9), (0, .ref (b + 0)), (1, .int 50)] _
  refine z_aload_n B dX8_tick_42 rfl 1 rfl ?_
  refine z_cVv (As := []) (rest := []) B cw_X8_243 cx_9 dX8_tick_43 (ci_X8_passTimers_921 l (σ := (ap b σ [(0, 8, 10), (0, 8, 9), (0, 8, 8), (0, 8, 7), (0, 8, 6), (0, 8, 5), (0, 8, 4), (0, 8, 3), (0, 8, 2), (0, 8, 1)] [] [])) (b := b) (lyA hK) (rI_at 0 7 hI_0_7)) (lKA (hk_K hK 0 rfl rfl)) rfl (by decide) rfl (Nat.le_of_ble_eq_true rfl) (by decide) (fun u hu => ?_)
  refine z_eqs (σ' := (ap b σ [(0, 8, 10), (0, 8, 9), (0, 8, 8), (0, 8, 7), (0, 8, 6), (0, 8, 5), (0, 8, 4), (0, 8, 3), (0, 8, 2), (0, 8, 1)] [] [])) hu ?_
  show zx p l e _ s m _ below meth c g 3 0 0 _ _ 46 [(2, .int 9), (0, .ref (b + 0)), (1, .int 50)] _
  refine z_iinc (v := 10) (lv' := [(2, .int 10), (0, .ref (b + 0)), (1, .int 50)]) B dX8_tick_46 0 rfl (by decide) (by decide) rfl ?_
  refine z_goto (tgt := 23) B dX8_tick_49 (by decide) ?_
  refine z_iload_n B dX8_tick_23 rfl 0 rfl ?_
  refine z_iload_n B dX8_tick_24 rfl 2 rfl ?_
  refine z_icmp_ge (tgt := 52) B dX8_tick_25 (by decide) (fun h => absurd h (by decide)) (fun _ => ?_)
  refine z_aload_n B dX8_tick_28 rfl 1 rfl ?_
  refine z_dup B dX8_tick_29 rfl ?_
  refine gf_X8_206 (x := 10) B (lKA (hk_K hK 0 rfl rfl)) (rI_at 0 8 rfl) dX8_tick_30 ?_
  refine z_iconst (v := 1) B dX8_tick_33 (by decide) ?_
  refine z_iadd B dX8_tick_34 ?_
  refine z_seti (y := 11) (by decide) ?_
  refine pf_X8_206 (x := 11) (σ' := (ap b σ [(0, 8, 11), (0, 8, 10), (0, 8, 9), (0, 8, 8), (0, 8, 7), (0, 8, 6), (0, 8, 5), (0, 8, 4), (0, 8, 3), (0, 8, 2), (0, 8, 1)] [] [])) B (lKA (hk_K hK 0 rfl rfl)) wI_ap dX8_tick_35 ?_
  refine z_aload_n B dX8_tick_38 rfl 1 rfl ?_
  refine z_cVv (As := []) (rest := []) B cw_X8_240 cx_9 dX8_tick_39 (ci_X8_passTasks_920 l (σ := (ap b σ [(0, 8, 11), (0, 8, 10), (0, 8, 9), (0, 8, 8), (0, 8, 7), (0, 8, 6), (0, 8, 5), (0, 8, 4), (0, 8, 3), (0, 8, 2), (0, 8, 1)] [] [])) (b := b) (lyA hK) (rI_at 4 2 hI_4_2) (rR_at 0 3 hR_0_3)) (lKA (hk_K hK 0 rfl rfl)) rfl (by decide) rfl (Nat.le_of_ble_eq_true rfl) (by decide) (fun u hu => ?_)
  refine z_eqs (σ' := (ap b σ [(0, 8, 11), (0, 8, 10), (0, 8, 9), (0, 8, 8), (0, 8, 7), (0, 8, 6), (0, 8, 5), (0, 8, 4), (0, 8, 3), (0, 8, 2), (0, 8, 1)] [] [])) hu ?_
  show zx p l e _ s m _ below meth c g 3 0 0 _ _ 42 [(2, .int 10), (0, .ref (b + 0)), (1, .int 50)] _
  refine z_aload_n B dX8_tick_42 rfl 1 rfl ?_
  refine z_cVv (As := []) (rest := []) B cw_X8_243 cx_9 dX8_tick_43 (ci_X8_passTimers_921 l (σ := (ap b σ [(0, 8, 11), (0, 8, 10), (0, 8, 9), (0, 8, 8), (0, 8, 7), (0, 8, 6), (0, 8, 5), (0, 8, 4), (0, 8, 3), (0, 8, 2), (0, 8, 1)] [] [])) (b := b) (lyA hK) (rI_at 0 7 hI_0_7)) (lKA (hk_K hK 0 rfl rfl)) rfl (by decide) rfl (Nat.le_of_ble_eq_true rfl) (by decide) (fun u hu => ?_)
  refine z_eqs (σ' := (ap b σ [(0, 8, 11), (0, 8, 10), (0, 8, 9), (0, 8, 8), (0, 8, 7), (0, 8, 6), (0, 8, 5), (0, 8, 4), (0, 8, 3), (0, 8, 2), (0, 8, 1)] [] [])) hu ?_
  show zx p l e _ s m _ below meth c g 3 0 0 _ _ 46 [(2, .int 10), (0, .ref (b + 0)), (1, .int 50)] _
  refine z_iinc (v := 11) (lv' := [(2, .int 11), (0, .ref (b + 0)), (1, .int 50)]) B dX8_tick_46 0 rfl (by decide) (by decide) rfl ?_
  refine z_goto (tgt := 23) B dX8_tick_49 (by decide) ?_
  refine z_iload_n B dX8_tick_23 rfl 0 rfl ?_
  refine z_iload_n B dX8_tick_24 rfl 2 rfl ?_
  refine z_icmp_ge (tgt := 52) B dX8_tick_25 (by decide) (fun h => absurd h (by decide)) (fun _ => ?_)
  refine z_aload_n B dX8_tick_28 rfl 1 rfl ?_
  refine z_dup B dX8_tick_29 rfl ?_
  refine gf_X8_206 (x := 11) B (lKA (hk_K hK 0 rfl rfl)) (rI_at 0 8 rfl) dX8_tick_30 ?_
  refine z_iconst (v := 1) B dX8_tick_33 (by decide) ?_
  refine z_iadd B dX8_tick_34 ?_
  refine z_seti (y := 12) (by decide) ?_
  refine pf_X8_206 (x := 12) (σ' := (ap b σ [(0, 8, 12), (0, 8, 11), (0, 8, 10), (0, 8, 9), (0, 8, 8), (0, 8, 7), (0, 8, 6), (0, 8, 5), (0, 8, 4), (0, 8, 3), (0, 8, 2), (0, 8, 1)] [] [])) B (lKA (hk_K hK 0 rfl rfl)) wI_ap dX8_tick_35 ?_
  refine z_aload_n B dX8_tick_38 rfl 1 rfl ?_
  refine z_cVv (As := []) (rest := []) B cw_X8_240 cx_9 dX8_tick_39 (ci_X8_passTasks_920 l (σ := (ap b σ [(0, 8, 12), (0, 8, 11), (0, 8, 10), (0, 8, 9), (0, 8, 8), (0, 8, 7), (0, 8, 6), (0, 8, 5), (0, 8, 4), (0, 8, 3), (0, 8, 2), (0, 8, 1)] [] [])) (b := b) (lyA hK) (rI_at 4 2 hI_4_2) (rR_at 0 3 hR_0_3)) (lKA (hk_K hK 0 rfl rfl)) rfl (by decide) rfl (Nat.le_of_ble_eq_true rfl) (by decide) (fun u hu => ?_)
  refine z_eqs (σ' := (ap b σ [(0, 8, 12), (0, 8, 11), (0, 8, 10), (0, 8, 9), (0, 8, 8), (0, 8, 7), (0, 8, 6), (0, 8, 5), (0, 8, 4), (0, 8, 3), (0, 8, 2), (0, 8, 1)] [] [])) hu ?_
  show zx p l e _ s m _ below meth c g 3 0 0 _ _ 42 [(2, .int 11), (0, .ref (b + 0)), (1, .int 50)] _
  refine z_aload_n B dX8_tick_42 rfl 1 rfl ?_
  refine z_cVv (As := []) (rest := []) B cw_X8_243 cx_9 dX8_tick_43 (ci_X8_passTimers_921 l (σ := (ap b σ [(0, 8, 12), (0, 8, 11), (0, 8, 10), (0, 8, 9), (0, 8, 8), (0, 8, 7), (0, 8, 6), (0, 8, 5), (0, 8, 4), (0, 8, 3), (0, 8, 2), (0, 8, 1)] [] [])) (b := b) (lyA hK) (rI_at 0 7 hI_0_7)) (lKA (hk_K hK 0 rfl rfl)) rfl (by decide) rfl (Nat.le_of_ble_eq_true rfl) (by decide) (fun u hu => ?_)
  refine z_eqs (σ' := (ap b σ [(0, 8, 12), (0, 8, 11), (0, 8, 10), (0, 8, 9), (0, 8, 8), (0, 8, 7), (0, 8, 6), (0, 8, 5), (0, 8, 4), (0, 8, 3), (0, 8, 2), (0, 8, 1)] [] [])) hu ?_
  show zx p l e _ s m _ below meth c g 3 0 0 _ _ 46 [(2, .int 11), (0, .ref (b + 0)), (1, .int 50)] _
  refine z_iinc (v := 12) (lv' := [(2, .int 12), (0, .ref (b + 0)), (1, .int 50)]) B dX8_tick_46 0 rfl (by decide) (by decide) rfl ?_
  refine z_goto (tgt := 23) B dX8_tick_49 (by decide) ?_
  refine z_iload_n B dX8_tick_23 rfl 0 rfl ?_
  refine z_iload_n B dX8_tick_24 rfl 2 rfl ?_
  refine z_icmp_ge (tgt := 52) B dX8_tick_25 (by decide) (fun h => absurd h (by decide)) (fun _ => ?_)
  refine z_aload_n B dX8_tick_28 rfl 1 rfl ?_
  refine z_dup B dX8_tick_29 rfl ?_
  refine gf_X8_206 (x := 12) B (lKA (hk_K hK 0 rfl rfl)) (rI_at 0 8 rfl) dX8_tick_30 ?_
  refine z_iconst (v := 1) B dX8_tick_33 (by decide) ?_
  refine z_iadd B dX8_tick_34 ?_
  refine z_seti (y := 13) (by decide) ?_
  refine pf_X8_206 (x := 13) (σ' := (ap b σ [(0, 8, 13), (0, 8, 12), (0, 8, 11), (0, 8, 10), (0, 8, 9), (0, 8, 8), (0, 8, 7), (0, 8, 6), (0, 8, 5), (0, 8, 4), (0, 8, 3), (0, 8, 2), (0, 8, 1)] [] [])) B (lKA (hk_K hK 0 rfl rfl)) wI_ap dX8_tick_35 ?_
  refine z_aload_n B dX8_tick_38 rfl 1 rfl ?_
  refine z_cVv (As := []) (rest := []) B cw_X8_240 cx_9 dX8_tick_39 (ci_X8_passTasks_920 l (σ := (ap b σ [(0, 8, 13), (0, 8, 12), (0, 8, 11), (0, 8, 10), (0, 8, 9), (0, 8, 8), (0, 8, 7), (0, 8, 6), (0, 8, 5), (0, 8, 4), (0, 8, 3), (0, 8, 2), (0, 8, 1)] [] [])) (b := b) (lyA hK) (rI_at 4 2 hI_4_2) (rR_at 0 3 hR_0_3)) (lKA (hk_K hK 0 rfl rfl)) rfl (by decide) rfl (Nat.le_of_ble_eq_true rfl) (by decide) (fun u hu => ?_)
  refine z_eqs (σ' := (ap b σ [(0, 8, 13), (0, 8, 12), (0, 8, 11), (0, 8, 10), (0, 8, 9), (0, 8, 8), (0, 8, 7), (0, 8, 6), (0, 8, 5), (0, 8, 4), (0, 8, 3), (0, 8, 2), (0, 8, 1)] [] [])) hu ?_
  show zx p l e _ s m _ below meth c g 3 0 0 _ _ 42 [(2, .int 12), (0, .ref (b + 0)), (1, .int 50)] _
  refine z_aload_n B dX8_tick_42 rfl 1 rfl ?_
  refine z_cVv (As := []) (rest := []) B cw_X8_243 cx_9 dX8_tick_43 (ci_X8_passTimers_921 l (σ := (ap b σ [(0, 8, 13), (0, 8, 12), (0, 8, 11), (0, 8, 10), (0, 8, 9), (0, 8, 8), (0, 8, 7), (0, 8, 6), (0, 8, 5), (0, 8, 4), (0, 8, 3), (0, 8, 2), (0, 8, 1)] [] [])) (b := b) (lyA hK) (rI_at 0 7 hI_0_7)) (lKA (hk_K hK 0 rfl rfl)) rfl (by decide) rfl (Nat.le_of_ble_eq_true rfl) (by decide) (fun u hu => ?_)
  refine z_eqs (σ' := (ap b σ [(0, 8, 13), (0, 8, 12), (0, 8, 11), (0, 8, 10), (0, 8, 9), (0, 8, 8), (0, 8, 7), (0, 8, 6), (0, 8, 5), (0, 8, 4), (0, 8, 3), (0, 8, 2), (0, 8, 1)] [] [])) hu ?_
  show zx p l e _ s m _ below meth c g 3 0 0 _ _ 46 [(2, .int 12), (0, .ref (b + 0)), (1, .int 50)] _
  refine z_iinc (v := 13) (lv' := [(2, .int 13), (0, .ref (b + 0)), (1, .int 50)]) B dX8_tick_46 0 rfl (by decide) (by decide) rfl ?_
  refine z_goto (tgt := 23) B dX8_tick_49 (by decide) ?_
  refine z_iload_n B dX8_tick_23 rfl 0 rfl ?_
  refine z_iload_n B dX8_tick_24 rfl 2 rfl ?_
  refine z_icmp_ge (tgt := 52) B dX8_tick_25 (by decide) (fun h => absurd h (by decide)) (fun _ => ?_)
  refine z_aload_n B dX8_tick_28 rfl 1 rfl ?_
  refine z_dup B dX8_tick_29 rfl ?_
  refine gf_X8_206 (x := 13) B (lKA (hk_K hK 0 rfl rfl)) (rI_at 0 8 rfl) dX8_tick_30 ?_
  refine z_iconst (v := 1) B dX8_tick_33 (by decide) ?_
  refine z_iadd B dX8_tick_34 ?_
  refine z_seti (y := 14) (by decide) ?_
  refine pf_X8_206 (x := 14) (σ' := (ap b σ [(0, 8, 14), (0, 8, 13), (0, 8, 12), (0, 8, 11), (0, 8, 10), (0, 8, 9), (0, 8, 8), (0, 8, 7), (0, 8, 6), (0, 8, 5), (0, 8, 4), (0, 8, 3), (0, 8, 2), (0, 8, 1)] [] [])) B (lKA (hk_K hK 0 rfl rfl)) wI_ap dX8_tick_35 ?_
  refine z_aload_n B dX8_tick_38 rfl 1 rfl ?_
  refine z_cVv (As := []) (rest := []) B cw_X8_240 cx_9 dX8_tick_39 (ci_X8_passTasks_920 l (σ := (ap b σ [(0, 8, 14), (0, 8, 13), (0, 8, 12), (0, 8, 11), (0, 8, 10), (0, 8, 9), (0, 8, 8), (0, 8, 7), (0, 8, 6), (0, 8, 5), (0, 8, 4), (0, 8, 3), (0, 8, 2), (0, 8, 1)] [] [])) (b := b) (lyA hK) (rI_at 4 2 hI_4_2) (rR_at 0 3 hR_0_3)) (lKA (hk_K hK 0 rfl rfl)) rfl (by decide) rfl (Nat.le_of_ble_eq_true rfl) (by decide) (fun u hu => ?_)
  refine z_eqs (σ' := (ap b σ [(0, 8, 14), (0, 8, 13), (0, 8, 12), (0, 8, 11), (0, 8, 10), (0, 8, 9), (0, 8, 8), (0, 8, 7), (0, 8, 6), (0, 8, 5), (0, 8, 4), (0, 8, 3), (0, 8, 2), (0, 8, 1)] [] [])) hu ?_
  show zx p l e _ s m _ below meth c g 3 0 0 _ _ 42 [(2, .int 13), (0, .ref (b + 0)), (1, .int 50)] _
  refine z_aload_n B dX8_tick_42 rfl 1 rfl ?_
  refine z_cVv (As := []) (rest := []) B cw_X8_243 cx_9 dX8_tick_43 (ci_X8_passTimers_921 l (σ := (ap b σ [(0, 8, 14), (0, 8, 13), (0, 8, 12), (0, 8, 11), (0, 8, 10), (0, 8, 9), (0, 8, 8), (0, 8, 7), (0, 8, 6), (0, 8, 5), (0, 8, 4), (0, 8, 3), (0, 8, 2), (0, 8, 1)] [] [])) (b := b) (lyA hK) (rI_at 0 7 hI_0_7)) (lKA (hk_K hK 0 rfl rfl)) rfl (by decide) rfl (Nat.le_of_ble_eq_true rfl) (by decide) (fun u hu => ?_)
  refine z_eqs (σ' := (ap b σ [(0, 8, 14), (0, 8, 13), (0, 8, 12), (0, 8, 11), (0, 8, 10), (0, 8, 9), (0, 8, 8), (0, 8, 7), (0, 8, 6), (0, 8, 5), (0, 8, 4), (0, 8, 3), (0, 8, 2), (0, 8, 1)] [] [])) hu ?_
  show zx p l e _ s m _ below meth c g 3 0 0 _ _ 46 [(2, .int 13), (0, .ref (b + 0)), (1, .int 50)] _
  refine z_iinc (v := 14) (lv' := [(2, .int 14), (0, .ref (b + 0)), (1, .int 50)]) B dX8_tick_46 0 rfl (by decide) (by decide) rfl ?_
  refine z_goto (tgt := 23) B dX8_tick_49 (by decide) ?_
  refine z_iload_n B dX8_tick_23 rfl 0 rfl ?_
  refine z_iload_n B dX8_tick_24 rfl 2 rfl ?_
  refine z_icmp_ge (tgt := 52) B dX8_tick_25 (by decide) (fun h => absurd h (by decide)) (fun _ => ?_)
  refine z_aload_n B dX8_tick_28 rfl 1 rfl ?_
  refine z_dup B dX8_tick_29 rfl ?_
  refine gf_X8_206 (x := 14) B (lKA (hk_K hK 0 rfl rfl)) (rI_at 0 8 rfl) dX8_tick_30 ?_
  refine z_iconst (v := 1) B dX8_tick_33 (by decide) ?_
  refine z_iadd B dX8_tick_34 ?_
  refine z_seti (y := 15) (by decide) ?_
  refine pf_X8_206 (x := 15) (σ' := (ap b σ [(0, 8, 15), (0, 8, 14), (0, 8, 13), (0, 8, 12), (0, 8, 11), (0, 8, 10), (0, 8, 9), (0, 8, 8), (0, 8, 7), (0, 8, 6), (0, 8, 5), (0, 8, 4), (0, 8, 3), (0, 8, 2), (0, 8, 1)] [] [])) B (lKA (hk_K hK 0 rfl rfl)) wI_ap dX8_tick_35 ?_
  refine z_aload_n B dX8_tick_38 rfl 1 rfl ?_
  refine z_cVv (As := []) (rest := []) B cw_X8_240 cx_9 dX8_tick_39 (ci_X8_passTasks_920 l (σ := (ap b σ [(0, 8, 15), (0, 8, 14), (0, 8, 13), (0, 8, 12), (0, 8, 11), (0, 8, 10), (0, 8, 9), (0, 8, 8), (0, 8, 7), (0, 8, 6), (0, 8, 5), (0, 8, 4), (0, 8, 3), (0, 8, 2), (0, 8, 1)] [] [])) (b := b) (lyA hK) (rI_at 4 2 hI_4_2) (rR_at 0 3 hR_0_3)) (lKA (hk_K hK 0 rfl rfl)) rfl (by decide) rfl (Nat.le_of_ble_eq_true rfl) (by decide) (fun u hu => ?_)
  refine z_eqs (σ' := (ap b σ [(0, 8, 15), (0, 8, 14), (0, 8, 13), (0, 8, 12), (0, 8, 11), (0, 8, 10), (0, 8, 9), (0, 8, 8), (0, 8, 7), (0, 8, 6), (0, 8, 5), (0, 8, 4), (0, 8, 3), (0, 8, 2), (0, 8, 1)] [] [])) hu ?_
  show zx p l e _ s m _ below meth c g 3 0 0 _ _ 42 [(2, .int 14), (0, .ref (b + 0)), (1, .int 50)] _
  refine z_aload_n B dX8_tick_42 rfl 1 rfl ?_
  refine z_cVv (As := []) (rest := []) B cw_X8_243 cx_9 dX8_tick_43 (ci_X8_passTimers_921 l (σ := (ap b σ [(0, 8, 15), (0, 8, 14), (0, 8, 13), (0, 8, 12), (0, 8, 11), (0, 8, 10), (0, 8, 9), (0, 8, 8), (0, 8, 7), (0, 8, 6), (0, 8, 5), (0, 8, 4), (0, 8, 3), (0, 8, 2), (0, 8, 1)] [] [])) (b := b) (lyA hK) (rI_at 0 7 hI_0_7)) (lKA (hk_K hK 0 rfl rfl)) rfl (by decide) rfl (Nat.le_of_ble_eq_true rfl) (by decide) (fun u hu => ?_)
  refine z_eqs (σ' := (ap b σ [(0, 8, 15), (0, 8, 14), (0, 8, 13), (0, 8, 12), (0, 8, 11), (0, 8, 10), (0, 8, 9), (0, 8, 8), (0, 8, 7), (0, 8, 6), (0, 8, 5), (0, 8, 4), (0, 8, 3), (0, 8, 2), (0, 8, 1)] [] [])) hu ?_
  show zx p l e _ s m _ below meth c g 3 0 0 _ _ 46 [(2, .int 14), (0, .ref (b + 0)), (1, .int 50)] _
  refine z_iinc (v := 15) (lv' := [(2, .int 15), (0, .ref (b + 0)), (1, .int 50)]) B dX8_tick_46 0 rfl (by decide) (by decide) rfl ?_
  refine z_goto (tgt := 23) B dX8_tick_49 (by decide) ?_
  refine z_iload_n B dX8_tick_23 rfl 0 rfl ?_
  refine z_iload_n B dX8_tick_24 rfl 2 rfl ?_
  refine z_icmp_ge (tgt := 52) B dX8_tick_25 (by decide) (fun h => absurd h (by decide)) (fun _ => ?_)
  refine z_aload_n B dX8_tick_28 rfl 1 rfl ?_
  refine z_dup B dX8_tick_29 rfl ?_
  refine gf_X8_206 (x := 15) B (lKA (hk_K hK 0 rfl rfl)) (rI_at 0 8 rfl) dX8_tick_30 ?_
  refine z_iconst (v := 1) B dX8_tick_33 (by decide) ?_
  refine z_iadd B dX8_tick_34 ?_
  refine z_seti (y := 16) (by decide) ?_
  refine pf_X8_206 (x := 16) (σ' := (ap b σ [(0, 8, 16), (0, 8, 15), (0, 8, 14), (0, 8, 13), (0, 8, 12), (0, 8, 11), (0, 8, 10), (0, 8, 9), (0, 8, 8), (0, 8, 7), (0, 8, 6), (0, 8, 5), (0, 8, 4), (0, 8, 3), (0, 8, 2), (0, 8, 1)] [] [])) B (lKA (hk_K hK 0 rfl rfl)) wI_ap dX8_tick_35 ?_
  refine z_aload_n B dX8_tick_38 rfl 1 rfl ?_
  refine z_cVv (As := []) (rest := []) B cw_X8_240 cx_9 dX8_tick_39 (ci_X8_passTasks_920 l (σ := (ap b σ [(0, 8, 16), (0, 8, 15), (0, 8, 14), (0, 8, 13), (0, 8, 12), (0, 8, 11), (0, 8, 10), (0, 8, 9), (0, 8, 8), (0, 8, 7), (0, 8, 6), (0, 8, 5), (0, 8, 4), (0, 8, 3), (0, 8, 2), (0, 8, 1)] [] [])) (b := b) (lyA hK) (rI_at 4 2 hI_4_2) (rR_at 0 3 hR_0_3)) (lKA (hk_K hK 0 rfl rfl)) rfl (by decide) rfl (Nat.le_of_ble_eq_true rfl) (by decide) (fun u hu => ?_)
  refine z_eqs (σ' := (ap b σ [(0, 8, 16), (0, 8, 15), (0, 8, 14), (0, 8, 13), (0, 8, 12), (0, 8, 11), (0, 8, 10), (0, 8, 9), (0, 8, 8), (0, 8, 7), (0, 8, 6), (0, 8, 5), (0, 8, 4), (0, 8, 3), (0, 8, 2), (0, 8, 1)] [] [])) hu ?_
  show zx p l e _ s m _ below meth c g 3 0 0 _ _ 42 [(2, .int 15), (0, .ref (b + 0)), (1, .int 50)] _
  refine z_aload_n B dX8_tick_42 rfl 1 rfl ?_
  refine z_cVv (As := []) (rest := []) B cw_X8_243 cx_9 dX8_tick_43 (ci_X8_passTimers_921 l (σ := (ap b σ [(0, 8, 16), (0, 8, 15), (0, 8, 14), (0, 8, 13), (0, 8, 12), (0, 8, 11), (0, 8, 10), (0, 8, 9), (0, 8, 8), (0, 8, 7), (0, 8, 6), (0, 8, 5), (0, 8, 4), (0, 8, 3), (0, 8, 2), (0, 8, 1)] [] [])) (b := b) (lyA hK) (rI_at 0 7 hI_0_7)) (lKA (hk_K hK 0 rfl rfl)) rfl (by decide) rfl (Nat.le_of_ble_eq_true rfl) (by decide) (fun u hu => ?_)
  refine z_eqs (σ' := (ap b σ [(0, 8, 16), (0, 8, 15), (0, 8, 14), (0, 8, 13), (0, 8, 12), (0, 8, 11), (0, 8, 10), (0, 8, 9), (0, 8, 8), (0, 8, 7), (0, 8, 6), (0, 8, 5), (0, 8, 4), (0, 8, 3), (0, 8, 2), (0, 8, 1)] [] [])) hu ?_
  show zx p l e _ s m _ below meth c g 3 0 0 _ _ 46 [(2, .int 15), (0, .ref (b + 0)), (1, .int 50)] _
  refine z_iinc (v := 16) (lv' := [(2, .int 16), (0, .ref (b + 0)), (1, .int 50)]) B dX8_tick_46 0 rfl (by decide) (by decide) rfl ?_
  refine z_goto (tgt := 23) B dX8_tick_49 (by decide) ?_
  refine z_iload_n B dX8_tick_23 rfl 0 rfl ?_
  refine z_iload_n B dX8_tick_24 rfl 2 rfl ?_
  refine z_icmp_ge (tgt := 52) B dX8_tick_25 (by decide) (fun h => absurd h (by decide)) (fun _ => ?_)
  refine z_aload_n B dX8_tick_28 rfl 1 rfl ?_
  refine z_dup B dX8_tick_29 rfl ?_
  refine gf_X8_206 (x := 16) B (lKA (hk_K hK 0 rfl rfl)) (rI_at 0 8 rfl) dX8_tick_30 ?_
  refine z_iconst (v := 1) B dX8_tick_33 (by decide) ?_
  refine z_iadd B dX8_tick_34 ?_
  refine z_seti (y := 17) (by decide) ?_
  refine pf_X8_206 (x := 17) (σ' := (ap b σ [(0, 8, 17), (0, 8, 16), (0, 8, 15), (0, 8, 14), (0, 8, 13), (0, 8, 12), (0, 8, 11), (0, 8, 10), (0, 8, 9), (0, 8, 8), (0, 8, 7), (0, 8, 6), (0, 8, 5), (0, 8, 4), (0, 8, 3), (0, 8, 2), (0, 8, 1)] [] [])) B (lKA (hk_K hK 0 rfl rfl)) wI_ap dX8_tick_35 ?_
  refine z_aload_n B dX8_tick_38 rfl 1 rfl ?_
  refine z_cVv (As := []) (rest := []) B cw_X8_240 cx_9 dX8_tick_39 (ci_X8_passTasks_920 l (σ := (ap b σ [(0, 8, 17), (0, 8, 16), (0, 8, 15), (0, 8, 14), (0, 8, 13), (0, 8, 12), (0, 8, 11), (0, 8, 10), (0, 8, 9), (0, 8, 8), (0, 8, 7), (0, 8, 6), (0, 8, 5), (0, 8, 4), (0, 8, 3), (0, 8, 2), (0, 8, 1)] [] [])) (b := b) (lyA hK) (rI_at 4 2 hI_4_2) (rR_at 0 3 hR_0_3)) (lKA (hk_K hK 0 rfl rfl)) rfl (by decide) rfl (Nat.le_of_ble_eq_true rfl) (by decide) (fun u hu => ?_)
  refine z_eqs (σ' := (ap b σ [(0, 8, 17), (0, 8, 16), (0, 8, 15), (0, 8, 14), (0, 8, 13), (0, 8, 12), (0, 8, 11), (0, 8, 10), (0, 8, 9), (0, 8, 8), (0, 8, 7), (0, 8, 6), (0, 8, 5), (0, 8, 4), (0, 8, 3), (0, 8, 2), (0, 8, 1)] [] [])) hu ?_
  show zx p l e _ s m _ below meth c g 3 0 0 _ _ 42 [(2, .int 16), (0, .ref (b + 0)), (1, .int 50)] _
  refine z_aload_n B dX8_tick_42 rfl 1 rfl ?_
  refine z_cVv (As := []) (rest := []) B cw_X8_243 cx_9 dX8_tick_43 (ci_X8_passTimers_921 l (σ := (ap b σ [(0, 8, 17), (0, 8, 16), (0, 8, 15), (0, 8, 14), (0, 8, 13), (0, 8, 12), (0, 8, 11), (0, 8, 10), (0, 8, 9), (0, 8, 8), (0, 8, 7), (0, 8, 6), (0, 8, 5), (0, 8, 4), (0, 8, 3), (0, 8, 2), (0, 8, 1)] [] [])) (b := b) (lyA hK) (rI_at 0 7 hI_0_7)) (lKA (hk_K hK 0 rfl rfl)) rfl (by decide) rfl (Nat.le_of_ble_eq_true rfl) (by decide) (fun u hu => ?_)
  refine z_eqs (σ' := (ap b σ [(0, 8, 17), (0, 8, 16), (0, 8, 15), (0, 8, 14), (0, 8, 13), (0, 8, 12), (0, 8, 11), (0, 8, 10), (0, 8, 9), (0, 8, 8), (0, 8, 7), (0, 8, 6), (0, 8, 5), (0, 8, 4), (0, 8, 3), (0, 8, 2), (0, 8, 1)] [] [])) hu ?_
  show zx p l e _ s m _ below meth c g 3 0 0 _ _ 46 [(2, .int 16), (0, .ref (b + 0)), (1, .int 50)] _
  refine z_iinc (v := 17) (lv' := [(2, .int 17), (0, .ref (b + 0)), (1, .int 50)]) B dX8_tick_46 0 rfl (by decide) (by decide) rfl ?_
  refine z_goto (tgt := 23) B dX8_tick_49 (by decide) ?_
  refine z_iload_n B dX8_tick_23 rfl 0 rfl ?_
  refine z_iload_n B dX8_tick_24 rfl 2 rfl ?_
  refine z_icmp_ge (tgt := 52) B dX8_tick_25 (by decide) (fun h => absurd h (by decide)) (fun _ => ?_)
  refine z_aload_n B dX8_tick_28 rfl 1 rfl ?_
  refine z_dup B dX8_tick_29 rfl ?_
  refine gf_X8_206 (x := 17) B (lKA (hk_K hK 0 rfl rfl)) (rI_at 0 8 rfl) dX8_tick_30 ?_
  refine z_iconst (v := 1) B dX8_tick_33 (by decide) ?_
  refine z_iadd B dX8_tick_34 ?_
  refine z_seti (y := 18) (by decide) ?_
  refine pf_X8_206 (x := 18) (σ' := (ap b σ [(0, 8, 18), (0, 8, 17), (0, 8, 16), (0, 8, 15), (0, 8, 14), (0, 8, 13), (0, 8, 12), (0, 8, 11), (0, 8, 10), (0, 8, 9), (0, 8, 8), (0, 8, 7), (0, 8, 6), (0, 8, 5), (0, 8, 4), (0, 8, 3), (0, 8, 2), (0, 8, 1)] [] [])) B (lKA (hk_K hK 0 rfl rfl)) wI_ap dX8_tick_35 ?_
  refine z_aload_n B dX8_tick_38 rfl 1 rfl ?_
  refine z_cVv (As := []) (rest := []) B cw_X8_240 cx_9 dX8_tick_39 (ci_X8_passTasks_920 l (σ := (ap b σ [(0, 8, 18), (0, 8, 17), (0, 8, 16), (0, 8, 15), (0, 8, 14), (0, 8, 13), (0, 8, 12), (0, 8, 11), (0, 8, 10), (0, 8, 9), (0, 8, 8), (0, 8, 7), (0, 8, 6), (0, 8, 5), (0, 8, 4), (0, 8, 3), (0, 8, 2), (0, 8, 1)] [] [])) (b := b) (lyA hK) (rI_at 4 2 hI_4_2) (rR_at 0 3 hR_0_3)) (lKA (hk_K hK 0 rfl rfl)) rfl (by decide) rfl (Nat.le_of_ble_eq_true rfl) (by decide) (fun u hu => ?_)
  refine z_eqs (σ' := (ap b σ [(0, 8, 18), (0, 8, 17), (0, 8, 16), (0, 8, 15), (0, 8, 14), (0, 8, 13), (0, 8, 12), (0, 8, 11), (0, 8, 10), (0, 8, 9), (0, 8, 8), (0, 8, 7), (0, 8, 6), (0, 8, 5), (0, 8, 4), (0, 8, 3), (0, 8, 2), (0, 8, 1)] [] [])) hu ?_
  show zx p l e _ s m _ below meth c g 3 0 0 _ _ 42 [(2, .int 17), (0, .ref (b + 0)), (1, .int 50)] _
  refine z_aload_n B dX8_tick_42 rfl 1 rfl ?_
  refine z_cVv (As := []) (rest := []) B cw_X8_243 cx_9 dX8_tick_43 (ci_X8_passTimers_921 l (σ := (ap b σ [(0, 8, 18), (0, 8, 17), (0, 8, 16), (0, 8, 15), (0, 8, 14), (0, 8, 13), (0, 8, 12), (0, 8, 11), (0, 8, 10), (0, 8, 9), (0, 8, 8), (0, 8, 7), (0, 8, 6), (0, 8, 5), (0, 8, 4), (0, 8, 3), (0, 8, 2), (0, 8, 1)] [] [])) (b := b) (lyA hK) (rI_at 0 7 hI_0_7)) (lKA (hk_K hK 0 rfl rfl)) rfl (by decide) rfl (Nat.le_of_ble_eq_true rfl) (by decide) (fun u hu => ?_)
  refine z_eqs (σ' := (ap b σ [(0, 8, 18), (0, 8, 17), (0, 8, 16), (0, 8, 15), (0, 8, 14), (0, 8, 13), (0, 8, 12), (0, 8, 11), (0, 8, 10), (0, 8, 9), (0, 8, 8), (0, 8, 7), (0, 8, 6), (0, 8, 5), (0, 8, 4), (0, 8, 3), (0, 8, 2), (0, 8, 1)] [] [])) hu ?_
  show zx p l e _ s m _ below meth c g 3 0 0 _ _ 46 [(2, .int 17), (0, .ref (b + 0)), (1, .int 50)] _
  refine z_iinc (v := 18) (lv' := [(2, .int 18), (0, .ref (b + 0)), (1, .int 50)]) B dX8_tick_46 0 rfl (by decide) (by decide) rfl ?_
  refine z_goto (tgt := 23) B dX8_tick_49 (by decide) ?_
  refine z_iload_n B dX8_tick_23 rfl 0 rfl ?_
  refine z_iload_n B dX8_tick_24 rfl 2 rfl ?_
  refine z_icmp_ge (tgt := 52) B dX8_tick_25 (by decide) (fun h => absurd h (by decide)) (fun _ => ?_)
  refine z_aload_n B dX8_tick_28 rfl 1 rfl ?_
  refine z_dup B dX8_tick_29 rfl ?_
  refine gf_X8_206 (x := 18) B (lKA (hk_K hK 0 rfl rfl)) (rI_at 0 8 rfl) dX8_tick_30 ?_
  refine z_iconst (v := 1) B dX8_tick_33 (by decide) ?_
  refine z_iadd B dX8_tick_34 ?_
  refine z_seti (y := 19) (by decide) ?_
  refine pf_X8_206 (x := 19) (σ' := (ap b σ [(0, 8, 19), (0, 8, 18), (0, 8, 17), (0, 8, 16), (0, 8, 15), (0, 8, 14), (0, 8, 13), (0, 8, 12), (0, 8, 11), (0, 8, 10), (0, 8, 9), (0, 8, 8), (0, 8, 7), (0, 8, 6), (0, 8, 5), (0, 8, 4), (0, 8, 3), (0, 8, 2), (0, 8, 1)] [] [])) B (lKA (hk_K hK 0 rfl rfl)) wI_ap dX8_tick_35 ?_
  refine z_aload_n B dX8_tick_38 rfl 1 rfl ?_
  refine z_cVv (As := []) (rest := []) B cw_X8_240 cx_9 dX8_tick_39 (ci_X8_passTasks_920 l (σ := (ap b σ [(0, 8, 19), (0, 8, 18), (0, 8, 17), (0, 8, 16), (0, 8, 15), (0, 8, 14), (0, 8, 13), (0, 8, 12), (0, 8, 11), (0, 8, 10), (0, 8, 9), (0, 8, 8), (0, 8, 7), (0, 8, 6), (0, 8, 5), (0, 8, 4), (0, 8, 3), (0, 8, 2), (0, 8, 1)] [] [])) (b := b) (lyA hK) (rI_at 4 2 hI_4_2) (rR_at 0 3 hR_0_3)) (lKA (hk_K hK 0 rfl rfl)) rfl (by decide) rfl (Nat.le_of_ble_eq_true rfl) (by decide) (fun u hu => ?_)
  refine z_eqs (σ' := (ap b σ [(0, 8, 19), (0, 8, 18), (0, 8, 17), (0, 8, 16), (0, 8, 15), (0, 8, 14), (0, 8, 13), (0, 8, 12), (0, 8, 11), (0, 8, 10), (0, 8, 9), (0, 8, 8), (0, 8, 7), (0, 8, 6), (0, 8, 5), (0, 8, 4), (0, 8, 3), (0, 8, 2), (0, 8, 1)] [] [])) hu ?_
  show zx p l e _ s m _ below meth c g 3 0 0 _ _ 42 [(2, .int 18), (0, .ref (b + 0)), (1, .int 50)] _
  refine z_aload_n B dX8_tick_42 rfl 1 rfl ?_
  refine z_cVv (As := []) (rest := []) B cw_X8_243 cx_9 dX8_tick_43 (ci_X8_passTimers_921 l (σ := (ap b σ [(0, 8, 19), (0, 8, 18), (0, 8, 17), (0, 8, 16), (0, 8, 15), (0, 8, 14), (0, 8, 13), (0, 8, 12), (0, 8, 11), (0, 8, 10), (0, 8, 9), (0, 8, 8), (0, 8, 7), (0, 8, 6), (0, 8, 5), (0, 8, 4), (0, 8, 3), (0, 8, 2), (0, 8, 1)] [] [])) (b := b) (lyA hK) (rI_at 0 7 hI_0_7)) (lKA (hk_K hK 0 rfl rfl)) rfl (by decide) rfl (Nat.le_of_ble_eq_true rfl) (by decide) (fun u hu => ?_)
  refine z_eqs (σ' := (ap b σ [(0, 8, 19), (0, 8, 18), (0, 8, 17), (0, 8, 16), (0, 8, 15), (0, 8, 14), (0, 8, 13), (0, 8, 12), (0, 8, 11), (0, 8, 10), (0, 8, 9), (0, 8, 8), (0, 8, 7), (0, 8, 6), (0, 8, 5), (0, 8, 4), (0, 8, 3), (0, 8, 2), (0, 8, 1)] [] [])) hu ?_
  show zx p l e _ s m _ below meth c g 3 0 0 _ _ 46 [(2, .int 18), (0, .ref (b + 0)), (1, .int 50)] _
  refine z_iinc (v := 19) (lv' := [(2, .int 19), (0, .ref (b + 0)), (1, .int 50)]) B dX8_tick_46 0 rfl (by decide) (by decide) rfl ?_
  refine z_goto (tgt := 23) B dX8_tick_49 (by decide) ?_
  refine z_iload_n B dX8_tick_23 rfl 0 rfl ?_
  refine z_iload_n B dX8_tick_24 rfl 2 rfl ?_
  refine z_icmp_ge (tgt := 52) B dX8_tick_25 (by decide) (fun h => absurd h (by decide)) (fun _ => ?_)
  refine z_aload_n B dX8_tick_28 rfl 1 rfl ?_
  refine z_dup B dX8_tick_29 rfl ?_
  refine gf_X8_206 (x := 19) B (lKA (hk_K hK 0 rfl rfl)) (rI_at 0 8 rfl) dX8_tick_30 ?_
  refine z_iconst (v := 1) B dX8_tick_33 (by decide) ?_
  refine z_iadd B dX8_tick_34 ?_
  refine z_seti (y := 20) (by decide) ?_
  refine pf_X8_206 (x := 20) (σ' := (ap b σ [(0, 8, 20), (0, 8, 19), (0, 8, 18), (0, 8, 17), (0, 8, 16), (0, 8, 15), (0, 8, 14), (0, 8, 13), (0, 8, 12), (0, 8, 11), (0, 8, 10), (0, 8, 9), (0, 8, 8), (0, 8, 7), (0, 8, 6), (0, 8, 5), (0, 8, 4), (0, 8, 3), (0, 8, 2), (0, 8, 1)] [] [])) B (lKA (hk_K hK 0 rfl rfl)) wI_ap dX8_tick_35 ?_
  refine z_aload_n B dX8_tick_38 rfl 1 rfl ?_
  refine z_cVv (As := []) (rest := []) B cw_X8_240 cx_9 dX8_tick_39 (ci_X8_passTasks_920 l (σ := (ap b σ [(0, 8, 20), (0, 8, 19), (0, 8, 18), (0, 8, 17), (0, 8, 16), (0, 8, 15), (0, 8, 14), (0, 8, 13), (0, 8, 12), (0, 8, 11), (0, 8, 10), (0, 8, 9), (0, 8, 8), (0, 8, 7), (0, 8, 6), (0, 8, 5), (0, 8, 4), (0, 8, 3), (0, 8, 2), (0, 8, 1)] [] [])) (b := b) (lyA hK) (rI_at 4 2 hI_4_2) (rR_at 0 3 hR_0_3)) (lKA (hk_K hK 0 rfl rfl)) rfl (by decide) rfl (Nat.le_of_ble_eq_true rfl) (by decide) (fun u hu => ?_)
  refine z_eqs (σ' := (ap b σ [(0, 8, 20), (0, 8, 19), (0, 8, 18), (0, 8, 17), (0, 8, 16), (0, 8, 15), (0, 8, 14), (0, 8, 13), (0, 8, 12), (0, 8, 11), (0, 8, 10), (0, 8, 9), (0, 8, 8), (0, 8, 7), (0, 8, 6), (0, 8, 5), (0, 8, 4), (0, 8, 3), (0, 8, 2), (0, 8, 1)] [] [])) hu ?_
  show zx p l e _ s m _ below meth c g 3 0 0 _ _ 42 [(2, .int 19), (0, .ref (b + 0)), (1, .int 50)] _
  refine z_aload_n B dX8_tick_42 rfl 1 rfl ?_
  refine z_cVv (As := []) (rest := []) B cw_X8_243 cx_9 dX8_tick_43 (ci_X8_passTimers_921 l (σ := (ap b σ [(0, 8, 20), (0, 8, 19), (0, 8, 18), (0, 8, 17), (0, 8, 16), (0, 8, 15), (0, 8, 14), (0, 8, 13), (0, 8, 12), (0, 8, 11), (0, 8, 10), (0, 8, 9), (0, 8, 8), (0, 8, 7), (0, 8, 6), (0, 8, 5), (0, 8, 4), (0, 8, 3), (0, 8, 2), (0, 8, 1)] [] [])) (b := b) (lyA hK) (rI_at 0 7 hI_0_7)) (lKA (hk_K hK 0 rfl rfl)) rfl (by decide) rfl (Nat.le_of_ble_eq_true rfl) (by decide) (fun u hu => ?_)
  refine z_eqs (σ' := (ap b σ [(0, 8, 20), (0, 8, 19), (0, 8, 18), (0, 8, 17), (0, 8, 16), (0, 8, 15), (0, 8, 14), (0, 8, 13), (0, 8, 12), (0, 8, 11), (0, 8, 10), (0, 8, 9), (0, 8, 8), (0, 8, 7), (0, 8, 6), (0, 8, 5), (0, 8, 4), (0, 8, 3), (0, 8, 2), (0, 8, 1)] [] [])) hu ?_
  show zx p l e _ s m _ below meth c g 3 0 0 _ _ 46 [(2, .int 19), (0, .ref (b + 0)), (1, .int 50)] _
  refine z_iinc (v := 20) (lv' := [(2, .int 20), (0, .ref (b + 0)), (1, .int 50)]) B dX8_tick_46 0 rfl (by decide) (by decide) rfl ?_
  refine z_goto (tgt := 23) B dX8_tick_49 (by decide) ?_
  refine z_iload_n B dX8_tick_23 rfl 0 rfl ?_
  refine z_iload_n B dX8_tick_24 rfl 2 rfl ?_
  refine z_icmp_ge (tgt := 52) B dX8_tick_25 (by decide) (fun h => absurd h (by decide)) (fun _ => ?_)
  refine z_aload_n B dX8_tick_28 rfl 1 rfl ?_
  refine z_dup B dX8_tick_29 rfl ?_
  refine gf_X8_206 (x := 20) B (lKA (hk_K hK 0 rfl rfl)) (rI_at 0 8 rfl) dX8_tick_30 ?_
  refine z_iconst (v := 1) B dX8_tick_33 (by decide) ?_
  refine z_iadd B dX8_tick_34 ?_
  refine z_seti (y := 21) (by decide) ?_
  refine pf_X8_206 (x := 21) (σ' := (ap b σ [(0, 8, 21), (0, 8, 20), (0, 8, 19), (0, 8, 18), (0, 8, 17), (0, 8, 16), (0, 8, 15), (0, 8, 14), (0, 8, 13), (0, 8, 12), (0, 8, 11), (0, 8, 10), (0, 8, 9), (0, 8, 8), (0, 8, 7), (0, 8, 6), (0, 8, 5), (0, 8, 4), (0, 8, 3), (0, 8, 2), (0, 8, 1)] [] [])) B (lKA (hk_K hK 0 rfl rfl)) wI_ap dX8_tick_35 ?_
  refine z_aload_n B dX8_tick_38 rfl 1 rfl ?_
  refine z_cVv (As := []) (rest := []) B cw_X8_240 cx_9 dX8_tick_39 (ci_X8_passTasks_920 l (σ := (ap b σ [(0, 8, 21), (0, 8, 20), (0, 8, 19), (0, 8, 18), (0, 8, 17), (0, 8, 16), (0, 8, 15), (0, 8, 14), (0, 8, 13), (0, 8, 12), (0, 8, 11), (0, 8, 10), (0, 8, 9), (0, 8, 8), (0, 8, 7), (0, 8, 6), (0, 8, 5), (0, 8, 4), (0, 8, 3), (0, 8, 2), (0, 8, 1)] [] [])) (b := b) (lyA hK) (rI_at 4 2 hI_4_2) (rR_at 0 3 hR_0_3)) (lKA (hk_K hK 0 rfl rfl)) rfl (by decide) rfl (Nat.le_of_ble_eq_true rfl) (by decide) (fun u hu => ?_)
  refine z_eqs (σ' := (ap b σ [(0, 8, 21), (0, 8, 20), (0, 8, 19), (0, 8, 18), (0, 8, 17), (0, 8, 16), (0, 8, 15), (0, 8, 14), (0, 8, 13), (0, 8, 12), (0, 8, 11), (0, 8, 10), (0, 8, 9), (0, 8, 8), (0, 8, 7), (0, 8, 6), (0, 8, 5), (0, 8, 4), (0, 8, 3), (0, 8, 2), (0, 8, 1)] [] [])) hu ?_
  show zx p l e _ s m _ below meth c g 3 0 0 _ _ 42 [(2, .int 20), (0, .ref (b + 0)), (1, .int 50)] _
  refine z_aload_n B dX8_tick_42 rfl 1 rfl ?_
  refine z_cVv (As := []) (rest := []) B cw_X8_243 cx_9 dX8_tick_43 (ci_X8_passTimers_921 l (σ := (ap b σ [(0, 8, 21), (0, 8, 20), (0, 8, 19), (0, 8, 18), (0, 8, 17), (0, 8, 16), (0, 8, 15), (0, 8, 14), (0, 8, 13), (0, 8, 12), (0, 8, 11), (0, 8, 10), (0, 8, 9), (0, 8, 8), (0, 8, 7), (0, 8, 6), (0, 8, 5), (0, 8, 4), (0, 8, 3), (0, 8, 2), (0, 8, 1)] [] [])) (b := b) (lyA hK) (rI_at 0 7 hI_0_7)) (lKA (hk_K hK 0 rfl rfl)) rfl (by decide) rfl (Nat.le_of_ble_eq_true rfl) (by decide) (fun u hu => ?_)
  refine z_eqs (σ' := (ap b σ [(0, 8, 21), (0, 8, 20), (0, 8, 19), (0, 8, 18), (0, 8, 17), (0, 8, 16), (0, 8, 15), (0, 8, 14), (0, 8, 13), (0, 8, 12), (0, 8, 11), (0, 8, 10), (0, 8, 9), (0, 8, 8), (0, 8, 7), (0, 8, 6), (0, 8, 5), (0, 8, 4), (0, 8, 3), (0, 8, 2), (0, 8, 1)] [] [])) hu ?_
  show zx p l e _ s m _ below meth c g 3 0 0 _ _ 46 [(2, .int 20), (0, .ref (b + 0)), (1, .int 50)] _
  refine z_iinc (v := 21) (lv' := [(2, .int 21), (0, .ref (b + 0)), (1, .int 50)]) B dX8_tick_46 0 rfl (by decide) (by decide) rfl ?_
  refine z_goto (tgt := 23) B dX8_tick_49 (by decide) ?_
  refine z_iload_n B dX8_tick_23 rfl 0 rfl ?_
  refine z_iload_n B dX8_tick_24 rfl 2 rfl ?_
  refine z_icmp_ge (tgt := 52) B dX8_tick_25 (by decide) (fun h => absurd h (by decide)) (fun _ => ?_)
  refine z_aload_n B dX8_tick_28 rfl 1 rfl ?_
  refine z_dup B dX8_tick_29 rfl ?_
  refine gf_X8_206 (x := 21) B (lKA (hk_K hK 0 rfl rfl)) (rI_at 0 8 rfl) dX8_tick_30 ?_
  refine z_iconst (v := 1) B dX8_tick_33 (by decide) ?_
  refine z_iadd B dX8_tick_34 ?_
  refine z_seti (y := 22) (by decide) ?_
  refine pf_X8_206 (x := 22) (σ' := (ap b σ [(0, 8, 22), (0, 8, 21), (0, 8, 20), (0, 8, 19), (0, 8, 18), (0, 8, 17), (0, 8, 16), (0, 8, 15), (0, 8, 14), (0, 8, 13), (0, 8, 12), (0, 8, 11), (0, 8, 10), (0, 8, 9), (0, 8, 8), (0, 8, 7), (0, 8, 6), (0, 8, 5), (0, 8, 4), (0, 8, 3), (0, 8, 2), (0, 8, 1)] [] [])) B (lKA (hk_K hK 0 rfl rfl)) wI_ap dX8_tick_35 ?_
  refine z_aload_n B dX8_tick_38 rfl 1 rfl ?_
  refine z_cVv (As := []) (rest := []) B cw_X8_240 cx_9 dX8_tick_39 (ci_X8_passTasks_920 l (σ := (ap b σ [(0, 8, 22), (0, 8, 21), (0, 8, 20), (0, 8, 19), (0, 8, 18), (0, 8, 17), (0, 8, 16), (0, 8, 15), (0, 8, 14), (0, 8, 13), (0, 8, 12), (0, 8, 11), (0, 8, 10), (0, 8, 9), (0, 8, 8), (0, 8, 7), (0, 8, 6), (0, 8, 5), (0, 8, 4), (0, 8, 3), (0, 8, 2), (0, 8, 1)] [] [])) (b := b) (lyA hK) (rI_at 4 2 hI_4_2) (rR_at 0 3 hR_0_3)) (lKA (hk_K hK 0 rfl rfl)) rfl (by decide) rfl (Nat.le_of_ble_eq_true rfl) (by decide) (fun u hu => ?_)
  refine z_eqs (σ' := (ap b σ [(0, 8, 22), (0, 8, 21), (0, 8, 20), (0, 8, 19), (0, 8, 18), (0, 8, 17), (0, 8, 16), (0, 8, 15), (0, 8, 14), (0, 8, 13), (0, 8, 12), (0, 8, 11), (0, 8, 10), (0, 8, 9), (0, 8, 8), (0, 8, 7), (0, 8, 6), (0, 8, 5), (0, 8, 4), (0, 8, 3), (0, 8, 2), (0, 8, 1)] [] [])) hu ?_
  show zx p l e _ s m _ below meth c g 3 0 0 _ _ 42 [(2, .int 21), (0, .ref (b + 0)), (1, .int 50)] _
  refine z_aload_n B dX8_tick_42 rfl 1 rfl ?_
  refine z_cVv (As := []) (rest := []) B cw_X8_243 cx_9 dX8_tick_43 (ci_X8_passTimers_921 l (σ := (ap b σ [(0, 8, 22), (0, 8, 21), (0, 8, 20), (0, 8, 19), (0, 8, 18), (0, 8, 17), (0, 8, 16), (0, 8, 15), (0, 8, 14), (0, 8, 13), (0, 8, 12), (0, 8, 11), (0, 8, 10), (0, 8, 9), (0, 8, 8), (0, 8, 7), (0, 8, 6), (0, 8, 5), (0, 8, 4), (0, 8, 3), (0, 8, 2), (0, 8, 1)] [] [])) (b := b) (lyA hK) (rI_at 0 7 hI_0_7)) (lKA (hk_K hK 0 rfl rfl)) rfl (by decide) rfl (Nat.le_of_ble_eq_true rfl) (by decide) (fun u hu => ?_)
  refine z_eqs (σ' := (ap b σ [(0, 8, 22), (0, 8, 21), (0, 8, 20), (0, 8, 19), (0, 8, 18), (0, 8, 17), (0, 8, 16), (0, 8, 15), (0, 8, 14), (0, 8, 13), (0, 8, 12), (0, 8, 11), (0, 8, 10), (0, 8, 9), (0, 8, 8), (0, 8, 7), (0, 8, 6), (0, 8, 5), (0, 8, 4), (0, 8, 3), (0, 8, 2), (0, 8, 1)] [] [])) hu ?_
  show zx p l e _ s m _ below meth c g 3 0 0 _ _ 46 [(2, .int 21), (0, .ref (b + 0)), (1, .int 50)] _
  refine z_iinc (v := 22) (lv' := [(2, .int 22), (0, .ref (b + 0)), (1, .int 50)]) B dX8_tick_46 0 rfl (by decide) (by decide) rfl ?_
  refine z_goto (tgt := 23) B dX8_tick_49 (by decide) ?_
  refine z_iload_n B dX8_tick_23 rfl 0 rfl ?_
  refine z_iload_n B dX8_tick_24 rfl 2 rfl ?_
  refine z_icmp_ge (tgt := 52) B dX8_tick_25 (by decide) (fun h => absurd h (by decide)) (fun _ => ?_)
  refine z_aload_n B dX8_tick_28 rfl 1 rfl ?_
  refine z_dup B dX8_tick_29 rfl ?_
  refine gf_X8_206 (x := 22) B (lKA (hk_K hK 0 rfl rfl)) (rI_at 0 8 rfl) dX8_tick_30 ?_
  refine z_iconst (v := 1) B dX8_tick_33 (by decide) ?_
  refine z_iadd B dX8_tick_34 ?_
  refine z_seti (y := 23) (by decide) ?_
  refine pf_X8_206 (x := 23) (σ' := (ap b σ [(0, 8, 23), (0, 8, 22), (0, 8, 21), (0, 8, 20), (0, 8, 19), (0, 8, 18), (0, 8, 17), (0, 8, 16), (0, 8, 15), (0, 8, 14), (0, 8, 13), (0, 8, 12), (0, 8, 11), (0, 8, 10), (0, 8, 9), (0, 8, 8), (0, 8, 7), (0, 8, 6), (0, 8, 5), (0, 8, 4), (0, 8, 3), (0, 8, 2), (0, 8, 1)] [] [])) B (lKA (hk_K hK 0 rfl rfl)) wI_ap dX8_tick_35 ?_
  refine z_aload_n B dX8_tick_38 rfl 1 rfl ?_
  refine z_cVv (As := []) (rest := []) B cw_X8_240 cx_9 dX8_tick_39 (ci_X8_passTasks_920 l (σ := (ap b σ [(0, 8, 23), (0, 8, 22), (0, 8, 21), (0, 8, 20), (0, 8, 19), (0, 8, 18), (0, 8, 17), (0, 8, 16), (0, 8, 15), (0, 8, 14), (0, 8, 13), (0, 8, 12), (0, 8, 11), (0, 8, 10), (0, 8, 9), (0, 8, 8), (0, 8, 7), (0, 8, 6), (0, 8, 5), (0, 8, 4), (0, 8, 3), (0, 8, 2), (0, 8, 1)] [] [])) (b := b) (lyA hK) (rI_at 4 2 hI_4_2) (rR_at 0 3 hR_0_3)) (lKA (hk_K hK 0 rfl rfl)) rfl (by decide) rfl (Nat.le_of_ble_eq_true rfl) (by decide) (fun u hu => ?_)
  refine z_eqs (σ' := (ap b σ [(0, 8, 23), (0, 8, 22), (0, 8, 21), (0, 8, 20), (0, 8, 19), (0, 8, 18), (0, 8, 17), (0, 8, 16), (0, 8, 15), (0, 8, 14), (0, 8, 13), (0, 8, 12), (0, 8, 11), (0, 8, 10), (0, 8, 9), (0, 8, 8), (0, 8, 7), (0, 8, 6), (0, 8, 5), (0, 8, 4), (0, 8, 3), (0, 8, 2), (0, 8, 1)] [] [])) hu ?_
  show zx p l e _ s m _ below meth c g 3 0 0 _ _ 42 [(2, .int 22), (0, .ref (b + 0)), (1, .int 50)] _
  refine z_aload_n B dX8_tick_42 rfl 1 rfl ?_
  refine z_cVv (As := []) (rest := []) B cw_X8_243 cx_9 dX8_tick_43 (ci_X8_passTimers_921 l (σ := (ap b σ [(0, 8, 23), (0, 8, 22), (0, 8, 21), (0, 8, 20), (0, 8, 19), (0, 8, 18), (0, 8, 17), (0, 8, 16), (0, 8, 15), (0, 8, 14), (0, 8, 13), (0, 8, 12), (0, 8, 11), (0, 8, 10), (0, 8, 9), (0, 8, 8), (0, 8, 7), (0, 8, 6), (0, 8, 5), (0, 8, 4), (0, 8, 3), (0, 8, 2), (0, 8, 1)] [] [])) (b := b) (lyA hK) (rI_at 0 7 hI_0_7)) (lKA (hk_K hK 0 rfl rfl)) rfl (by decide) rfl (Nat.le_of_ble_eq_true rfl) (by decide) (fun u hu => ?_)
  refine z_eqs (σ' := (ap b σ [(0, 8, 23), (0, 8, 22), (0, 8, 21), (0, 8, 20), (0, 8, 19), (0, 8, 18), (0, 8, 17), (0, 8, 16), (0, 8, 15), (0, 8, 14), (0, 8, 13), (0, 8, 12), (0, 8, 11), (0, 8, 10), (0, 8, 9), (0, 8, 8), (0, 8, 7), (0, 8, 6), (0, 8, 5), (0, 8, 4), (0, 8, 3), (0, 8, 2), (0, 8, 1)] [] [])) hu ?_
  show zx p l e _ s m _ below meth c g 3 0 0 _ _ 46 [(2, .int 22), (0, .ref (b + 0)), (1, .int 50)] _
  refine z_iinc (v := 23) (lv' := [(2, .int 23), (0, .ref (b + 0)), (1, .int 50)]) B dX8_tick_46 0 rfl (by decide) (by decide) rfl ?_
  refine z_goto (tgt := 23) B dX8_tick_49 (by decide) ?_
  refine z_iload_n B dX8_tick_23 rfl 0 rfl ?_
  refine z_iload_n B dX8_tick_24 rfl 2 rfl ?_
  refine z_icmp_ge (tgt := 52) B dX8_tick_25 (by decide) (fun h => absurd h (by decide)) (fun _ => ?_)
  refine z_aload_n B dX8_tick_28 rfl 1 rfl ?_
  refine z_dup B dX8_tick_29 rfl ?_
  refine gf_X8_206 (x := 23) B (lKA (hk_K hK 0 rfl rfl)) (rI_at 0 8 rfl) dX8_tick_30 ?_
  refine z_iconst (v := 1) B dX8_tick_33 (by decide) ?_
  refine z_iadd B dX8_tick_34 ?_
  refine z_seti (y := 24) (by decide) ?_
  refine pf_X8_206 (x := 24) (σ' := (ap b σ [(0, 8, 24), (0, 8, 23), (0, 8, 22), (0, 8, 21), (0, 8, 20), (0, 8, 19), (0, 8, 18), (0, 8, 17), (0, 8, 16), (0, 8, 15), (0, 8, 14), (0, 8, 13), (0, 8, 12), (0, 8, 11), (0, 8, 10), (0, 8, 9), (0, 8, 8), (0, 8, 7), (0, 8, 6), (0, 8, 5), (0, 8, 4), (0, 8, 3), (0, 8, 2), (0, 8, 1)] [] [])) B (lKA (hk_K hK 0 rfl rfl)) wI_ap dX8_tick_35 ?_
  refine z_aload_n B dX8_tick_38 rfl 1 rfl ?_
  refine z_cVv (As := []) (rest := []) B cw_X8_240 cx_9 dX8_tick_39 (ci_X8_passTasks_920 l (σ := (ap b σ [(0, 8, 24), (0, 8, 23), (0, 8, 22), (0, 8, 21), (0, 8, 20), (0, 8, 19), (0, 8, 18), (0, 8, 17), (0, 8, 16), (0, 8, 15), (0, 8, 14), (0, 8, 13), (0, 8, 12), (0, 8, 11), (0, 8, 10), (0, 8, 9), (0, 8, 8), (0, 8, 7), (0, 8, 6), (0, 8, 5), (0, 8, 4), (0, 8, 3), (0, 8, 2), (0, 8, 1)] [] [])) (b := b) (lyA hK) (rI_at 4 2 hI_4_2) (rR_at 0 3 hR_0_3)) (lKA (hk_K hK 0 rfl rfl)) rfl (by decide) rfl (Nat.le_of_ble_eq_true rfl) (by decide) (fun u hu => ?_)
  refine z_eqs (σ' := (ap b σ [(0, 8, 24), (0, 8, 23), (0, 8, 22), (0, 8, 21), (0, 8, 20), (0, 8, 19), (0, 8, 18), (0, 8, 17), (0, 8, 16), (0, 8, 15), (0, 8, 14), (0, 8, 13), (0, 8, 12), (0, 8, 11), (0, 8, 10), (0, 8, 9), (0, 8, 8), (0, 8, 7), (0, 8, 6), (0, 8, 5), (0, 8, 4), (0, 8, 3), (0, 8, 2), (0, 8, 1)] [] [])) hu ?_
  show zx p l e _ s m _ below meth c g 3 0 0 _ _ 42 [(2, .int 23), (0, .ref (b + 0)), (1, .int 50)] _
  refine z_aload_n B dX8_tick_42 rfl 1 rfl ?_
  refine z_cVv (As := []) (rest := []) B cw_X8_243 cx_9 dX8_tick_43 (ci_X8_passTimers_921 l (σ := (ap b σ [(0, 8, 24), (0, 8, 23), (0, 8, 22), (0, 8, 21), (0, 8, 20), (0, 8, 19), (0, 8, 18), (0, 8, 17), (0, 8, 16), (0, 8, 15), (0, 8, 14), (0, 8, 13), (0, 8, 12), (0, 8, 11), (0, 8, 10), (0, 8, 9), (0, 8, 8), (0, 8, 7), (0, 8, 6), (0, 8, 5), (0, 8, 4), (0, 8, 3), (0, 8, 2), (0, 8, 1)] [] [])) (b := b) (lyA hK) (rI_at 0 7 hI_0_7)) (lKA (hk_K hK 0 rfl rfl)) rfl (by decide) rfl (Nat.le_of_ble_eq_true rfl) (by decide) (fun u hu => ?_)
  refine z_eqs (σ' := (ap b σ [(0, 8, 24), (0, 8, 23), (0, 8, 22), (0, 8, 21), (0, 8, 20), (0, 8, 19), (0, 8, 18), (0, 8, 17), (0, 8, 16), (0, 8, 15), (0, 8, 14), (0, 8, 13), (0, 8, 12), (0, 8, 11), (0, 8, 10), (0, 8, 9), (0, 8, 8), (0, 8, 7), (0, 8, 6), (0, 8, 5), (0, 8, 4), (0, 8, 3), (0, 8, 2), (0, 8, 1)] [] [])) hu ?_
  show zx p l e _ s m _ below meth c g 3 0 0 _ _ 46 [(2, .int 23), (0, .ref (b + 0)), (1, .int 50)] _
  refine z_iinc (v := 24) (lv' := [(2, .int 24), (0, .ref (b + 0)), (1, .int 50)]) B dX8_tick_46 0 rfl (by decide) (by decide) rfl ?_
  refine z_goto (tgt := 23) B dX8_tick_49 (by decide) ?_
  refine z_iload_n B dX8_tick_23 rfl 0 rfl ?_
  refine z_iload_n B dX8_tick_24 rfl 2 rfl ?_
  refine z_icmp_ge (tgt := 52) B dX8_tick_25 (by decide) (fun h => absurd h (by decide)) (fun _ => ?_)
  refine z_aload_n B dX8_tick_28 rfl 1 rfl ?_
  refine z_dup B dX8_tick_29 rfl ?_
  refine gf_X8_206 (x := 24) B (lKA (hk_K hK 0 rfl rfl)) (rI_at 0 8 rfl) dX8_tick_30 ?_
  refine z_iconst (v := 1) B dX8_tick_33 (by decide) ?_
  refine z_iadd B dX8_tick_34 ?_
  refine z_seti (y := 25) (by decide) ?_
  refine pf_X8_206 (x := 25) (σ' := (ap b σ [(0, 8, 25), (0, 8, 24), (0, 8, 23), (0, 8, 22), (0, 8, 21), (0, 8, 20), (0, 8, 19), (0, 8, 18), (0, 8, 17), (0, 8, 16), (0, 8, 15), (0, 8, 14), (0, 8, 13), (0, 8, 12), (0, 8, 11), (0, 8, 10), (0, 8, 9), (0, 8, 8), (0, 8, 7), (0, 8, 6), (0, 8, 5), (0, 8, 4), (0, 8, 3), (0, 8, 2), (0, 8, 1)] [] [])) B (lKA (hk_K hK 0 rfl rfl)) wI_ap dX8_tick_35 ?_
  refine z_aload_n B dX8_tick_38 rfl 1 rfl ?_
  refine z_cVv (As := []) (rest := []) B cw_X8_240 cx_9 dX8_tick_39 (ci_X8_passTasks_920 l (σ := (ap b σ [(0, 8, 25), (0, 8, 24), (0, 8, 23), (0, 8, 22), (0, 8, 21), (0, 8, 20), (0, 8, 19), (0, 8, 18), (0, 8, 17), (0, 8, 16), (0, 8, 15), (0, 8, 14), (0, 8, 13), (0, 8, 12), (0, 8, 11), (0, 8, 10), (0, 8, 9), (0, 8, 8), (0, 8, 7), (0, 8, 6), (0, 8, 5), (0, 8, 4), (0, 8, 3), (0, 8, 2), (0, 8, 1)] [] [])) (b := b) (lyA hK) (rI_at 4 2 hI_4_2) (rR_at 0 3 hR_0_3)) (lKA (hk_K hK 0 rfl rfl)) rfl (by decide) rfl (Nat.le_of_ble_eq_true rfl) (by decide) (fun u hu => ?_)
  refine z_eqs (σ' := (ap b σ [(0, 8, 25), (0, 8, 24), (0, 8, 23), (0, 8, 22), (0, 8, 21), (0, 8, 20), (0, 8, 19), (0, 8, 18), (0, 8, 17), (0, 8, 16), (0, 8, 15), (0, 8, 14), (0, 8, 13), (0, 8, 12), (0, 8, 11), (0, 8, 10), (0, 8, 9), (0, 8, 8), (0, 8, 7), (0, 8, 6), (0, 8, 5), (0, 8, 4), (0, 8, 3), (0, 8, 2), (0, 8, 1)] [] [])) hu ?_
  show zx p l e _ s m _ below meth c g 3 0 0 _ _ 42 [(2, .int 24), (0, .ref (b + 0)), (1, .int 50)] _
  refine z_aload_n B dX8_tick_42 rfl 1 rfl ?_
  refine z_cVv (As := []) (rest := []) B cw_X8_243 cx_9 dX8_tick_43 (ci_X8_passTimers_921 l (σ := (ap b σ [(0, 8, 25), (0, 8, 24), (0, 8, 23), (0, 8, 22), (0, 8, 21), (0, 8, 20), (0, 8, 19), (0, 8, 18), (0, 8, 17), (0, 8, 16), (0, 8, 15), (0, 8, 14), (0, 8, 13), (0, 8, 12), (0, 8, 11), (0, 8, 10), (0, 8, 9), (0, 8, 8), (0, 8, 7), (0, 8, 6), (0, 8, 5), (0, 8, 4), (0, 8, 3), (0, 8, 2), (0, 8, 1)] [] [])) (b := b) (lyA hK) (rI_at 0 7 hI_0_7)) (lKA (hk_K hK 0 rfl rfl)) rfl (by decide) rfl (Nat.le_of_ble_eq_true rfl) (by decide) (fun u hu => ?_)
  refine z_eqs (σ' := (ap b σ [(0, 8, 25), (0, 8, 24), (0, 8, 23), (0, 8, 22), (0, 8, 21), (0, 8, 20), (0, 8, 19), (0, 8, 18), (0, 8, 17), (0, 8, 16), (0, 8, 15), (0, 8, 14), (0, 8, 13), (0, 8, 12), (0, 8, 11), (0, 8, 10), (0, 8, 9), (0, 8, 8), (0, 8, 7), (0, 8, 6), (0, 8, 5), (0, 8, 4), (0, 8, 3), (0, 8, 2), (0, 8, 1)] [] [])) hu ?_
  show zx p l e _ s m _ below meth c g 3 0 0 _ _ 46 [(2, .int 24), (0, .ref (b + 0)), (1, .int 50)] _
  refine z_iinc (v := 25) (lv' := [(2, .int 25), (0, .ref (b + 0)), (1, .int 50)]) B dX8_tick_46 0 rfl (by decide) (by decide) rfl ?_
  refine z_goto (tgt := 23) B dX8_tick_49 (by decide) ?_
  refine z_iload_n B dX8_tick_23 rfl 0 rfl ?_
  refine z_iload_n B dX8_tick_24 rfl 2 rfl ?_
  refine z_icmp_ge (tgt := 52) B dX8_tick_25 (by decide) (fun h => absurd h (by decide)) (fun _ => ?_)
  refine z_aload_n B dX8_tick_28 rfl 1 rfl ?_
  refine z_dup B dX8_tick_29 rfl ?_
  refine gf_X8_206 (x := 25) B (lKA (hk_K hK 0 rfl rfl)) (rI_at 0 8 rfl) dX8_tick_30 ?_
  refine z_iconst (v := 1) B dX8_tick_33 (by decide) ?_
  refine z_iadd B dX8_tick_34 ?_
  refine z_seti (y := 26) (by decide) ?_
  refine pf_X8_206 (x := 26) (σ' := (ap b σ [(0, 8, 26), (0, 8, 25), (0, 8, 24), (0, 8, 23), (0, 8, 22), (0, 8, 21), (0, 8, 20), (0, 8, 19), (0, 8, 18), (0, 8, 17), (0, 8, 16), (0, 8, 15), (0, 8, 14), (0, 8, 13), (0, 8, 12), (0, 8, 11), (0, 8, 10), (0, 8, 9), (0, 8, 8), (0, 8, 7), (0, 8, 6), (0, 8, 5), (0, 8, 4), (0, 8, 3), (0, 8, 2), (0, 8, 1)] [] [])) B (lKA (hk_K hK 0 rfl rfl)) wI_ap dX8_tick_35 ?_
  refine z_aload_n B dX8_tick_38 rfl 1 rfl ?_
  refine z_cVv (As := []) (rest := []) B cw_X8_240 cx_9 dX8_tick_39 (ci_X8_passTasks_920 l (σ := (ap b σ [(0, 8, 26), (0, 8, 25), (0, 8, 24), (0, 8, 23), (0, 8, 22), (0, 8, 21), (0, 8, 20), (0, 8, 19), (0, 8, 18), (0, 8, 17), (0, 8, 16), (0, 8, 15), (0, 8, 14), (0, 8, 13), (0, 8, 12), (0, 8, 11), (0, 8, 10), (0, 8, 9), (0, 8, 8), (0, 8, 7), (0, 8, 6), (0, 8, 5), (0, 8, 4), (0, 8, 3), (0, 8, 2), (0, 8, 1)] [] [])) (b := b) (lyA hK) (rI_at 4 2 hI_4_2) (rR_at 0 3 hR_0_3)) (lKA (hk_K hK 0 rfl rfl)) rfl (by decide) rfl (Nat.le_of_ble_eq_true rfl) (by decide) (fun u hu => ?_)
  refine z_eqs (σ' := (ap b σ [(0, 8, 26), (0, 8, 25), (0, 8, 24), (0, 8, 23), (0, 8, 22), (0, 8, 21), (0, 8, 20), (0, 8, 19), (0, 8, 18), (0, 8, 17), (0, 8, 16), (0, 8, 15), (0, 8, 14), (0, 8, 13), (0, 8, 12), (0, 8, 11), (0, 8, 10), (0, 8, 9), (0, 8, 8), (0, 8, 7), (0, 8, 6), (0, 8, 5), (0, 8, 4), (0, 8, 3), (0, 8, 2), (0, 8, 1)] [] [])) hu ?_
  show zx p l e _ s m _ below meth c g 3 0 0 _ _ 42 [(2, .int 25), (0, .ref (b + 0)), (1, .int 50)] _
  refine z_aload_n B dX8_tick_42 rfl 1 rfl ?_
  refine z_cVv (As := []) (rest := []) B cw_X8_243 cx_9 dX8_tick_43 (ci_X8_passTimers_921 l (σ := (ap b σ [(0, 8, 26), (0, 8, 25), (0, 8, 24), (0, 8, 23), (0, 8, 22), (0, 8, 21), (0, 8, 20), (0, 8, 19), (0, 8, 18), (0, 8, 17), (0, 8, 16), (0, 8, 15), (0, 8, 14), (0, 8, 13), (0, 8, 12), (0, 8, 11), (0, 8, 10), (0, 8, 9), (0, 8, 8), (0, 8, 7), (0, 8, 6), (0, 8, 5), (0, 8, 4), (0, 8, 3), (0, 8, 2), (0, 8, 1)] [] [])) (b := b) (lyA hK) (rI_at 0 7 hI_0_7)) (lKA (hk_K hK 0 rfl rfl)) rfl (by decide) rfl (Nat.le_of_ble_eq_true rfl) (by decide) (fun u hu => ?_)
  refine z_eqs (σ' := (ap b σ [(0, 8, 26), (0, 8, 25), (0, 8, 24), (0, 8, 23), (0, 8, 22), (0, 8, 21), (0, 8, 20), (0, 8, 19), (0, 8, 18), (0, 8, 17), (0, 8, 16), (0, 8, 15), (0, 8, 14), (0, 8, 13), (0, 8, 12), (0, 8, 11), (0, 8, 10), (0, 8, 9), (0, 8, 8), (0, 8, 7), (0, 8, 6), (0, 8, 5), (0, 8, 4), (0, 8, 3), (0, 8, 2), (0, 8, 1)] [] [])) hu ?_
  show zx p l e _ s m _ below meth c g 3 0 0 _ _ 46 [(2, .int 25), (0, .ref (b + 0)), (1, .int 50)] _
  refine z_iinc (v := 26) (lv' := [(2, .int 26), (0, .ref (b + 0)), (1, .int 50)]) B dX8_tick_46 0 rfl (by decide) (by decide) rfl ?_
  refine z_goto (tgt := 23) B dX8_tick_49 (by decide) ?_
  refine z_iload_n B dX8_tick_23 rfl 0 rfl ?_
  refine z_iload_n B dX8_tick_24 rfl 2 rfl ?_
  refine z_icmp_ge (tgt := 52) B dX8_tick_25 (by decide) (fun h => absurd h (by decide)) (fun _ => ?_)
  refine z_aload_n B dX8_tick_28 rfl 1 rfl ?_
  refine z_dup B dX8_tick_29 rfl ?_
  refine gf_X8_206 (x := 26) B (lKA (hk_K hK 0 rfl rfl)) (rI_at 0 8 rfl) dX8_tick_30 ?_
  refine z_iconst (v := 1) B dX8_tick_33 (by decide) ?_
  refine z_iadd B dX8_tick_34 ?_
  refine z_seti (y := 27) (by decide) ?_
  refine pf_X8_206 (x := 27) (σ' := (ap b σ [(0, 8, 27), (0, 8, 26), (0, 8, 25), (0, 8, 24), (0, 8, 23), (0, 8, 22), (0, 8, 21), (0, 8, 20), (0, 8, 19), (0, 8, 18), (0, 8, 17), (0, 8, 16), (0, 8, 15), (0, 8, 14), (0, 8, 13), (0, 8, 12), (0, 8, 11), (0, 8, 10), (0, 8, 9), (0, 8, 8), (0, 8, 7), (0, 8, 6), (0, 8, 5), (0, 8, 4), (0, 8, 3), (0, 8, 2), (0, 8, 1)] [] [])) B (lKA (hk_K hK 0 rfl rfl)) wI_ap dX8_tick_35 ?_
  refine z_aload_n B dX8_tick_38 rfl 1 rfl ?_
  refine z_cVv (As := []) (rest := []) B cw_X8_240 cx_9 dX8_tick_39 (ci_X8_passTasks_920 l (σ := (ap b σ [(0, 8, 27), (0, 8, 26), (0, 8, 25), (0, 8, 24), (0, 8, 23), (0, 8, 22), (0, 8, 21), (0, 8, 20), (0, 8, 19), (0, 8, 18), (0, 8, 17), (0, 8, 16), (0, 8, 15), (0, 8, 14), (0, 8, 13), (0, 8, 12), (0, 8, 11), (0, 8, 10), (0, 8, 9), (0, 8, 8), (0, 8, 7), (0, 8, 6), (0, 8, 5), (0, 8, 4), (0, 8, 3), (0, 8, 2), (0, 8, 1)] [] [])) (b := b) (lyA hK) (rI_at 4 2 hI_4_2) (rR_at 0 3 hR_0_3)) (lKA (hk_K hK 0 rfl rfl)) rfl (by decide) rfl (Nat.le_of_ble_eq_true rfl) (by decide) (fun u hu => ?_)
  refine z_eqs (σ' := (ap b σ [(0, 8, 27), (0, 8, 26), (0, 8, 25), (0, 8, 24), (0, 8, 23), (0, 8, 22), (0, 8, 21), (0, 8, 20), (0, 8, 19), (0, 8, 18), (0, 8, 17), (0, 8, 16), (0, 8, 15), (0, 8, 14), (0, 8, 13), (0, 8, 12), (0, 8, 11), (0, 8, 10), (0, 8, 9), (0, 8, 8), (0, 8, 7), (0, 8, 6), (0, 8, 5), (0, 8, 4), (0, 8, 3), (0, 8, 2), (0, 8, 1)] [] [])) hu ?_
  show zx p l e _ s m _ below meth c g 3 0 0 _ _ 42 [(2, .int 26), (0, .ref (b + 0)), (1, .int 50)] _
  refine z_aload_n B dX8_tick_42 rfl 1 rfl ?_
  refine z_cVv (As := []) (rest := []) B cw_X8_243 cx_9 dX8_tick_43 (ci_X8_passTimers_921 l (σ := (ap b σ [(0, 8, 27), (0, 8, 26), (0, 8, 25), (0, 8, 24), (0, 8, 23), (0, 8, 22), (0, 8, 21), (0, 8, 20), (0, 8, 19), (0, 8, 18), (0, 8, 17), (0, 8, 16), (0, 8, 15), (0, 8, 14), (0, 8, 13), (0, 8, 12), (0, 8, 11), (0, 8, 10), (0, 8, 9), (0, 8, 8), (0, 8, 7), (0, 8, 6), (0, 8, 5), (0, 8, 4), (0, 8, 3), (0, 8, 2), (0, 8, 1)] [] [])) (b := b) (lyA hK) (rI_at 0 7 hI_0_7)) (lKA (hk_K hK 0 rfl rfl)) rfl (by decide) rfl (Nat.le_of_ble_eq_true rfl) (by decide) (fun u hu => ?_)
  refine z_eqs (σ' := (ap b σ [(0, 8, 27), (0, 8, 26), (0, 8, 25), (0, 8, 24), (0, 8, 23), (0, 8, 22), (0, 8, 21), (0, 8, 20), (0, 8, 19), (0, 8, 18), (0, 8, 17), (0, 8, 16), (0, 8, 15), (0, 8, 14), (0, 8, 13), (0, 8, 12), (0, 8, 11), (0, 8, 10), (0, 8, 9), (0, 8, 8), (0, 8, 7), (0, 8, 6), (0, 8, 5), (0, 8, 4), (0, 8, 3), (0, 8, 2), (0, 8, 1)] [] [])) hu ?_
  show zx p l e _ s m _ below meth c g 3 0 0 _ _ 46 [(2, .int 26), (0, .ref (b + 0)), (1, .int 50)] _
  refine z_iinc (v := 27) (lv' := [(2, .int 27), (0, .ref (b + 0)), (1, .int 50)]) B dX8_tick_46 0 rfl (by decide) (by decide) rfl ?_
  refine z_goto (tgt := 23) B dX8_tick_49 (by decide) ?_
  refine z_iload_n B dX8_tick_23 rfl 0 rfl ?_
  refine z_iload_n B dX8_tick_24 rfl 2 rfl ?_
  refine z_icmp_ge (tgt := 52) B dX8_tick_25 (by decide) (fun h => absurd h (by decide)) (fun _ => ?_)
  refine z_aload_n B dX8_tick_28 rfl 1 rfl ?_
  refine z_dup B dX8_tick_29 rfl ?_
  refine gf_X8_206 (x := 27) B (lKA (hk_K hK 0 rfl rfl)) (rI_at 0 8 rfl) dX8_tick_30 ?_
  refine z_iconst (v := 1) B dX8_tick_33 (by decide) ?_
  refine z_iadd B dX8_tick_34 ?_
  refine z_seti (y := 28) (by decide) ?_
  refine pf_X8_206 (x := 28) (σ' := (ap b σ [(0, 8, 28), (0, 8, 27), (0, 8, 26), (0, 8, 25), (0, 8, 24), (0, 8, 23), (0, 8, 22), (0, 8, 21), (0, 8, 20), (0, 8, 19), (0, 8, 18), (0, 8, 17), (0, 8, 16), (0, 8, 15), (0, 8, 14), (0, 8, 13), (0, 8, 12), (0, 8, 11), (0, 8, 10), (0, 8, 9), (0, 8, 8), (0, 8, 7), (0, 8, 6), (0, 8, 5), (0, 8, 4), (0, 8, 3), (0, 8, 2), (0, 8, 1)] [] [])) B (lKA (hk_K hK 0 rfl rfl)) wI_ap dX8_tick_35 ?_
  refine z_aload_n B dX8_tick_38 rfl 1 rfl ?_
  refine z_cVv (As := []) (rest := []) B cw_X8_240 cx_9 dX8_tick_39 (ci_X8_passTasks_920 l (σ := (ap b σ [(0, 8, 28), (0, 8, 27), (0, 8, 26), (0, 8, 25), (0, 8, 24), (0, 8, 23), (0, 8, 22), (0, 8, 21), (0, 8, 20), (0, 8, 19), (0, 8, 18), (0, 8, 17), (0, 8, 16), (0, 8, 15), (0, 8, 14), (0, 8, 13), (0, 8, 12), (0, 8, 11), (0, 8, 10), (0, 8, 9), (0, 8, 8), (0, 8, 7), (0, 8, 6), (0, 8, 5), (0, 8, 4), (0, 8, 3), (0, 8, 2), (0, 8, 1)] [] [])) (b := b) (lyA hK) (rI_at 4 2 hI_4_2) (rR_at 0 3 hR_0_3)) (lKA (hk_K hK 0 rfl rfl)) rfl (by decide) rfl (Nat.le_of_ble_eq_true rfl) (by decide) (fun u hu => ?_)
  refine z_eqs (σ' := (ap b σ [(0, 8, 28), (0, 8, 27), (0, 8, 26), (0, 8, 25), (0, 8, 24), (0, 8, 23), (0, 8, 22), (0, 8, 21), (0, 8, 20), (0, 8, 19), (0, 8, 18), (0, 8, 17), (0, 8, 16), (0, 8, 15), (0, 8, 14), (0, 8, 13), (0, 8, 12), (0, 8, 11), (0, 8, 10), (0, 8, 9), (0, 8, 8), (0, 8, 7), (0, 8, 6), (0, 8, 5), (0, 8, 4), (0, 8, 3), (0, 8, 2), (0, 8, 1)] [] [])) hu ?_
  show zx p l e _ s m _ below meth c g 3 0 0 _ _ 42 [(2, .int 27), (0, .ref (b + 0)), (1, .int 50)] _
  refine z_aload_n B dX8_tick_42 rfl 1 rfl ?_
  refine z_cVv (As := []) (rest := []) B cw_X8_243 cx_9 dX8_tick_43 (ci_X8_passTimers_921 l (σ := (ap b σ [(0, 8, 28), (0, 8, 27), (0, 8, 26), (0, 8, 25), (0, 8, 24), (0, 8, 23), (0, 8, 22), (0, 8, 21), (0, 8, 20), (0, 8, 19), (0, 8, 18), (0, 8, 17), (0, 8, 16), (0, 8, 15), (0, 8, 14), (0, 8, 13), (0, 8, 12), (0, 8, 11), (0, 8, 10), (0, 8, 9), (0, 8, 8), (0, 8, 7), (0, 8, 6), (0, 8, 5), (0, 8, 4), (0, 8, 3), (0, 8, 2), (0, 8, 1)] [] [])) (b := b) (lyA hK) (rI_at 0 7 hI_0_7)) (lKA (hk_K hK 0 rfl rfl)) rfl (by decide) rfl (Nat.le_of_ble_eq_true rfl) (by decide) (fun u hu => ?_)
  refine z_eqs (σ' := (ap b σ [(0, 8, 28), (0, 8, 27), (0, 8, 26), (0, 8, 25), (0, 8, 24), (0, 8, 23), (0, 8, 22), (0, 8, 21), (0, 8, 20), (0, 8, 19), (0, 8, 18), (0, 8, 17), (0, 8, 16), (0, 8, 15), (0, 8, 14), (0, 8, 13), (0, 8, 12), (0, 8, 11), (0, 8, 10), (0, 8, 9), (0, 8, 8), (0, 8, 7), (0, 8, 6), (0, 8, 5), (0, 8, 4), (0, 8, 3), (0, 8, 2), (0, 8, 1)] [] [])) hu ?_
  show zx p l e _ s m _ below meth c g 3 0 0 _ _ 46 [(2, .int 27), (0, .ref (b + 0)), (1, .int 50)] _
  refine z_iinc (v := 28) (lv' := [(2, .int 28), (0, .ref (b + 0)), (1, .int 50)]) B dX8_tick_46 0 rfl (by decide) (by decide) rfl ?_
  refine z_goto (tgt := 23) B dX8_tick_49 (by decide) ?_
  refine z_iload_n B dX8_tick_23 rfl 0 rfl ?_
  refine z_iload_n B dX8_tick_24 rfl 2 rfl ?_
  refine z_icmp_ge (tgt := 52) B dX8_tick_25 (by decide) (fun h => absurd h (by decide)) (fun _ => ?_)
  refine z_aload_n B dX8_tick_28 rfl 1 rfl ?_
  refine z_dup B dX8_tick_29 rfl ?_
  refine gf_X8_206 (x := 28) B (lKA (hk_K hK 0 rfl rfl)) (rI_at 0 8 rfl) dX8_tick_30 ?_
  refine z_iconst (v := 1) B dX8_tick_33 (by decide) ?_
  refine z_iadd B dX8_tick_34 ?_
  refine z_seti (y := 29) (by decide) ?_
  refine pf_X8_206 (x := 29) (σ' := (ap b σ [(0, 8, 29), (0, 8, 28), (0, 8, 27), (0, 8, 26), (0, 8, 25), (0, 8, 24), (0, 8, 23), (0, 8, 22), (0, 8, 21), (0, 8, 20), (0, 8, 19), (0, 8, 18), (0, 8, 17), (0, 8, 16), (0, 8, 15), (0, 8, 14), (0, 8, 13), (0, 8, 12), (0, 8, 11), (0, 8, 10), (0, 8, 9), (0, 8, 8), (0, 8, 7), (0, 8, 6), (0, 8, 5), (0, 8, 4), (0, 8, 3), (0, 8, 2), (0, 8, 1)] [] [])) B (lKA (hk_K hK 0 rfl rfl)) wI_ap dX8_tick_35 ?_
  refine z_aload_n B dX8_tick_38 rfl 1 rfl ?_
  refine z_cVv (As := []) (rest := []) B cw_X8_240 cx_9 dX8_tick_39 (ci_X8_passTasks_920 l (σ := (ap b σ [(0, 8, 29), (0, 8, 28), (0, 8, 27), (0, 8, 26), (0, 8, 25), (0, 8, 24), (0, 8, 23), (0, 8, 22), (0, 8, 21), (0, 8, 20), (0, 8, 19), (0, 8, 18), (0, 8, 17), (0, 8, 16), (0, 8, 15), (0, 8, 14), (0, 8, 13), (0, 8, 12), (0, 8, 11), (0, 8, 10), (0, 8, 9), (0, 8, 8), (0, 8, 7), (0, 8, 6), (0, 8, 5), (0, 8, 4), (0, 8, 3), (0, 8, 2), (0, 8, 1)] [] [])) (b := b) (lyA hK) (rI_at 4 2 hI_4_2) (rR_at 0 3 hR_0_3)) (lKA (hk_K hK 0 rfl rfl)) rfl (by decide) rfl (Nat.le_of_ble_eq_true rfl) (by decide) (fun u hu => ?_)
  refine z_eqs (σ' := (ap b σ [(0, 8, 29), (0, 8, 28), (0, 8, 27), (0, 8, 26), (0, 8, 25), (0, 8, 24), (0, 8, 23), (0, 8, 22), (0, 8, 21), (0, 8, 20), (0, 8, 19), (0, 8, 18), (0, 8, 17), (0, 8, 16), (0, 8, 15), (0, 8, 14), (0, 8, 13), (0, 8, 12), (0, 8, 11), (0, 8, 10), (0, 8, 9), (0, 8, 8), (0, 8, 7), (0, 8, 6), (0, 8, 5), (0, 8, 4), (0, 8, 3), (0, 8, 2), (0, 8, 1)] [] [])) hu ?_
  show zx p l e _ s m _ below meth c g 3 0 0 _ _ 42 [(2, .int 28), (0, .ref (b + 0)), (1, .int 50)] _
  refine z_aload_n B dX8_tick_42 rfl 1 rfl ?_
  refine z_cVv (As := []) (rest := []) B cw_X8_243 cx_9 dX8_tick_43 (ci_X8_passTimers_921 l (σ := (ap b σ [(0, 8, 29), (0, 8, 28), (0, 8, 27), (0, 8, 26), (0, 8, 25), (0, 8, 24), (0, 8, 23), (0, 8, 22), (0, 8, 21), (0, 8, 20), (0, 8, 19), (0, 8, 18), (0, 8, 17), (0, 8, 16), (0, 8, 15), (0, 8, 14), (0, 8, 13), (0, 8, 12), (0, 8, 11), (0, 8, 10), (0, 8, 9), (0, 8, 8), (0, 8, 7), (0, 8, 6), (0, 8, 5), (0, 8, 4), (0, 8, 3), (0, 8, 2), (0, 8, 1)] [] [])) (b := b) (lyA hK) (rI_at 0 7 hI_0_7)) (lKA (hk_K hK 0 rfl rfl)) rfl (by decide) rfl (Nat.le_of_ble_eq_true rfl) (by decide) (fun u hu => ?_)
  refine z_eqs (σ' := (ap b σ [(0, 8, 29), (0, 8, 28), (0, 8, 27), (0, 8, 26), (0, 8, 25), (0, 8, 24), (0, 8, 23), (0, 8, 22), (0, 8, 21), (0, 8, 20), (0, 8, 19), (0, 8, 18), (0, 8, 17), (0, 8, 16), (0, 8, 15), (0, 8, 14), (0, 8, 13), (0, 8, 12), (0, 8, 11), (0, 8, 10), (0, 8, 9), (0, 8, 8), (0, 8, 7), (0, 8, 6), (0, 8, 5), (0, 8, 4), (0, 8, 3), (0, 8, 2), (0, 8, 1)] [] [])) hu ?_
  show zx p l e _ s m _ below meth c g 3 0 0 _ _ 46 [(2, .int 28), (0, .ref (b + 0)), (1, .int 50)] _
  refine z_iinc (v := 29) (lv' := [(2, .int 29), (0, .ref (b + 0)), (1, .int 50)]) B dX8_tick_46 0 rfl (by decide) (by decide) rfl ?_
  refine z_goto (tgt := 23) B dX8_tick_49 (by decide) ?_
  refine z_iload_n B dX8_tick_23 rfl 0 rfl ?_
  refine z_iload_n B dX8_tick_24 rfl 2 rfl ?_
  refine z_icmp_ge (tgt := 52) B dX8_tick_25 (by decide) (fun h => absurd h (by decide)) (fun _ => ?_)
  refine z_aload_n B dX8_tick_28 rfl 1 rfl ?_
  refine z_dup B dX8_tick_29 rfl ?_
  refine gf_X8_206 (x := 29) B (lKA (hk_K hK 0 rfl rfl)) (rI_at 0 8 rfl) dX8_tick_30 ?_
  refine z_iconst (v := 1) B dX8_tick_33 (by decide) ?_
  refine z_iadd B dX8_tick_34 ?_
  refine z_seti (y := 30) (by decide) ?_
  refine pf_X8_206 (x := 30) (σ' := (ap b σ [(0, 8, 30), (0, 8, 29), (0, 8, 28), (0, 8, 27), (0, 8, 26), (0, 8, 25), (0, 8, 24), (0, 8, 23), (0, 8, 22), (0, 8, 21), (0, 8, 20), (0, 8, 19), (0, 8, 18), (0, 8, 17), (0, 8, 16), (0, 8, 15), (0, 8, 14), (0, 8, 13), (0, 8, 12), (0, 8, 11), (0, 8, 10), (0, 8, 9), (0, 8, 8), (0, 8, 7), (0, 8, 6), (0, 8, 5), (0, 8, 4), (0, 8, 3), (0, 8, 2), (0, 8, 1)] [] [])) B (lKA (hk_K hK 0 rfl rfl)) wI_ap dX8_tick_35 ?_
  refine z_aload_n B dX8_tick_38 rfl 1 rfl ?_
  refine z_cVv (As := []) (rest := []) B cw_X8_240 cx_9 dX8_tick_39 (ci_X8_passTasks_920 l (σ := (ap b σ [(0, 8, 30), (0, 8, 29), (0, 8, 28), (0, 8, 27), (0, 8, 26), (0, 8, 25), (0, 8, 24), (0, 8, 23), (0, 8, 22), (0, 8, 21), (0, 8, 20), (0, 8, 19), (0, 8, 18), (0, 8, 17), (0, 8, 16), (0, 8, 15), (0, 8, 14), (0, 8, 13), (0, 8, 12), (0, 8, 11), (0, 8, 10), (0, 8, 9), (0, 8, 8), (0, 8, 7), (0, 8, 6), (0, 8, 5), (0, 8, 4), (0, 8, 3), (0, 8, 2), (0, 8, 1)] [] [])) (b := b) (lyA hK) (rI_at 4 2 hI_4_2) (rR_at 0 3 hR_0_3)) (lKA (hk_K hK 0 rfl rfl)) rfl (by decide) rfl (Nat.le_of_ble_eq_true rfl) (by decide) (fun u hu => ?_)
  refine z_eqs (σ' := (ap b σ [(0, 8, 30), (0, 8, 29), (0, 8, 28), (0, 8, 27), (0, 8, 26), (0, 8, 25), (0, 8, 24), (0, 8, 23), (0, 8, 22), (0, 8, 21), (0, 8, 20), (0, 8, 19), (0, 8, 18), (0, 8, 17), (0, 8, 16), (0, 8, 15), (0, 8, 14), (0, 8, 13), (0, 8, 12), (0, 8, 11), (0, 8, 10), (0, 8, 9), (0, 8, 8), (0, 8, 7), (0, 8, 6), (0, 8, 5), (0, 8, 4), (0, 8, 3), (0, 8, 2), (0, 8, 1)] [] [])) hu ?_
  show zx p l e _ s m _ below meth c g 3 0 0 _ _ 42 [(2, .int 29), (0, .ref (b + 0)), (1, .int 50)] _
  refine z_aload_n B dX8_tick_42 rfl 1 rfl ?_
  refine z_cVv (As := []) (rest := []) B cw_X8_243 cx_9 dX8_tick_43 (ci_X8_passTimers_921 l (σ := (ap b σ [(0, 8, 30), (0, 8, 29), (0, 8, 28), (0, 8, 27), (0, 8, 26), (0, 8, 25), (0, 8, 24), (0, 8, 23), (0, 8, 22), (0, 8, 21), (0, 8, 20), (0, 8, 19), (0, 8, 18), (0, 8, 17), (0, 8, 16), (0, 8, 15), (0, 8, 14), (0, 8, 13), (0, 8, 12), (0, 8, 11), (0, 8, 10), (0, 8, 9), (0, 8, 8), (0, 8, 7), (0, 8, 6), (0, 8, 5), (0, 8, 4), (0, 8, 3), (0, 8, 2), (0, 8, 1)] [] [])) (b := b) (lyA hK) (rI_at 0 7 hI_0_7)) (lKA (hk_K hK 0 rfl rfl)) rfl (by decide) rfl (Nat.le_of_ble_eq_true rfl) (by decide) (fun u hu => ?_)
  refine z_eqs (σ' := (ap b σ [(0, 8, 30), (0, 8, 29), (0, 8, 28), (0, 8, 27), (0, 8, 26), (0, 8, 25), (0, 8, 24), (0, 8, 23), (0, 8, 22), (0, 8, 21), (0, 8, 20), (0, 8, 19), (0, 8, 18), (0, 8, 17), (0, 8, 16), (0, 8, 15), (0, 8, 14), (0, 8, 13), (0, 8, 12), (0, 8, 11), (0, 8, 10), (0, 8, 9), (0, 8, 8), (0, 8, 7), (0, 8, 6), (0, 8, 5), (0, 8, 4), (0, 8, 3), (0, 8, 2), (0, 8, 1)] [] [])) hu ?_
  show zx p l e _ s m _ below meth c g 3 0 0 _ _ 46 [(2, .int 29), (0, .ref (b + 0)), (1, .int 50)] _
  refine z_iinc (v := 30) (lv' := [(2, .int 30), (0, .ref (b + 0)), (1, .int 50)]) B dX8_tick_46 0 rfl (by decide) (by decide) rfl ?_
  refine z_goto (tgt := 23) B dX8_tick_49 (by decide) ?_
  refine z_iload_n B dX8_tick_23 rfl 0 rfl ?_
  refine z_iload_n B dX8_tick_24 rfl 2 rfl ?_
  refine z_icmp_ge (tgt := 52) B dX8_tick_25 (by decide) (fun h => absurd h (by decide)) (fun _ => ?_)
  refine z_aload_n B dX8_tick_28 rfl 1 rfl ?_
  refine z_dup B dX8_tick_29 rfl ?_
  refine gf_X8_206 (x := 30) B (lKA (hk_K hK 0 rfl rfl)) (rI_at 0 8 rfl) dX8_tick_30 ?_
  refine z_iconst (v := 1) B dX8_tick_33 (by decide) ?_
  refine z_iadd B dX8_tick_34 ?_
  refine z_seti (y := 31) (by decide) ?_
  refine pf_X8_206 (x := 31) (σ' := (ap b σ [(0, 8, 31), (0, 8, 30), (0, 8, 29), (0, 8, 28), (0, 8, 27), (0, 8, 26), (0, 8, 25), (0, 8, 24), (0, 8, 23), (0, 8, 22), (0, 8, 21), (0, 8, 20), (0, 8, 19), (0, 8, 18), (0, 8, 17), (0, 8, 16), (0, 8, 15), (0, 8, 14), (0, 8, 13), (0, 8, 12), (0, 8, 11), (0, 8, 10), (0, 8, 9), (0, 8, 8), (0, 8, 7), (0, 8, 6), (0, 8, 5), (0, 8, 4), (0, 8, 3), (0, 8, 2), (0, 8, 1)] [] [])) B (lKA (hk_K hK 0 rfl rfl)) wI_ap dX8_tick_35 ?_
  refine z_aload_n B dX8_tick_38 rfl 1 rfl ?_
  refine z_cVv (As := []) (rest := []) B cw_X8_240 cx_9 dX8_tick_39 (ci_X8_passTasks_920 l (σ := (ap b σ [(0, 8, 31), (0, 8, 30), (0, 8, 29), (0, 8, 28), (0, 8, 27), (0, 8, 26), (0, 8, 25), (0, 8, 24), (0, 8, 23), (0, 8, 22), (0, 8, 21), (0, 8, 20), (0, 8, 19), (0, 8, 18), (0, 8, 17), (0, 8, 16), (0, 8, 15), (0, 8, 14), (0, 8, 13), (0, 8, 12), (0, 8, 11), (0, 8, 10), (0, 8, 9), (0, 8, 8), (0, 8, 7), (0, 8, 6), (0, 8, 5), (0, 8, 4), (0, 8, 3), (0, 8, 2), (0, 8, 1)] [] [])) (b := b) (lyA hK) (rI_at 4 2 hI_4_2) (rR_at 0 3 hR_0_3)) (lKA (hk_K hK 0 rfl rfl)) rfl (by decide) rfl (Nat.le_of_ble_eq_true rfl) (by decide) (fun u hu => ?_)
  refine z_eqs (σ' := (ap b σ [(0, 8, 31), (0, 8, 30), (0, 8, 29), (0, 8, 28), (0, 8, 27), (0, 8, 26), (0, 8, 25), (0, 8, 24), (0, 8, 23), (0, 8, 22), (0, 8, 21), (0, 8, 20), (0, 8, 19), (0, 8, 18), (0, 8, 17), (0, 8, 16), (0, 8, 15), (0, 8, 14), (0, 8, 13), (0, 8, 12), (0, 8, 11), (0, 8, 10), (0, 8, 9), (0, 8, 8), (0, 8, 7), (0, 8, 6), (0, 8, 5), (0, 8, 4), (0, 8, 3), (0, 8, 2), (0, 8, 1)] [] [])) hu ?_
  show zx p l e _ s m _ below meth c g 3 0 0 _ _ 42 [(2, .int 30), (0, .ref (b + 0)), (1, .int 50)] _
  refine z_aload_n B dX8_tick_42 rfl 1 rfl ?_
  refine z_cVv (As := []) (rest := []) B cw_X8_243 cx_9 dX8_tick_43 (ci_X8_passTimers_921 l (σ := (ap b σ [(0, 8, 31), (0, 8, 30), (0, 8, 29), (0, 8, 28), (0, 8, 27), (0, 8, 26), (0, 8, 25), (0, 8, 24), (0, 8, 23), (0, 8, 22), (0, 8, 21), (0, 8, 20), (0, 8, 19), (0, 8, 18), (0, 8, 17), (0, 8, 16), (0, 8, 15), (0, 8, 14), (0, 8, 13), (0, 8, 12), (0, 8, 11), (0, 8, 10), (0, 8, 9), (0, 8, 8), (0, 8, 7), (0, 8, 6), (0, 8, 5), (0, 8, 4), (0, 8, 3), (0, 8, 2), (0, 8, 1)] [] [])) (b := b) (lyA hK) (rI_at 0 7 hI_0_7)) (lKA (hk_K hK 0 rfl rfl)) rfl (by decide) rfl (Nat.le_of_ble_eq_true rfl) (by decide) (fun u hu => ?_)
  refine z_eqs (σ' := (ap b σ [(0, 8, 31), (0, 8, 30), (0, 8, 29), (0, 8, 28), (0, 8, 27), (0, 8, 26), (0, 8, 25), (0, 8, 24), (0, 8, 23), (0, 8, 22), (0, 8, 21), (0, 8, 20), (0, 8, 19), (0, 8, 18), (0, 8, 17), (0, 8, 16), (0, 8, 15), (0, 8, 14), (0, 8, 13), (0, 8, 12), (0, 8, 11), (0, 8, 10), (0, 8, 9), (0, 8, 8), (0, 8, 7), (0, 8, 6), (0, 8, 5), (0, 8, 4), (0, 8, 3), (0, 8, 2), (0, 8, 1)] [] [])) hu ?_
  show zx p l e _ s m _ below meth c g 3 0 0 _ _ 46 [(2, .int 30), (0, .ref (b + 0)), (1, .int 50)] _
  refine z_iinc (v := 31) (lv' := [(2, .int 31), (0, .ref (b + 0)), (1, .int 50)]) B dX8_tick_46 0 rfl (by decide) (by decide) rfl ?_
  refine z_goto (tgt := 23) B dX8_tick_49 (by decide) ?_
  refine z_iload_n B dX8_tick_23 rfl 0 rfl ?_
  refine z_iload_n B dX8_tick_24 rfl 2 rfl ?_
  refine z_icmp_ge (tgt := 52) B dX8_tick_25 (by decide) (fun h => absurd h (by decide)) (fun _ => ?_)
  refine z_aload_n B dX8_tick_28 rfl 1 rfl ?_
  refine z_dup B dX8_tick_29 rfl ?_
  refine gf_X8_206 (x := 31) B (lKA (hk_K hK 0 rfl rfl)) (rI_at 0 8 rfl) dX8_tick_30 ?_
  refine z_iconst (v := 1) B dX8_tick_33 (by decide) ?_
  refine z_iadd B dX8_tick_34 ?_
  refine z_seti (y := 32) (by decide) ?_
  refine pf_X8_206 (x := 32) (σ' := (ap b σ [(0, 8, 32), (0, 8, 31), (0, 8, 30), (0, 8, 29), (0, 8, 28), (0, 8, 27), (0, 8, 26), (0, 8, 25), (0, 8, 24), (0, 8, 23), (0, 8, 22), (0, 8, 21), (0, 8, 20), (0, 8, 19), (0, 8, 18), (0, 8, 17), (0, 8, 16), (0, 8, 15), (0, 8, 14), (0, 8, 13), (0, 8, 12), (0, 8, 11), (0, 8, 10), (0, 8, 9), (0, 8, 8), (0, 8, 7), (0, 8, 6), (0, 8, 5), (0, 8, 4), (0, 8, 3), (0, 8, 2), (0, 8, 1)] [] [])) B (lKA (hk_K hK 0 rfl rfl)) wI_ap dX8_tick_35 ?_
  refine z_aload_n B dX8_tick_38 rfl 1 rfl ?_
  refine z_cVv (As := []) (rest := []) B cw_X8_240 cx_9 dX8_tick_39 (ci_X8_passTasks_920 l (σ := (ap b σ [(0, 8, 32), (0, 8, 31), (0, 8, 30), (0, 8, 29), (0, 8, 28), (0, 8, 27), (0, 8, 26), (0, 8, 25), (0, 8, 24), (0, 8, 23), (0, 8, 22), (0, 8, 21), (0, 8, 20), (0, 8, 19), (0, 8, 18), (0, 8, 17), (0, 8, 16), (0, 8, 15), (0, 8, 14), (0, 8, 13), (0, 8, 12), (0, 8, 11), (0, 8, 10), (0, 8, 9), (0, 8, 8), (0, 8, 7), (0, 8, 6), (0, 8, 5), (0, 8, 4), (0, 8, 3), (0, 8, 2), (0, 8, 1)] [] [])) (b := b) (lyA hK) (rI_at 4 2 hI_4_2) (rR_at 0 3 hR_0_3)) (lKA (hk_K hK 0 rfl rfl)) rfl (by decide) rfl (Nat.le_of_ble_eq_true rfl) (by decide) (fun u hu => ?_)
  refine z_eqs (σ' := (ap b σ [(0, 8, 32), (0, 8, 31), (0, 8, 30), (0, 8, 29), (0, 8, 28), (0, 8, 27), (0, 8, 26), (0, 8, 25), (0, 8, 24), (0, 8, 23), (0, 8, 22), (0, 8, 21), (0, 8, 20), (0, 8, 19), (0, 8, 18), (0, 8, 17), (0, 8, 16), (0, 8, 15), (0, 8, 14), (0, 8, 13), (0, 8, 12), (0, 8, 11), (0, 8, 10), (0, 8, 9), (0, 8, 8), (0, 8, 7), (0, 8, 6), (0, 8, 5), (0, 8, 4), (0, 8, 3), (0, 8, 2), (0, 8, 1)] [] [])) hu ?_
  show zx p l e _ s m _ below meth c g 3 0 0 _ _ 42 [(2, .int 31), (0, .ref (b + 0)), (1, .int 50)] _
  refine z_aload_n B dX8_tick_42 rfl 1 rfl ?_
  refine z_cVv (As := []) (rest := []) B cw_X8_243 cx_9 dX8_tick_43 (ci_X8_passTimers_921 l (σ := (ap b σ [(0, 8, 32), (0, 8, 31), (0, 8, 30), (0, 8, 29), (0, 8, 28), (0, 8, 27), (0, 8, 26), (0, 8, 25), (0, 8, 24), (0, 8, 23), (0, 8, 22), (0, 8, 21), (0, 8, 20), (0, 8, 19), (0, 8, 18), (0, 8, 17), (0, 8, 16), (0, 8, 15), (0, 8, 14), (0, 8, 13), (0, 8, 12), (0, 8, 11), (0, 8, 10), (0, 8, 9), (0, 8, 8), (0, 8, 7), (0, 8, 6), (0, 8, 5), (0, 8, 4), (0, 8, 3), (0, 8, 2), (0, 8, 1)] [] [])) (b := b) (lyA hK) (rI_at 0 7 hI_0_7)) (lKA (hk_K hK 0 rfl rfl)) rfl (by decide) rfl (Nat.le_of_ble_eq_true rfl) (by decide) (fun u hu => ?_)
  refine z_eqs (σ' := (ap b σ [(0, 8, 32), (0, 8, 31), (0, 8, 30), (0, 8, 29), (0, 8, 28), (0, 8, 27), (0, 8, 26), (0, 8, 25), (0, 8, 24), (0, 8, 23), (0, 8, 22), (0, 8, 21), (0, 8, 20), (0, 8, 19), (0, 8, 18), (0, 8, 17), (0, 8, 16), (0, 8, 15), (0, 8, 14), (0, 8, 13), (0, 8, 12), (0, 8, 11), (0, 8, 10), (0, 8, 9), (0, 8, 8), (0, 8, 7), (0, 8, 6), (0, 8, 5), (0, 8, 4), (0, 8, 3), (0, 8, 2), (0, 8, 1)] [] [])) hu ?_
  show zx p l e _ s m _ below meth c g 3 0 0 _ _ 46 [(2, .int 31), (0, .ref (b + 0)), (1, .int 50)] _
  refine z_iinc (v := 32) (lv' := [(2, .int 32), (0, .ref (b + 0)), (1, .int 50)]) B dX8_tick_46 0 rfl (by decide) (by decide) rfl ?_
  refine z_goto (tgt := 23) B dX8_tick_49 (by decide) ?_
  refine z_iload_n B dX8_tick_23 rfl 0 rfl ?_
  refine z_iload_n B dX8_tick_24 rfl 2 rfl ?_
  refine z_icmp_ge (tgt := 52) B dX8_tick_25 (by decide) (fun h => absurd h (by decide)) (fun _ => ?_)
  refine z_aload_n B dX8_tick_28 rfl 1 rfl ?_
  refine z_dup B dX8_tick_29 rfl ?_
  refine gf_X8_206 (x := 32) B (lKA (hk_K hK 0 rfl rfl)) (rI_at 0 8 rfl) dX8_tick_30 ?_
  refine z_iconst (v := 1) B dX8_tick_33 (by decide) ?_
  refine z_iadd B dX8_tick_34 ?_
  refine z_seti (y := 33) (by decide) ?_
  refine pf_X8_206 (x := 33) (σ' := (ap b σ [(0, 8, 33), (0, 8, 32), (0, 8, 31), (0, 8, 30), (0, 8, 29), (0, 8, 28), (0, 8, 27), (0, 8, 26), (0, 8, 25), (0, 8, 24), (0, 8, 23), (0, 8, 22), (0, 8, 21), (0, 8, 20), (0, 8, 19), (0, 8, 18), (0, 8, 17), (0, 8, 16), (0, 8, 15), (0, 8, 14), (0, 8, 13), (0, 8, 12), (0, 8, 11), (0, 8, 10), (0, 8, 9), (0, 8, 8), (0, 8, 7), (0, 8, 6), (0, 8, 5), (0, 8, 4), (0, 8, 3), (0, 8, 2), (0, 8, 1)] [] [])) B (lKA (hk_K hK 0 rfl rfl)) wI_ap dX8_tick_35 ?_
  refine z_aload_n B dX8_tick_38 rfl 1 rfl ?_
  refine z_cVv (As := []) (rest := []) B cw_X8_240 cx_9 dX8_tick_39 (ci_X8_passTasks_920 l (σ := (ap b σ [(0, 8, 33), (0, 8, 32), (0, 8, 31), (0, 8, 30), (0, 8, 29), (0, 8, 28), (0, 8, 27), (0, 8, 26), (0, 8, 25), (0, 8, 24), (0, 8, 23), (0, 8, 22), (0, 8, 21), (0, 8, 20), (0, 8, 19), (0, 8, 18), (0, 8, 17), (0, 8, 16), (0, 8, 15), (0, 8, 14), (0, 8, 13), (0, 8, 12), (0, 8, 11), (0, 8, 10), (0, 8, 9), (0, 8, 8), (0, 8, 7), (0, 8, 6), (0, 8, 5), (0, 8, 4), (0, 8, 3), (0, 8, 2), (0, 8, 1)] [] [])) (b := b) (lyA hK) (rI_at 4 2 hI_4_2) (rR_at 0 3 hR_0_3)) (lKA (hk_K hK 0 rfl rfl)) rfl (by decide) rfl (Nat.le_of_ble_eq_true rfl) (by decide) (fun u hu => ?_)
  refine z_eqs (σ' := (ap b σ [(0, 8, 33), (0, 8, 32), (0, 8, 31), (0, 8, 30), (0, 8, 29), (0, 8, 28), (0, 8, 27), (0, 8, 26), (0, 8, 25), (0, 8, 24), (0, 8, 23), (0, 8, 22), (0, 8, 21), (0, 8, 20), (0, 8, 19), (0, 8, 18), (0, 8, 17), (0, 8, 16), (0, 8, 15), (0, 8, 14), (0, 8, 13), (0, 8, 12), (0, 8, 11), (0, 8, 10), (0, 8, 9), (0, 8, 8), (0, 8, 7), (0, 8, 6), (0, 8, 5), (0, 8, 4), (0, 8, 3), (0, 8, 2), (0, 8, 1)] [] [])) hu ?_
  show zx p l e _ s m _ below meth c g 3 0 0 _ _ 42 [(2, .int 32), (0, .ref (b + 0)), (1, .int 50)] _
  refine z_aload_n B dX8_tick_42 rfl 1 rfl ?_
  refine z_cVv (As := []) (rest := []) B cw_X8_243 cx_9 dX8_tick_43 (ci_X8_passTimers_921 l (σ := (ap b σ [(0, 8, 33), (0, 8, 32), (0, 8, 31), (0, 8, 30), (0, 8, 29), (0, 8, 28), (0, 8, 27), (0, 8, 26), (0, 8, 25), (0, 8, 24), (0, 8, 23), (0, 8, 22), (0, 8, 21), (0, 8, 20), (0, 8, 19), (0, 8, 18), (0, 8, 17), (0, 8, 16), (0, 8, 15), (0, 8, 14), (0, 8, 13), (0, 8, 12), (0, 8, 11), (0, 8, 10), (0, 8, 9), (0, 8, 8), (0, 8, 7), (0, 8, 6), (0, 8, 5), (0, 8, 4), (0, 8, 3), (0, 8, 2), (0, 8, 1)] [] [])) (b := b) (lyA hK) (rI_at 0 7 hI_0_7)) (lKA (hk_K hK 0 rfl rfl)) rfl (by decide) rfl (Nat.le_of_ble_eq_true rfl) (by decide) (fun u hu => ?_)
  refine z_eqs (σ' := (ap b σ [(0, 8, 33), (0, 8, 32), (0, 8, 31), (0, 8, 30), (0, 8, 29), (0, 8, 28), (0, 8, 27), (0, 8, 26), (0, 8, 25), (0, 8, 24), (0, 8, 23), (0, 8, 22), (0, 8, 21), (0, 8, 20), (0, 8, 19), (0, 8, 18), (0, 8, 17), (0, 8, 16), (0, 8, 15), (0, 8, 14), (0, 8, 13), (0, 8, 12), (0, 8, 11), (0, 8, 10), (0, 8, 9), (0, 8, 8), (0, 8, 7), (0, 8, 6), (0, 8, 5), (0, 8, 4), (0, 8, 3), (0, 8, 2), (0, 8, 1)] [] [])) hu ?_
  show zx p l e _ s m _ below meth c g 3 0 0 _ _ 46 [(2, .int 32), (0, .ref (b + 0)), (1, .int 50)] _
  refine z_iinc (v := 33) (lv' := [(2, .int 33), (0, .ref (b + 0)), (1, .int 50)]) B dX8_tick_46 0 rfl (by decide) (by decide) rfl ?_
  refine z_goto (tgt := 23) B dX8_tick_49 (by decide) ?_
  refine z_iload_n B dX8_tick_23 rfl 0 rfl ?_
  refine z_iload_n B dX8_tick_24 rfl 2 rfl ?_
  refine z_icmp_ge (tgt := 52) B dX8_tick_25 (by decide) (fun h => absurd h (by decide)) (fun _ => ?_)
  refine z_aload_n B dX8_tick_28 rfl 1 rfl ?_
  refine z_dup B dX8_tick_29 rfl ?_
  refine gf_X8_206 (x := 33) B (lKA (hk_K hK 0 rfl rfl)) (rI_at 0 8 rfl) dX8_tick_30 ?_
  refine z_iconst (v := 1) B dX8_tick_33 (by decide) ?_
  refine z_iadd B dX8_tick_34 ?_
  refine z_seti (y := 34) (by decide) ?_
  refine pf_X8_206 (x := 34) (σ' := (ap b σ [(0, 8, 34), (0, 8, 33), (0, 8, 32), (0, 8, 31), (0, 8, 30), (0, 8, 29), (0, 8, 28), (0, 8, 27), (0, 8, 26), (0, 8, 25), (0, 8, 24), (0, 8, 23), (0, 8, 22), (0, 8, 21), (0, 8, 20), (0, 8, 19), (0, 8, 18), (0, 8, 17), (0, 8, 16), (0, 8, 15), (0, 8, 14), (0, 8, 13), (0, 8, 12), (0, 8, 11), (0, 8, 10), (0, 8, 9), (0, 8, 8), (0, 8, 7), (0, 8, 6), (0, 8, 5), (0, 8, 4), (0, 8, 3), (0, 8, 2), (0, 8, 1)] [] [])) B (lKA (hk_K hK 0 rfl rfl)) wI_ap dX8_tick_35 ?_
  refine z_aload_n B dX8_tick_38 rfl 1 rfl ?_
  refine z_cVv (As := []) (rest := []) B cw_X8_240 cx_9 dX8_tick_39 (ci_X8_passTasks_920 l (σ := (ap b σ [(0, 8, 34), (0, 8, 33), (0, 8, 32), (0, 8, 31), (0, 8, 30), (0, 8, 29), (0, 8, 28), (0, 8, 27), (0, 8, 26), (0, 8, 25), (0, 8, 24), (0, 8, 23), (0, 8, 22), (0, 8, 21), (0, 8, 20), (0, 8, 19), (0, 8, 18), (0, 8, 17), (0, 8, 16), (0, 8, 15), (0, 8, 14), (0, 8, 13), (0, 8, 12), (0, 8, 11), (0, 8, 10), (0, 8, 9), (0, 8, 8), (0, 8, 7), (0, 8, 6), (0, 8, 5), (0, 8, 4), (0, 8, 3), (0, 8, 2), (0, 8, 1)] [] [])) (b := b) (lyA hK) (rI_at 4 2 hI_4_2) (rR_at 0 3 hR_0_3)) (lKA (hk_K hK 0 rfl rfl)) rfl (by decide) rfl (Nat.le_of_ble_eq_true rfl) (by decide) (fun u hu => ?_)
  refine z_eqs (σ' := (ap b σ [(0, 8, 34), (0, 8, 33), (0, 8, 32), (0, 8, 31), (0, 8, 30), (0, 8, 29), (0, 8, 28), (0, 8, 27), (0, 8, 26), (0, 8, 25), (0, 8, 24), (0, 8, 23), (0, 8, 22), (0, 8, 21), (0, 8, 20), (0, 8, 19), (0, 8, 18), (0, 8, 17), (0, 8, 16), (0, 8, 15), (0, 8, 14), (0, 8, 13), (0, 8, 12), (0, 8, 11), (0, 8, 10), (0, 8, 9), (0, 8, 8), (0, 8, 7), (0, 8, 6), (0, 8, 5), (0, 8, 4), (0, 8, 3), (0, 8, 2), (0, 8, 1)] [] [])) hu ?_
  show zx p l e _ s m _ below meth c g 3 0 0 _ _ 42 [(2, .int 33), (0, .ref (b + 0)), (1, .int 50)] _
  refine z_aload_n B dX8_tick_42 rfl 1 rfl ?_
  refine z_cVv (As := []) (rest := []) B cw_X8_243 cx_9 dX8_tick_43 (ci_X8_passTimers_921 l (σ := (ap b σ [(0, 8, 34), (0, 8, 33), (0, 8, 32), (0, 8, 31), (0, 8, 30), (0, 8, 29), (0, 8, 28), (0, 8, 27), (0, 8, 26), (0, 8, 25), (0, 8, 24), (0, 8, 23), (0, 8, 22), (0, 8, 21), (0, 8, 20), (0, 8, 19), (0, 8, 18), (0, 8, 17), (0, 8, 16), (0, 8, 15), (0, 8, 14), (0, 8, 13), (0, 8, 12), (0, 8, 11), (0, 8, 10), (0, 8, 9), (0, 8, 8), (0, 8, 7), (0, 8, 6), (0, 8, 5), (0, 8, 4), (0, 8, 3), (0, 8, 2), (0, 8, 1)] [] [])) (b := b) (lyA hK) (rI_at 0 7 hI_0_7)) (lKA (hk_K hK 0 rfl rfl)) rfl (by decide) rfl (Nat.le_of_ble_eq_true rfl) (by decide) (fun u hu => ?_)
  refine z_eqs (σ' := (ap b σ [(0, 8, 34), (0, 8, 33), (0, 8, 32), (0, 8, 31), (0, 8, 30), (0, 8, 29), (0, 8, 28), (0, 8, 27), (0, 8, 26), (0, 8, 25), (0, 8, 24), (0, 8, 23), (0, 8, 22), (0, 8, 21), (0, 8, 20), (0, 8, 19), (0, 8, 18), (0, 8, 17), (0, 8, 16), (0, 8, 15), (0, 8, 14), (0, 8, 13), (0, 8, 12), (0, 8, 11), (0, 8, 10), (0, 8, 9), (0, 8, 8), (0, 8, 7), (0, 8, 6), (0, 8, 5), (0, 8, 4), (0, 8, 3), (0, 8, 2), (0, 8, 1)] [] [])) hu ?_
  show zx p l e _ s m _ below meth c g 3 0 0 _ _ 46 [(2, .int 33), (0, .ref (b + 0)), (1, .int 50)] _
  refine z_iinc (v := 34) (lv' := [(2, .int 34), (0, .ref (b + 0)), (1, .int 50)]) B dX8_tick_46 0 rfl (by decide) (by decide) rfl ?_
  refine z_goto (tgt := 23) B dX8_tick_49 (by decide) ?_
  refine z_iload_n B dX8_tick_23 rfl 0 rfl ?_
  refine z_iload_n B dX8_tick_24 rfl 2 rfl ?_
  refine z_icmp_ge (tgt := 52) B dX8_tick_25 (by decide) (fun h => absurd h (by decide)) (fun _ => ?_)
  refine z_aload_n B dX8_tick_28 rfl 1 rfl ?_
  refine z_dup B dX8_tick_29 rfl ?_
  refine gf_X8_206 (x := 34) B (lKA (hk_K hK 0 rfl rfl)) (rI_at 0 8 rfl) dX8_tick_30 ?_
  refine z_iconst (v := 1) B dX8_tick_33 (by decide) ?_
  refine z_iadd B dX8_tick_34 ?_
  refine z_seti (y := 35) (by decide) ?_
  refine pf_X8_206 (x := 35) (σ' := (ap b σ [(0, 8, 35), (0, 8, 34), (0, 8, 33), (0, 8, 32), (0, 8, 31), (0, 8, 30), (0, 8, 29), (0, 8, 28), (0, 8, 27), (0, 8, 26), (0, 8, 25), (0, 8, 24), (0, 8, 23), (0, 8, 22), (0, 8, 21), (0, 8, 20), (0, 8, 19), (0, 8, 18), (0, 8, 17), (0, 8, 16), (0, 8, 15), (0, 8, 14), (0, 8, 13), (0, 8, 12), (0, 8, 11), (0, 8, 10), (0, 8, 9), (0, 8, 8), (0, 8, 7), (0, 8, 6), (0, 8, 5), (0, 8, 4), (0, 8, 3), (0, 8, 2), (0, 8, 1)] [] [])) B (lKA (hk_K hK 0 rfl rfl)) wI_ap dX8_tick_35 ?_
  refine z_aload_n B dX8_tick_38 rfl 1 rfl ?_
  refine z_cVv (As := []) (rest := []) B cw_X8_240 cx_9 dX8_tick_39 (ci_X8_passTasks_920 l (σ := (ap b σ [(0, 8, 35), (0, 8, 34), (0, 8, 33), (0, 8, 32), (0, 8, 31), (0, 8, 30), (0, 8, 29), (0, 8, 28), (0, 8, 27), (0, 8, 26), (0, 8, 25), (0, 8, 24), (0, 8, 23), (0, 8, 22), (0, 8, 21), (0, 8, 20), (0, 8, 19), (0, 8, 18), (0, 8, 17), (0, 8, 16), (0, 8, 15), (0, 8, 14), (0, 8, 13), (0, 8, 12), (0, 8, 11), (0, 8, 10), (0, 8, 9), (0, 8, 8), (0, 8, 7), (0, 8, 6), (0, 8, 5), (0, 8, 4), (0, 8, 3), (0, 8, 2), (0, 8, 1)] [] [])) (b := b) (lyA hK) (rI_at 4 2 hI_4_2) (rR_at 0 3 hR_0_3)) (lKA (hk_K hK 0 rfl rfl)) rfl (by decide) rfl (Nat.le_of_ble_eq_true rfl) (by decide) (fun u hu => ?_)
  refine z_eqs (σ' := (ap b σ [(0, 8, 35), (0, 8, 34), (0, 8, 33), (0, 8, 32), (0, 8, 31), (0, 8, 30), (0, 8, 29), (0, 8, 28), (0, 8, 27), (0, 8, 26), (0, 8, 25), (0, 8, 24), (0, 8, 23), (0, 8, 22), (0, 8, 21), (0, 8, 20), (0, 8, 19), (0, 8, 18), (0, 8, 17), (0, 8, 16), (0, 8, 15), (0, 8, 14), (0, 8, 13), (0, 8, 12), (0, 8, 11), (0, 8, 10), (0, 8, 9), (0, 8, 8), (0, 8, 7), (0, 8, 6), (0, 8, 5), (0, 8, 4), (0, 8, 3), (0, 8, 2), (0, 8, 1)] [] [])) hu ?_
  show zx p l e _ s m _ below meth c g 3 0 0 _ _ 42 [(2, .int 34), (0, .ref (b + 0)), (1, .int 50)] _
  refine z_aload_n B dX8_tick_42 rfl 1 rfl ?_
  refine z_cVv (As := []) (rest := []) B cw_X8_243 cx_9 dX8_tick_43 (ci_X8_passTimers_921 l (σ := (ap b σ [(0, 8, 35), (0, 8, 34), (0, 8, 33), (0, 8, 32), (0, 8, 31), (0, 8, 30), (0, 8, 29), (0, 8, 28), (0, 8, 27), (0, 8, 26), (0, 8, 25), (0, 8, 24), (0, 8, 23), (0, 8, 22), (0, 8, 21), (0, 8, 20), (0, 8, 19), (0, 8, 18), (0, 8, 17), (0, 8, 16), (0, 8, 15), (0, 8, 14), (0, 8, 13), (0, 8, 12), (0, 8, 11), (0, 8, 10), (0, 8, 9), (0, 8, 8), (0, 8, 7), (0, 8, 6), (0, 8, 5), (0, 8, 4), (0, 8, 3), (0, 8, 2), (0, 8, 1)] [] [])) (b := b) (lyA hK) (rI_at 0 7 hI_0_7)) (lKA (hk_K hK 0 rfl rfl)) rfl (by decide) rfl (Nat.le_of_ble_eq_true rfl) (by decide) (fun u hu => ?_)
  refine z_eqs (σ' := (ap b σ [(0, 8, 35), (0, 8, 34), (0, 8, 33), (0, 8, 32), (0, 8, 31), (0, 8, 30), (0, 8, 29), (0, 8, 28), (0, 8, 27), (0, 8, 26), (0, 8, 25), (0, 8, 24), (0, 8, 23), (0, 8, 22), (0, 8, 21), (0, 8, 20), (0, 8, 19), (0, 8, 18), (0, 8, 17), (0, 8, 16), (0, 8, 15), (0, 8, 14), (0, 8, 13), (0, 8, 12), (0, 8, 11), (0, 8, 10), (0, 8, 9), (0, 8, 8), (0, 8, 7), (0, 8, 6), (0, 8, 5), (0, 8, 4), (0, 8, 3), (0, 8, 2), (0, 8, 1)] [] [])) hu ?_
  show zx p l e _ s m _ below meth c g 3 0 0 _ _ 46 [(2, .int 34), (0, .ref (b + 0)), (1, .int 50)] _
  refine z_iinc (v := 35) (lv' := [(2, .int 35), (0, .ref (b + 0)), (1, .int 50)]) B dX8_tick_46 0 rfl (by decide) (by decide) rfl ?_
  refine z_goto (tgt := 23) B dX8_tick_49 (by decide) ?_
  refine z_iload_n B dX8_tick_23 rfl 0 rfl ?_
  refine z_iload_n B dX8_tick_24 rfl 2 rfl ?_
  refine z_icmp_ge (tgt := 52) B dX8_tick_25 (by decide) (fun h => absurd h (by decide)) (fun _ => ?_)
  refine z_aload_n B dX8_tick_28 rfl 1 rfl ?_
  refine z_dup B dX8_tick_29 rfl ?_
  refine gf_X8_206 (x := 35) B (lKA (hk_K hK 0 rfl rfl)) (rI_at 0 8 rfl) dX8_tick_30 ?_
  refine z_iconst (v := 1) B dX8_tick_33 (by decide) ?_
  refine z_iadd B dX8_tick_34 ?_
  refine z_seti (y := 36) (by decide) ?_
  refine pf_X8_206 (x := 36) (σ' := (ap b σ [(0, 8, 36), (0, 8, 35), (0, 8, 34), (0, 8, 33), (0, 8, 32), (0, 8, 31), (0, 8, 30), (0, 8, 29), (0, 8, 28), (0, 8, 27), (0, 8, 26), (0, 8, 25), (0, 8, 24), (0, 8, 23), (0, 8, 22), (0, 8, 21), (0, 8, 20), (0, 8, 19), (0, 8, 18), (0, 8, 17), (0, 8, 16), (0, 8, 15), (0, 8, 14), (0, 8, 13), (0, 8, 12), (0, 8, 11), (0, 8, 10), (0, 8, 9), (0, 8, 8), (0, 8, 7), (0, 8, 6), (0, 8, 5), (0, 8, 4), (0, 8, 3), (0, 8, 2), (0, 8, 1)] [] [])) B (lKA (hk_K hK 0 rfl rfl)) wI_ap dX8_tick_35 ?_
  refine z_aload_n B dX8_tick_38 rfl 1 rfl ?_
  refine z_cVv (As := []) (rest := []) B cw_X8_240 cx_9 dX8_tick_39 (ci_X8_passTasks_920 l (σ := (ap b σ [(0, 8, 36), (0, 8, 35), (0, 8, 34), (0, 8, 33), (0, 8, 32), (0, 8, 31), (0, 8, 30), (0, 8, 29), (0, 8, 28), (0, 8, 27), (0, 8, 26), (0, 8, 25), (0, 8, 24), (0, 8, 23), (0, 8, 22), (0, 8, 21), (0, 8, 20), (0, 8, 19), (0, 8, 18), (0, 8, 17), (0, 8, 16), (0, 8, 15), (0, 8, 14), (0, 8, 13), (0, 8, 12), (0, 8, 11), (0, 8, 10), (0, 8, 9), (0, 8, 8), (0, 8, 7), (0, 8, 6), (0, 8, 5), (0, 8, 4), (0, 8, 3), (0, 8, 2), (0, 8, 1)] [] [])) (b := b) (lyA hK) (rI_at 4 2 hI_4_2) (rR_at 0 3 hR_0_3)) (lKA (hk_K hK 0 rfl rfl)) rfl (by decide) rfl (Nat.le_of_ble_eq_true rfl) (by decide) (fun u hu => ?_)
  refine z_eqs (σ' := (ap b σ [(0, 8, 36), (0, 8, 35), (0, 8, 34), (0, 8, 33), (0, 8, 32), (0, 8, 31), (0, 8, 30), (0, 8, 29), (0, 8, 28), (0, 8, 27), (0, 8, 26), (0, 8, 25), (0, 8, 24), (0, 8, 23), (0, 8, 22), (0, 8, 21), (0, 8, 20), (0, 8, 19), (0, 8, 18), (0, 8, 17), (0, 8, 16), (0, 8, 15), (0, 8, 14), (0, 8, 13), (0, 8, 12), (0, 8, 11), (0, 8, 10), (0, 8, 9), (0, 8, 8), (0, 8, 7), (0, 8, 6), (0, 8, 5), (0, 8, 4), (0, 8, 3), (0, 8, 2), (0, 8, 1)] [] [])) hu ?_
  show zx p l e _ s m _ below meth c g 3 0 0 _ _ 42 [(2, .int 35), (0, .ref (b + 0)), (1, .int 50)] _
  refine z_aload_n B dX8_tick_42 rfl 1 rfl ?_
  refine z_cVv (As := []) (rest := []) B cw_X8_243 cx_9 dX8_tick_43 (ci_X8_passTimers_921 l (σ := (ap b σ [(0, 8, 36), (0, 8, 35), (0, 8, 34), (0, 8, 33), (0, 8, 32), (0, 8, 31), (0, 8, 30), (0, 8, 29), (0, 8, 28), (0, 8, 27), (0, 8, 26), (0, 8, 25), (0, 8, 24), (0, 8, 23), (0, 8, 22), (0, 8, 21), (0, 8, 20), (0, 8, 19), (0, 8, 18), (0, 8, 17), (0, 8, 16), (0, 8, 15), (0, 8, 14), (0, 8, 13), (0, 8, 12), (0, 8, 11), (0, 8, 10), (0, 8, 9), (0, 8, 8), (0, 8, 7), (0, 8, 6), (0, 8, 5), (0, 8, 4), (0, 8, 3), (0, 8, 2), (0, 8, 1)] [] [])) (b := b) (lyA hK) (rI_at 0 7 hI_0_7)) (lKA (hk_K hK 0 rfl rfl)) rfl (by decide) rfl (Nat.le_of_ble_eq_true rfl) (by decide) (fun u hu => ?_)
  refine z_eqs (σ' := (ap b σ [(0, 8, 36), (0, 8, 35), (0, 8, 34), (0, 8, 33), (0, 8, 32), (0, 8, 31), (0, 8, 30), (0, 8, 29), (0, 8, 28), (0, 8, 27), (0, 8, 26), (0, 8, 25), (0, 8, 24), (0, 8, 23), (0, 8, 22), (0, 8, 21), (0, 8, 20), (0, 8, 19), (0, 8, 18), (0, 8, 17), (0, 8, 16), (0, 8, 15), (0, 8, 14), (0, 8, 13), (0, 8, 12), (0, 8, 11), (0, 8, 10), (0, 8, 9), (0, 8, 8), (0, 8, 7), (0, 8, 6), (0, 8, 5), (0, 8, 4), (0, 8, 3), (0, 8, 2), (0, 8, 1)] [] [])) hu ?_
  show zx p l e _ s m _ below meth c g 3 0 0 _ _ 46 [(2, .int 35), (0, .ref (b + 0)), (1, .int 50)] _
  refine z_iinc (v := 36) (lv' := [(2, .int 36), (0, .ref (b + 0)), (1, .int 50)]) B dX8_tick_46 0 rfl (by decide) (by decide) rfl ?_
  refine z_goto (tgt := 23) B dX8_tick_49 (by decide) ?_
  refine z_iload_n B dX8_tick_23 rfl 0 rfl ?_
  refine z_iload_n B dX8_tick_24 rfl 2 rfl ?_
  refine z_icmp_ge (tgt := 52) B dX8_tick_25 (by decide) (fun h => absurd h (by decide)) (fun _ => ?_)
  refine z_aload_n B dX8_tick_28 rfl 1 rfl ?_
  refine z_dup B dX8_tick_29 rfl ?_
  refine gf_X8_206 (x := 36) B (lKA (hk_K hK 0 rfl rfl)) (rI_at 0 8 rfl) dX8_tick_30 ?_
  refine z_iconst (v := 1) B dX8_tick_33 (by decide) ?_
  refine z_iadd B dX8_tick_34 ?_
  refine z_seti (y := 37) (by decide) ?_
  refine pf_X8_206 (x := 37) (σ' := (ap b σ [(0, 8, 37), (0, 8, 36), (0, 8, 35), (0, 8, 34), (0, 8, 33), (0, 8, 32), (0, 8, 31), (0, 8, 30), (0, 8, 29), (0, 8, 28), (0, 8, 27), (0, 8, 26), (0, 8, 25), (0, 8, 24), (0, 8, 23), (0, 8, 22), (0, 8, 21), (0, 8, 20), (0, 8, 19), (0, 8, 18), (0, 8, 17), (0, 8, 16), (0, 8, 15), (0, 8, 14), (0, 8, 13), (0, 8, 12), (0, 8, 11), (0, 8, 10), (0, 8, 9), (0, 8, 8), (0, 8, 7), (0, 8, 6), (0, 8, 5), (0, 8, 4), (0, 8, 3), (0, 8, 2), (0, 8, 1)] [] [])) B (lKA (hk_K hK 0 rfl rfl)) wI_ap dX8_tick_35 ?_
  refine z_aload_n B dX8_tick_38 rfl 1 rfl ?_
  refine z_cVv (As := []) (rest := []) B cw_X8_240 cx_9 dX8_tick_39 (ci_X8_passTasks_920 l (σ := (ap b σ [(0, 8, 37), (0, 8, 36), (0, 8, 35), (0, 8, 34), (0, 8, 33), (0, 8, 32), (0, 8, 31), (0, 8, 30), (0, 8, 29), (0, 8, 28), (0, 8, 27), (0, 8, 26), (0, 8, 25), (0, 8, 24), (0, 8, 23), (0, 8, 22), (0, 8, 21), (0, 8, 20), (0, 8, 19), (0, 8, 18), (0, 8, 17), (0, 8, 16), (0, 8, 15), (0, 8, 14), (0, 8, 13), (0, 8, 12), (0, 8, 11), (0, 8, 10), (0, 8, 9), (0, 8, 8), (0, 8, 7), (0, 8, 6), (0, 8, 5), (0, 8, 4), (0, 8, 3), (0, 8, 2), (0, 8, 1)] [] [])) (b := b) (lyA hK) (rI_at 4 2 hI_4_2) (rR_at 0 3 hR_0_3)) (lKA (hk_K hK 0 rfl rfl)) rfl (by decide) rfl (Nat.le_of_ble_eq_true rfl) (by decide) (fun u hu => ?_)
  refine z_eqs (σ' := (ap b σ [(0, 8, 37), (0, 8, 36), (0, 8, 35), (0, 8, 34), (0, 8, 33), (0, 8, 32), (0, 8, 31), (0, 8, 30), (0, 8, 29), (0, 8, 28), (0, 8, 27), (0, 8, 26), (0, 8, 25), (0, 8, 24), (0, 8, 23), (0, 8, 22), (0, 8, 21), (0, 8, 20), (0, 8, 19), (0, 8, 18), (0, 8, 17), (0, 8, 16), (0, 8, 15), (0, 8, 14), (0, 8, 13), (0, 8, 12), (0, 8, 11), (0, 8, 10), (0, 8, 9), (0, 8, 8), (0, 8, 7), (0, 8, 6), (0, 8, 5), (0, 8, 4), (0, 8, 3), (0, 8, 2), (0, 8, 1)] [] [])) hu ?_
  show zx p l e _ s m _ below meth c g 3 0 0 _ _ 42 [(2, .int 36), (0, .ref (b + 0)), (1, .int 50)] _
  refine z_aload_n B dX8_tick_42 rfl 1 rfl ?_
  refine z_cVv (As := []) (rest := []) B cw_X8_243 cx_9 dX8_tick_43 (ci_X8_passTimers_921 l (σ := (ap b σ [(0, 8, 37), (0, 8, 36), (0, 8, 35), (0, 8, 34), (0, 8, 33), (0, 8, 32), (0, 8, 31), (0, 8, 30), (0, 8, 29), (0, 8, 28), (0, 8, 27), (0, 8, 26), (0, 8, 25), (0, 8, 24), (0, 8, 23), (0, 8, 22), (0, 8, 21), (0, 8, 20), (0, 8, 19), (0, 8, 18), (0, 8, 17), (0, 8, 16), (0, 8, 15), (0, 8, 14), (0, 8, 13), (0, 8, 12), (0, 8, 11), (0, 8, 10), (0, 8, 9), (0, 8, 8), (0, 8, 7), (0, 8, 6), (0, 8, 5), (0, 8, 4), (0, 8, 3), (0, 8, 2), (0, 8, 1)] [] [])) (b := b) (lyA hK) (rI_at 0 7 hI_0_7)) (lKA (hk_K hK 0 rfl rfl)) rfl (by decide) rfl (Nat.le_of_ble_eq_true rfl) (by decide) (fun u hu => ?_)
  refine z_eqs (σ' := (ap b σ [(0, 8, 37), (0, 8, 36), (0, 8, 35), (0, 8, 34), (0, 8, 33), (0, 8, 32), (0, 8, 31), (0, 8, 30), (0, 8, 29), (0, 8, 28), (0, 8, 27), (0, 8, 26), (0, 8, 25), (0, 8, 24), (0, 8, 23), (0, 8, 22), (0, 8, 21), (0, 8, 20), (0, 8, 19), (0, 8, 18), (0, 8, 17), (0, 8, 16), (0, 8, 15), (0, 8, 14), (0, 8, 13), (0, 8, 12), (0, 8, 11), (0, 8, 10), (0, 8, 9), (0, 8, 8), (0, 8, 7), (0, 8, 6), (0, 8, 5), (0, 8, 4), (0, 8, 3), (0, 8, 2), (0, 8, 1)] [] [])) hu ?_
  show zx p l e _ s m _ below meth c g 3 0 0 _ _ 46 [(2, .int 36), (0, .ref (b + 0)), (1, .int 50)] _
  refine z_iinc (v := 37) (lv' := [(2, .int 37), (0, .ref (b + 0)), (1, .int 50)]) B dX8_tick_46 0 rfl (by decide) (by decide) rfl ?_
  refine z_goto (tgt := 23) B dX8_tick_49 (by decide) ?_
  refine z_iload_n B dX8_tick_23 rfl 0 rfl ?_
  refine z_iload_n B dX8_tick_24 rfl 2 rfl ?_
  refine z_icmp_ge (tgt := 52) B dX8_tick_25 (by decide) (fun h => absurd h (by decide)) (fun _ => ?_)
  refine z_aload_n B dX8_tick_28 rfl 1 rfl ?_
  refine z_dup B dX8_tick_29 rfl ?_
  refine gf_X8_206 (x := 37) B (lKA (hk_K hK 0 rfl rfl)) (rI_at 0 8 rfl) dX8_tick_30 ?_
  refine z_iconst (v := 1) B dX8_tick_33 (by decide) ?_
  refine z_iadd B dX8_tick_34 ?_
  refine z_seti (y := 38) (by decide) ?_
  refine pf_X8_206 (x := 38) (σ' := (ap b σ [(0, 8, 38), (0, 8, 37), (0, 8, 36), (0, 8, 35), (0, 8, 34), (0, 8, 33), (0, 8, 32), (0, 8, 31), (0, 8, 30), (0, 8, 29), (0, 8, 28), (0, 8, 27), (0, 8, 26), (0, 8, 25), (0, 8, 24), (0, 8, 23), (0, 8, 22), (0, 8, 21), (0, 8, 20), (0, 8, 19), (0, 8, 18), (0, 8, 17), (0, 8, 16), (0, 8, 15), (0, 8, 14), (0, 8, 13), (0, 8, 12), (0, 8, 11), (0, 8, 10), (0, 8, 9), (0, 8, 8), (0, 8, 7), (0, 8, 6), (0, 8, 5), (0, 8, 4), (0, 8, 3), (0, 8, 2), (0, 8, 1)] [] [])) B (lKA (hk_K hK 0 rfl rfl)) wI_ap dX8_tick_35 ?_
  refine z_aload_n B dX8_tick_38 rfl 1 rfl ?_
  refine z_cVv (As := []) (rest := []) B cw_X8_240 cx_9 dX8_tick_39 (ci_X8_passTasks_920 l (σ := (ap b σ [(0, 8, 38), (0, 8, 37), (0, 8, 36), (0, 8, 35), (0, 8, 34), (0, 8, 33), (0, 8, 32), (0, 8, 31), (0, 8, 30), (0, 8, 29), (0, 8, 28), (0, 8, 27), (0, 8, 26), (0, 8, 25), (0, 8, 24), (0, 8, 23), (0, 8, 22), (0, 8, 21), (0, 8, 20), (0, 8, 19), (0, 8, 18), (0, 8, 17), (0, 8, 16), (0, 8, 15), (0, 8, 14), (0, 8, 13), (0, 8, 12), (0, 8, 11), (0, 8, 10), (0, 8, 9), (0, 8, 8), (0, 8, 7), (0, 8, 6), (0, 8, 5), (0, 8, 4), (0, 8, 3), (0, 8, 2), (0, 8, 1)] [] [])) (b := b) (lyA hK) (rI_at 4 2 hI_4_2) (rR_at 0 3 hR_0_3)) (lKA (hk_K hK 0 rfl rfl)) rfl (by decide) rfl (Nat.le_of_ble_eq_true rfl) (by decide) (fun u hu => ?_)
  refine z_eqs (σ' := (ap b σ [(0, 8, 38), (0, 8, 37), (0, 8, 36), (0, 8, 35), (0, 8, 34), (0, 8, 33), (0, 8, 32), (0, 8, 31), (0, 8, 30), (0, 8, 29), (0, 8, 28), (0, 8, 27), (0, 8, 26), (0, 8, 25), (0, 8, 24), (0, 8, 23), (0, 8, 22), (0, 8, 21), (0, 8, 20), (0, 8, 19), (0, 8, 18), (0, 8, 17), (0, 8, 16), (0, 8, 15), (0, 8, 14), (0, 8, 13), (0, 8, 12), (0, 8, 11), (0, 8, 10), (0, 8, 9), (0, 8, 8), (0, 8, 7), (0, 8, 6), (0, 8, 5), (0, 8, 4), (0, 8, 3), (0, 8, 2), (0, 8, 1)] [] [])) hu ?_
  show zx p l e _ s m _ below meth c g 3 0 0 _ _ 42 [(2, .int 37), (0, .ref (b + 0)), (1, .int 50)] _
  refine z_aload_n B dX8_tick_42 rfl 1 rfl ?_
  refine z_cVv (As := []) (rest := []) B cw_X8_243 cx_9 dX8_tick_43 (ci_X8_passTimers_921 l (σ := (ap b σ [(0, 8, 38), (0, 8, 37), (0, 8, 36), (0, 8, 35), (0, 8, 34), (0, 8, 33), (0, 8, 32), (0, 8, 31), (0, 8, 30), (0, 8, 29), (0, 8, 28), (0, 8, 27), (0, 8, 26), (0, 8, 25), (0, 8, 24), (0, 8, 23), (0, 8, 22), (0, 8, 21), (0, 8, 20), (0, 8, 19), (0, 8, 18), (0, 8, 17), (0, 8, 16), (0, 8, 15), (0, 8, 14), (0, 8, 13), (0, 8, 12), (0, 8, 11), (0, 8, 10), (0, 8, 9), (0, 8, 8), (0, 8, 7), (0, 8, 6), (0, 8, 5), (0, 8, 4), (0, 8, 3), (0, 8, 2), (0, 8, 1)] [] [])) (b := b) (lyA hK) (rI_at 0 7 hI_0_7)) (lKA (hk_K hK 0 rfl rfl)) rfl (by decide) rfl (Nat.le_of_ble_eq_true rfl) (by decide) (fun u hu => ?_)
  refine z_eqs (σ' := (ap b σ [(0, 8, 38), (0, 8, 37), (0, 8, 36), (0, 8, 35), (0, 8, 34), (0, 8, 33), (0, 8, 32), (0, 8, 31), (0, 8, 30), (0, 8, 29), (0, 8, 28), (0, 8, 27), (0, 8, 26), (0, 8, 25), (0, 8, 24), (0, 8, 23), (0, 8, 22), (0, 8, 21), (0, 8, 20), (0, 8, 19), (0, 8, 18), (0, 8, 17), (0, 8, 16), (0, 8, 15), (0, 8, 14), (0, 8, 13), (0, 8, 12), (0, 8, 11), (0, 8, 10), (0, 8, 9), (0, 8, 8), (0, 8, 7), (0, 8, 6), (0, 8, 5), (0, 8, 4), (0, 8, 3), (0, 8, 2), (0, 8, 1)] [] [])) hu ?_
  show zx p l e _ s m _ below meth c g 3 0 0 _ _ 46 [(2, .int 37), (0, .ref (b + 0)), (1, .int 50)] _
  refine z_iinc (v := 38) (lv' := [(2, .int 38), (0, .ref (b + 0)), (1, .int 50)]) B dX8_tick_46 0 rfl (by decide) (by decide) rfl ?_
  refine z_goto (tgt := 23) B dX8_tick_49 (by decide) ?_
  refine z_iload_n B dX8_tick_23 rfl 0 rfl ?_
  refine z_iload_n B dX8_tick_24 rfl 2 rfl ?_
  refine z_icmp_ge (tgt := 52) B dX8_tick_25 (by decide) (fun h => absurd h (by decide)) (fun _ => ?_)
  refine z_aload_n B dX8_tick_28 rfl 1 rfl ?_
  refine z_dup B dX8_tick_29 rfl ?_
  refine gf_X8_206 (x := 38) B (lKA (hk_K hK 0 rfl rfl)) (rI_at 0 8 rfl) dX8_tick_30 ?_
  refine z_iconst (v := 1) B dX8_tick_33 (by decide) ?_
  refine z_iadd B dX8_tick_34 ?_
  refine z_seti (y := 39) (by decide) ?_
  refine pf_X8_206 (x := 39) (σ' := (ap b σ [(0, 8, 39), (0, 8, 38), (0, 8, 37), (0, 8, 36), (0, 8, 35), (0, 8, 34), (0, 8, 33), (0, 8, 32), (0, 8, 31), (0, 8, 30), (0, 8, 29), (0, 8, 28), (0, 8, 27), (0, 8, 26), (0, 8, 25), (0, 8, 24), (0, 8, 23), (0, 8, 22), (0, 8, 21), (0, 8, 20), (0, 8, 19), (0, 8, 18), (0, 8, 17), (0, 8, 16), (0, 8, 15), (0, 8, 14), (0, 8, 13), (0, 8, 12), (0, 8, 11), (0, 8, 10), (0, 8, 9), (0, 8, 8), (0, 8, 7), (0, 8, 6), (0, 8, 5), (0, 8, 4), (0, 8, 3), (0, 8, 2), (0, 8, 1)] [] [])) B (lKA (hk_K hK 0 rfl rfl)) wI_ap dX8_tick_35 ?_
  refine z_aload_n B dX8_tick_38 rfl 1 rfl ?_
  refine z_cVv (As := []) (rest := []) B cw_X8_240 cx_9 dX8_tick_39 (ci_X8_passTasks_920 l (σ := (ap b σ [(0, 8, 39), (0, 8, 38), (0, 8, 37), (0, 8, 36), (0, 8, 35), (0, 8, 34), (0, 8, 33), (0, 8, 32), (0, 8, 31), (0, 8, 30), (0, 8, 29), (0, 8, 28), (0, 8, 27), (0, 8, 26), (0, 8, 25), (0, 8, 24), (0, 8, 23), (0, 8, 22), (0, 8, 21), (0, 8, 20), (0, 8, 19), (0, 8, 18), (0, 8, 17), (0, 8, 16), (0, 8, 15), (0, 8, 14), (0, 8, 13), (0, 8, 12), (0, 8, 11), (0, 8, 10), (0, 8, 9), (0, 8, 8), (0, 8, 7), (0, 8, 6), (0, 8, 5), (0, 8, 4), (0, 8, 3), (0, 8, 2), (0, 8, 1)] [] [])) (b := b) (lyA hK) (rI_at 4 2 hI_4_2) (rR_at 0 3 hR_0_3)) (lKA (hk_K hK 0 rfl rfl)) rfl (by decide) rfl (Nat.le_of_ble_eq_true rfl) (by decide) (fun u hu => ?_)
  refine z_eqs (σ' := (ap b σ [(0, 8, 39), (0, 8, 38), (0, 8, 37), (0, 8, 36), (0, 8, 35), (0, 8, 34), (0, 8, 33), (0, 8, 32), (0, 8, 31), (0, 8, 30), (0, 8, 29), (0, 8, 28), (0, 8, 27), (0, 8, 26), (0, 8, 25), (0, 8, 24), (0, 8, 23), (0, 8, 22), (0, 8, 21), (0, 8, 20), (0, 8, 19), (0, 8, 18), (0, 8, 17), (0, 8, 16), (0, 8, 15), (0, 8, 14), (0, 8, 13), (0, 8, 12), (0, 8, 11), (0, 8, 10), (0, 8, 9), (0, 8, 8), (0, 8, 7), (0, 8, 6), (0, 8, 5), (0, 8, 4), (0, 8, 3), (0, 8, 2), (0, 8, 1)] [] [])) hu ?_
  show zx p l e _ s m _ below meth c g 3 0 0 _ _ 42 [(2, .int 38), (0, .ref (b + 0)), (1, .int 50)] _
  refine z_aload_n B dX8_tick_42 rfl 1 rfl ?_
  refine z_cVv (As := []) (rest := []) B cw_X8_243 cx_9 dX8_tick_43 (ci_X8_passTimers_921 l (σ := (ap b σ [(0, 8, 39), (0, 8, 38), (0, 8, 37), (0, 8, 36), (0, 8, 35), (0, 8, 34), (0, 8, 33), (0, 8, 32), (0, 8, 31), (0, 8, 30), (0, 8, 29), (0, 8, 28), (0, 8, 27), (0, 8, 26), (0, 8, 25), (0, 8, 24), (0, 8, 23), (0, 8, 22), (0, 8, 21), (0, 8, 20), (0, 8, 19), (0, 8, 18), (0, 8, 17), (0, 8, 16), (0, 8, 15), (0, 8, 14), (0, 8, 13), (0, 8, 12), (0, 8, 11), (0, 8, 10), (0, 8, 9), (0, 8, 8), (0, 8, 7), (0, 8, 6), (0, 8, 5), (0, 8, 4), (0, 8, 3), (0, 8, 2), (0, 8, 1)] [] [])) (b := b) (lyA hK) (rI_at 0 7 hI_0_7)) (lKA (hk_K hK 0 rfl rfl)) rfl (by decide) rfl (Nat.le_of_ble_eq_true rfl) (by decide) (fun u hu => ?_)
  refine z_eqs (σ' := (ap b σ [(0, 8, 39), (0, 8, 38), (0, 8, 37), (0, 8, 36), (0, 8, 35), (0, 8, 34), (0, 8, 33), (0, 8, 32), (0, 8, 31), (0, 8, 30), (0, 8, 29), (0, 8, 28), (0, 8, 27), (0, 8, 26), (0, 8, 25), (0, 8, 24), (0, 8, 23), (0, 8, 22), (0, 8, 21), (0, 8, 20), (0, 8, 19), (0, 8, 18), (0, 8, 17), (0, 8, 16), (0, 8, 15), (0, 8, 14), (0, 8, 13), (0, 8, 12), (0, 8, 11), (0, 8, 10), (0, 8, 9), (0, 8, 8), (0, 8, 7), (0, 8, 6), (0, 8, 5), (0, 8, 4), (0, 8, 3), (0, 8, 2), (0, 8, 1)] [] [])) hu ?_
  show zx p l e _ s m _ below meth c g 3 0 0 _ _ 46 [(2, .int 38), (0, .ref (b + 0)), (1, .int 50)] _
  refine z_iinc (v := 39) (lv' := [(2, .int 39), (0, .ref (b + 0)), (1, .int 50)]) B dX8_tick_46 0 rfl (by decide) (by decide) rfl ?_
  refine z_goto (tgt := 23) B dX8_tick_49 (by decide) ?_
  refine z_iload_n B dX8_tick_23 rfl 0 rfl ?_
  refine z_iload_n B dX8_tick_24 rfl 2 rfl ?_
  refine z_icmp_ge (tgt := 52) B dX8_tick_25 (by decide) (fun h => absurd h (by decide)) (fun _ => ?_)
  refine z_aload_n B dX8_tick_28 rfl 1 rfl ?_
  refine z_dup B dX8_tick_29 rfl ?_
  refine gf_X8_206 (x := 39) B (lKA (hk_K hK 0 rfl rfl)) (rI_at 0 8 rfl) dX8_tick_30 ?_
  refine z_iconst (v := 1) B dX8_tick_33 (by decide) ?_
  refine z_iadd B dX8_tick_34 ?_
  refine z_seti (y := 40) (by decide) ?_
  refine pf_X8_206 (x := 40) (σ' := (ap b σ [(0, 8, 40), (0, 8, 39), (0, 8, 38), (0, 8, 37), (0, 8, 36), (0, 8, 35), (0, 8, 34), (0, 8, 33), (0, 8, 32), (0, 8, 31), (0, 8, 30), (0, 8, 29), (0, 8, 28), (0, 8, 27), (0, 8, 26), (0, 8, 25), (0, 8, 24), (0, 8, 23), (0, 8, 22), (0, 8, 21), (0, 8, 20), (0, 8, 19), (0, 8, 18), (0, 8, 17), (0, 8, 16), (0, 8, 15), (0, 8, 14), (0, 8, 13), (0, 8, 12), (0, 8, 11), (0, 8, 10), (0, 8, 9), (0, 8, 8), (0, 8, 7), (0, 8, 6), (0, 8, 5), (0, 8, 4), (0, 8, 3), (0, 8, 2), (0, 8, 1)] [] [])) B (lKA (hk_K hK 0 rfl rfl)) wI_ap dX8_tick_35 ?_
  refine z_aload_n B dX8_tick_38 rfl 1 rfl ?_
  refine z_cVv (As := []) (rest := []) B cw_X8_240 cx_9 dX8_tick_39 (ci_X8_passTasks_920 l (σ := (ap b σ [(0, 8, 40), (0, 8, 39), (0, 8, 38), (0, 8, 37), (0, 8, 36), (0, 8, 35), (0, 8, 34), (0, 8, 33), (0, 8, 32), (0, 8, 31), (0, 8, 30), (0, 8, 29), (0, 8, 28), (0, 8, 27), (0, 8, 26), (0, 8, 25), (0, 8, 24), (0, 8, 23), (0, 8, 22), (0, 8, 21), (0, 8, 20), (0, 8, 19), (0, 8, 18), (0, 8, 17), (0, 8, 16), (0, 8, 15), (0, 8, 14), (0, 8, 13), (0, 8, 12), (0, 8, 11), (0, 8, 10), (0, 8, 9), (0, 8, 8), (0, 8, 7), (0, 8, 6), (0, 8, 5), (0, 8, 4), (0, 8, 3), (0, 8, 2), (0, 8, 1)] [] [])) (b := b) (lyA hK) (rI_at 4 2 hI_4_2) (rR_at 0 3 hR_0_3)) (lKA (hk_K hK 0 rfl rfl)) rfl (by decide) rfl (Nat.le_of_ble_eq_true rfl) (by decide) (fun u hu => ?_)
  refine z_eqs (σ' := (ap b σ [(0, 8, 40), (0, 8, 39), (0, 8, 38), (0, 8, 37), (0, 8, 36), (0, 8, 35), (0, 8, 34), (0, 8, 33), (0, 8, 32), (0, 8, 31), (0, 8, 30), (0, 8, 29), (0, 8, 28), (0, 8, 27), (0, 8, 26), (0, 8, 25), (0, 8, 24), (0, 8, 23), (0, 8, 22), (0, 8, 21), (0, 8, 20), (0, 8, 19), (0, 8, 18), (0, 8, 17), (0, 8, 16), (0, 8, 15), (0, 8, 14), (0, 8, 13), (0, 8, 12), (0, 8, 11), (0, 8, 10), (0, 8, 9), (0, 8, 8), (0, 8, 7), (0, 8, 6), (0, 8, 5), (0, 8, 4), (0, 8, 3), (0, 8, 2), (0, 8, 1)] [] [])) hu ?_
  show zx p l e _ s m _ below meth c g 3 0 0 _ _ 42 [(2, .int 39), (0, .ref (b + 0)), (1, .int 50)] _
  refine z_aload_n B dX8_tick_42 rfl 1 rfl ?_
  refine z_cVv (As := []) (rest := []) B cw_X8_243 cx_9 dX8_tick_43 (ci_X8_passTimers_921 l (σ := (ap b σ [(0, 8, 40), (0, 8, 39), (0, 8, 38), (0, 8, 37), (0, 8, 36), (0, 8, 35), (0, 8, 34), (0, 8, 33), (0, 8, 32), (0, 8, 31), (0, 8, 30), (0, 8, 29), (0, 8, 28), (0, 8, 27), (0, 8, 26), (0, 8, 25), (0, 8, 24), (0, 8, 23), (0, 8, 22), (0, 8, 21), (0, 8, 20), (0, 8, 19), (0, 8, 18), (0, 8, 17), (0, 8, 16), (0, 8, 15), (0, 8, 14), (0, 8, 13), (0, 8, 12), (0, 8, 11), (0, 8, 10), (0, 8, 9), (0, 8, 8), (0, 8, 7), (0, 8, 6), (0, 8, 5), (0, 8, 4), (0, 8, 3), (0, 8, 2), (0, 8, 1)] [] [])) (b := b) (lyA hK) (rI_at 0 7 hI_0_7)) (lKA (hk_K hK 0 rfl rfl)) rfl (by decide) rfl (Nat.le_of_ble_eq_true rfl) (by decide) (fun u hu => ?_)
  refine z_eqs (σ' := (ap b σ [(0, 8, 40), (0, 8, 39), (0, 8, 38), (0, 8, 37), (0, 8, 36), (0, 8, 35), (0, 8, 34), (0, 8, 33), (0, 8, 32), (0, 8, 31), (0, 8, 30), (0, 8, 29), (0, 8, 28), (0, 8, 27), (0, 8, 26), (0, 8, 25), (0, 8, 24), (0, 8, 23), (0, 8, 22), (0, 8, 21), (0, 8, 20), (0, 8, 19), (0, 8, 18), (0, 8, 17), (0, 8, 16), (0, 8, 15), (0, 8, 14), (0, 8, 13), (0, 8, 12), (0, 8, 11), (0, 8, 10), (0, 8, 9), (0, 8, 8), (0, 8, 7), (0, 8, 6), (0, 8, 5), (0, 8, 4), (0, 8, 3), (0, 8, 2), (0, 8, 1)] [] [])) hu ?_
  show zx p l e _ s m _ below meth c g 3 0 0 _ _ 46 [(2, .int 39), (0, .ref (b + 0)), (1, .int 50)] _
  refine z_iinc (v := 40) (lv' := [(2, .int 40), (0, .ref (b + 0)), (1, .int 50)]) B dX8_tick_46 0 rfl (by decide) (by decide) rfl ?_
  refine z_goto (tgt := 23) B dX8_tick_49 (by decide) ?_
  refine z_iload_n B dX8_tick_23 rfl 0 rfl ?_
  refine z_iload_n B dX8_tick_24 rfl 2 rfl ?_
  refine z_icmp_ge (tgt := 52) B dX8_tick_25 (by decide) (fun h => absurd h (by decide)) (fun _ => ?_)
  refine z_aload_n B dX8_tick_28 rfl 1 rfl ?_
  refine z_dup B dX8_tick_29 rfl ?_
  refine gf_X8_206 (x := 40) B (lKA (hk_K hK 0 rfl rfl)) (rI_at 0 8 rfl) dX8_tick_30 ?_
  refine z_iconst (v := 1) B dX8_tick_33 (by decide) ?_
  refine z_iadd B dX8_tick_34 ?_
  refine z_seti (y := 41) (by decide) ?_
  refine pf_X8_206 (x := 41) (σ' := (ap b σ [(0, 8, 41), (0, 8, 40), (0, 8, 39), (0, 8, 38), (0, 8, 37), (0, 8, 36), (0, 8, 35), (0, 8, 34), (0, 8, 33), (0, 8, 32), (0, 8, 31), (0, 8, 30), (0, 8, 29), (0, 8, 28), (0, 8, 27), (0, 8, 26), (0, 8, 25), (0, 8, 24), (0, 8, 23), (0, 8, 22), (0, 8, 21), (0, 8, 20), (0, 8, 19), (0, 8, 18), (0, 8, 17), (0, 8, 16), (0, 8, 15), (0, 8, 14), (0, 8, 13), (0, 8, 12), (0, 8, 11), (0, 8, 10), (0, 8, 9), (0, 8, 8), (0, 8, 7), (0, 8, 6), (0, 8, 5), (0, 8, 4), (0, 8, 3), (0, 8, 2), (0, 8, 1)] [] [])) B (lKA (hk_K hK 0 rfl rfl)) wI_ap dX8_tick_35 ?_
  refine z_aload_n B dX8_tick_38 rfl 1 rfl ?_
  refine z_cVv (As := []) (rest := []) B cw_X8_240 cx_9 dX8_tick_39 (ci_X8_passTasks_920 l (σ := (ap b σ [(0, 8, 41), (0, 8, 40), (0, 8, 39), (0, 8, 38), (0, 8, 37), (0, 8, 36), (0, 8, 35), (0, 8, 34), (0, 8, 33), (0, 8, 32), (0, 8, 31), (0, 8, 30), (0, 8, 29), (0, 8, 28), (0, 8, 27), (0, 8, 26), (0, 8, 25), (0, 8, 24), (0, 8, 23), (0, 8, 22), (0, 8, 21), (0, 8, 20), (0, 8, 19), (0, 8, 18), (0, 8, 17), (0, 8, 16), (0, 8, 15), (0, 8, 14), (0, 8, 13), (0, 8, 12), (0, 8, 11), (0, 8, 10), (0, 8, 9), (0, 8, 8), (0, 8, 7), (0, 8, 6), (0, 8, 5), (0, 8, 4), (0, 8, 3), (0, 8, 2), (0, 8, 1)] [] [])) (b := b) (lyA hK) (rI_at 4 2 hI_4_2) (rR_at 0 3 hR_0_3)) (lKA (hk_K hK 0 rfl rfl)) rfl (by decide) rfl (Nat.le_of_ble_eq_true rfl) (by decide) (fun u hu => ?_)
  refine z_eqs (σ' := (ap b σ [(0, 8, 41), (0, 8, 40), (0, 8, 39), (0, 8, 38), (0, 8, 37), (0, 8, 36), (0, 8, 35), (0, 8, 34), (0, 8, 33), (0, 8, 32), (0, 8, 31), (0, 8, 30), (0, 8, 29), (0, 8, 28), (0, 8, 27), (0, 8, 26), (0, 8, 25), (0, 8, 24), (0, 8, 23), (0, 8, 22), (0, 8, 21), (0, 8, 20), (0, 8, 19), (0, 8, 18), (0, 8, 17), (0, 8, 16), (0, 8, 15), (0, 8, 14), (0, 8, 13), (0, 8, 12), (0, 8, 11), (0, 8, 10), (0, 8, 9), (0, 8, 8), (0, 8, 7), (0, 8, 6), (0, 8, 5), (0, 8, 4), (0, 8, 3), (0, 8, 2), (0, 8, 1)] [] [])) hu ?_
  show zx p l e _ s m _ below meth c g 3 0 0 _ _ 42 [(2, .int 40), (0, .ref (b + 0)), (1, .int 50)] _
  refine z_aload_n B dX8_tick_42 rfl 1 rfl ?_
  refine z_cVv (As := []) (rest := []) B cw_X8_243 cx_9 dX8_tick_43 (ci_X8_passTimers_921 l (σ := (ap b σ [(0, 8, 41), (0, 8, 40), (0, 8, 39), (0, 8, 38), (0, 8, 37), (0, 8, 36), (0, 8, 35), (0, 8, 34), (0, 8, 33), (0, 8, 32), (0, 8, 31), (0, 8, 30), (0, 8, 29), (0, 8, 28), (0, 8, 27), (0, 8, 26), (0, 8, 25), (0, 8, 24), (0, 8, 23), (0, 8, 22), (0, 8, 21), (0, 8, 20), (0, 8, 19), (0, 8, 18), (0, 8, 17), (0, 8, 16), (0, 8, 15), (0, 8, 14), (0, 8, 13), (0, 8, 12), (0, 8, 11), (0, 8, 10), (0, 8, 9), (0, 8, 8), (0, 8, 7), (0, 8, 6), (0, 8, 5), (0, 8, 4), (0, 8, 3), (0, 8, 2), (0, 8, 1)] [] [])) (b := b) (lyA hK) (rI_at 0 7 hI_0_7)) (lKA (hk_K hK 0 rfl rfl)) rfl (by decide) rfl (Nat.le_of_ble_eq_true rfl) (by decide) (fun u hu => ?_)
  refine z_eqs (σ' := (ap b σ [(0, 8, 41), (0, 8, 40), (0, 8, 39), (0, 8, 38), (0, 8, 37), (0, 8, 36), (0, 8, 35), (0, 8, 34), (0, 8, 33), (0, 8, 32), (0, 8, 31), (0, 8, 30), (0, 8, 29), (0, 8, 28), (0, 8, 27), (0, 8, 26), (0, 8, 25), (0, 8, 24), (0, 8, 23), (0, 8, 22), (0, 8, 21), (0, 8, 20), (0, 8, 19), (0, 8, 18), (0, 8, 17), (0, 8, 16), (0, 8, 15), (0, 8, 14), (0, 8, 13), (0, 8, 12), (0, 8, 11), (0, 8, 10), (0, 8, 9), (0, 8, 8), (0, 8, 7), (0, 8, 6), (0, 8, 5), (0, 8, 4), (0, 8, 3), (0, 8, 2), (0, 8, 1)] [] [])) hu ?_
  show zx p l e _ s m _ below meth c g 3 0 0 _ _ 46 [(2, .int 40), (0, .ref (b + 0)), (1, .int 50)] _
  refine z_iinc (v := 41) (lv' := [(2, .int 41), (0, .ref (b + 0)), (1, .int 50)]) B dX8_tick_46 0 rfl (by decide) (by decide) rfl ?_
  refine z_goto (tgt := 23) B dX8_tick_49 (by decide) ?_
  refine z_iload_n B dX8_tick_23 rfl 0 rfl ?_
  refine z_iload_n B dX8_tick_24 rfl 2 rfl ?_
  refine z_icmp_ge (tgt := 52) B dX8_tick_25 (by decide) (fun h => absurd h (by decide)) (fun _ => ?_)
  refine z_aload_n B dX8_tick_28 rfl 1 rfl ?_
  refine z_dup B dX8_tick_29 rfl ?_
  refine gf_X8_206 (x := 41) B (lKA (hk_K hK 0 rfl rfl)) (rI_at 0 8 rfl) dX8_tick_30 ?_
  refine z_iconst (v := 1) B dX8_tick_33 (by decide) ?_
  refine z_iadd B dX8_tick_34 ?_
  refine z_seti (y := 42) (by decide) ?_
  refine pf_X8_206 (x := 42) (σ' := (ap b σ [(0, 8, 42), (0, 8, 41), (0, 8, 40), (0, 8, 39), (0, 8, 38), (0, 8, 37), (0, 8, 36), (0, 8, 35), (0, 8, 34), (0, 8, 33), (0, 8, 32), (0, 8, 31), (0, 8, 30), (0, 8, 29), (0, 8, 28), (0, 8, 27), (0, 8, 26), (0, 8, 25), (0, 8, 24), (0, 8, 23), (0, 8, 22), (0, 8, 21), (0, 8, 20), (0, 8, 19), (0, 8, 18), (0, 8, 17), (0, 8, 16), (0, 8, 15), (0, 8, 14), (0, 8, 13), (0, 8, 12), (0, 8, 11), (0, 8, 10), (0, 8, 9), (0, 8, 8), (0, 8, 7), (0, 8, 6), (0, 8, 5), (0, 8, 4), (0, 8, 3), (0, 8, 2), (0, 8, 1)] [] [])) B (lKA (hk_K hK 0 rfl rfl)) wI_ap dX8_tick_35 ?_
  refine z_aload_n B dX8_tick_38 rfl 1 rfl ?_
  refine z_cVv (As := []) (rest := []) B cw_X8_240 cx_9 dX8_tick_39 (ci_X8_passTasks_920 l (σ := (ap b σ [(0, 8, 42), (0, 8, 41), (0, 8, 40), (0, 8, 39), (0, 8, 38), (0, 8, 37), (0, 8, 36), (0, 8, 35), (0, 8, 34), (0, 8, 33), (0, 8, 32), (0, 8, 31), (0, 8, 30), (0, 8, 29), (0, 8, 28), (0, 8, 27), (0, 8, 26), (0, 8, 25), (0, 8, 24), (0, 8, 23), (0, 8, 22), (0, 8, 21), (0, 8, 20), (0, 8, 19), (0, 8, 18), (0, 8, 17), (0, 8, 16), (0, 8, 15), (0, 8, 14), (0, 8, 13), (0, 8, 12), (0, 8, 11), (0, 8, 10), (0, 8, 9), (0, 8, 8), (0, 8, 7), (0, 8, 6), (0, 8, 5), (0, 8, 4), (0, 8, 3), (0, 8, 2), (0, 8, 1)] [] [])) (b := b) (lyA hK) (rI_at 4 2 hI_4_2) (rR_at 0 3 hR_0_3)) (lKA (hk_K hK 0 rfl rfl)) rfl (by decide) rfl (Nat.le_of_ble_eq_true rfl) (by decide) (fun u hu => ?_)
  refine z_eqs (σ' := (ap b σ [(0, 8, 42), (0, 8, 41), (0, 8, 40), (0, 8, 39), (0, 8, 38), (0, 8, 37), (0, 8, 36), (0, 8, 35), (0, 8, 34), (0, 8, 33), (0, 8, 32), (0, 8, 31), (0, 8, 30), (0, 8, 29), (0, 8, 28), (0, 8, 27), (0, 8, 26), (0, 8, 25), (0, 8, 24), (0, 8, 23), (0, 8, 22), (0, 8, 21), (0, 8, 20), (0, 8, 19), (0, 8, 18), (0, 8, 17), (0, 8, 16), (0, 8, 15), (0, 8, 14), (0, 8, 13), (0, 8, 12), (0, 8, 11), (0, 8, 10), (0, 8, 9), (0, 8, 8), (0, 8, 7), (0, 8, 6), (0, 8, 5), (0, 8, 4), (0, 8, 3), (0, 8, 2), (0, 8, 1)] [] [])) hu ?_
  show zx p l e _ s m _ below meth c g 3 0 0 _ _ 42 [(2, .int 41), (0, .ref (b + 0)), (1, .int 50)] _
  refine z_aload_n B dX8_tick_42 rfl 1 rfl ?_
  refine z_cVv (As := []) (rest := []) B cw_X8_243 cx_9 dX8_tick_43 (ci_X8_passTimers_921 l (σ := (ap b σ [(0, 8, 42), (0, 8, 41), (0, 8, 40), (0, 8, 39), (0, 8, 38), (0, 8, 37), (0, 8, 36), (0, 8, 35), (0, 8, 34), (0, 8, 33), (0, 8, 32), (0, 8, 31), (0, 8, 30), (0, 8, 29), (0, 8, 28), (0, 8, 27), (0, 8, 26), (0, 8, 25), (0, 8, 24), (0, 8, 23), (0, 8, 22), (0, 8, 21), (0, 8, 20), (0, 8, 19), (0, 8, 18), (0, 8, 17), (0, 8, 16), (0, 8, 15), (0, 8, 14), (0, 8, 13), (0, 8, 12), (0, 8, 11), (0, 8, 10), (0, 8, 9), (0, 8, 8), (0, 8, 7), (0, 8, 6), (0, 8, 5), (0, 8, 4), (0, 8, 3), (0, 8, 2), (0, 8, 1)] [] [])) (b := b) (lyA hK) (rI_at 0 7 hI_0_7)) (lKA (hk_K hK 0 rfl rfl)) rfl (by decide) rfl (Nat.le_of_ble_eq_true rfl) (by decide) (fun u hu => ?_)
  refine z_eqs (σ' := (ap b σ [(0, 8, 42), (0, 8, 41), (0, 8, 40), (0, 8, 39), (0, 8, 38), (0, 8, 37), (0, 8, 36), (0, 8, 35), (0, 8, 34), (0, 8, 33), (0, 8, 32), (0, 8, 31), (0, 8, 30), (0, 8, 29), (0, 8, 28), (0, 8, 27), (0, 8, 26), (0, 8, 25), (0, 8, 24), (0, 8, 23), (0, 8, 22), (0, 8, 21), (0, 8, 20), (0, 8, 19), (0, 8, 18), (0, 8, 17), (0, 8, 16), (0, 8, 15), (0, 8, 14), (0, 8, 13), (0, 8, 12), (0, 8, 11), (0, 8, 10), (0, 8, 9), (0, 8, 8), (0, 8, 7), (0, 8, 6), (0, 8, 5), (0, 8, 4), (0, 8, 3), (0, 8, 2), (0, 8, 1)] [] [])) hu ?_
  show zx p l e _ s m _ below meth c g 3 0 0 _ _ 46 [(2, .int 41), (0, .ref (b + 0)), (1, .int 50)] _
  refine z_iinc (v := 42) (lv' := [(2, .int 42), (0, .ref (b + 0)), (1, .int 50)]) B dX8_tick_46 0 rfl (by decide) (by decide) rfl ?_
  refine z_goto (tgt := 23) B dX8_tick_49 (by decide) ?_
  refine z_iload_n B dX8_tick_23 rfl 0 rfl ?_
  refine z_iload_n B dX8_tick_24 rfl 2 rfl ?_
  refine z_icmp_ge (tgt := 52) B dX8_tick_25 (by decide) (fun h => absurd h (by decide)) (fun _ => ?_)
  refine z_aload_n B dX8_tick_28 rfl 1 rfl ?_
  refine z_dup B dX8_tick_29 rfl ?_
  refine gf_X8_206 (x := 42) B (lKA (hk_K hK 0 rfl rfl)) (rI_at 0 8 rfl) dX8_tick_30 ?_
  refine z_iconst (v := 1) B dX8_tick_33 (by decide) ?_
  refine z_iadd B dX8_tick_34 ?_
  refine z_seti (y := 43) (by decide) ?_
  refine pf_X8_206 (x := 43) (σ' := (ap b σ [(0, 8, 43), (0, 8, 42), (0, 8, 41), (0, 8, 40), (0, 8, 39), (0, 8, 38), (0, 8, 37), (0, 8, 36), (0, 8, 35), (0, 8, 34), (0, 8, 33), (0, 8, 32), (0, 8, 31), (0, 8, 30), (0, 8, 29), (0, 8, 28), (0, 8, 27), (0, 8, 26), (0, 8, 25), (0, 8, 24), (0, 8, 23), (0, 8, 22), (0, 8, 21), (0, 8, 20), (0, 8, 19), (0, 8, 18), (0, 8, 17), (0, 8, 16), (0, 8, 15), (0, 8, 14), (0, 8, 13), (0, 8, 12), (0, 8, 11), (0, 8, 10), (0, 8, 9), (0, 8, 8), (0, 8, 7), (0, 8, 6), (0, 8, 5), (0, 8, 4), (0, 8, 3), (0, 8, 2), (0, 8, 1)] [] [])) B (lKA (hk_K hK 0 rfl rfl)) wI_ap dX8_tick_35 ?_
  refine z_aload_n B dX8_tick_38 rfl 1 rfl ?_
  refine z_cVv (As := []) (rest := []) B cw_X8_240 cx_9 dX8_tick_39 (ci_X8_passTasks_920 l (σ := (ap b σ [(0, 8, 43), (0, 8, 42), (0, 8, 41), (0, 8, 40), (0, 8, 39), (0, 8, 38), (0, 8, 37), (0, 8, 36), (0, 8, 35), (0, 8, 34), (0, 8, 33), (0, 8, 32), (0, 8, 31), (0, 8, 30), (0, 8, 29), (0, 8, 28), (0, 8, 27), (0, 8, 26), (0, 8, 25), (0, 8, 24), (0, 8, 23), (0, 8, 22), (0, 8, 21), (0, 8, 20), (0, 8, 19), (0, 8, 18), (0, 8, 17), (0, 8, 16), (0, 8, 15), (0, 8, 14), (0, 8, 13), (0, 8, 12), (0, 8, 11), (0, 8, 10), (0, 8, 9), (0, 8, 8), (0, 8, 7), (0, 8, 6), (0, 8, 5), (0, 8, 4), (0, 8, 3), (0, 8, 2), (0, 8, 1)] [] [])) (b := b) (lyA hK) (rI_at 4 2 hI_4_2) (rR_at 0 3 hR_0_3)) (lKA (hk_K hK 0 rfl rfl)) rfl (by decide) rfl (Nat.le_of_ble_eq_true rfl) (by decide) (fun u hu => ?_)
  refine z_eqs (σ' := (ap b σ [(0, 8, 43), (0, 8, 42), (0, 8, 41), (0, 8, 40), (0, 8, 39), (0, 8, 38), (0, 8, 37), (0, 8, 36), (0, 8, 35), (0, 8, 34), (0, 8, 33), (0, 8, 32), (0, 8, 31), (0, 8, 30), (0, 8, 29), (0, 8, 28), (0, 8, 27), (0, 8, 26), (0, 8, 25), (0, 8, 24), (0, 8, 23), (0, 8, 22), (0, 8, 21), (0, 8, 20), (0, 8, 19), (0, 8, 18), (0, 8, 17), (0, 8, 16), (0, 8, 15), (0, 8, 14), (0, 8, 13), (0, 8, 12), (0, 8, 11), (0, 8, 10), (0, 8, 9), (0, 8, 8), (0, 8, 7), (0, 8, 6), (0, 8, 5), (0, 8, 4), (0, 8, 3), (0, 8, 2), (0, 8, 1)] [] [])) hu ?_
  show zx p l e _ s m _ below meth c g 3 0 0 _ _ 42 [(2, .int 42), (0, .ref (b + 0)), (1, .int 50)] _
  refine z_aload_n B dX8_tick_42 rfl 1 rfl ?_
  refine z_cVv (As := []) (rest := []) B cw_X8_243 cx_9 dX8_tick_43 (ci_X8_passTimers_921 l (σ := (ap b σ [(0, 8, 43), (0, 8, 42), (0, 8, 41), (0, 8, 40), (0, 8, 39), (0, 8, 38), (0, 8, 37), (0, 8, 36), (0, 8, 35), (0, 8, 34), (0, 8, 33), (0, 8, 32), (0, 8, 31), (0, 8, 30), (0, 8, 29), (0, 8, 28), (0, 8, 27), (0, 8, 26), (0, 8, 25), (0, 8, 24), (0, 8, 23), (0, 8, 22), (0, 8, 21), (0, 8, 20), (0, 8, 19), (0, 8, 18), (0, 8, 17), (0, 8, 16), (0, 8, 15), (0, 8, 14), (0, 8, 13), (0, 8, 12), (0, 8, 11), (0, 8, 10), (0, 8, 9), (0, 8, 8), (0, 8, 7), (0, 8, 6), (0, 8, 5), (0, 8, 4), (0, 8, 3), (0, 8, 2), (0, 8, 1)] [] [])) (b := b) (lyA hK) (rI_at 0 7 hI_0_7)) (lKA (hk_K hK 0 rfl rfl)) rfl (by decide) rfl (Nat.le_of_ble_eq_true rfl) (by decide) (fun u hu => ?_)
  refine z_eqs (σ' := (ap b σ [(0, 8, 43), (0, 8, 42), (0, 8, 41), (0, 8, 40), (0, 8, 39), (0, 8, 38), (0, 8, 37), (0, 8, 36), (0, 8, 35), (0, 8, 34), (0, 8, 33), (0, 8, 32), (0, 8, 31), (0, 8, 30), (0, 8, 29), (0, 8, 28), (0, 8, 27), (0, 8, 26), (0, 8, 25), (0, 8, 24), (0, 8, 23), (0, 8, 22), (0, 8, 21), (0, 8, 20), (0, 8, 19), (0, 8, 18), (0, 8, 17), (0, 8, 16), (0, 8, 15), (0, 8, 14), (0, 8, 13), (0, 8, 12), (0, 8, 11), (0, 8, 10), (0, 8, 9), (0, 8, 8), (0, 8, 7), (0, 8, 6), (0, 8, 5), (0, 8, 4), (0, 8, 3), (0, 8, 2), (0, 8, 1)] [] [])) hu ?_
  show zx p l e _ s m _ below meth c g 3 0 0 _ _ 46 [(2, .int 42), (0, .ref (b + 0)), (1, .int 50)] _
  refine z_iinc (v := 43) (lv' := [(2, .int 43), (0, .ref (b + 0)), (1, .int 50)]) B dX8_tick_46 0 rfl (by decide) (by decide) rfl ?_
  refine z_goto (tgt := 23) B dX8_tick_49 (by decide) ?_
  refine z_iload_n B dX8_tick_23 rfl 0 rfl ?_
  refine z_iload_n B dX8_tick_24 rfl 2 rfl ?_
  refine z_icmp_ge (tgt := 52) B dX8_tick_25 (by decide) (fun h => absurd h (by decide)) (fun _ => ?_)
  refine z_aload_n B dX8_tick_28 rfl 1 rfl ?_
  refine z_dup B dX8_tick_29 rfl ?_
  refine gf_X8_206 (x := 43) B (lKA (hk_K hK 0 rfl rfl)) (rI_at 0 8 rfl) dX8_tick_30 ?_
  refine z_iconst (v := 1) B dX8_tick_33 (by decide) ?_
  refine z_iadd B dX8_tick_34 ?_
  refine z_seti (y := 44) (by decide) ?_
  refine pf_X8_206 (x := 44) (σ' := (ap b σ [(0, 8, 44), (0, 8, 43), (0, 8, 42), (0, 8, 41), (0, 8, 40), (0, 8, 39), (0, 8, 38), (0, 8, 37), (0, 8, 36), (0, 8, 35), (0, 8, 34), (0, 8, 33), (0, 8, 32), (0, 8, 31), (0, 8, 30), (0, 8, 29), (0, 8, 28), (0, 8, 27), (0, 8, 26), (0, 8, 25), (0, 8, 24), (0, 8, 23), (0, 8, 22), (0, 8, 21), (0, 8, 20), (0, 8, 19), (0, 8, 18), (0, 8, 17), (0, 8, 16), (0, 8, 15), (0, 8, 14), (0, 8, 13), (0, 8, 12), (0, 8, 11), (0, 8, 10), (0, 8, 9), (0, 8, 8), (0, 8, 7), (0, 8, 6), (0, 8, 5), (0, 8, 4), (0, 8, 3), (0, 8, 2), (0, 8, 1)] [] [])) B (lKA (hk_K hK 0 rfl rfl)) wI_ap dX8_tick_35 ?_
  refine z_aload_n B dX8_tick_38 rfl 1 rfl ?_
  refine z_cVv (As := []) (rest := []) B cw_X8_240 cx_9 dX8_tick_39 (ci_X8_passTasks_920 l (σ := (ap b σ [(0, 8, 44), (0, 8, 43), (0, 8, 42), (0, 8, 41), (0, 8, 40), (0, 8, 39), (0, 8, 38), (0, 8, 37), (0, 8, 36), (0, 8, 35), (0, 8, 34), (0, 8, 33), (0, 8, 32), (0, 8, 31), (0, 8, 30), (0, 8, 29), (0, 8, 28), (0, 8, 27), (0, 8, 26), (0, 8, 25), (0, 8, 24), (0, 8, 23), (0, 8, 22), (0, 8, 21), (0, 8, 20), (0, 8, 19), (0, 8, 18), (0, 8, 17), (0, 8, 16), (0, 8, 15), (0, 8, 14), (0, 8, 13), (0, 8, 12), (0, 8, 11), (0, 8, 10), (0, 8, 9), (0, 8, 8), (0, 8, 7), (0, 8, 6), (0, 8, 5), (0, 8, 4), (0, 8, 3), (0, 8, 2), (0, 8, 1)] [] [])) (b := b) (lyA hK) (rI_at 4 2 hI_4_2) (rR_at 0 3 hR_0_3)) (lKA (hk_K hK 0 rfl rfl)) rfl (by decide) rfl (Nat.le_of_ble_eq_true rfl) (by decide) (fun u hu => ?_)
  refine z_eqs (σ' := (ap b σ [(0, 8, 44), (0, 8, 43), (0, 8, 42), (0, 8, 41), (0, 8, 40), (0, 8, 39), (0, 8, 38), (0, 8, 37), (0, 8, 36), (0, 8, 35), (0, 8, 34), (0, 8, 33), (0, 8, 32), (0, 8, 31), (0, 8, 30), (0, 8, 29), (0, 8, 28), (0, 8, 27), (0, 8, 26), (0, 8, 25), (0, 8, 24), (0, 8, 23), (0, 8, 22), (0, 8, 21), (0, 8, 20), (0, 8, 19), (0, 8, 18), (0, 8, 17), (0, 8, 16), (0, 8, 15), (0, 8, 14), (0, 8, 13), (0, 8, 12), (0, 8, 11), (0, 8, 10), (0, 8, 9), (0, 8, 8), (0, 8, 7), (0, 8, 6), (0, 8, 5), (0, 8, 4), (0, 8, 3), (0, 8, 2), (0, 8, 1)] [] [])) hu ?_
  show zx p l e _ s m _ below meth c g 3 0 0 _ _ 42 [(2, .int 43), (0, .ref (b + 0)), (1, .int 50)] _
  refine z_aload_n B dX8_tick_42 rfl 1 rfl ?_
  refine z_cVv (As := []) (rest := []) B cw_X8_243 cx_9 dX8_tick_43 (ci_X8_passTimers_921 l (σ := (ap b σ [(0, 8, 44), (0, 8, 43), (0, 8, 42), (0, 8, 41), (0, 8, 40), (0, 8, 39), (0, 8, 38), (0, 8, 37), (0, 8, 36), (0, 8, 35), (0, 8, 34), (0, 8, 33), (0, 8, 32), (0, 8, 31), (0, 8, 30), (0, 8, 29), (0, 8, 28), (0, 8, 27), (0, 8, 26), (0, 8, 25), (0, 8, 24), (0, 8, 23), (0, 8, 22), (0, 8, 21), (0, 8, 20), (0, 8, 19), (0, 8, 18), (0, 8, 17), (0, 8, 16), (0, 8, 15), (0, 8, 14), (0, 8, 13), (0, 8, 12), (0, 8, 11), (0, 8, 10), (0, 8, 9), (0, 8, 8), (0, 8, 7), (0, 8, 6), (0, 8, 5), (0, 8, 4), (0, 8, 3), (0, 8, 2), (0, 8, 1)] [] [])) (b := b) (lyA hK) (rI_at 0 7 hI_0_7)) (lKA (hk_K hK 0 rfl rfl)) rfl (by decide) rfl (Nat.le_of_ble_eq_true rfl) (by decide) (fun u hu => ?_)
  refine z_eqs (σ' := (ap b σ [(0, 8, 44), (0, 8, 43), (0, 8, 42), (0, 8, 41), (0, 8, 40), (0, 8, 39), (0, 8, 38), (0, 8, 37), (0, 8, 36), (0, 8, 35), (0, 8, 34), (0, 8, 33), (0, 8, 32), (0, 8, 31), (0, 8, 30), (0, 8, 29), (0, 8, 28), (0, 8, 27), (0, 8, 26), (0, 8, 25), (0, 8, 24), (0, 8, 23), (0, 8, 22), (0, 8, 21), (0, 8, 20), (0, 8, 19), (0, 8, 18), (0, 8, 17), (0, 8, 16), (0, 8, 15), (0, 8, 14), (0, 8, 13), (0, 8, 12), (0, 8, 11), (0, 8, 10), (0, 8, 9), (0, 8, 8), (0, 8, 7), (0, 8, 6), (0, 8, 5), (0, 8, 4), (0, 8, 3), (0, 8, 2), (0, 8, 1)] [] [])) hu ?_
  show zx p l e _ s m _ below meth c g 3 0 0 _ _ 46 [(2, .int 43), (0, .ref (b + 0)), (1, .int 50)] _
  refine z_iinc (v := 44) (lv' := [(2, .int 44), (0, .ref (b + 0)), (1, .int 50)]) B dX8_tick_46 0 rfl (by decide) (by decide) rfl ?_
  refine z_goto (tgt := 23) B dX8_tick_49 (by decide) ?_
  refine z_iload_n B dX8_tick_23 rfl 0 rfl ?_
  refine z_iload_n B dX8_tick_24 rfl 2 rfl ?_
  refine z_icmp_ge (tgt := 52) B dX8_tick_25 (by decide) (fun h => absurd h (by decide)) (fun _ => ?_)
  refine z_aload_n B dX8_tick_28 rfl 1 rfl ?_
  refine z_dup B dX8_tick_29 rfl ?_
  refine gf_X8_206 (x := 44) B (lKA (hk_K hK 0 rfl rfl)) (rI_at 0 8 rfl) dX8_tick_30 ?_
  refine z_iconst (v := 1) B dX8_tick_33 (by decide) ?_
  refine z_iadd B dX8_tick_34 ?_
  refine z_seti (y := 45) (by decide) ?_
  refine pf_X8_206 (x := 45) (σ' := (ap b σ [(0, 8, 45), (0, 8, 44), (0, 8, 43), (0, 8, 42), (0, 8, 41), (0, 8, 40), (0, 8, 39), (0, 8, 38), (0, 8, 37), (0, 8, 36), (0, 8, 35), (0, 8, 34), (0, 8, 33), (0, 8, 32), (0, 8, 31), (0, 8, 30), (0, 8, 29), (0, 8, 28), (0, 8, 27), (0, 8, 26), (0, 8, 25), (0, 8, 24), (0, 8, 23), (0, 8, 22), (0, 8, 21), (0, 8, 20), (0, 8, 19), (0, 8, 18), (0, 8, 17), (0, 8, 16), (0, 8, 15), (0, 8, 14), (0, 8, 13), (0, 8, 12), (0, 8, 11), (0, 8, 10), (0, 8, 9), (0, 8, 8), (0, 8, 7), (0, 8, 6), (0, 8, 5), (0, 8, 4), (0, 8, 3), (0, 8, 2), (0, 8, 1)] [] [])) B (lKA (hk_K hK 0 rfl rfl)) wI_ap dX8_tick_35 ?_
  refine z_aload_n B dX8_tick_38 rfl 1 rfl ?_
  refine z_cVv (As := []) (rest := []) B cw_X8_240 cx_9 dX8_tick_39 (ci_X8_passTasks_920 l (σ := (ap b σ [(0, 8, 45), (0, 8, 44), (0, 8, 43), (0, 8, 42), (0, 8, 41), (0, 8, 40), (0, 8, 39), (0, 8, 38), (0, 8, 37), (0, 8, 36), (0, 8, 35), (0, 8, 34), (0, 8, 33), (0, 8, 32), (0, 8, 31), (0, 8, 30), (0, 8, 29), (0, 8, 28), (0, 8, 27), (0, 8, 26), (0, 8, 25), (0, 8, 24), (0, 8, 23), (0, 8, 22), (0, 8, 21), (0, 8, 20), (0, 8, 19), (0, 8, 18), (0, 8, 17), (0, 8, 16), (0, 8, 15), (0, 8, 14), (0, 8, 13), (0, 8, 12), (0, 8, 11), (0, 8, 10), (0, 8, 9), (0, 8, 8), (0, 8, 7), (0, 8, 6), (0, 8, 5), (0, 8, 4), (0, 8, 3), (0, 8, 2), (0, 8, 1)] [] [])) (b := b) (lyA hK) (rI_at 4 2 hI_4_2) (rR_at 0 3 hR_0_3)) (lKA (hk_K hK 0 rfl rfl)) rfl (by decide) rfl (Nat.le_of_ble_eq_true rfl) (by decide) (fun u hu => ?_)
  refine z_eqs (σ' := (ap b σ [(0, 8, 45), (0, 8, 44), (0, 8, 43), (0, 8, 42), (0, 8, 41), (0, 8, 40), (0, 8, 39), (0, 8, 38), (0, 8, 37), (0, 8, 36), (0, 8, 35), (0, 8, 34), (0, 8, 33), (0, 8, 32), (0, 8, 31), (0, 8, 30), (0, 8, 29), (0, 8, 28), (0, 8, 27), (0, 8, 26), (0, 8, 25), (0, 8, 24), (0, 8, 23), (0, 8, 22), (0, 8, 21), (0, 8, 20), (0, 8, 19), (0, 8, 18), (0, 8, 17), (0, 8, 16), (0, 8, 15), (0, 8, 14), (0, 8, 13), (0, 8, 12), (0, 8, 11), (0, 8, 10), (0, 8, 9), (0, 8, 8), (0, 8, 7), (0, 8, 6), (0, 8, 5), (0, 8, 4), (0, 8, 3), (0, 8, 2), (0, 8, 1)] [] [])) hu ?_
  show zx p l e _ s m _ below meth c g 3 0 0 _ _ 42 [(2, .int 44), (0, .ref (b + 0)), (1, .int 50)] _
  refine z_aload_n B dX8_tick_42 rfl 1 rfl ?_
  refine z_cVv (As := []) (rest := []) B cw_X8_243 cx_9 dX8_tick_43 (ci_X8_passTimers_921 l (σ := (ap b σ [(0, 8, 45), (0, 8, 44), (0, 8, 43), (0, 8, 42), (0, 8, 41), (0, 8, 40), (0, 8, 39), (0, 8, 38), (0, 8, 37), (0, 8, 36), (0, 8, 35), (0, 8, 34), (0, 8, 33), (0, 8, 32), (0, 8, 31), (0, 8, 30), (0, 8, 29), (0, 8, 28), (0, 8, 27), (0, 8, 26), (0, 8, 25), (0, 8, 24), (0, 8, 23), (0, 8, 22), (0, 8, 21), (0, 8, 20), (0, 8, 19), (0, 8, 18), (0, 8, 17), (0, 8, 16), (0, 8, 15), (0, 8, 14), (0, 8, 13), (0, 8, 12), (0, 8, 11), (0, 8, 10), (0, 8, 9), (0, 8, 8), (0, 8, 7), (0, 8, 6), (0, 8, 5), (0, 8, 4), (0, 8, 3), (0, 8, 2), (0, 8, 1)] [] [])) (b := b) (lyA hK) (rI_at 0 7 hI_0_7)) (lKA (hk_K hK 0 rfl rfl)) rfl (by decide) rfl (Nat.le_of_ble_eq_true rfl) (by decide) (fun u hu => ?_)
  refine z_eqs (σ' := (ap b σ [(0, 8, 45), (0, 8, 44), (0, 8, 43), (0, 8, 42), (0, 8, 41), (0, 8, 40), (0, 8, 39), (0, 8, 38), (0, 8, 37), (0, 8, 36), (0, 8, 35), (0, 8, 34), (0, 8, 33), (0, 8, 32), (0, 8, 31), (0, 8, 30), (0, 8, 29), (0, 8, 28), (0, 8, 27), (0, 8, 26), (0, 8, 25), (0, 8, 24), (0, 8, 23), (0, 8, 22), (0, 8, 21), (0, 8, 20), (0, 8, 19), (0, 8, 18), (0, 8, 17), (0, 8, 16), (0, 8, 15), (0, 8, 14), (0, 8, 13), (0, 8, 12), (0, 8, 11), (0, 8, 10), (0, 8, 9), (0, 8, 8), (0, 8, 7), (0, 8, 6), (0, 8, 5), (0, 8, 4), (0, 8, 3), (0, 8, 2), (0, 8, 1)] [] [])) hu ?_
  show zx p l e _ s m _ below meth c g 3 0 0 _ _ 46 [(2, .int 44), (0, .ref (b + 0)), (1, .int 50)] _
  refine z_iinc (v := 45) (lv' := [(2, .int 45), (0, .ref (b + 0)), (1, .int 50)]) B dX8_tick_46 0 rfl (by decide) (by decide) rfl ?_
  refine z_goto (tgt := 23) B dX8_tick_49 (by decide) ?_
  refine z_iload_n B dX8_tick_23 rfl 0 rfl ?_
  refine z_iload_n B dX8_tick_24 rfl 2 rfl ?_
  refine z_icmp_ge (tgt := 52) B dX8_tick_25 (by decide) (fun h => absurd h (by decide)) (fun _ => ?_)
  refine z_aload_n B dX8_tick_28 rfl 1 rfl ?_
  refine z_dup B dX8_tick_29 rfl ?_
  refine gf_X8_206 (x := 45) B (lKA (hk_K hK 0 rfl rfl)) (rI_at 0 8 rfl) dX8_tick_30 ?_
  refine z_iconst (v := 1) B dX8_tick_33 (by decide) ?_
  refine z_iadd B dX8_tick_34 ?_
  refine z_seti (y := 46) (by decide) ?_
  refine pf_X8_206 (x := 46) (σ' := (ap b σ [(0, 8, 46), (0, 8, 45), (0, 8, 44), (0, 8, 43), (0, 8, 42), (0, 8, 41), (0, 8, 40), (0, 8, 39), (0, 8, 38), (0, 8, 37), (0, 8, 36), (0, 8, 35), (0, 8, 34), (0, 8, 33), (0, 8, 32), (0, 8, 31), (0, 8, 30), (0, 8, 29), (0, 8, 28), (0, 8, 27), (0, 8, 26), (0, 8, 25), (0, 8, 24), (0, 8, 23), (0, 8, 22), (0, 8, 21), (0, 8, 20), (0, 8, 19), (0, 8, 18), (0, 8, 17), (0, 8, 16), (0, 8, 15), (0, 8, 14), (0, 8, 13), (0, 8, 12), (0, 8, 11), (0, 8, 10), (0, 8, 9), (0, 8, 8), (0, 8, 7), (0, 8, 6), (0, 8, 5), (0, 8, 4), (0, 8, 3), (0, 8, 2), (0, 8, 1)] [] [])) B (lKA (hk_K hK 0 rfl rfl)) wI_ap dX8_tick_35 ?_
  refine z_aload_n B dX8_tick_38 rfl 1 rfl ?_
  refine z_cVv (As := []) (rest := []) B cw_X8_240 cx_9 dX8_tick_39 (ci_X8_passTasks_920 l (σ := (ap b σ [(0, 8, 46), (0, 8, 45), (0, 8, 44), (0, 8, 43), (0, 8, 42), (0, 8, 41), (0, 8, 40), (0, 8, 39), (0, 8, 38), (0, 8, 37), (0, 8, 36), (0, 8, 35), (0, 8, 34), (0, 8, 33), (0, 8, 32), (0, 8, 31), (0, 8, 30), (0, 8, 29), (0, 8, 28), (0, 8, 27), (0, 8, 26), (0, 8, 25), (0, 8, 24), (0, 8, 23), (0, 8, 22), (0, 8, 21), (0, 8, 20), (0, 8, 19), (0, 8, 18), (0, 8, 17), (0, 8, 16), (0, 8, 15), (0, 8, 14), (0, 8, 13), (0, 8, 12), (0, 8, 11), (0, 8, 10), (0, 8, 9), (0, 8, 8), (0, 8, 7), (0, 8, 6), (0, 8, 5), (0, 8, 4), (0, 8, 3), (0, 8, 2), (0, 8, 1)] [] [])) (b := b) (lyA hK) (rI_at 4 2 hI_4_2) (rR_at 0 3 hR_0_3)) (lKA (hk_K hK 0 rfl rfl)) rfl (by decide) rfl (Nat.le_of_ble_eq_true rfl) (by decide) (fun u hu => ?_)
  refine z_eqs (σ' := (ap b σ [(0, 8, 46), (0, 8, 45), (0, 8, 44), (0, 8, 43), (0, 8, 42), (0, 8, 41), (0, 8, 40), (0, 8, 39), (0, 8, 38), (0, 8, 37), (0, 8, 36), (0, 8, 35), (0, 8, 34), (0, 8, 33), (0, 8, 32), (0, 8, 31), (0, 8, 30), (0, 8, 29), (0, 8, 28), (0, 8, 27), (0, 8, 26), (0, 8, 25), (0, 8, 24), (0, 8, 23), (0, 8, 22), (0, 8, 21), (0, 8, 20), (0, 8, 19), (0, 8, 18), (0, 8, 17), (0, 8, 16), (0, 8, 15), (0, 8, 14), (0, 8, 13), (0, 8, 12), (0, 8, 11), (0, 8, 10), (0, 8, 9), (0, 8, 8), (0, 8, 7), (0, 8, 6), (0, 8, 5), (0, 8, 4), (0, 8, 3), (0, 8, 2), (0, 8, 1)] [] [])) hu ?_
  show zx p l e _ s m _ below meth c g 3 0 0 _ _ 42 [(2, .int 45), (0, .ref (b + 0)), (1, .int 50)] _
  refine z_aload_n B dX8_tick_42 rfl 1 rfl ?_
  refine z_cVv (As := []) (rest := []) B cw_X8_243 cx_9 dX8_tick_43 (ci_X8_passTimers_921 l (σ := (ap b σ [(0, 8, 46), (0, 8, 45), (0, 8, 44), (0, 8, 43), (0, 8, 42), (0, 8, 41), (0, 8, 40), (0, 8, 39), (0, 8, 38), (0, 8, 37), (0, 8, 36), (0, 8, 35), (0, 8, 34), (0, 8, 33), (0, 8, 32), (0, 8, 31), (0, 8, 30), (0, 8, 29), (0, 8, 28), (0, 8, 27), (0, 8, 26), (0, 8, 25), (0, 8, 24), (0, 8, 23), (0, 8, 22), (0, 8, 21), (0, 8, 20), (0, 8, 19), (0, 8, 18), (0, 8, 17), (0, 8, 16), (0, 8, 15), (0, 8, 14), (0, 8, 13), (0, 8, 12), (0, 8, 11), (0, 8, 10), (0, 8, 9), (0, 8, 8), (0, 8, 7), (0, 8, 6), (0, 8, 5), (0, 8, 4), (0, 8, 3), (0, 8, 2), (0, 8, 1)] [] [])) (b := b) (lyA hK) (rI_at 0 7 hI_0_7)) (lKA (hk_K hK 0 rfl rfl)) rfl (by decide) rfl (Nat.le_of_ble_eq_true rfl) (by decide) (fun u hu => ?_)
  refine z_eqs (σ' := (ap b σ [(0, 8, 46), (0, 8, 45), (0, 8, 44), (0, 8, 43), (0, 8, 42), (0, 8, 41), (0, 8, 40), (0, 8, 39), (0, 8, 38), (0, 8, 37), (0, 8, 36), (0, 8, 35), (0, 8, 34), (0, 8, 33), (0, 8, 32), (0, 8, 31), (0, 8, 30), (0, 8, 29), (0, 8, 28), (0, 8, 27), (0, 8, 26), (0, 8, 25), (0, 8, 24), (0, 8, 23), (0, 8, 22), (0, 8, 21), (0, 8, 20), (0, 8, 19), (0, 8, 18), (0, 8, 17), (0, 8, 16), (0, 8, 15), (0, 8, 14), (0, 8, 13), (0, 8, 12), (0, 8, 11), (0, 8, 10), (0, 8, 9), (0, 8, 8), (0, 8, 7), (0, 8, 6), (0, 8, 5), (0, 8, 4), (0, 8, 3), (0, 8, 2), (0, 8, 1)] [] [])) hu ?_
  show zx p l e _ s m _ below meth c g 3 0 0 _ _ 46 [(2, .int 45), (0, .ref (b + 0)), (1, .int 50)] _
  refine z_iinc (v := 46) (lv' := [(2, .int 46), (0, .ref (b + 0)), (1, .int 50)]) B dX8_tick_46 0 rfl (by decide) (by decide) rfl ?_
  refine z_goto (tgt := 23) B dX8_tick_49 (by decide) ?_
  refine z_iload_n B dX8_tick_23 rfl 0 rfl ?_
  refine z_iload_n B dX8_tick_24 rfl 2 rfl ?_
  refine z_icmp_ge (tgt := 52) B dX8_tick_25 (by decide) (fun h => absurd h (by decide)) (fun _ => ?_)
  refine z_aload_n B dX8_tick_28 rfl 1 rfl ?_
  refine z_dup B dX8_tick_29 rfl ?_
  refine gf_X8_206 (x := 46) B (lKA (hk_K hK 0 rfl rfl)) (rI_at 0 8 rfl) dX8_tick_30 ?_
  refine z_iconst (v := 1) B dX8_tick_33 (by decide) ?_
  refine z_iadd B dX8_tick_34 ?_
  refine z_seti (y := 47) (by decide) ?_
  refine pf_X8_206 (x := 47) (σ' := (ap b σ [(0, 8, 47), (0, 8, 46), (0, 8, 45), (0, 8, 44), (0, 8, 43), (0, 8, 42), (0, 8, 41), (0, 8, 40), (0, 8, 39), (0, 8, 38), (0, 8, 37), (0, 8, 36), (0, 8, 35), (0, 8, 34), (0, 8, 33), (0, 8, 32), (0, 8, 31), (0, 8, 30), (0, 8, 29), (0, 8, 28), (0, 8, 27), (0, 8, 26), (0, 8, 25), (0, 8, 24), (0, 8, 23), (0, 8, 22), (0, 8, 21), (0, 8, 20), (0, 8, 19), (0, 8, 18), (0, 8, 17), (0, 8, 16), (0, 8, 15), (0, 8, 14), (0, 8, 13), (0, 8, 12), (0, 8, 11), (0, 8, 10), (0, 8, 9), (0, 8, 8), (0, 8, 7), (0, 8, 6), (0, 8, 5), (0, 8, 4), (0, 8, 3), (0, 8, 2), (0, 8, 1)] [] [])) B (lKA (hk_K hK 0 rfl rfl)) wI_ap dX8_tick_35 ?_
  refine z_aload_n B dX8_tick_38 rfl 1 rfl ?_
  refine z_cVv (As := []) (rest := []) B cw_X8_240 cx_9 dX8_tick_39 (ci_X8_passTasks_920 l (σ := (ap b σ [(0, 8, 47), (0, 8, 46), (0, 8, 45), (0, 8, 44), (0, 8, 43), (0, 8, 42), (0, 8, 41), (0, 8, 40), (0, 8, 39), (0, 8, 38), (0, 8, 37), (0, 8, 36), (0, 8, 35), (0, 8, 34), (0, 8, 33), (0, 8, 32), (0, 8, 31), (0, 8, 30), (0, 8, 29), (0, 8, 28), (0, 8, 27), (0, 8, 26), (0, 8, 25), (0, 8, 24), (0, 8, 23), (0, 8, 22), (0, 8, 21), (0, 8, 20), (0, 8, 19), (0, 8, 18), (0, 8, 17), (0, 8, 16), (0, 8, 15), (0, 8, 14), (0, 8, 13), (0, 8, 12), (0, 8, 11), (0, 8, 10), (0, 8, 9), (0, 8, 8), (0, 8, 7), (0, 8, 6), (0, 8, 5), (0, 8, 4), (0, 8, 3), (0, 8, 2), (0, 8, 1)] [] [])) (b := b) (lyA hK) (rI_at 4 2 hI_4_2) (rR_at 0 3 hR_0_3)) (lKA (hk_K hK 0 rfl rfl)) rfl (by decide) rfl (Nat.le_of_ble_eq_true rfl) (by decide) (fun u hu => ?_)
  refine z_eqs (σ' := (ap b σ [(0, 8, 47), (0, 8, 46), (0, 8, 45), (0, 8, 44), (0, 8, 43), (0, 8, 42), (0, 8, 41), (0, 8, 40), (0, 8, 39), (0, 8, 38), (0, 8, 37), (0, 8, 36), (0, 8, 35), (0, 8, 34), (0, 8, 33), (0, 8, 32), (0, 8, 31), (0, 8, 30), (0, 8, 29), (0, 8, 28), (0, 8, 27), (0, 8, 26), (0, 8, 25), (0, 8, 24), (0, 8, 23), (0, 8, 22), (0, 8, 21), (0, 8, 20), (0, 8, 19), (0, 8, 18), (0, 8, 17), (0, 8, 16), (0, 8, 15), (0, 8, 14), (0, 8, 13), (0, 8, 12), (0, 8, 11), (0, 8, 10), (0, 8, 9), (0, 8, 8), (0, 8, 7), (0, 8, 6), (0, 8, 5), (0, 8, 4), (0, 8, 3), (0, 8, 2), (0, 8, 1)] [] [])) hu ?_
  show zx p l e _ s m _ below meth c g 3 0 0 _ _ 42 [(2, .int 46), (0, .ref (b + 0)), (1, .int 50)] _
  refine z_aload_n B dX8_tick_42 rfl 1 rfl ?_
  refine z_cVv (As := []) (rest := []) B cw_X8_243 cx_9 dX8_tick_43 (ci_X8_passTimers_921 l (σ := (ap b σ [(0, 8, 47), (0, 8, 46), (0, 8, 45), (0, 8, 44), (0, 8, 43), (0, 8, 42), (0, 8, 41), (0, 8, 40), (0, 8, 39), (0, 8, 38), (0, 8, 37), (0, 8, 36), (0, 8, 35), (0, 8, 34), (0, 8, 33), (0, 8, 32), (0, 8, 31), (0, 8, 30), (0, 8, 29), (0, 8, 28), (0, 8, 27), (0, 8, 26), (0, 8, 25), (0, 8, 24), (0, 8, 23), (0, 8, 22), (0, 8, 21), (0, 8, 20), (0, 8, 19), (0, 8, 18), (0, 8, 17), (0, 8, 16), (0, 8, 15), (0, 8, 14), (0, 8, 13), (0, 8, 12), (0, 8, 11), (0, 8, 10), (0, 8, 9), (0, 8, 8), (0, 8, 7), (0, 8, 6), (0, 8, 5), (0, 8, 4), (0, 8, 3), (0, 8, 2), (0, 8, 1)] [] [])) (b := b) (lyA hK) (rI_at 0 7 hI_0_7)) (lKA (hk_K hK 0 rfl rfl)) rfl (by decide) rfl (Nat.le_of_ble_eq_true rfl) (by decide) (fun u hu => ?_)
  refine z_eqs (σ' := (ap b σ [(0, 8, 47), (0, 8, 46), (0, 8, 45), (0, 8, 44), (0, 8, 43), (0, 8, 42), (0, 8, 41), (0, 8, 40), (0, 8, 39), (0, 8, 38), (0, 8, 37), (0, 8, 36), (0, 8, 35), (0, 8, 34), (0, 8, 33), (0, 8, 32), (0, 8, 31), (0, 8, 30), (0, 8, 29), (0, 8, 28), (0, 8, 27), (0, 8, 26), (0, 8, 25), (0, 8, 24), (0, 8, 23), (0, 8, 22), (0, 8, 21), (0, 8, 20), (0, 8, 19), (0, 8, 18), (0, 8, 17), (0, 8, 16), (0, 8, 15), (0, 8, 14), (0, 8, 13), (0, 8, 12), (0, 8, 11), (0, 8, 10), (0, 8, 9), (0, 8, 8), (0, 8, 7), (0, 8, 6), (0, 8, 5), (0, 8, 4), (0, 8, 3), (0, 8, 2), (0, 8, 1)] [] [])) hu ?_
  show zx p l e _ s m _ below meth c g 3 0 0 _ _ 46 [(2, .int 46), (0, .ref (b + 0)), (1, .int 50)] _
  refine z_iinc (v := 47) (lv' := [(2, .int 47), (0, .ref (b + 0)), (1, .int 50)]) B dX8_tick_46 0 rfl (by decide) (by decide) rfl ?_
  refine z_goto (tgt := 23) B dX8_tick_49 (by decide) ?_
  refine z_iload_n B dX8_tick_23 rfl 0 rfl ?_
  refine z_iload_n B dX8_tick_24 rfl 2 rfl ?_
  refine z_icmp_ge (tgt := 52) B dX8_tick_25 (by decide) (fun h => absurd h (by decide)) (fun _ => ?_)
  refine z_aload_n B dX8_tick_28 rfl 1 rfl ?_
  refine z_dup B dX8_tick_29 rfl ?_
  refine gf_X8_206 (x := 47) B (lKA (hk_K hK 0 rfl rfl)) (rI_at 0 8 rfl) dX8_tick_30 ?_
  refine z_iconst (v := 1) B dX8_tick_33 (by decide) ?_
  refine z_iadd B dX8_tick_34 ?_
  refine z_seti (y := 48) (by decide) ?_
  refine pf_X8_206 (x := 48) (σ' := (ap b σ [(0, 8, 48), (0, 8, 47), (0, 8, 46), (0, 8, 45), (0, 8, 44), (0, 8, 43), (0, 8, 42), (0, 8, 41), (0, 8, 40), (0, 8, 39), (0, 8, 38), (0, 8, 37), (0, 8, 36), (0, 8, 35), (0, 8, 34), (0, 8, 33), (0, 8, 32), (0, 8, 31), (0, 8, 30), (0, 8, 29), (0, 8, 28), (0, 8, 27), (0, 8, 26), (0, 8, 25), (0, 8, 24), (0, 8, 23), (0, 8, 22), (0, 8, 21), (0, 8, 20), (0, 8, 19), (0, 8, 18), (0, 8, 17), (0, 8, 16), (0, 8, 15), (0, 8, 14), (0, 8, 13), (0, 8, 12), (0, 8, 11), (0, 8, 10), (0, 8, 9), (0, 8, 8), (0, 8, 7), (0, 8, 6), (0, 8, 5), (0, 8, 4), (0, 8, 3), (0, 8, 2), (0, 8, 1)] [] [])) B (lKA (hk_K hK 0 rfl rfl)) wI_ap dX8_tick_35 ?_
  refine z_aload_n B dX8_tick_38 rfl 1 rfl ?_
  refine z_cVv (As := []) (rest := []) B cw_X8_240 cx_9 dX8_tick_39 (ci_X8_passTasks_920 l (σ := (ap b σ [(0, 8, 48), (0, 8, 47), (0, 8, 46), (0, 8, 45), (0, 8, 44), (0, 8, 43), (0, 8, 42), (0, 8, 41), (0, 8, 40), (0, 8, 39), (0, 8, 38), (0, 8, 37), (0, 8, 36), (0, 8, 35), (0, 8, 34), (0, 8, 33), (0, 8, 32), (0, 8, 31), (0, 8, 30), (0, 8, 29), (0, 8, 28), (0, 8, 27), (0, 8, 26), (0, 8, 25), (0, 8, 24), (0, 8, 23), (0, 8, 22), (0, 8, 21), (0, 8, 20), (0, 8, 19), (0, 8, 18), (0, 8, 17), (0, 8, 16), (0, 8, 15), (0, 8, 14), (0, 8, 13), (0, 8, 12), (0, 8, 11), (0, 8, 10), (0, 8, 9), (0, 8, 8), (0, 8, 7), (0, 8, 6), (0, 8, 5), (0, 8, 4), (0, 8, 3), (0, 8, 2), (0, 8, 1)] [] [])) (b := b) (lyA hK) (rI_at 4 2 hI_4_2) (rR_at 0 3 hR_0_3)) (lKA (hk_K hK 0 rfl rfl)) rfl (by decide) rfl (Nat.le_of_ble_eq_true rfl) (by decide) (fun u hu => ?_)
  refine z_eqs (σ' := (ap b σ [(0, 8, 48), (0, 8, 47), (0, 8, 46), (0, 8, 45), (0, 8, 44), (0, 8, 43), (0, 8, 42), (0, 8, 41), (0, 8, 40), (0, 8, 39), (0, 8, 38), (0, 8, 37), (0, 8, 36), (0, 8, 35), (0, 8, 34), (0, 8, 33), (0, 8, 32), (0, 8, 31), (0, 8, 30), (0, 8, 29), (0, 8, 28), (0, 8, 27), (0, 8, 26), (0, 8, 25), (0, 8, 24), (0, 8, 23), (0, 8, 22), (0, 8, 21), (0, 8, 20), (0, 8, 19), (0, 8, 18), (0, 8, 17), (0, 8, 16), (0, 8, 15), (0, 8, 14), (0, 8, 13), (0, 8, 12), (0, 8, 11), (0, 8, 10), (0, 8, 9), (0, 8, 8), (0, 8, 7), (0, 8, 6), (0, 8, 5), (0, 8, 4), (0, 8, 3), (0, 8, 2), (0, 8, 1)] [] [])) hu ?_
  show zx p l e _ s m _ below meth c g 3 0 0 _ _ 42 [(2, .int 47), (0, .ref (b + 0)), (1, .int 50)] _
  refine z_aload_n B dX8_tick_42 rfl 1 rfl ?_
  refine z_cVv (As := []) (rest := []) B cw_X8_243 cx_9 dX8_tick_43 (ci_X8_passTimers_921 l (σ := (ap b σ [(0, 8, 48), (0, 8, 47), (0, 8, 46), (0, 8, 45), (0, 8, 44), (0, 8, 43), (0, 8, 42), (0, 8, 41), (0, 8, 40), (0, 8, 39), (0, 8, 38), (0, 8, 37), (0, 8, 36), (0, 8, 35), (0, 8, 34), (0, 8, 33), (0, 8, 32), (0, 8, 31), (0, 8, 30), (0, 8, 29), (0, 8, 28), (0, 8, 27), (0, 8, 26), (0, 8, 25), (0, 8, 24), (0, 8, 23), (0, 8, 22), (0, 8, 21), (0, 8, 20), (0, 8, 19), (0, 8, 18), (0, 8, 17), (0, 8, 16), (0, 8, 15), (0, 8, 14), (0, 8, 13), (0, 8, 12), (0, 8, 11), (0, 8, 10), (0, 8, 9), (0, 8, 8), (0, 8, 7), (0, 8, 6), (0, 8, 5), (0, 8, 4), (0, 8, 3), (0, 8, 2), (0, 8, 1)] [] [])) (b := b) (lyA hK) (rI_at 0 7 hI_0_7)) (lKA (hk_K hK 0 rfl rfl)) rfl (by decide) rfl (Nat.le_of_ble_eq_true rfl) (by decide) (fun u hu => ?_)
  refine z_eqs (σ' := (ap b σ [(0, 8, 48), (0, 8, 47), (0, 8, 46), (0, 8, 45), (0, 8, 44), (0, 8, 43), (0, 8, 42), (0, 8, 41), (0, 8, 40), (0, 8, 39), (0, 8, 38), (0, 8, 37), (0, 8, 36), (0, 8, 35), (0, 8, 34), (0, 8, 33), (0, 8, 32), (0, 8, 31), (0, 8, 30), (0, 8, 29), (0, 8, 28), (0, 8, 27), (0, 8, 26), (0, 8, 25), (0, 8, 24), (0, 8, 23), (0, 8, 22), (0, 8, 21), (0, 8, 20), (0, 8, 19), (0, 8, 18), (0, 8, 17), (0, 8, 16), (0, 8, 15), (0, 8, 14), (0, 8, 13), (0, 8, 12), (0, 8, 11), (0, 8, 10), (0, 8, 9), (0, 8, 8), (0, 8, 7), (0, 8, 6), (0, 8, 5), (0, 8, 4), (0, 8, 3), (0, 8, 2), (0, 8, 1)] [] [])) hu ?_
  show zx p l e _ s m _ below meth c g 3 0 0 _ _ 46 [(2, .int 47), (0, .ref (b + 0)), (1, .int 50)] _
  refine z_iinc (v := 48) (lv' := [(2, .int 48), (0, .ref (b + 0)), (1, .int 50)]) B dX8_tick_46 0 rfl (by decide) (by decide) rfl ?_
  refine z_goto (tgt := 23) B dX8_tick_49 (by decide) ?_
  refine z_iload_n B dX8_tick_23 rfl 0 rfl ?_
  refine z_iload_n B dX8_tick_24 rfl 2 rfl ?_
  refine z_icmp_ge (tgt := 52) B dX8_tick_25 (by decide) (fun h => absurd h (by decide)) (fun _ => ?_)
  refine z_aload_n B dX8_tick_28 rfl 1 rfl ?_
  refine z_dup B dX8_tick_29 rfl ?_
  refine gf_X8_206 (x := 48) B (lKA (hk_K hK 0 rfl rfl)) (rI_at 0 8 rfl) dX8_tick_30 ?_
  refine z_iconst (v := 1) B dX8_tick_33 (by decide) ?_
  refine z_iadd B dX8_tick_34 ?_
  refine z_seti (y := 49) (by decide) ?_
  refine pf_X8_206 (x := 49) (σ' := (ap b σ [(0, 8, 49), (0, 8, 48), (0, 8, 47), (0, 8, 46), (0, 8, 45), (0, 8, 44), (0, 8, 43), (0, 8, 42), (0, 8, 41), (0, 8, 40), (0, 8, 39), (0, 8, 38), (0, 8, 37), (0, 8, 36), (0, 8, 35), (0, 8, 34), (0, 8, 33), (0, 8, 32), (0, 8, 31), (0, 8, 30), (0, 8, 29), (0, 8, 28), (0, 8, 27), (0, 8, 26), (0, 8, 25), (0, 8, 24), (0, 8, 23), (0, 8, 22), (0, 8, 21), (0, 8, 20), (0, 8, 19), (0, 8, 18), (0, 8, 17), (0, 8, 16), (0, 8, 15), (0, 8, 14), (0, 8, 13), (0, 8, 12), (0, 8, 11), (0, 8, 10), (0, 8, 9), (0, 8, 8), (0, 8, 7), (0, 8, 6), (0, 8, 5), (0, 8, 4), (0, 8, 3), (0, 8, 2), (0, 8, 1)] [] [])) B (lKA (hk_K hK 0 rfl rfl)) wI_ap dX8_tick_35 ?_
  refine z_aload_n B dX8_tick_38 rfl 1 rfl ?_
  refine z_cVv (As := []) (rest := []) B cw_X8_240 cx_9 dX8_tick_39 (ci_X8_passTasks_920 l (σ := (ap b σ [(0, 8, 49), (0, 8, 48), (0, 8, 47), (0, 8, 46), (0, 8, 45), (0, 8, 44), (0, 8, 43), (0, 8, 42), (0, 8, 41), (0, 8, 40), (0, 8, 39), (0, 8, 38), (0, 8, 37), (0, 8, 36), (0, 8, 35), (0, 8, 34), (0, 8, 33), (0, 8, 32), (0, 8, 31), (0, 8, 30), (0, 8, 29), (0, 8, 28), (0, 8, 27), (0, 8, 26), (0, 8, 25), (0, 8, 24), (0, 8, 23), (0, 8, 22), (0, 8, 21), (0, 8, 20), (0, 8, 19), (0, 8, 18), (0, 8, 17), (0, 8, 16), (0, 8, 15), (0, 8, 14), (0, 8, 13), (0, 8, 12), (0, 8, 11), (0, 8, 10), (0, 8, 9), (0, 8, 8), (0, 8, 7), (0, 8, 6), (0, 8, 5), (0, 8, 4), (0, 8, 3), (0, 8, 2), (0, 8, 1)] [] [])) (b := b) (lyA hK) (rI_at 4 2 hI_4_2) (rR_at 0 3 hR_0_3)) (lKA (hk_K hK 0 rfl rfl)) rfl (by decide) rfl (Nat.le_of_ble_eq_true rfl) (by decide) (fun u hu => ?_)
  refine z_eqs (σ' := (ap b σ [(0, 8, 49), (0, 8, 48), (0, 8, 47), (0, 8, 46), (0, 8, 45), (0, 8, 44), (0, 8, 43), (0, 8, 42), (0, 8, 41), (0, 8, 40), (0, 8, 39), (0, 8, 38), (0, 8, 37), (0, 8, 36), (0, 8, 35), (0, 8, 34), (0, 8, 33), (0, 8, 32), (0, 8, 31), (0, 8, 30), (0, 8, 29), (0, 8, 28), (0, 8, 27), (0, 8, 26), (0, 8, 25), (0, 8, 24), (0, 8, 23), (0, 8, 22), (0, 8, 21), (0, 8, 20), (0, 8, 19), (0, 8, 18), (0, 8, 17), (0, 8, 16), (0, 8, 15), (0, 8, 14), (0, 8, 13), (0, 8, 12), (0, 8, 11), (0, 8, 10), (0, 8, 9), (0, 8, 8), (0, 8, 7), (0, 8, 6), (0, 8, 5), (0, 8, 4), (0, 8, 3), (0, 8, 2), (0, 8, 1)] [] [])) hu ?_
  show zx p l e _ s m _ below meth c g 3 0 0 _ _ 42 [(2, .int 48), (0, .ref (b + 0)), (1, .int 50)] _
  refine z_aload_n B dX8_tick_42 rfl 1 rfl ?_
  refine z_cVv (As := []) (rest := []) B cw_X8_243 cx_9 dX8_tick_43 (ci_X8_passTimers_921 l (σ := (ap b σ [(0, 8, 49), (0, 8, 48), (0, 8, 47), (0, 8, 46), (0, 8, 45), (0, 8, 44), (0, 8, 43), (0, 8, 42), (0, 8, 41), (0, 8, 40), (0, 8, 39), (0, 8, 38), (0, 8, 37), (0, 8, 36), (0, 8, 35), (0, 8, 34), (0, 8, 33), (0, 8, 32), (0, 8, 31), (0, 8, 30), (0, 8, 29), (0, 8, 28), (0, 8, 27), (0, 8, 26), (0, 8, 25), (0, 8, 24), (0, 8, 23), (0, 8, 22), (0, 8, 21), (0, 8, 20), (0, 8, 19), (0, 8, 18), (0, 8, 17), (0, 8, 16), (0, 8, 15), (0, 8, 14), (0, 8, 13), (0, 8, 12), (0, 8, 11), (0, 8, 10), (0, 8, 9), (0, 8, 8), (0, 8, 7), (0, 8, 6), (0, 8, 5), (0, 8, 4), (0, 8, 3), (0, 8, 2), (0, 8, 1)] [] [])) (b := b) (lyA hK) (rI_at 0 7 hI_0_7)) (lKA (hk_K hK 0 rfl rfl)) rfl (by decide) rfl (Nat.le_of_ble_eq_true rfl) (by decide) (fun u hu => ?_)
  refine z_eqs (σ' := (ap b σ [(0, 8, 49), (0, 8, 48), (0, 8, 47), (0, 8, 46), (0, 8, 45), (0, 8, 44), (0, 8, 43), (0, 8, 42), (0, 8, 41), (0, 8, 40), (0, 8, 39), (0, 8, 38), (0, 8, 37), (0, 8, 36), (0, 8, 35), (0, 8, 34), (0, 8, 33), (0, 8, 32), (0, 8, 31), (0, 8, 30), (0, 8, 29), (0, 8, 28), (0, 8, 27), (0, 8, 26), (0, 8, 25), (0, 8, 24), (0, 8, 23), (0, 8, 22), (0, 8, 21), (0, 8, 20), (0, 8, 19), (0, 8, 18), (0, 8, 17), (0, 8, 16), (0, 8, 15), (0, 8, 14), (0, 8, 13), (0, 8, 12), (0, 8, 11), (0, 8, 10), (0, 8, 9), (0, 8, 8), (0, 8, 7), (0, 8, 6), (0, 8, 5), (0, 8, 4), (0, 8, 3), (0, 8, 2), (0, 8, 1)] [] [])) hu ?_
  show zx p l e _ s m _ below meth c g 3 0 0 _ _ 46 [(2, .int 48), (0, .ref (b + 0)), (1, .int 50)] _
  refine z_iinc (v := 49) (lv' := [(2, .int 49), (0, .ref (b + 0)), (1, .int 50)]) B dX8_tick_46 0 rfl (by decide) (by decide) rfl ?_
  refine z_goto (tgt := 23) B dX8_tick_49 (by decide) ?_
  refine z_iload_n B dX8_tick_23 rfl 0 rfl ?_
  refine z_iload_n B dX8_tick_24 rfl 2 rfl ?_
  refine z_icmp_ge (tgt := 52) B dX8_tick_25 (by decide) (fun h => absurd h (by decide)) (fun _ => ?_)
  refine z_aload_n B dX8_tick_28 rfl 1 rfl ?_
  refine z_dup B dX8_tick_29 rfl ?_
  refine gf_X8_206 (x := 49) B (lKA (hk_K hK 0 rfl rfl)) (rI_at 0 8 rfl) dX8_tick_30 ?_
  refine z_iconst (v := 1) B dX8_tick_33 (by decide) ?_
  refine z_iadd B dX8_tick_34 ?_
  refine z_seti (y := 50) (by decide) ?_
  refine pf_X8_206 (x := 50) (σ' := (ap b σ [(0, 8, 50), (0, 8, 49), (0, 8, 48), (0, 8, 47), (0, 8, 46), (0, 8, 45), (0, 8, 44), (0, 8, 43), (0, 8, 42), (0, 8, 41), (0, 8, 40), (0, 8, 39), (0, 8, 38), (0, 8, 37), (0, 8, 36), (0, 8, 35), (0, 8, 34), (0, 8, 33), (0, 8, 32), (0, 8, 31), (0, 8, 30), (0, 8, 29), (0, 8, 28), (0, 8, 27), (0, 8, 26), (0, 8, 25), (0, 8, 24), (0, 8, 23), (0, 8, 22), (0, 8, 21), (0, 8, 20), (0, 8, 19), (0, 8, 18), (0, 8, 17), (0, 8, 16), (0, 8, 15), (0, 8, 14), (0, 8, 13), (0, 8, 12), (0, 8, 11), (0, 8, 10), (0, 8, 9), (0, 8, 8), (0, 8, 7), (0, 8, 6), (0, 8, 5), (0, 8, 4), (0, 8, 3), (0, 8, 2), (0, 8, 1)] [] [])) B (lKA (hk_K hK 0 rfl rfl)) wI_ap dX8_tick_35 ?_
  refine z_aload_n B dX8_tick_38 rfl 1 rfl ?_
  refine z_cVv (As := []) (rest := []) B cw_X8_240 cx_9 dX8_tick_39 (ci_X8_passTasks_920 l (σ := (ap b σ [(0, 8, 50), (0, 8, 49), (0, 8, 48), (0, 8, 47), (0, 8, 46), (0, 8, 45), (0, 8, 44), (0, 8, 43), (0, 8, 42), (0, 8, 41), (0, 8, 40), (0, 8, 39), (0, 8, 38), (0, 8, 37), (0, 8, 36), (0, 8, 35), (0, 8, 34), (0, 8, 33), (0, 8, 32), (0, 8, 31), (0, 8, 30), (0, 8, 29), (0, 8, 28), (0, 8, 27), (0, 8, 26), (0, 8, 25), (0, 8, 24), (0, 8, 23), (0, 8, 22), (0, 8, 21), (0, 8, 20), (0, 8, 19), (0, 8, 18), (0, 8, 17), (0, 8, 16), (0, 8, 15), (0, 8, 14), (0, 8, 13), (0, 8, 12), (0, 8, 11), (0, 8, 10), (0, 8, 9), (0, 8, 8), (0, 8, 7), (0, 8, 6), (0, 8, 5), (0, 8, 4), (0, 8, 3), (0, 8, 2), (0, 8, 1)] [] [])) (b := b) (lyA hK) (rI_at 4 2 hI_4_2) (rR_at 0 3 hR_0_3)) (lKA (hk_K hK 0 rfl rfl)) rfl (by decide) rfl (Nat.le_of_ble_eq_true rfl) (by decide) (fun u hu => ?_)
  refine z_eqs (σ' := (ap b σ [(0, 8, 50), (0, 8, 49), (0, 8, 48), (0, 8, 47), (0, 8, 46), (0, 8, 45), (0, 8, 44), (0, 8, 43), (0, 8, 42), (0, 8, 41), (0, 8, 40), (0, 8, 39), (0, 8, 38), (0, 8, 37), (0, 8, 36), (0, 8, 35), (0, 8, 34), (0, 8, 33), (0, 8, 32), (0, 8, 31), (0, 8, 30), (0, 8, 29), (0, 8, 28), (0, 8, 27), (0, 8, 26), (0, 8, 25), (0, 8, 24), (0, 8, 23), (0, 8, 22), (0, 8, 21), (0, 8, 20), (0, 8, 19), (0, 8, 18), (0, 8, 17), (0, 8, 16), (0, 8, 15), (0, 8, 14), (0, 8, 13), (0, 8, 12), (0, 8, 11), (0, 8, 10), (0, 8, 9), (0, 8, 8), (0, 8, 7), (0, 8, 6), (0, 8, 5), (0, 8, 4), (0, 8, 3), (0, 8, 2), (0, 8, 1)] [] [])) hu ?_
  show zx p l e _ s m _ below meth c g 3 0 0 _ _ 42 [(2, .int 49), (0, .ref (b + 0)), (1, .int 50)] _
  refine z_aload_n B dX8_tick_42 rfl 1 rfl ?_
  refine z_cVv (As := []) (rest := []) B cw_X8_243 cx_9 dX8_tick_43 (ci_X8_passTimers_921 l (σ := (ap b σ [(0, 8, 50), (0, 8, 49), (0, 8, 48), (0, 8, 47), (0, 8, 46), (0, 8, 45), (0, 8, 44), (0, 8, 43), (0, 8, 42), (0, 8, 41), (0, 8, 40), (0, 8, 39), (0, 8, 38), (0, 8, 37), (0, 8, 36), (0, 8, 35), (0, 8, 34), (0, 8, 33), (0, 8, 32), (0, 8, 31), (0, 8, 30), (0, 8, 29), (0, 8, 28), (0, 8, 27), (0, 8, 26), (0, 8, 25), (0, 8, 24), (0, 8, 23), (0, 8, 22), (0, 8, 21), (0, 8, 20), (0, 8, 19), (0, 8, 18), (0, 8, 17), (0, 8, 16), (0, 8, 15), (0, 8, 14), (0, 8, 13), (0, 8, 12), (0, 8, 11), (0, 8, 10), (0, 8, 9), (0, 8, 8), (0, 8, 7), (0, 8, 6), (0, 8, 5), (0, 8, 4), (0, 8, 3), (0, 8, 2), (0, 8, 1)] [] [])) (b := b) (lyA hK) (rI_at 0 7 hI_0_7)) (lKA (hk_K hK 0 rfl rfl)) rfl (by decide) rfl (Nat.le_of_ble_eq_true rfl) (by decide) (fun u hu => ?_)
  refine z_eqs (σ' := (ap b σ [(0, 8, 50), (0, 8, 49), (0, 8, 48), (0, 8, 47), (0, 8, 46), (0, 8, 45), (0, 8, 44), (0, 8, 43), (0, 8, 42), (0, 8, 41), (0, 8, 40), (0, 8, 39), (0, 8, 38), (0, 8, 37), (0, 8, 36), (0, 8, 35), (0, 8, 34), (0, 8, 33), (0, 8, 32), (0, 8, 31), (0, 8, 30), (0, 8, 29), (0, 8, 28), (0, 8, 27), (0, 8, 26), (0, 8, 25), (0, 8, 24), (0, 8, 23), (0, 8, 22), (0, 8, 21), (0, 8, 20), (0, 8, 19), (0, 8, 18), (0, 8, 17), (0, 8, 16), (0, 8, 15), (0, 8, 14), (0, 8, 13), (0, 8, 12), (0, 8, 11), (0, 8, 10), (0, 8, 9), (0, 8, 8), (0, 8, 7), (0, 8, 6), (0, 8, 5), (0, 8, 4), (0, 8, 3), (0, 8, 2), (0, 8, 1)] [] [])) hu ?_
  show zx p l e _ s m _ below meth c g 3 0 0 _ _ 46 [(2, .int 49), (0, .ref (b + 0)), (1, .int 50)] _
  refine z_iinc (v := 50) (lv' := [(2, .int 50), (0, .ref (b + 0)), (1, .int 50)]) B dX8_tick_46 0 rfl (by decide) (by decide) rfl ?_
  refine z_goto (tgt := 23) B dX8_tick_49 (by decide) ?_
  refine z_iload_n B dX8_tick_23 rfl 0 rfl ?_
  refine z_iload_n B dX8_tick_24 rfl 2 rfl ?_
  refine z_icmp_ge (tgt := 52) B dX8_tick_25 (by decide) (fun _ => ?_) (fun h => absurd (by decide) h)
  refine z_aload_n B dX8_tick_52 rfl 1 rfl ?_
  refine gf_X8_206 (x := 50) B (lKA (hk_K hK 0 rfl rfl)) (rI_at 0 8 rfl) dX8_tick_53 ?_
  exact z_iret B hr (by decide) (by decide) dX8_tick_56 ⟨rfl, rfl⟩
set_option maxRecDepth 100000 in
set_option maxHeartbeats 4000000 in
theorem ci_L_tick_1168 (l : Launch) {g : gx_T} {σ : sx_T} {b : Nat} (hK : lay b σ)   (hI_0_7 : sx_I σ (b + 0) 7 = 0) (hI_0_8 : sx_I σ (b + 0) 8 = 0) (hI_4_2 : sx_I σ (b + 4) 2 = 0) (hR_0_3 : sx_R σ (b + 0) 3 = (some (b + 4))) : Met l yL_tick (.codeWith yL_tick cL_tick 4 (some .int) [(0, 9, 12, 15)] :: lw_g) { frames := 3, cells := 0, slots := 0, locals := 64 } (va_Pc [.ref (b + 0), .int 50, .ref (b + 431)] (zx_w g σ)) (va_Qi (fun r u => r = 0 ∧ u = (ap b σ [(0, 8, 50), (0, 8, 49), (0, 8, 48), (0, 8, 47), (0, 8, 46), (0, 8, 45), (0, 8, 44), (0, 8, 43), (0, 8, 42), (0, 8, 41), (0, 8, 40), (0, 8, 39), (0, 8, 38), (0, 8, 37), (0, 8, 36), (0, 8, 35), (0, 8, 34), (0, 8, 33), (0, 8, 32), (0, 8, 31), (0, 8, 30), (0, 8, 29), (0, 8, 28), (0, 8, 27), (0, 8, 26), (0, 8, 25), (0, 8, 24), (0, 8, 23), (0, 8, 22), (0, 8, 21), (0, 8, 20), (0, 8, 19), (0, 8, 18), (0, 8, 17), (0, 8, 16), (0, 8, 15), (0, 8, 14), (0, 8, 13), (0, 8, 12), (0, 8, 11), (0, 8, 10), (0, 8, 9), (0, 8, 8), (0, 8, 7), (0, 8, 6), (0, 8, 5), (0, 8, 4), (0, 8, 3), (0, 8, 2), (0, 8, 1)] [(431, 0, 50)] [])) (zx_w g) (gx_Q g)) 0 0 (gx_Q g) := by
  refine z_metW (by decide) (Nat.le_of_ble_eq_true rfl) (fun p e s m below meth c B hr htab => ?_)
  refine z_eqs (σ' := (ap b σ [] [] [])) rfl ?_
  show zx p l e _ s m _ below meth c g 4 0 0 _ _ 0 [(0, .ref (b + 0)), (1, .int 50), (2, .ref (b + 431))] []
  refine z_aload_n B dL_tick_0 rfl 2 rfl ?_
  refine z_iconst (v := 0) B dL_tick_1 (by decide) ?_
  refine z_aload_n B dL_tick_2 rfl 0 rfl ?_
  refine z_iload_n B dL_tick_3 rfl 1 rfl ?_
  refine z_cVi (As := [.int 50]) (rest := [.int 0, .ref (b + 431)]) B cw_L_41 cx_9 dL_tick_4 (ci_X8_tick_1167 l (σ := (ap b σ [] [] [])) (b := b) (lyA hK) (rI_at 0 7 hI_0_7) (rI_at 0 8 hI_0_8) (rI_at 4 2 hI_4_2) (rR_at 0 3 hR_0_3)) (lKA (hk_K hK 0 rfl rfl)) rfl (by decide) rfl (Nat.le_of_ble_eq_true rfl) (by decide) (fun r u hu => ?_)
  refine z_eqs (σ' := (ap b σ [(0, 8, 50), (0, 8, 49), (0, 8, 48), (0, 8, 47), (0, 8, 46), (0, 8, 45), (0, 8, 44), (0, 8, 43), (0, 8, 42), (0, 8, 41), (0, 8, 40), (0, 8, 39), (0, 8, 38), (0, 8, 37), (0, 8, 36), (0, 8, 35), (0, 8, 34), (0, 8, 33), (0, 8, 32), (0, 8, 31), (0, 8, 30), (0, 8, 29), (0, 8, 28), (0, 8, 27), (0, 8, 26), (0, 8, 25), (0, 8, 24), (0, 8, 23), (0, 8, 22), (0, 8, 21), (0, 8, 20), (0, 8, 19), (0, 8, 18), (0, 8, 17), (0, 8, 16), (0, 8, 15), (0, 8, 14), (0, 8, 13), (0, 8, 12), (0, 8, 11), (0, 8, 10), (0, 8, 9), (0, 8, 8), (0, 8, 7), (0, 8, 6), (0, 8, 5), (0, 8, 4), (0, 8, 3), (0, 8, 2), (0, 8, 1)] [] [])) (hu.2.trans ap_ap) ?_
  show zx p l e _ s m _ below meth c g 4 0 0 _ _ 7 [(0, .ref (b + 0)), (1, .int 50), (2, .ref (b + 431))] _
  refine z_seti (y := 50) hu.1 ?_
  refine z_i2l (v := 50) B dL_tick_7 (by decide) ?_
  refine z_last (j := 0) (σ' := (ap b σ [(0, 8, 50), (0, 8, 49), (0, 8, 48), (0, 8, 47), (0, 8, 46), (0, 8, 45), (0, 8, 44), (0, 8, 43), (0, 8, 42), (0, 8, 41), (0, 8, 40), (0, 8, 39), (0, 8, 38), (0, 8, 37), (0, 8, 36), (0, 8, 35), (0, 8, 34), (0, 8, 33), (0, 8, 32), (0, 8, 31), (0, 8, 30), (0, 8, 29), (0, 8, 28), (0, 8, 27), (0, 8, 26), (0, 8, 25), (0, 8, 24), (0, 8, 23), (0, 8, 22), (0, 8, 21), (0, 8, 20), (0, 8, 19), (0, 8, 18), (0, 8, 17), (0, 8, 16), (0, 8, 15), (0, 8, 14), (0, 8, 13), (0, 8, 12), (0, 8, 11), (0, 8, 10), (0, 8, 9), (0, 8, 8), (0, 8, 7), (0, 8, 6), (0, 8, 5), (0, 8, 4), (0, 8, 3), (0, 8, 2), (0, 8, 1)] [(431, 0, 50)] [])) B (lKA (hk_K hK 431 rfl rfl)) (by decide) (in_of (lNA (hk_N hK 431 rfl rfl)) (show ¬ ((0 : Int32) < 0 ∨ 1 ≤ (0 : Int32).toNatClampNeg) by decide)) wJ_ap dL_tick_8 ?_
  refine z_goto (tgt := 15) B dL_tick_9 (by decide) ?_
  refine z_iconst (v := 0) B dL_tick_15 (by decide) ?_
  exact z_iret B hr (by decide) (by decide) dL_tick_16 ⟨rfl, rfl⟩
set_option maxRecDepth 100000 in
set_option maxHeartbeats 4000000 in
theorem ci_X9_in_1169 (l : Launch) {g : gx_T} {σ : sx_T} {b : Nat} (hK : lay b σ)    : Met l yX9_in (.code yX9_in cX9_in 3 (some .boolean) :: lw_g) { frames := 0, cells := 0, slots := 0, locals := 0 } (va_Pc [.int 50, .int 1, .int 50] (zx_w g σ)) (va_Qi (fun r u => r = 1 ∧ u = σ) (zx_w g) (gx_Q g)) 0 0 (gx_Q g) := by
  refine z_met (by decide) (Nat.le_of_ble_eq_true rfl) (fun p e s m below meth c B hr hin => ?_)
  refine z_eqs (σ' := (ap b σ [] [] [])) rfl ?_
  show zx p l e _ s m _ below meth c g 3 0 0 _ _ 0 [(0, .int 50), (1, .int 1), (2, .int 50)] []
  refine z_iload_n B dX9_in_0 rfl 0 rfl ?_
  refine z_iload_n B dX9_in_1 rfl 1 rfl ?_
  refine z_icmp_lt (tgt := 14) B dX9_in_2 (by decide) (fun h => absurd h (by decide)) (fun _ => ?_)
  refine z_iload_n B dX9_in_5 rfl 0 rfl ?_
  refine z_iload_n B dX9_in_6 rfl 2 rfl ?_
  refine z_icmp_gt (tgt := 14) B dX9_in_7 (by decide) (fun h => absurd h (by decide)) (fun _ => ?_)
  refine z_iconst (v := 1) B dX9_in_10 (by decide) ?_
  refine z_goto (tgt := 15) B dX9_in_11 (by decide) ?_
  exact z_zret B hr (by decide) (by decide) (by decide) dX9_in_15 ⟨rfl, rfl⟩
set_option maxRecDepth 100000 in
set_option maxHeartbeats 4000000 in
theorem ci_X9_ticks_1170 (l : Launch) {g : gx_T} {σ : sx_T} {b : Nat} (hK : lay b σ)   (hI_405_1 : sx_I σ (b + 405) 1 = 49) (hI_405_6 : sx_I σ (b + 405) 6 = 0) (hI_405_16 : sx_I σ (b + 405) 16 = 0) : Met l yX9_ticks (.code yX9_ticks cX9_ticks 2 none :: lw_g) { frames := 0, cells := 0, slots := 0, locals := 0 } (va_Pc [.ref (b + 405)] (zx_w g σ)) (va_Qv (fun u => u = (ap b σ [(405, 1, 50)] [] [])) (zx_w g) (gx_Q g)) 0 0 (gx_Q g) := by
  refine z_met (by decide) (Nat.le_of_ble_eq_true rfl) (fun p e s m below meth c B hr hin => ?_)
  refine z_eqs (σ' := (ap b σ [] [] [])) rfl ?_
  show zx p l e _ s m _ below meth c g 2 0 0 _ _ 0 [(0, .ref (b + 405))] []
  refine z_aload_n B dX9_ticks_0 rfl 0 rfl ?_
  refine z_dup B dX9_ticks_1 rfl ?_
  refine gf_X9_197 (x := 49) B (lKA (hk_K hK 405 rfl rfl)) (rI_at 405 1 hI_405_1) dX9_ticks_2 ?_
  refine z_iconst (v := 1) B dX9_ticks_5 (by decide) ?_
  refine z_iadd B dX9_ticks_6 ?_
  refine z_seti (y := 50) (by decide) ?_
  refine pf_X9_197 (x := 50) (σ' := (ap b σ [(405, 1, 50)] [] [])) B (lKA (hk_K hK 405 rfl rfl)) wI_ap dX9_ticks_7 ?_
  refine z_iconst (v := 0) B dX9_ticks_10 (by decide) ?_
  refine z_istore_n (lv' := [(1, .int 0), (0, .ref (b + 405))]) B dX9_ticks_11 rfl (by decide) rfl ?_
  refine z_iload_n B dX9_ticks_12 rfl 0 rfl ?_
  refine z_aload_n B dX9_ticks_13 rfl 1 rfl ?_
  refine gf_X9_100 (x := 0) B (lKA (hk_K hK 405 rfl rfl)) (rI_at 405 16 hI_405_16) dX9_ticks_14 ?_
  refine z_icmp_ge (tgt := 104) B dX9_ticks_17 (by decide) (fun _ => ?_) (fun h => absurd (by decide) h)
  refine z_iconst (v := 0) B dX9_ticks_104 (by decide) ?_
  refine z_istore_n (lv' := [(1, .int 0), (0, .ref (b + 405))]) B dX9_ticks_105 rfl (by decide) rfl ?_
  refine z_iload_n B dX9_ticks_106 rfl 0 rfl ?_
  refine z_aload_n B dX9_ticks_107 rfl 1 rfl ?_
  refine gf_X9_93 (x := 0) B (lKA (hk_K hK 405 rfl rfl)) (rI_at 405 6 hI_405_6) dX9_ticks_108 ?_
  refine z_icmp_ge (tgt := 176) B dX9_ticks_111 (by decide) (fun _ => ?_) (fun h => absurd (by decide) h)
  exact z_vret B hr (by decide) (by decide) dX9_ticks_176 rfl
set_option maxRecDepth 100000 in
set_option maxHeartbeats 4000000 in
theorem ci_X9_tick_1171 (l : Launch) {g : gx_T} {σ : sx_T} {b : Nat} (hK : lay b σ)   (hI_405_1 : sx_I σ (b + 405) 1 = 0) (hI_405_6 : sx_I σ (b + 405) 6 = 0) (hI_405_16 : sx_I σ (b + 405) 16 = 0) : Met l yX9_tick (.code yX9_tick cX9_tick 3 (some .int) :: lw_g) { frames := 1, cells := 0, slots := 0, locals := 22 } (va_Pc [.ref (b + 405), .int 50] (zx_w g σ)) (va_Qi (fun r u => r = 50 ∧ u = (ap b σ [(405, 1, 50), (405, 1, 49), (405, 1, 48), (405, 1, 47), (405, 1, 46), (405, 1, 45), (405, 1, 44), (405, 1, 43), (405, 1, 42), (405, 1, 41), (405, 1, 40), (405, 1, 39), (405, 1, 38), (405, 1, 37), (405, 1, 36), (405, 1, 35), (405, 1, 34), (405, 1, 33), (405, 1, 32), (405, 1, 31), (405, 1, 30), (405, 1, 29), (405, 1, 28), (405, 1, 27), (405, 1, 26), (405, 1, 25), (405, 1, 24), (405, 1, 23), (405, 1, 22), (405, 1, 21), (405, 1, 20), (405, 1, 19), (405, 1, 18), (405, 1, 17), (405, 1, 16), (405, 1, 15), (405, 1, 14), (405, 1, 13), (405, 1, 12), (405, 1, 11), (405, 1, 10), (405, 1, 9), (405, 1, 8), (405, 1, 7), (405, 1, 6), (405, 1, 5), (405, 1, 4), (405, 1, 3), (405, 1, 2), (405, 1, 1), (405, 0, 0)] [] [])) (zx_w g) (gx_Q g)) 0 0 (gx_Q g) := by
  refine z_met (by decide) (Nat.le_of_ble_eq_true rfl) (fun p e s m below meth c B hr hin => ?_)
  refine z_eqs (σ' := (ap b σ [] [] [])) rfl ?_
  show zx p l e _ s m _ below meth c g 3 0 0 _ _ 0 [(0, .ref (b + 405)), (1, .int 50)] []
  refine z_aload_n B dX9_tick_0 rfl 0 rfl ?_
  refine z_iload_n B dX9_tick_1 rfl 1 rfl ?_
  refine z_iconst (v := 1) B dX9_tick_2 (by decide) ?_
  refine z_bipush (v := 50) B dX9_tick_3 (by decide) ?_
  refine z_cSi (As := [.int 50, .int 1, .int 50]) (rest := [.ref (b + 405)]) B cw_X9_96 dX9_tick_5 (ci_X9_in_1169 l (σ := (ap b σ [] [] [])) (b := b) (lyA hK) ) rfl (by decide) rfl (Nat.le_of_ble_eq_true rfl) (by decide) (fun r u hu => ?_)
  refine z_eqs (σ' := (ap b σ [] [] [])) hu.2 ?_
  show zx p l e _ s m _ below meth c g 3 0 0 _ _ 8 [(0, .ref (b + 405)), (1, .int 50)] _
  refine z_seti (y := 1) hu.1 ?_
  refine z_cVi (As := [.int 1]) (rest := []) B cw_X9_269 cx_10 dX9_tick_8 (ci_X9_needs_905 l (σ := (ap b σ [] [] [])) (b := b) (lyA hK) ) (lKA (hk_K hK 405 rfl rfl)) rfl (by decide) rfl (Nat.le_of_ble_eq_true rfl) (by decide) (fun r u hu => ?_)
  refine z_eqs (σ' := (ap b σ [(405, 0, 0)] [] [])) (hu.2.trans ap_ap) ?_
  show zx p l e _ s m _ below meth c g 3 0 0 _ _ 11 [(0, .ref (b + 405)), (1, .int 50)] _
  refine z_seti (y := 1) hu.1 ?_
  refine z_if_ne (tgt := 16) B dX9_tick_11 (by decide) (fun _ => ?_) (fun h => absurd h (by decide))
  refine z_iconst (v := 0) B dX9_tick_16 (by decide) ?_
  refine z_istore_n (lv' := [(2, .int 0), (0, .ref (b + 405)), (1, .int 50)]) B dX9_tick_17 rfl (by decide) rfl ?_
  refine z_iload_n B dX9_tick_18 rfl 0 rfl ?_
  refine z_iload_n B dX9_tick_19 rfl 2 rfl ?_
  refine z_icmp_ge (tgt := 33) B dX9_tick_20 (by decide) (fun h => absurd h (by decide)) (fun _ => ?_)
  refine z_aload_n B dX9_tick_23 rfl 1 rfl ?_
  refine z_cVv (As := []) (rest := []) B cw_X9_294 cx_10 dX9_tick_24 (ci_X9_ticks_925 l (σ := (ap b σ [(405, 0, 0)] [] [])) (b := b) (lyA hK) (rI_at 405 1 hI_405_1) (rI_at 405 6 hI_405_6) (rI_at 405 16 hI_405_16)) (lKA (hk_K hK 405 rfl rfl)) rfl (by decide) rfl (Nat.le_of_ble_eq_true rfl) (by decide) (fun u hu => ?_)
  refine z_eqs (σ' := (ap b σ [(405, 1, 1), (405, 0, 0)] [] [])) (hu.trans ap_ap) ?_
  show zx p l e _ s m _ below meth c g 3 0 0 _ _ 27 [(2, .int 0), (0, .ref (b + 405)), (1, .int 50)] _
  refine z_iinc (v := 1) (lv' := [(2, .int 1), (0, .ref (b + 405)), (1, .int 50)]) B dX9_tick_27 0 rfl (by decide) (by decide) rfl ?_
  refine z_goto (tgt := 18) B dX9_tick_30 (by decide) ?_
  refine z_iload_n B dX9_tick_18 rfl 0 rfl ?_
  refine z_iload_n B dX9_tick_19 rfl 2 rfl ?_
  refine z_icmp_ge (tgt := 33) B dX9_tick_20 (by decide) (fun h => absurd h (by decide)) (fun _ => ?_)
  refine z_aload_n B dX9_tick_23 rfl 1 rfl ?_
  refine z_cVv (As := []) (rest := []) B cw_X9_294 cx_10 dX9_tick_24 (ci_X9_ticks_930 l (σ := (ap b σ [(405, 1, 1), (405, 0, 0)] [] [])) (b := b) (lyA hK) (rI_at 405 1 rfl) (rI_at 405 6 hI_405_6) (rI_at 405 16 hI_405_16)) (lKA (hk_K hK 405 rfl rfl)) rfl (by decide) rfl (Nat.le_of_ble_eq_true rfl) (by decide) (fun u hu => ?_)
  refine z_eqs (σ' := (ap b σ [(405, 1, 2), (405, 1, 1), (405, 0, 0)] [] [])) (hu.trans ap_ap) ?_
  show zx p l e _ s m _ below meth c g 3 0 0 _ _ 27 [(2, .int 1), (0, .ref (b + 405)), (1, .int 50)] _
  refine z_iinc (v := 2) (lv' := [(2, .int 2), (0, .ref (b + 405)), (1, .int 50)]) B dX9_tick_27 0 rfl (by decide) (by decide) rfl ?_
  refine z_goto (tgt := 18) B dX9_tick_30 (by decide) ?_
  refine z_iload_n B dX9_tick_18 rfl 0 rfl ?_
  refine z_iload_n B dX9_tick_19 rfl 2 rfl ?_
  refine z_icmp_ge (tgt := 33) B dX9_tick_20 (by decide) (fun h => absurd h (by decide)) (fun _ => ?_)
  refine z_aload_n B dX9_tick_23 rfl 1 rfl ?_
  refine z_cVv (As := []) (rest := []) B cw_X9_294 cx_10 dX9_tick_24 (ci_X9_ticks_935 l (σ := (ap b σ [(405, 1, 2), (405, 1, 1), (405, 0, 0)] [] [])) (b := b) (lyA hK) (rI_at 405 1 rfl) (rI_at 405 6 hI_405_6) (rI_at 405 16 hI_405_16)) (lKA (hk_K hK 405 rfl rfl)) rfl (by decide) rfl (Nat.le_of_ble_eq_true rfl) (by decide) (fun u hu => ?_)
  refine z_eqs (σ' := (ap b σ [(405, 1, 3), (405, 1, 2), (405, 1, 1), (405, 0, 0)] [] [])) (hu.trans ap_ap) ?_
  show zx p l e _ s m _ below meth c g 3 0 0 _ _ 27 [(2, .int 2), (0, .ref (b + 405)), (1, .int 50)] _
  refine z_iinc (v := 3) (lv' := [(2, .int 3), (0, .ref (b + 405)), (1, .int 50)]) B dX9_tick_27 0 rfl (by decide) (by decide) rfl ?_
  refine z_goto (tgt := 18) B dX9_tick_30 (by decide) ?_
  refine z_iload_n B dX9_tick_18 rfl 0 rfl ?_
  refine z_iload_n B dX9_tick_19 rfl 2 rfl ?_
  refine z_icmp_ge (tgt := 33) B dX9_tick_20 (by decide) (fun h => absurd h (by decide)) (fun _ => ?_)
  refine z_aload_n B dX9_tick_23 rfl 1 rfl ?_
  refine z_cVv (As := []) (rest := []) B cw_X9_294 cx_10 dX9_tick_24 (ci_X9_ticks_940 l (σ := (ap b σ [(405, 1, 3), (405, 1, 2), (405, 1, 1), (405, 0, 0)] [] [])) (b := b) (lyA hK) (rI_at 405 1 rfl) (rI_at 405 6 hI_405_6) (rI_at 405 16 hI_405_16)) (lKA (hk_K hK 405 rfl rfl)) rfl (by decide) rfl (Nat.le_of_ble_eq_true rfl) (by decide) (fun u hu => ?_)
  refine z_eqs (σ' := (ap b σ [(405, 1, 4), (405, 1, 3), (405, 1, 2), (405, 1, 1), (405, 0, 0)] [] [])) (hu.trans ap_ap) ?_
  show zx p l e _ s m _ below meth c g 3 0 0 _ _ 27 [(2, .int 3), (0, .ref (b + 405)), (1, .int 50)] _
  refine z_iinc (v := 4) (lv' := [(2, .int 4), (0, .ref (b + 405)), (1, .int 50)]) B dX9_tick_27 0 rfl (by decide) (by decide) rfl ?_
  refine z_goto (tgt := 18) B dX9_tick_30 (by decide) ?_
  refine z_iload_n B dX9_tick_18 rfl 0 rfl ?_
  refine z_iload_n B dX9_tick_19 rfl 2 rfl ?_
  refine z_icmp_ge (tgt := 33) B dX9_tick_20 (by decide) (fun h => absurd h (by decide)) (fun _ => ?_)
  refine z_aload_n B dX9_tick_23 rfl 1 rfl ?_
  refine z_cVv (As := []) (rest := []) B cw_X9_294 cx_10 dX9_tick_24 (ci_X9_ticks_945 l (σ := (ap b σ [(405, 1, 4), (405, 1, 3), (405, 1, 2), (405, 1, 1), (405, 0, 0)] [] [])) (b := b) (lyA hK) (rI_at 405 1 rfl) (rI_at 405 6 hI_405_6) (rI_at 405 16 hI_405_16)) (lKA (hk_K hK 405 rfl rfl)) rfl (by decide) rfl (Nat.le_of_ble_eq_true rfl) (by decide) (fun u hu => ?_)
  refine z_eqs (σ' := (ap b σ [(405, 1, 5), (405, 1, 4), (405, 1, 3), (405, 1, 2), (405, 1, 1), (405, 0, 0)] [] [])) (hu.trans ap_ap) ?_
  show zx p l e _ s m _ below meth c g 3 0 0 _ _ 27 [(2, .int 4), (0, .ref (b + 405)), (1, .int 50)] _
  refine z_iinc (v := 5) (lv' := [(2, .int 5), (0, .ref (b + 405)), (1, .int 50)]) B dX9_tick_27 0 rfl (by decide) (by decide) rfl ?_
  refine z_goto (tgt := 18) B dX9_tick_30 (by decide) ?_
  refine z_iload_n B dX9_tick_18 rfl 0 rfl ?_
  refine z_iload_n B dX9_tick_19 rfl 2 rfl ?_
  refine z_icmp_ge (tgt := 33) B dX9_tick_20 (by decide) (fun h => absurd h (by decide)) (fun _ => ?_)
  refine z_aload_n B dX9_tick_23 rfl 1 rfl ?_
  refine z_cVv (As := []) (rest := []) B cw_X9_294 cx_10 dX9_tick_24 (ci_X9_ticks_950 l (σ := (ap b σ [(405, 1, 5), (405, 1, 4), (405, 1, 3), (405, 1, 2), (405, 1, 1), (405, 0, 0)] [] [])) (b := b) (lyA hK) (rI_at 405 1 rfl) (rI_at 405 6 hI_405_6) (rI_at 405 16 hI_405_16)) (lKA (hk_K hK 405 rfl rfl)) rfl (by decide) rfl (Nat.le_of_ble_eq_true rfl) (by decide) (fun u hu => ?_)
  refine z_eqs (σ' := (ap b σ [(405, 1, 6), (405, 1, 5), (405, 1, 4), (405, 1, 3), (405, 1, 2), (405, 1, 1), (405, 0, 0)] [] [])) (hu.trans ap_ap) ?_
  show zx p l e _ s m _ below meth c g 3 0 0 _ _ 27 [(2, .int 5), (0, .ref (b + 405)), (1, .int 50)] _
  refine z_iinc (v := 6) (lv' := [(2, .int 6), (0, .ref (b + 405)), (1, .int 50)]) B dX9_tick_27 0 rfl (by decide) (by decide) rfl ?_
  refine z_goto (tgt := 18) B dX9_tick_30 (by decide) ?_
  refine z_iload_n B dX9_tick_18 rfl 0 rfl ?_
  refine z_iload_n B dX9_tick_19 rfl 2 rfl ?_
  refine z_icmp_ge (tgt := 33) B dX9_tick_20 (by decide) (fun h => absurd h (by decide)) (fun _ => ?_)
  refine z_aload_n B dX9_tick_23 rfl 1 rfl ?_
  refine z_cVv (As := []) (rest := []) B cw_X9_294 cx_10 dX9_tick_24 (ci_X9_ticks_955 l (σ := (ap b σ [(405, 1, 6), (405, 1, 5), (405, 1, 4), (405, 1, 3), (405, 1, 2), (405, 1, 1), (405, 0, 0)] [] [])) (b := b) (lyA hK) (rI_at 405 1 rfl) (rI_at 405 6 hI_405_6) (rI_at 405 16 hI_405_16)) (lKA (hk_K hK 405 rfl rfl)) rfl (by decide) rfl (Nat.le_of_ble_eq_true rfl) (by decide) (fun u hu => ?_)
  refine z_eqs (σ' := (ap b σ [(405, 1, 7), (405, 1, 6), (405, 1, 5), (405, 1, 4), (405, 1, 3), (405, 1, 2), (405, 1, 1), (405, 0, 0)] [] [])) (hu.trans ap_ap) ?_
  show zx p l e _ s m _ below meth c g 3 0 0 _ _ 27 [(2, .int 6), (0, .ref (b + 405)), (1, .int 50)] _
  refine z_iinc (v := 7) (lv' := [(2, .int 7), (0, .ref (b + 405)), (1, .int 50)]) B dX9_tick_27 0 rfl (by decide) (by decide) rfl ?_
  refine z_goto (tgt := 18) B dX9_tick_30 (by decide) ?_
  refine z_iload_n B dX9_tick_18 rfl 0 rfl ?_
  refine z_iload_n B dX9_tick_19 rfl 2 rfl ?_
  refine z_icmp_ge (tgt := 33) B dX9_tick_20 (by decide) (fun h => absurd h (by decide)) (fun _ => ?_)
  refine z_aload_n B dX9_tick_23 rfl 1 rfl ?_
  refine z_cVv (As := []) (rest := []) B cw_X9_294 cx_10 dX9_tick_24 (ci_X9_ticks_960 l (σ := (ap b σ [(405, 1, 7), (405, 1, 6), (405, 1, 5), (405, 1, 4), (405, 1, 3), (405, 1, 2), (405, 1, 1), (405, 0, 0)] [] [])) (b := b) (lyA hK) (rI_at 405 1 rfl) (rI_at 405 6 hI_405_6) (rI_at 405 16 hI_405_16)) (lKA (hk_K hK 405 rfl rfl)) rfl (by decide) rfl (Nat.le_of_ble_eq_true rfl) (by decide) (fun u hu => ?_)
  refine z_eqs (σ' := (ap b σ [(405, 1, 8), (405, 1, 7), (405, 1, 6), (405, 1, 5), (405, 1, 4), (405, 1, 3), (405, 1, 2), (405, 1, 1), (405, 0, 0)] [] [])) (hu.trans ap_ap) ?_
  show zx p l e _ s m _ below meth c g 3 0 0 _ _ 27 [(2, .int 7), (0, .ref (b + 405)), (1, .int 50)] _
  refine z_iinc (v := 8) (lv' := [(2, .int 8), (0, .ref (b + 405)), (1, .int 50)]) B dX9_tick_27 0 rfl (by decide) (by decide) rfl ?_
  refine z_goto (tgt := 18) B dX9_tick_30 (by decide) ?_
  refine z_iload_n B dX9_tick_18 rfl 0 rfl ?_
  refine z_iload_n B dX9_tick_19 rfl 2 rfl ?_
  refine z_icmp_ge (tgt := 33) B dX9_tick_20 (by decide) (fun h => absurd h (by decide)) (fun _ => ?_)
  refine z_aload_n B dX9_tick_23 rfl 1 rfl ?_
  refine z_cVv (As := []) (rest := []) B cw_X9_294 cx_10 dX9_tick_24 (ci_X9_ticks_965 l (σ := (ap b σ [(405, 1, 8), (405, 1, 7), (405, 1, 6), (405, 1, 5), (405, 1, 4), (405, 1, 3), (405, 1, 2), (405, 1, 1), (405, 0, 0)] [] [])) (b := b) (lyA hK) (rI_at 405 1 rfl) (rI_at 405 6 hI_405_6) (rI_at 405 16 hI_405_16)) (lKA (hk_K hK 405 rfl rfl)) rfl (by decide) rfl (Nat.le_of_ble_eq_true rfl) (by decide) (fun u hu => ?_)
  refine z_eqs (σ' := (ap b σ [(405, 1, 9), (405, 1, 8), (405, 1, 7), (405, 1, 6), (405, 1, 5), (405, 1, 4), (405, 1, 3), (405, 1, 2), (405, 1, 1), (405, 0, 0)] [] [])) (hu.trans ap_ap) ?_
  show zx p l e _ s m _ below meth c g 3 0 0 _ _ 27 [(2, .int 8), (0, .ref (b + 405)), (1, .int 50)] _
  refine z_iinc (v := 9) (lv' := [(2, .int 9), (0, .ref (b + 405)), (1, .int 50)]) B dX9_tick_27 0 rfl (by decide) (by decide) rfl ?_
  refine z_goto (tgt := 18) B dX9_tick_30 (by decide) ?_
  refine z_iload_n B dX9_tick_18 rfl 0 rfl ?_
  refine z_iload_n B dX9_tick_19 rfl 2 rfl ?_
  refine z_icmp_ge (tgt := 33) B dX9_tick_20 (by decide) (fun h => absurd h (by decide)) (fun _ => ?_)
  refine z_aload_n B dX9_tick_23 rfl 1 rfl ?_
  refine z_cVv (As := []) (rest := []) B cw_X9_294 cx_10 dX9_tick_24 (ci_X9_ticks_970 l (σ := (ap b σ [(405, 1, 9), (405, 1, 8), (405, 1, 7), (405, 1, 6), (405, 1, 5), (405, 1, 4), (405, 1, 3), (405, 1, 2), (405, 1, 1), (405, 0, 0)] [] [])) (b := b) (lyA hK) (rI_at 405 1 rfl) (rI_at 405 6 hI_405_6) (rI_at 405 16 hI_405_16)) (lKA (hk_K hK 405 rfl rfl)) rfl (by decide) rfl (Nat.le_of_ble_eq_true rfl) (by decide) (fun u hu => ?_)
  refine z_eqs (σ' := (ap b σ [(405, 1, 10), (405, 1, 9), (405, 1, 8), (405, 1, 7), (405, 1, 6), (405, 1, 5), (405, 1, 4), (405, 1, 3), (405, 1, 2), (405, 1, 1), (405, 0, 0)] [] [])) (hu.trans ap_ap) ?_
  show zx p l e _ s m _ below meth c g 3 0 0 _ _ 27 [(2, .int 9), (0, .ref (b + 405)), (1, .int 50)] _
  refine z_iinc (v := 10) (lv' := [(2, .int 10), (0, .ref (b + 405)), (1, .int 50)]) B dX9_tick_27 0 rfl (by decide) (by decide) rfl ?_
  refine z_goto (tgt := 18) B dX9_tick_30 (by decide) ?_
  refine z_iload_n B dX9_tick_18 rfl 0 rfl ?_
  refine z_iload_n B dX9_tick_19 rfl 2 rfl ?_
  refine z_icmp_ge (tgt := 33) B dX9_tick_20 (by decide) (fun h => absurd h (by decide)) (fun _ => ?_)
  refine z_aload_n B dX9_tick_23 rfl 1 rfl ?_
  refine z_cVv (As := []) (rest := []) B cw_X9_294 cx_10 dX9_tick_24 (ci_X9_ticks_975 l (σ := (ap b σ [(405, 1, 10), (405, 1, 9), (405, 1, 8), (405, 1, 7), (405, 1, 6), (405, 1, 5), (405, 1, 4), (405, 1, 3), (405, 1, 2), (405, 1, 1), (405, 0, 0)] [] [])) (b := b) (lyA hK) (rI_at 405 1 rfl) (rI_at 405 6 hI_405_6) (rI_at 405 16 hI_405_16)) (lKA (hk_K hK 405 rfl rfl)) rfl (by decide) rfl (Nat.le_of_ble_eq_true rfl) (by decide) (fun u hu => ?_)
  refine z_eqs (σ' := (ap b σ [(405, 1, 11), (405, 1, 10), (405, 1, 9), (405, 1, 8), (405, 1, 7), (405, 1, 6), (405, 1, 5), (405, 1, 4), (405, 1, 3), (405, 1, 2), (405, 1, 1), (405, 0, 0)] [] [])) (hu.trans ap_ap) ?_
  show zx p l e _ s m _ below meth c g 3 0 0 _ _ 27 [(2, .int 10), (0, .ref (b + 405)), (1, .int 50)] _
  refine z_iinc (v := 11) (lv' := [(2, .int 11), (0, .ref (b + 405)), (1, .int 50)]) B dX9_tick_27 0 rfl (by decide) (by decide) rfl ?_
  refine z_goto (tgt := 18) B dX9_tick_30 (by decide) ?_
  refine z_iload_n B dX9_tick_18 rfl 0 rfl ?_
  refine z_iload_n B dX9_tick_19 rfl 2 rfl ?_
  refine z_icmp_ge (tgt := 33) B dX9_tick_20 (by decide) (fun h => absurd h (by decide)) (fun _ => ?_)
  refine z_aload_n B dX9_tick_23 rfl 1 rfl ?_
  refine z_cVv (As := []) (rest := []) B cw_X9_294 cx_10 dX9_tick_24 (ci_X9_ticks_980 l (σ := (ap b σ [(405, 1, 11), (405, 1, 10), (405, 1, 9), (405, 1, 8), (405, 1, 7), (405, 1, 6), (405, 1, 5), (405, 1, 4), (405, 1, 3), (405, 1, 2), (405, 1, 1), (405, 0, 0)] [] [])) (b := b) (lyA hK) (rI_at 405 1 rfl) (rI_at 405 6 hI_405_6) (rI_at 405 16 hI_405_16)) (lKA (hk_K hK 405 rfl rfl)) rfl (by decide) rfl (Nat.le_of_ble_eq_true rfl) (by decide) (fun u hu => ?_)
  refine z_eqs (σ' := (ap b σ [(405, 1, 12), (405, 1, 11), (405, 1, 10), (405, 1, 9), (405, 1, 8), (405, 1, 7), (405, 1, 6), (405, 1, 5), (405, 1, 4), (405, 1, 3), (405, 1, 2), (405, 1, 1), (405, 0, 0)] [] [])) (hu.trans ap_ap) ?_
  show zx p l e _ s m _ below meth c g 3 0 0 _ _ 27 [(2, .int 11), (0, .ref (b + 405)), (1, .int 50)] _
  refine z_iinc (v := 12) (lv' := [(2, .int 12), (0, .ref (b + 405)), (1, .int 50)]) B dX9_tick_27 0 rfl (by decide) (by decide) rfl ?_
  refine z_goto (tgt := 18) B dX9_tick_30 (by decide) ?_
  refine z_iload_n B dX9_tick_18 rfl 0 rfl ?_
  refine z_iload_n B dX9_tick_19 rfl 2 rfl ?_
  refine z_icmp_ge (tgt := 33) B dX9_tick_20 (by decide) (fun h => absurd h (by decide)) (fun _ => ?_)
  refine z_aload_n B dX9_tick_23 rfl 1 rfl ?_
  refine z_cVv (As := []) (rest := []) B cw_X9_294 cx_10 dX9_tick_24 (ci_X9_ticks_985 l (σ := (ap b σ [(405, 1, 12), (405, 1, 11), (405, 1, 10), (405, 1, 9), (405, 1, 8), (405, 1, 7), (405, 1, 6), (405, 1, 5), (405, 1, 4), (405, 1, 3), (405, 1, 2), (405, 1, 1), (405, 0, 0)] [] [])) (b := b) (lyA hK) (rI_at 405 1 rfl) (rI_at 405 6 hI_405_6) (rI_at 405 16 hI_405_16)) (lKA (hk_K hK 405 rfl rfl)) rfl (by decide) rfl (Nat.le_of_ble_eq_true rfl) (by decide) (fun u hu => ?_)
  refine z_eqs (σ' := (ap b σ [(405, 1, 13), (405, 1, 12), (405, 1, 11), (405, 1, 10), (405, 1, 9), (405, 1, 8), (405, 1, 7), (405, 1, 6), (405, 1, 5), (405, 1, 4), (405, 1, 3), (405, 1, 2), (405, 1, 1), (405, 0, 0)] [] [])) (hu.trans ap_ap) ?_
  show zx p l e _ s m _ below meth c g 3 0 0 _ _ 27 [(2, .int 12), (0, .ref (b + 405)), (1, .int 50)] _
  refine z_iinc (v := 13) (lv' := [(2, .int 13), (0, .ref (b + 405)), (1, .int 50)]) B dX9_tick_27 0 rfl (by decide) (by decide) rfl ?_
  refine z_goto (tgt := 18) B dX9_tick_30 (by decide) ?_
  refine z_iload_n B dX9_tick_18 rfl 0 rfl ?_
  refine z_iload_n B dX9_tick_19 rfl 2 rfl ?_
  refine z_icmp_ge (tgt := 33) B dX9_tick_20 (by decide) (fun h => absurd h (by decide)) (fun _ => ?_)
  refine z_aload_n B dX9_tick_23 rfl 1 rfl ?_
  refine z_cVv (As := []) (rest := []) B cw_X9_294 cx_10 dX9_tick_24 (ci_X9_ticks_990 l (σ := (ap b σ [(405, 1, 13), (405, 1, 12), (405, 1, 11), (405, 1, 10), (405, 1, 9), (405, 1, 8), (405, 1, 7), (405, 1, 6), (405, 1, 5), (405, 1, 4), (405, 1, 3), (405, 1, 2), (405, 1, 1), (405, 0, 0)] [] [])) (b := b) (lyA hK) (rI_at 405 1 rfl) (rI_at 405 6 hI_405_6) (rI_at 405 16 hI_405_16)) (lKA (hk_K hK 405 rfl rfl)) rfl (by decide) rfl (Nat.le_of_ble_eq_true rfl) (by decide) (fun u hu => ?_)
  refine z_eqs (σ' := (ap b σ [(405, 1, 14), (405, 1, 13), (405, 1, 12), (405, 1, 11), (405, 1, 10), (405, 1, 9), (405, 1, 8), (405, 1, 7), (405, 1, 6), (405, 1, 5), (405, 1, 4), (405, 1, 3), (405, 1, 2), (405, 1, 1), (405, 0, 0)] [] [])) (hu.trans ap_ap) ?_
  show zx p l e _ s m _ below meth c g 3 0 0 _ _ 27 [(2, .int 13), (0, .ref (b + 405)), (1, .int 50)] _
  refine z_iinc (v := 14) (lv' := [(2, .int 14), (0, .ref (b + 405)), (1, .int 50)]) B dX9_tick_27 0 rfl (by decide) (by decide) rfl ?_
  refine z_goto (tgt := 18) B dX9_tick_30 (by decide) ?_
  refine z_iload_n B dX9_tick_18 rfl 0 rfl ?_
  refine z_iload_n B dX9_tick_19 rfl 2 rfl ?_
  refine z_icmp_ge (tgt := 33) B dX9_tick_20 (by decide) (fun h => absurd h (by decide)) (fun _ => ?_)
  refine z_aload_n B dX9_tick_23 rfl 1 rfl ?_
  refine z_cVv (As := []) (rest := []) B cw_X9_294 cx_10 dX9_tick_24 (ci_X9_ticks_995 l (σ := (ap b σ [(405, 1, 14), (405, 1, 13), (405, 1, 12), (405, 1, 11), (405, 1, 10), (405, 1, 9), (405, 1, 8), (405, 1, 7), (405, 1, 6), (405, 1, 5), (405, 1, 4), (405, 1, 3), (405, 1, 2), (405, 1, 1), (405, 0, 0)] [] [])) (b := b) (lyA hK) (rI_at 405 1 rfl) (rI_at 405 6 hI_405_6) (rI_at 405 16 hI_405_16)) (lKA (hk_K hK 405 rfl rfl)) rfl (by decide) rfl (Nat.le_of_ble_eq_true rfl) (by decide) (fun u hu => ?_)
  refine z_eqs (σ' := (ap b σ [(405, 1, 15), (405, 1, 14), (405, 1, 13), (405, 1, 12), (405, 1, 11), (405, 1, 10), (405, 1, 9), (405, 1, 8), (405, 1, 7), (405, 1, 6), (405, 1, 5), (405, 1, 4), (405, 1, 3), (405, 1, 2), (405, 1, 1), (405, 0, 0)] [] [])) (hu.trans ap_ap) ?_
  show zx p l e _ s m _ below meth c g 3 0 0 _ _ 27 [(2, .int 14), (0, .ref (b + 405)), (1, .int 50)] _
  refine z_iinc (v := 15) (lv' := [(2, .int 15), (0, .ref (b + 405)), (1, .int 50)]) B dX9_tick_27 0 rfl (by decide) (by decide) rfl ?_
  refine z_goto (tgt := 18) B dX9_tick_30 (by decide) ?_
  refine z_iload_n B dX9_tick_18 rfl 0 rfl ?_
  refine z_iload_n B dX9_tick_19 rfl 2 rfl ?_
  refine z_icmp_ge (tgt := 33) B dX9_tick_20 (by decide) (fun h => absurd h (by decide)) (fun _ => ?_)
  refine z_aload_n B dX9_tick_23 rfl 1 rfl ?_
  refine z_cVv (As := []) (rest := []) B cw_X9_294 cx_10 dX9_tick_24 (ci_X9_ticks_1000 l (σ := (ap b σ [(405, 1, 15), (405, 1, 14), (405, 1, 13), (405, 1, 12), (405, 1, 11), (405, 1, 10), (405, 1, 9), (405, 1, 8), (405, 1, 7), (405, 1, 6), (405, 1, 5), (405, 1, 4), (405, 1, 3), (405, 1, 2), (405, 1, 1), (405, 0, 0)] [] [])) (b := b) (lyA hK) (rI_at 405 1 rfl) (rI_at 405 6 hI_405_6) (rI_at 405 16 hI_405_16)) (lKA (hk_K hK 405 rfl rfl)) rfl (by decide) rfl (Nat.le_of_ble_eq_true rfl) (by decide) (fun u hu => ?_)
  refine z_eqs (σ' := (ap b σ [(405, 1, 16), (405, 1, 15), (405, 1, 14), (405, 1, 13), (405, 1, 12), (405, 1, 11), (405, 1, 10), (405, 1, 9), (405, 1, 8), (405, 1, 7), (405, 1, 6), (405, 1, 5), (405, 1, 4), (405, 1, 3), (405, 1, 2), (405, 1, 1), (405, 0, 0)] [] [])) (hu.trans ap_ap) ?_
  show zx p l e _ s m _ below meth c g 3 0 0 _ _ 27 [(2, .int 15), (0, .ref (b + 405)), (1, .int 50)] _
  refine z_iinc (v := 16) (lv' := [(2, .int 16), (0, .ref (b + 405)), (1, .int 50)]) B dX9_tick_27 0 rfl (by decide) (by decide) rfl ?_
  refine z_goto (tgt := 18) B dX9_tick_30 (by decide) ?_
  refine z_iload_n B dX9_tick_18 rfl 0 rfl ?_
  refine z_iload_n B dX9_tick_19 rfl 2 rfl ?_
  refine z_icmp_ge (tgt := 33) B dX9_tick_20 (by decide) (fun h => absurd h (by decide)) (fun _ => ?_)
  refine z_aload_n B dX9_tick_23 rfl 1 rfl ?_
  refine z_cVv (As := []) (rest := []) B cw_X9_294 cx_10 dX9_tick_24 (ci_X9_ticks_1005 l (σ := (ap b σ [(405, 1, 16), (405, 1, 15), (405, 1, 14), (405, 1, 13), (405, 1, 12), (405, 1, 11), (405, 1, 10), (405, 1, 9), (405, 1, 8), (405, 1, 7), (405, 1, 6), (405, 1, 5), (405, 1, 4), (405, 1, 3), (405, 1, 2), (405, 1, 1), (405, 0, 0)] [] [])) (b := b) (lyA hK) (rI_at 405 1 rfl) (rI_at 405 6 hI_405_6) (rI_at 405 16 hI_405_16)) (lKA (hk_K hK 405 rfl rfl)) rfl (by decide) rfl (Nat.le_of_ble_eq_true rfl) (by decide) (fun u hu => ?_)
  refine z_eqs (σ' := (ap b σ [(405, 1, 17), (405, 1, 16), (405, 1, 15), (405, 1, 14), (405, 1, 13), (405, 1, 12), (405, 1, 11), (405, 1, 10), (405, 1, 9), (405, 1, 8), (405, 1, 7), (405, 1, 6), (405, 1, 5), (405, 1, 4), (405, 1, 3), (405, 1, 2), (405, 1, 1), (405, 0, 0)] [] [])) (hu.trans ap_ap) ?_
  show zx p l e _ s m _ below meth c g 3 0 0 _ _ 27 [(2, .int 16), (0, .ref (b + 405)), (1, .int 50)] _
  refine z_iinc (v := 17) (lv' := [(2, .int 17), (0, .ref (b + 405)), (1, .int 50)]) B dX9_tick_27 0 rfl (by decide) (by decide) rfl ?_
  refine z_goto (tgt := 18) B dX9_tick_30 (by decide) ?_
  refine z_iload_n B dX9_tick_18 rfl 0 rfl ?_
  refine z_iload_n B dX9_tick_19 rfl 2 rfl ?_
  refine z_icmp_ge (tgt := 33) B dX9_tick_20 (by decide) (fun h => absurd h (by decide)) (fun _ => ?_)
  refine z_aload_n B dX9_tick_23 rfl 1 rfl ?_
  refine z_cVv (As := []) (rest := []) B cw_X9_294 cx_10 dX9_tick_24 (ci_X9_ticks_1010 l (σ := (ap b σ [(405, 1, 17), (405, 1, 16), (405, 1, 15), (405, 1, 14), (405, 1, 13), (405, 1, 12), (405, 1, 11), (405, 1, 10), (405, 1, 9), (405, 1, 8), (405, 1, 7), (405, 1, 6), (405, 1, 5), (405, 1, 4), (405, 1, 3), (405, 1, 2), (405, 1, 1), (405, 0, 0)] [] [])) (b := b) (lyA hK) (rI_at 405 1 rfl) (rI_at 405 6 hI_405_6) (rI_at 405 16 hI_405_16)) (lKA (hk_K hK 405 rfl rfl)) rfl (by decide) rfl (Nat.le_of_ble_eq_true rfl) (by decide) (fun u hu => ?_)
  refine z_eqs (σ' := (ap b σ [(405, 1, 18), (405, 1, 17), (405, 1, 16), (405, 1, 15), (405, 1, 14), (405, 1, 13), (405, 1, 12), (405, 1, 11), (405, 1, 10), (405, 1, 9), (405, 1, 8), (405, 1, 7), (405, 1, 6), (405, 1, 5), (405, 1, 4), (405, 1, 3), (405, 1, 2), (405, 1, 1), (405, 0, 0)] [] [])) (hu.trans ap_ap) ?_
  show zx p l e _ s m _ below meth c g 3 0 0 _ _ 27 [(2, .int 17), (0, .ref (b + 405)), (1, .int 50)] _
  refine z_iinc (v := 18) (lv' := [(2, .int 18), (0, .ref (b + 405)), (1, .int 50)]) B dX9_tick_27 0 rfl (by decide) (by decide) rfl ?_
  refine z_goto (tgt := 18) B dX9_tick_30 (by decide) ?_
  refine z_iload_n B dX9_tick_18 rfl 0 rfl ?_
  refine z_iload_n B dX9_tick_19 rfl 2 rfl ?_
  refine z_icmp_ge (tgt := 33) B dX9_tick_20 (by decide) (fun h => absurd h (by decide)) (fun _ => ?_)
  refine z_aload_n B dX9_tick_23 rfl 1 rfl ?_
  refine z_cVv (As := []) (rest := []) B cw_X9_294 cx_10 dX9_tick_24 (ci_X9_ticks_1015 l (σ := (ap b σ [(405, 1, 18), (405, 1, 17), (405, 1, 16), (405, 1, 15), (405, 1, 14), (405, 1, 13), (405, 1, 12), (405, 1, 11), (405, 1, 10), (405, 1, 9), (405, 1, 8), (405, 1, 7), (405, 1, 6), (405, 1, 5), (405, 1, 4), (405, 1, 3), (405, 1, 2), (405, 1, 1), (405, 0, 0)] [] [])) (b := b) (lyA hK) (rI_at 405 1 rfl) (rI_at 405 6 hI_405_6) (rI_at 405 16 hI_405_16)) (lKA (hk_K hK 405 rfl rfl)) rfl (by decide) rfl (Nat.le_of_ble_eq_true rfl) (by decide) (fun u hu => ?_)
  refine z_eqs (σ' := (ap b σ [(405, 1, 19), (405, 1, 18), (405, 1, 17), (405, 1, 16), (405, 1, 15), (405, 1, 14), (405, 1, 13), (405, 1, 12), (405, 1, 11), (405, 1, 10), (405, 1, 9), (405, 1, 8), (405, 1, 7), (405, 1, 6), (405, 1, 5), (405, 1, 4), (405, 1, 3), (405, 1, 2), (405, 1, 1), (405, 0, 0)] [] [])) (hu.trans ap_ap) ?_
  show zx p l e _ s m _ below meth c g 3 0 0 _ _ 27 [(2, .int 18), (0, .ref (b + 405)), (1, .int 50)] _
  refine z_iinc (v := 19) (lv' := [(2, .int 19), (0, .ref (b + 405)), (1, .int 50)]) B dX9_tick_27 0 rfl (by decide) (by decide) rfl ?_
  refine z_goto (tgt := 18) B dX9_tick_30 (by decide) ?_
  refine z_iload_n B dX9_tick_18 rfl 0 rfl ?_
  refine z_iload_n B dX9_tick_19 rfl 2 rfl ?_
  refine z_icmp_ge (tgt := 33) B dX9_tick_20 (by decide) (fun h => absurd h (by decide)) (fun _ => ?_)
  refine z_aload_n B dX9_tick_23 rfl 1 rfl ?_
  refine z_cVv (As := []) (rest := []) B cw_X9_294 cx_10 dX9_tick_24 (ci_X9_ticks_1020 l (σ := (ap b σ [(405, 1, 19), (405, 1, 18), (405, 1, 17), (405, 1, 16), (405, 1, 15), (405, 1, 14), (405, 1, 13), (405, 1, 12), (405, 1, 11), (405, 1, 10), (405, 1, 9), (405, 1, 8), (405, 1, 7), (405, 1, 6), (405, 1, 5), (405, 1, 4), (405, 1, 3), (405, 1, 2), (405, 1, 1), (405, 0, 0)] [] [])) (b := b) (lyA hK) (rI_at 405 1 rfl) (rI_at 405 6 hI_405_6) (rI_at 405 16 hI_405_16)) (lKA (hk_K hK 405 rfl rfl)) rfl (by decide) rfl (Nat.le_of_ble_eq_true rfl) (by decide) (fun u hu => ?_)
  refine z_eqs (σ' := (ap b σ [(405, 1, 20), (405, 1, 19), (405, 1, 18), (405, 1, 17), (405, 1, 16), (405, 1, 15), (405, 1, 14), (405, 1, 13), (405, 1, 12), (405, 1, 11), (405, 1, 10), (405, 1, 9), (405, 1, 8), (405, 1, 7), (405, 1, 6), (405, 1, 5), (405, 1, 4), (405, 1, 3), (405, 1, 2), (405, 1, 1), (405, 0, 0)] [] [])) (hu.trans ap_ap) ?_
  show zx p l e _ s m _ below meth c g 3 0 0 _ _ 27 [(2, .int 19), (0, .ref (b + 405)), (1, .int 50)] _
  refine z_iinc (v := 20) (lv' := [(2, .int 20), (0, .ref (b + 405)), (1, .int 50)]) B dX9_tick_27 0 rfl (by decide) (by decide) rfl ?_
  refine z_goto (tgt := 18) B dX9_tick_30 (by decide) ?_
  refine z_iload_n B dX9_tick_18 rfl 0 rfl ?_
  refine z_iload_n B dX9_tick_19 rfl 2 rfl ?_
  refine z_icmp_ge (tgt := 33) B dX9_tick_20 (by decide) (fun h => absurd h (by decide)) (fun _ => ?_)
  refine z_aload_n B dX9_tick_23 rfl 1 rfl ?_
  refine z_cVv (As := []) (rest := []) B cw_X9_294 cx_10 dX9_tick_24 (ci_X9_ticks_1025 l (σ := (ap b σ [(405, 1, 20), (405, 1, 19), (405, 1, 18), (405, 1, 17), (405, 1, 16), (405, 1, 15), (405, 1, 14), (405, 1, 13), (405, 1, 12), (405, 1, 11), (405, 1, 10), (405, 1, 9), (405, 1, 8), (405, 1, 7), (405, 1, 6), (405, 1, 5), (405, 1, 4), (405, 1, 3), (405, 1, 2), (405, 1, 1), (405, 0, 0)] [] [])) (b := b) (lyA hK) (rI_at 405 1 rfl) (rI_at 405 6 hI_405_6) (rI_at 405 16 hI_405_16)) (lKA (hk_K hK 405 rfl rfl)) rfl (by decide) rfl (Nat.le_of_ble_eq_true rfl) (by decide) (fun u hu => ?_)
  refine z_eqs (σ' := (ap b σ [(405, 1, 21), (405, 1, 20), (405, 1, 19), (405, 1, 18), (405, 1, 17), (405, 1, 16), (405, 1, 15), (405, 1, 14), (405, 1, 13), (405, 1, 12), (405, 1, 11), (405, 1, 10), (405, 1, 9), (405, 1, 8), (405, 1, 7), (405, 1, 6), (405, 1, 5), (405, 1, 4), (405, 1, 3), (405, 1, 2), (405, 1, 1), (405, 0, 0)] [] [])) (hu.trans ap_ap) ?_
  show zx p l e _ s m _ below meth c g 3 0 0 _ _ 27 [(2, .int 20), (0, .ref (b + 405)), (1, .int 50)] _
  refine z_iinc (v := 21) (lv' := [(2, .int 21), (0, .ref (b + 405)), (1, .int 50)]) B dX9_tick_27 0 rfl (by decide) (by decide) rfl ?_
  refine z_goto (tgt := 18) B dX9_tick_30 (by decide) ?_
  refine z_iload_n B dX9_tick_18 rfl 0 rfl ?_
  refine z_iload_n B dX9_tick_19 rfl 2 rfl ?_
  refine z_icmp_ge (tgt := 33) B dX9_tick_20 (by decide) (fun h => absurd h (by decide)) (fun _ => ?_)
  refine z_aload_n B dX9_tick_23 rfl 1 rfl ?_
  refine z_cVv (As := []) (rest := []) B cw_X9_294 cx_10 dX9_tick_24 (ci_X9_ticks_1030 l (σ := (ap b σ [(405, 1, 21), (405, 1, 20), (405, 1, 19), (405, 1, 18), (405, 1, 17), (405, 1, 16), (405, 1, 15), (405, 1, 14), (405, 1, 13), (405, 1, 12), (405, 1, 11), (405, 1, 10), (405, 1, 9), (405, 1, 8), (405, 1, 7), (405, 1, 6), (405, 1, 5), (405, 1, 4), (405, 1, 3), (405, 1, 2), (405, 1, 1), (405, 0, 0)] [] [])) (b := b) (lyA hK) (rI_at 405 1 rfl) (rI_at 405 6 hI_405_6) (rI_at 405 16 hI_405_16)) (lKA (hk_K hK 405 rfl rfl)) rfl (by decide) rfl (Nat.le_of_ble_eq_true rfl) (by decide) (fun u hu => ?_)
  refine z_eqs (σ' := (ap b σ [(405, 1, 22), (405, 1, 21), (405, 1, 20), (405, 1, 19), (405, 1, 18), (405, 1, 17), (405, 1, 16), (405, 1, 15), (405, 1, 14), (405, 1, 13), (405, 1, 12), (405, 1, 11), (405, 1, 10), (405, 1, 9), (405, 1, 8), (405, 1, 7), (405, 1, 6), (405, 1, 5), (405, 1, 4), (405, 1, 3), (405, 1, 2), (405, 1, 1), (405, 0, 0)] [] [])) (hu.trans ap_ap) ?_
  show zx p l e _ s m _ below meth c g 3 0 0 _ _ 27 [(2, .int 21), (0, .ref (b + 405)), (1, .int 50)] _
  refine z_iinc (v := 22) (lv' := [(2, .int 22), (0, .ref (b + 405)), (1, .int 50)]) B dX9_tick_27 0 rfl (by decide) (by decide) rfl ?_
  refine z_goto (tgt := 18) B dX9_tick_30 (by decide) ?_
  refine z_iload_n B dX9_tick_18 rfl 0 rfl ?_
  refine z_iload_n B dX9_tick_19 rfl 2 rfl ?_
  refine z_icmp_ge (tgt := 33) B dX9_tick_20 (by decide) (fun h => absurd h (by decide)) (fun _ => ?_)
  refine z_aload_n B dX9_tick_23 rfl 1 rfl ?_
  refine z_cVv (As := []) (rest := []) B cw_X9_294 cx_10 dX9_tick_24 (ci_X9_ticks_1035 l (σ := (ap b σ [(405, 1, 22), (405, 1, 21), (405, 1, 20), (405, 1, 19), (405, 1, 18), (405, 1, 17), (405, 1, 16), (405, 1, 15), (405, 1, 14), (405, 1, 13), (405, 1, 12), (405, 1, 11), (405, 1, 10), (405, 1, 9), (405, 1, 8), (405, 1, 7), (405, 1, 6), (405, 1, 5), (405, 1, 4), (405, 1, 3), (405, 1, 2), (405, 1, 1), (405, 0, 0)] [] [])) (b := b) (lyA hK) (rI_at 405 1 rfl) (rI_at 405 6 hI_405_6) (rI_at 405 16 hI_405_16)) (lKA (hk_K hK 405 rfl rfl)) rfl (by decide) rfl (Nat.le_of_ble_eq_true rfl) (by decide) (fun u hu => ?_)
  refine z_eqs (σ' := (ap b σ [(405, 1, 23), (405, 1, 22), (405, 1, 21), (405, 1, 20), (405, 1, 19), (405, 1, 18), (405, 1, 17), (405, 1, 16), (405, 1, 15), (405, 1, 14), (405, 1, 13), (405, 1, 12), (405, 1, 11), (405, 1, 10), (405, 1, 9), (405, 1, 8), (405, 1, 7), (405, 1, 6), (405, 1, 5), (405, 1, 4), (405, 1, 3), (405, 1, 2), (405, 1, 1), (405, 0, 0)] [] [])) (hu.trans ap_ap) ?_
  show zx p l e _ s m _ below meth c g 3 0 0 _ _ 27 [(2, .int 22), (0, .ref (b + 405)), (1, .int 50)] _
  refine z_iinc (v := 23) (lv' := [(2, .int 23), (0, .ref (b + 405)), (1, .int 50)]) B dX9_tick_27 0 rfl (by decide) (by decide) rfl ?_
  refine z_goto (tgt := 18) B dX9_tick_30 (by decide) ?_
  refine z_iload_n B dX9_tick_18 rfl 0 rfl ?_
  refine z_iload_n B dX9_tick_19 rfl 2 rfl ?_
  refine z_icmp_ge (tgt := 33) B dX9_tick_20 (by decide) (fun h => absurd h (by decide)) (fun _ => ?_)
  refine z_aload_n B dX9_tick_23 rfl 1 rfl ?_
  refine z_cVv (As := []) (rest := []) B cw_X9_294 cx_10 dX9_tick_24 (ci_X9_ticks_1040 l (σ := (ap b σ [(405, 1, 23), (405, 1, 22), (405, 1, 21), (405, 1, 20), (405, 1, 19), (405, 1, 18), (405, 1, 17), (405, 1, 16), (405, 1, 15), (405, 1, 14), (405, 1, 13), (405, 1, 12), (405, 1, 11), (405, 1, 10), (405, 1, 9), (405, 1, 8), (405, 1, 7), (405, 1, 6), (405, 1, 5), (405, 1, 4), (405, 1, 3), (405, 1, 2), (405, 1, 1), (405, 0, 0)] [] [])) (b := b) (lyA hK) (rI_at 405 1 rfl) (rI_at 405 6 hI_405_6) (rI_at 405 16 hI_405_16)) (lKA (hk_K hK 405 rfl rfl)) rfl (by decide) rfl (Nat.le_of_ble_eq_true rfl) (by decide) (fun u hu => ?_)
  refine z_eqs (σ' := (ap b σ [(405, 1, 24), (405, 1, 23), (405, 1, 22), (405, 1, 21), (405, 1, 20), (405, 1, 19), (405, 1, 18), (405, 1, 17), (405, 1, 16), (405, 1, 15), (405, 1, 14), (405, 1, 13), (405, 1, 12), (405, 1, 11), (405, 1, 10), (405, 1, 9), (405, 1, 8), (405, 1, 7), (405, 1, 6), (405, 1, 5), (405, 1, 4), (405, 1, 3), (405, 1, 2), (405, 1, 1), (405, 0, 0)] [] [])) (hu.trans ap_ap) ?_
  show zx p l e _ s m _ below meth c g 3 0 0 _ _ 27 [(2, .int 23), (0, .ref (b + 405)), (1, .int 50)] _
  refine z_iinc (v := 24) (lv' := [(2, .int 24), (0, .ref (b + 405)), (1, .int 50)]) B dX9_tick_27 0 rfl (by decide) (by decide) rfl ?_
  refine z_goto (tgt := 18) B dX9_tick_30 (by decide) ?_
  refine z_iload_n B dX9_tick_18 rfl 0 rfl ?_
  refine z_iload_n B dX9_tick_19 rfl 2 rfl ?_
  refine z_icmp_ge (tgt := 33) B dX9_tick_20 (by decide) (fun h => absurd h (by decide)) (fun _ => ?_)
  refine z_aload_n B dX9_tick_23 rfl 1 rfl ?_
  refine z_cVv (As := []) (rest := []) B cw_X9_294 cx_10 dX9_tick_24 (ci_X9_ticks_1045 l (σ := (ap b σ [(405, 1, 24), (405, 1, 23), (405, 1, 22), (405, 1, 21), (405, 1, 20), (405, 1, 19), (405, 1, 18), (405, 1, 17), (405, 1, 16), (405, 1, 15), (405, 1, 14), (405, 1, 13), (405, 1, 12), (405, 1, 11), (405, 1, 10), (405, 1, 9), (405, 1, 8), (405, 1, 7), (405, 1, 6), (405, 1, 5), (405, 1, 4), (405, 1, 3), (405, 1, 2), (405, 1, 1), (405, 0, 0)] [] [])) (b := b) (lyA hK) (rI_at 405 1 rfl) (rI_at 405 6 hI_405_6) (rI_at 405 16 hI_405_16)) (lKA (hk_K hK 405 rfl rfl)) rfl (by decide) rfl (Nat.le_of_ble_eq_true rfl) (by decide) (fun u hu => ?_)
  refine z_eqs (σ' := (ap b σ [(405, 1, 25), (405, 1, 24), (405, 1, 23), (405, 1, 22), (405, 1, 21), (405, 1, 20), (405, 1, 19), (405, 1, 18), (405, 1, 17), (405, 1, 16), (405, 1, 15), (405, 1, 14), (405, 1, 13), (405, 1, 12), (405, 1, 11), (405, 1, 10), (405, 1, 9), (405, 1, 8), (405, 1, 7), (405, 1, 6), (405, 1, 5), (405, 1, 4), (405, 1, 3), (405, 1, 2), (405, 1, 1), (405, 0, 0)] [] [])) (hu.trans ap_ap) ?_
  show zx p l e _ s m _ below meth c g 3 0 0 _ _ 27 [(2, .int 24), (0, .ref (b + 405)), (1, .int 50)] _
  refine z_iinc (v := 25) (lv' := [(2, .int 25), (0, .ref (b + 405)), (1, .int 50)]) B dX9_tick_27 0 rfl (by decide) (by decide) rfl ?_
  refine z_goto (tgt := 18) B dX9_tick_30 (by decide) ?_
  refine z_iload_n B dX9_tick_18 rfl 0 rfl ?_
  refine z_iload_n B dX9_tick_19 rfl 2 rfl ?_
  refine z_icmp_ge (tgt := 33) B dX9_tick_20 (by decide) (fun h => absurd h (by decide)) (fun _ => ?_)
  refine z_aload_n B dX9_tick_23 rfl 1 rfl ?_
  refine z_cVv (As := []) (rest := []) B cw_X9_294 cx_10 dX9_tick_24 (ci_X9_ticks_1050 l (σ := (ap b σ [(405, 1, 25), (405, 1, 24), (405, 1, 23), (405, 1, 22), (405, 1, 21), (405, 1, 20), (405, 1, 19), (405, 1, 18), (405, 1, 17), (405, 1, 16), (405, 1, 15), (405, 1, 14), (405, 1, 13), (405, 1, 12), (405, 1, 11), (405, 1, 10), (405, 1, 9), (405, 1, 8), (405, 1, 7), (405, 1, 6), (405, 1, 5), (405, 1, 4), (405, 1, 3), (405, 1, 2), (405, 1, 1), (405, 0, 0)] [] [])) (b := b) (lyA hK) (rI_at 405 1 rfl) (rI_at 405 6 hI_405_6) (rI_at 405 16 hI_405_16)) (lKA (hk_K hK 405 rfl rfl)) rfl (by decide) rfl (Nat.le_of_ble_eq_true rfl) (by decide) (fun u hu => ?_)
  refine z_eqs (σ' := (ap b σ [(405, 1, 26), (405, 1, 25), (405, 1, 24), (405, 1, 23), (405, 1, 22), (405, 1, 21), (405, 1, 20), (405, 1, 19), (405, 1, 18), (405, 1, 17), (405, 1, 16), (405, 1, 15), (405, 1, 14), (405, 1, 13), (405, 1, 12), (405, 1, 11), (405, 1, 10), (405, 1, 9), (405, 1, 8), (405, 1, 7), (405, 1, 6), (405, 1, 5), (405, 1, 4), (405, 1, 3), (405, 1, 2), (405, 1, 1), (405, 0, 0)] [] [])) (hu.trans ap_ap) ?_
  show zx p l e _ s m _ below meth c g 3 0 0 _ _ 27 [(2, .int 25), (0, .ref (b + 405)), (1, .int 50)] _
  refine z_iinc (v := 26) (lv' := [(2, .int 26), (0, .ref (b + 405)), (1, .int 50)]) B dX9_tick_27 0 rfl (by decide) (by decide) rfl ?_
  refine z_goto (tgt := 18) B dX9_tick_30 (by decide) ?_
  refine z_iload_n B dX9_tick_18 rfl 0 rfl ?_
  refine z_iload_n B dX9_tick_19 rfl 2 rfl ?_
  refine z_icmp_ge (tgt := 33) B dX9_tick_20 (by decide) (fun h => absurd h (by decide)) (fun _ => ?_)
  refine z_aload_n B dX9_tick_23 rfl 1 rfl ?_
  refine z_cVv (As := []) (rest := []) B cw_X9_294 cx_10 dX9_tick_24 (ci_X9_ticks_1055 l (σ := (ap b σ [(405, 1, 26), (405, 1, 25), (405, 1, 24), (405, 1, 23), (405, 1, 22), (405, 1, 21), (405, 1, 20), (405, 1, 19), (405, 1, 18), (405, 1, 17), (405, 1, 16), (405, 1, 15), (405, 1, 14), (405, 1, 13), (405, 1, 12), (405, 1, 11), (405, 1, 10), (405, 1, 9), (405, 1, 8), (405, 1, 7), (405, 1, 6), (405, 1, 5), (405, 1, 4), (405, 1, 3), (405, 1, 2), (405, 1, 1), (405, 0, 0)] [] [])) (b := b) (lyA hK) (rI_at 405 1 rfl) (rI_at 405 6 hI_405_6) (rI_at 405 16 hI_405_16)) (lKA (hk_K hK 405 rfl rfl)) rfl (by decide) rfl (Nat.le_of_ble_eq_true rfl) (by decide) (fun u hu => ?_)
  refine z_eqs (σ' := (ap b σ [(405, 1, 27), (405, 1, 26), (405, 1, 25), (405, 1, 24), (405, 1, 23), (405, 1, 22), (405, 1, 21), (405, 1, 20), (405, 1, 19), (405, 1, 18), (405, 1, 17), (405, 1, 16), (405, 1, 15), (405, 1, 14), (405, 1, 13), (405, 1, 12), (405, 1, 11), (405, 1, 10), (405, 1, 9), (405, 1, 8), (405, 1, 7), (405, 1, 6), (405, 1, 5), (405, 1, 4), (405, 1, 3), (405, 1, 2), (405, 1, 1), (405, 0, 0)] [] [])) (hu.trans ap_ap) ?_
  show zx p l e _ s m _ below meth c g 3 0 0 _ _ 27 [(2, .int 26), (0, .ref (b + 405)), (1, .int 50)] _
  refine z_iinc (v := 27) (lv' := [(2, .int 27), (0, .ref (b + 405)), (1, .int 50)]) B dX9_tick_27 0 rfl (by decide) (by decide) rfl ?_
  refine z_goto (tgt := 18) B dX9_tick_30 (by decide) ?_
  refine z_iload_n B dX9_tick_18 rfl 0 rfl ?_
  refine z_iload_n B dX9_tick_19 rfl 2 rfl ?_
  refine z_icmp_ge (tgt := 33) B dX9_tick_20 (by decide) (fun h => absurd h (by decide)) (fun _ => ?_)
  refine z_aload_n B dX9_tick_23 rfl 1 rfl ?_
  refine z_cVv (As := []) (rest := []) B cw_X9_294 cx_10 dX9_tick_24 (ci_X9_ticks_1060 l (σ := (ap b σ [(405, 1, 27), (405, 1, 26), (405, 1, 25), (405, 1, 24), (405, 1, 23), (405, 1, 22), (405, 1, 21), (405, 1, 20), (405, 1, 19), (405, 1, 18), (405, 1, 17), (405, 1, 16), (405, 1, 15), (405, 1, 14), (405, 1, 13), (405, 1, 12), (405, 1, 11), (405, 1, 10), (405, 1, 9), (405, 1, 8), (405, 1, 7), (405, 1, 6), (405, 1, 5), (405, 1, 4), (405, 1, 3), (405, 1, 2), (405, 1, 1), (405, 0, 0)] [] [])) (b := b) (lyA hK) (rI_at 405 1 rfl) (rI_at 405 6 hI_405_6) (rI_at 405 16 hI_405_16)) (lKA (hk_K hK 405 rfl rfl)) rfl (by decide) rfl (Nat.le_of_ble_eq_true rfl) (by decide) (fun u hu => ?_)
  refine z_eqs (σ' := (ap b σ [(405, 1, 28), (405, 1, 27), (405, 1, 26), (405, 1, 25), (405, 1, 24), (405, 1, 23), (405, 1, 22), (405, 1, 21), (405, 1, 20), (405, 1, 19), (405, 1, 18), (405, 1, 17), (405, 1, 16), (405, 1, 15), (405, 1, 14), (405, 1, 13), (405, 1, 12), (405, 1, 11), (405, 1, 10), (405, 1, 9), (405, 1, 8), (405, 1, 7), (405, 1, 6), (405, 1, 5), (405, 1, 4), (405, 1, 3), (405, 1, 2), (405, 1, 1), (405, 0, 0)] [] [])) (hu.trans ap_ap) ?_
  show zx p l e _ s m _ below meth c g 3 0 0 _ _ 27 [(2, .int 27), (0, .ref (b + 405)), (1, .int 50)] _
  refine z_iinc (v := 28) (lv' := [(2, .int 28), (0, .ref (b + 405)), (1, .int 50)]) B dX9_tick_27 0 rfl (by decide) (by decide) rfl ?_
  refine z_goto (tgt := 18) B dX9_tick_30 (by decide) ?_
  refine z_iload_n B dX9_tick_18 rfl 0 rfl ?_
  refine z_iload_n B dX9_tick_19 rfl 2 rfl ?_
  refine z_icmp_ge (tgt := 33) B dX9_tick_20 (by decide) (fun h => absurd h (by decide)) (fun _ => ?_)
  refine z_aload_n B dX9_tick_23 rfl 1 rfl ?_
  refine z_cVv (As := []) (rest := []) B cw_X9_294 cx_10 dX9_tick_24 (ci_X9_ticks_1065 l (σ := (ap b σ [(405, 1, 28), (405, 1, 27), (405, 1, 26), (405, 1, 25), (405, 1, 24), (405, 1, 23), (405, 1, 22), (405, 1, 21), (405, 1, 20), (405, 1, 19), (405, 1, 18), (405, 1, 17), (405, 1, 16), (405, 1, 15), (405, 1, 14), (405, 1, 13), (405, 1, 12), (405, 1, 11), (405, 1, 10), (405, 1, 9), (405, 1, 8), (405, 1, 7), (405, 1, 6), (405, 1, 5), (405, 1, 4), (405, 1, 3), (405, 1, 2), (405, 1, 1), (405, 0, 0)] [] [])) (b := b) (lyA hK) (rI_at 405 1 rfl) (rI_at 405 6 hI_405_6) (rI_at 405 16 hI_405_16)) (lKA (hk_K hK 405 rfl rfl)) rfl (by decide) rfl (Nat.le_of_ble_eq_true rfl) (by decide) (fun u hu => ?_)
  refine z_eqs (σ' := (ap b σ [(405, 1, 29), (405, 1, 28), (405, 1, 27), (405, 1, 26), (405, 1, 25), (405, 1, 24), (405, 1, 23), (405, 1, 22), (405, 1, 21), (405, 1, 20), (405, 1, 19), (405, 1, 18), (405, 1, 17), (405, 1, 16), (405, 1, 15), (405, 1, 14), (405, 1, 13), (405, 1, 12), (405, 1, 11), (405, 1, 10), (405, 1, 9), (405, 1, 8), (405, 1, 7), (405, 1, 6), (405, 1, 5), (405, 1, 4), (405, 1, 3), (405, 1, 2), (405, 1, 1), (405, 0, 0)] [] [])) (hu.trans ap_ap) ?_
  show zx p l e _ s m _ below meth c g 3 0 0 _ _ 27 [(2, .int 28), (0, .ref (b + 405)), (1, .int 50)] _
  refine z_iinc (v := 29) (lv' := [(2, .int 29), (0, .ref (b + 405)), (1, .int 50)]) B dX9_tick_27 0 rfl (by decide) (by decide) rfl ?_
  refine z_goto (tgt := 18) B dX9_tick_30 (by decide) ?_
  refine z_iload_n B dX9_tick_18 rfl 0 rfl ?_
  refine z_iload_n B dX9_tick_19 rfl 2 rfl ?_
  refine z_icmp_ge (tgt := 33) B dX9_tick_20 (by decide) (fun h => absurd h (by decide)) (fun _ => ?_)
  refine z_aload_n B dX9_tick_23 rfl 1 rfl ?_
  refine z_cVv (As := []) (rest := []) B cw_X9_294 cx_10 dX9_tick_24 (ci_X9_ticks_1070 l (σ := (ap b σ [(405, 1, 29), (405, 1, 28), (405, 1, 27), (405, 1, 26), (405, 1, 25), (405, 1, 24), (405, 1, 23), (405, 1, 22), (405, 1, 21), (405, 1, 20), (405, 1, 19), (405, 1, 18), (405, 1, 17), (405, 1, 16), (405, 1, 15), (405, 1, 14), (405, 1, 13), (405, 1, 12), (405, 1, 11), (405, 1, 10), (405, 1, 9), (405, 1, 8), (405, 1, 7), (405, 1, 6), (405, 1, 5), (405, 1, 4), (405, 1, 3), (405, 1, 2), (405, 1, 1), (405, 0, 0)] [] [])) (b := b) (lyA hK) (rI_at 405 1 rfl) (rI_at 405 6 hI_405_6) (rI_at 405 16 hI_405_16)) (lKA (hk_K hK 405 rfl rfl)) rfl (by decide) rfl (Nat.le_of_ble_eq_true rfl) (by decide) (fun u hu => ?_)
  refine z_eqs (σ' := (ap b σ [(405, 1, 30), (405, 1, 29), (405, 1, 28), (405, 1, 27), (405, 1, 26), (405, 1, 25), (405, 1, 24), (405, 1, 23), (405, 1, 22), (405, 1, 21), (405, 1, 20), (405, 1, 19), (405, 1, 18), (405, 1, 17), (405, 1, 16), (405, 1, 15), (405, 1, 14), (405, 1, 13), (405, 1, 12), (405, 1, 11), (405, 1, 10), (405, 1, 9), (405, 1, 8), (405, 1, 7), (405, 1, 6), (405, 1, 5), (405, 1, 4), (405, 1, 3), (405, 1, 2), (405, 1, 1), (405, 0, 0)] [] [])) (hu.trans ap_ap) ?_
  show zx p l e _ s m _ below meth c g 3 0 0 _ _ 27 [(2, .int 29), (0, .ref (b + 405)), (1, .int 50)] _
  refine z_iinc (v := 30) (lv' := [(2, .int 30), (0, .ref (b + 405)), (1, .int 50)]) B dX9_tick_27 0 rfl (by decide) (by decide) rfl ?_
  refine z_goto (tgt := 18) B dX9_tick_30 (by decide) ?_
  refine z_iload_n B dX9_tick_18 rfl 0 rfl ?_
  refine z_iload_n B dX9_tick_19 rfl 2 rfl ?_
  refine z_icmp_ge (tgt := 33) B dX9_tick_20 (by decide) (fun h => absurd h (by decide)) (fun _ => ?_)
  refine z_aload_n B dX9_tick_23 rfl 1 rfl ?_
  refine z_cVv (As := []) (rest := []) B cw_X9_294 cx_10 dX9_tick_24 (ci_X9_ticks_1075 l (σ := (ap b σ [(405, 1, 30), (405, 1, 29), (405, 1, 28), (405, 1, 27), (405, 1, 26), (405, 1, 25), (405, 1, 24), (405, 1, 23), (405, 1, 22), (405, 1, 21), (405, 1, 20), (405, 1, 19), (405, 1, 18), (405, 1, 17), (405, 1, 16), (405, 1, 15), (405, 1, 14), (405, 1, 13), (405, 1, 12), (405, 1, 11), (405, 1, 10), (405, 1, 9), (405, 1, 8), (405, 1, 7), (405, 1, 6), (405, 1, 5), (405, 1, 4), (405, 1, 3), (405, 1, 2), (405, 1, 1), (405, 0, 0)] [] [])) (b := b) (lyA hK) (rI_at 405 1 rfl) (rI_at 405 6 hI_405_6) (rI_at 405 16 hI_405_16)) (lKA (hk_K hK 405 rfl rfl)) rfl (by decide) rfl (Nat.le_of_ble_eq_true rfl) (by decide) (fun u hu => ?_)
  refine z_eqs (σ' := (ap b σ [(405, 1, 31), (405, 1, 30), (405, 1, 29), (405, 1, 28), (405, 1, 27), (405, 1, 26), (405, 1, 25), (405, 1, 24), (405, 1, 23), (405, 1, 22), (405, 1, 21), (405, 1, 20), (405, 1, 19), (405, 1, 18), (405, 1, 17), (405, 1, 16), (405, 1, 15), (405, 1, 14), (405, 1, 13), (405, 1, 12), (405, 1, 11), (405, 1, 10), (405, 1, 9), (405, 1, 8), (405, 1, 7), (405, 1, 6), (405, 1, 5), (405, 1, 4), (405, 1, 3), (405, 1, 2), (405, 1, 1), (405, 0, 0)] [] [])) (hu.trans ap_ap) ?_
  show zx p l e _ s m _ below meth c g 3 0 0 _ _ 27 [(2, .int 30), (0, .ref (b + 405)), (1, .int 50)] _
  refine z_iinc (v := 31) (lv' := [(2, .int 31), (0, .ref (b + 405)), (1, .int 50)]) B dX9_tick_27 0 rfl (by decide) (by decide) rfl ?_
  refine z_goto (tgt := 18) B dX9_tick_30 (by decide) ?_
  refine z_iload_n B dX9_tick_18 rfl 0 rfl ?_
  refine z_iload_n B dX9_tick_19 rfl 2 rfl ?_
  refine z_icmp_ge (tgt := 33) B dX9_tick_20 (by decide) (fun h => absurd h (by decide)) (fun _ => ?_)
  refine z_aload_n B dX9_tick_23 rfl 1 rfl ?_
  refine z_cVv (As := []) (rest := []) B cw_X9_294 cx_10 dX9_tick_24 (ci_X9_ticks_1080 l (σ := (ap b σ [(405, 1, 31), (405, 1, 30), (405, 1, 29), (405, 1, 28), (405, 1, 27), (405, 1, 26), (405, 1, 25), (405, 1, 24), (405, 1, 23), (405, 1, 22), (405, 1, 21), (405, 1, 20), (405, 1, 19), (405, 1, 18), (405, 1, 17), (405, 1, 16), (405, 1, 15), (405, 1, 14), (405, 1, 13), (405, 1, 12), (405, 1, 11), (405, 1, 10), (405, 1, 9), (405, 1, 8), (405, 1, 7), (405, 1, 6), (405, 1, 5), (405, 1, 4), (405, 1, 3), (405, 1, 2), (405, 1, 1), (405, 0, 0)] [] [])) (b := b) (lyA hK) (rI_at 405 1 rfl) (rI_at 405 6 hI_405_6) (rI_at 405 16 hI_405_16)) (lKA (hk_K hK 405 rfl rfl)) rfl (by decide) rfl (Nat.le_of_ble_eq_true rfl) (by decide) (fun u hu => ?_)
  refine z_eqs (σ' := (ap b σ [(405, 1, 32), (405, 1, 31), (405, 1, 30), (405, 1, 29), (405, 1, 28), (405, 1, 27), (405, 1, 26), (405, 1, 25), (405, 1, 24), (405, 1, 23), (405, 1, 22), (405, 1, 21), (405, 1, 20), (405, 1, 19), (405, 1, 18), (405, 1, 17), (405, 1, 16), (405, 1, 15), (405, 1, 14), (405, 1, 13), (405, 1, 12), (405, 1, 11), (405, 1, 10), (405, 1, 9), (405, 1, 8), (405, 1, 7), (405, 1, 6), (405, 1, 5), (405, 1, 4), (405, 1, 3), (405, 1, 2), (405, 1, 1), (405, 0, 0)] [] [])) (hu.trans ap_ap) ?_
  show zx p l e _ s m _ below meth c g 3 0 0 _ _ 27 [(2, .int 31), (0, .ref (b + 405)), (1, .int 50)] _
  refine z_iinc (v := 32) (lv' := [(2, .int 32), (0, .ref (b + 405)), (1, .int 50)]) B dX9_tick_27 0 rfl (by decide) (by decide) rfl ?_
  refine z_goto (tgt := 18) B dX9_tick_30 (by decide) ?_
  refine z_iload_n B dX9_tick_18 rfl 0 rfl ?_
  refine z_iload_n B dX9_tick_19 rfl 2 rfl ?_
  refine z_icmp_ge (tgt := 33) B dX9_tick_20 (by decide) (fun h => absurd h (by decide)) (fun _ => ?_)
  refine z_aload_n B dX9_tick_23 rfl 1 rfl ?_
  refine z_cVv (As := []) (rest := []) B cw_X9_294 cx_10 dX9_tick_24 (ci_X9_ticks_1085 l (σ := (ap b σ [(405, 1, 32), (405, 1, 31), (405, 1, 30), (405, 1, 29), (405, 1, 28), (405, 1, 27), (405, 1, 26), (405, 1, 25), (405, 1, 24), (405, 1, 23), (405, 1, 22), (405, 1, 21), (405, 1, 20), (405, 1, 19), (405, 1, 18), (405, 1, 17), (405, 1, 16), (405, 1, 15), (405, 1, 14), (405, 1, 13), (405, 1, 12), (405, 1, 11), (405, 1, 10), (405, 1, 9), (405, 1, 8), (405, 1, 7), (405, 1, 6), (405, 1, 5), (405, 1, 4), (405, 1, 3), (405, 1, 2), (405, 1, 1), (405, 0, 0)] [] [])) (b := b) (lyA hK) (rI_at 405 1 rfl) (rI_at 405 6 hI_405_6) (rI_at 405 16 hI_405_16)) (lKA (hk_K hK 405 rfl rfl)) rfl (by decide) rfl (Nat.le_of_ble_eq_true rfl) (by decide) (fun u hu => ?_)
  refine z_eqs (σ' := (ap b σ [(405, 1, 33), (405, 1, 32), (405, 1, 31), (405, 1, 30), (405, 1, 29), (405, 1, 28), (405, 1, 27), (405, 1, 26), (405, 1, 25), (405, 1, 24), (405, 1, 23), (405, 1, 22), (405, 1, 21), (405, 1, 20), (405, 1, 19), (405, 1, 18), (405, 1, 17), (405, 1, 16), (405, 1, 15), (405, 1, 14), (405, 1, 13), (405, 1, 12), (405, 1, 11), (405, 1, 10), (405, 1, 9), (405, 1, 8), (405, 1, 7), (405, 1, 6), (405, 1, 5), (405, 1, 4), (405, 1, 3), (405, 1, 2), (405, 1, 1), (405, 0, 0)] [] [])) (hu.trans ap_ap) ?_
  show zx p l e _ s m _ below meth c g 3 0 0 _ _ 27 [(2, .int 32), (0, .ref (b + 405)), (1, .int 50)] _
  refine z_iinc (v := 33) (lv' := [(2, .int 33), (0, .ref (b + 405)), (1, .int 50)]) B dX9_tick_27 0 rfl (by decide) (by decide) rfl ?_
  refine z_goto (tgt := 18) B dX9_tick_30 (by decide) ?_
  refine z_iload_n B dX9_tick_18 rfl 0 rfl ?_
  refine z_iload_n B dX9_tick_19 rfl 2 rfl ?_
  refine z_icmp_ge (tgt := 33) B dX9_tick_20 (by decide) (fun h => absurd h (by decide)) (fun _ => ?_)
  refine z_aload_n B dX9_tick_23 rfl 1 rfl ?_
  refine z_cVv (As := []) (rest := []) B cw_X9_294 cx_10 dX9_tick_24 (ci_X9_ticks_1090 l (σ := (ap b σ [(405, 1, 33), (405, 1, 32), (405, 1, 31), (405, 1, 30), (405, 1, 29), (405, 1, 28), (405, 1, 27), (405, 1, 26), (405, 1, 25), (405, 1, 24), (405, 1, 23), (405, 1, 22), (405, 1, 21), (405, 1, 20), (405, 1, 19), (405, 1, 18), (405, 1, 17), (405, 1, 16), (405, 1, 15), (405, 1, 14), (405, 1, 13), (405, 1, 12), (405, 1, 11), (405, 1, 10), (405, 1, 9), (405, 1, 8), (405, 1, 7), (405, 1, 6), (405, 1, 5), (405, 1, 4), (405, 1, 3), (405, 1, 2), (405, 1, 1), (405, 0, 0)] [] [])) (b := b) (lyA hK) (rI_at 405 1 rfl) (rI_at 405 6 hI_405_6) (rI_at 405 16 hI_405_16)) (lKA (hk_K hK 405 rfl rfl)) rfl (by decide) rfl (Nat.le_of_ble_eq_true rfl) (by decide) (fun u hu => ?_)
  refine z_eqs (σ' := (ap b σ [(405, 1, 34), (405, 1, 33), (405, 1, 32), (405, 1, 31), (405, 1, 30), (405, 1, 29), (405, 1, 28), (405, 1, 27), (405, 1, 26), (405, 1, 25), (405, 1, 24), (405, 1, 23), (405, 1, 22), (405, 1, 21), (405, 1, 20), (405, 1, 19), (405, 1, 18), (405, 1, 17), (405, 1, 16), (405, 1, 15), (405, 1, 14), (405, 1, 13), (405, 1, 12), (405, 1, 11), (405, 1, 10), (405, 1, 9), (405, 1, 8), (405, 1, 7), (405, 1, 6), (405, 1, 5), (405, 1, 4), (405, 1, 3), (405, 1, 2), (405, 1, 1), (405, 0, 0)] [] [])) (hu.trans ap_ap) ?_
  show zx p l e _ s m _ below meth c g 3 0 0 _ _ 27 [(2, .int 33), (0, .ref (b + 405)), (1, .int 50)] _
  refine z_iinc (v := 34) (lv' := [(2, .int 34), (0, .ref (b + 405)), (1, .int 50)]) B dX9_tick_27 0 rfl (by decide) (by decide) rfl ?_
  refine z_goto (tgt := 18) B dX9_tick_30 (by decide) ?_
  refine z_iload_n B dX9_tick_18 rfl 0 rfl ?_
  refine z_iload_n B dX9_tick_19 rfl 2 rfl ?_
  refine z_icmp_ge (tgt := 33) B dX9_tick_20 (by decide) (fun h => absurd h (by decide)) (fun _ => ?_)
  refine z_aload_n B dX9_tick_23 rfl 1 rfl ?_
  refine z_cVv (As := []) (rest := []) B cw_X9_294 cx_10 dX9_tick_24 (ci_X9_ticks_1095 l (σ := (ap b σ [(405, 1, 34), (405, 1, 33), (405, 1, 32), (405, 1, 31), (405, 1, 30), (405, 1, 29), (405, 1, 28), (405, 1, 27), (405, 1, 26), (405, 1, 25), (405, 1, 24), (405, 1, 23), (405, 1, 22), (405, 1, 21), (405, 1, 20), (405, 1, 19), (405, 1, 18), (405, 1, 17), (405, 1, 16), (405, 1, 15), (405, 1, 14), (405, 1, 13), (405, 1, 12), (405, 1, 11), (405, 1, 10), (405, 1, 9), (405, 1, 8), (405, 1, 7), (405, 1, 6), (405, 1, 5), (405, 1, 4), (405, 1, 3), (405, 1, 2), (405, 1, 1), (405, 0, 0)] [] [])) (b := b) (lyA hK) (rI_at 405 1 rfl) (rI_at 405 6 hI_405_6) (rI_at 405 16 hI_405_16)) (lKA (hk_K hK 405 rfl rfl)) rfl (by decide) rfl (Nat.le_of_ble_eq_true rfl) (by decide) (fun u hu => ?_)
  refine z_eqs (σ' := (ap b σ [(405, 1, 35), (405, 1, 34), (405, 1, 33), (405, 1, 32), (405, 1, 31), (405, 1, 30), (405, 1, 29), (405, 1, 28), (405, 1, 27), (405, 1, 26), (405, 1, 25), (405, 1, 24), (405, 1, 23), (405, 1, 22), (405, 1, 21), (405, 1, 20), (405, 1, 19), (405, 1, 18), (405, 1, 17), (405, 1, 16), (405, 1, 15), (405, 1, 14), (405, 1, 13), (405, 1, 12), (405, 1, 11), (405, 1, 10), (405, 1, 9), (405, 1, 8), (405, 1, 7), (405, 1, 6), (405, 1, 5), (405, 1, 4), (405, 1, 3), (405, 1, 2), (405, 1, 1), (405, 0, 0)] [] [])) (hu.trans ap_ap) ?_
  show zx p l e _ s m _ below meth c g 3 0 0 _ _ 27 [(2, .int 34), (0, .ref (b + 405)), (1, .int 50)] _
  refine z_iinc (v := 35) (lv' := [(2, .int 35), (0, .ref (b + 405)), (1, .int 50)]) B dX9_tick_27 0 rfl (by decide) (by decide) rfl ?_
  refine z_goto (tgt := 18) B dX9_tick_30 (by decide) ?_
  refine z_iload_n B dX9_tick_18 rfl 0 rfl ?_
  refine z_iload_n B dX9_tick_19 rfl 2 rfl ?_
  refine z_icmp_ge (tgt := 33) B dX9_tick_20 (by decide) (fun h => absurd h (by decide)) (fun _ => ?_)
  refine z_aload_n B dX9_tick_23 rfl 1 rfl ?_
  refine z_cVv (As := []) (rest := []) B cw_X9_294 cx_10 dX9_tick_24 (ci_X9_ticks_1100 l (σ := (ap b σ [(405, 1, 35), (405, 1, 34), (405, 1, 33), (405, 1, 32), (405, 1, 31), (405, 1, 30), (405, 1, 29), (405, 1, 28), (405, 1, 27), (405, 1, 26), (405, 1, 25), (405, 1, 24), (405, 1, 23), (405, 1, 22), (405, 1, 21), (405, 1, 20), (405, 1, 19), (405, 1, 18), (405, 1, 17), (405, 1, 16), (405, 1, 15), (405, 1, 14), (405, 1, 13), (405, 1, 12), (405, 1, 11), (405, 1, 10), (405, 1, 9), (405, 1, 8), (405, 1, 7), (405, 1, 6), (405, 1, 5), (405, 1, 4), (405, 1, 3), (405, 1, 2), (405, 1, 1), (405, 0, 0)] [] [])) (b := b) (lyA hK) (rI_at 405 1 rfl) (rI_at 405 6 hI_405_6) (rI_at 405 16 hI_405_16)) (lKA (hk_K hK 405 rfl rfl)) rfl (by decide) rfl (Nat.le_of_ble_eq_true rfl) (by decide) (fun u hu => ?_)
  refine z_eqs (σ' := (ap b σ [(405, 1, 36), (405, 1, 35), (405, 1, 34), (405, 1, 33), (405, 1, 32), (405, 1, 31), (405, 1, 30), (405, 1, 29), (405, 1, 28), (405, 1, 27), (405, 1, 26), (405, 1, 25), (405, 1, 24), (405, 1, 23), (405, 1, 22), (405, 1, 21), (405, 1, 20), (405, 1, 19), (405, 1, 18), (405, 1, 17), (405, 1, 16), (405, 1, 15), (405, 1, 14), (405, 1, 13), (405, 1, 12), (405, 1, 11), (405, 1, 10), (405, 1, 9), (405, 1, 8), (405, 1, 7), (405, 1, 6), (405, 1, 5), (405, 1, 4), (405, 1, 3), (405, 1, 2), (405, 1, 1), (405, 0, 0)] [] [])) (hu.trans ap_ap) ?_
  show zx p l e _ s m _ below meth c g 3 0 0 _ _ 27 [(2, .int 35), (0, .ref (b + 405)), (1, .int 50)] _
  refine z_iinc (v := 36) (lv' := [(2, .int 36), (0, .ref (b + 405)), (1, .int 50)]) B dX9_tick_27 0 rfl (by decide) (by decide) rfl ?_
  refine z_goto (tgt := 18) B dX9_tick_30 (by decide) ?_
  refine z_iload_n B dX9_tick_18 rfl 0 rfl ?_
  refine z_iload_n B dX9_tick_19 rfl 2 rfl ?_
  refine z_icmp_ge (tgt := 33) B dX9_tick_20 (by decide) (fun h => absurd h (by decide)) (fun _ => ?_)
  refine z_aload_n B dX9_tick_23 rfl 1 rfl ?_
  refine z_cVv (As := []) (rest := []) B cw_X9_294 cx_10 dX9_tick_24 (ci_X9_ticks_1105 l (σ := (ap b σ [(405, 1, 36), (405, 1, 35), (405, 1, 34), (405, 1, 33), (405, 1, 32), (405, 1, 31), (405, 1, 30), (405, 1, 29), (405, 1, 28), (405, 1, 27), (405, 1, 26), (405, 1, 25), (405, 1, 24), (405, 1, 23), (405, 1, 22), (405, 1, 21), (405, 1, 20), (405, 1, 19), (405, 1, 18), (405, 1, 17), (405, 1, 16), (405, 1, 15), (405, 1, 14), (405, 1, 13), (405, 1, 12), (405, 1, 11), (405, 1, 10), (405, 1, 9), (405, 1, 8), (405, 1, 7), (405, 1, 6), (405, 1, 5), (405, 1, 4), (405, 1, 3), (405, 1, 2), (405, 1, 1), (405, 0, 0)] [] [])) (b := b) (lyA hK) (rI_at 405 1 rfl) (rI_at 405 6 hI_405_6) (rI_at 405 16 hI_405_16)) (lKA (hk_K hK 405 rfl rfl)) rfl (by decide) rfl (Nat.le_of_ble_eq_true rfl) (by decide) (fun u hu => ?_)
  refine z_eqs (σ' := (ap b σ [(405, 1, 37), (405, 1, 36), (405, 1, 35), (405, 1, 34), (405, 1, 33), (405, 1, 32), (405, 1, 31), (405, 1, 30), (405, 1, 29), (405, 1, 28), (405, 1, 27), (405, 1, 26), (405, 1, 25), (405, 1, 24), (405, 1, 23), (405, 1, 22), (405, 1, 21), (405, 1, 20), (405, 1, 19), (405, 1, 18), (405, 1, 17), (405, 1, 16), (405, 1, 15), (405, 1, 14), (405, 1, 13), (405, 1, 12), (405, 1, 11), (405, 1, 10), (405, 1, 9), (405, 1, 8), (405, 1, 7), (405, 1, 6), (405, 1, 5), (405, 1, 4), (405, 1, 3), (405, 1, 2), (405, 1, 1), (405, 0, 0)] [] [])) (hu.trans ap_ap) ?_
  show zx p l e _ s m _ below meth c g 3 0 0 _ _ 27 [(2, .int 36), (0, .ref (b + 405)), (1, .int 50)] _
  refine z_iinc (v := 37) (lv' := [(2, .int 37), (0, .ref (b + 405)), (1, .int 50)]) B dX9_tick_27 0 rfl (by decide) (by decide) rfl ?_
  refine z_goto (tgt := 18) B dX9_tick_30 (by decide) ?_
  refine z_iload_n B dX9_tick_18 rfl 0 rfl ?_
  refine z_iload_n B dX9_tick_19 rfl 2 rfl ?_
  refine z_icmp_ge (tgt := 33) B dX9_tick_20 (by decide) (fun h => absurd h (by decide)) (fun _ => ?_)
  refine z_aload_n B dX9_tick_23 rfl 1 rfl ?_
  refine z_cVv (As := []) (rest := []) B cw_X9_294 cx_10 dX9_tick_24 (ci_X9_ticks_1110 l (σ := (ap b σ [(405, 1, 37), (405, 1, 36), (405, 1, 35), (405, 1, 34), (405, 1, 33), (405, 1, 32), (405, 1, 31), (405, 1, 30), (405, 1, 29), (405, 1, 28), (405, 1, 27), (405, 1, 26), (405, 1, 25), (405, 1, 24), (405, 1, 23), (405, 1, 22), (405, 1, 21), (405, 1, 20), (405, 1, 19), (405, 1, 18), (405, 1, 17), (405, 1, 16), (405, 1, 15), (405, 1, 14), (405, 1, 13), (405, 1, 12), (405, 1, 11), (405, 1, 10), (405, 1, 9), (405, 1, 8), (405, 1, 7), (405, 1, 6), (405, 1, 5), (405, 1, 4), (405, 1, 3), (405, 1, 2), (405, 1, 1), (405, 0, 0)] [] [])) (b := b) (lyA hK) (rI_at 405 1 rfl) (rI_at 405 6 hI_405_6) (rI_at 405 16 hI_405_16)) (lKA (hk_K hK 405 rfl rfl)) rfl (by decide) rfl (Nat.le_of_ble_eq_true rfl) (by decide) (fun u hu => ?_)
  refine z_eqs (σ' := (ap b σ [(405, 1, 38), (405, 1, 37), (405, 1, 36), (405, 1, 35), (405, 1, 34), (405, 1, 33), (405, 1, 32), (405, 1, 31), (405, 1, 30), (405, 1, 29), (405, 1, 28), (405, 1, 27), (405, 1, 26), (405, 1, 25), (405, 1, 24), (405, 1, 23), (405, 1, 22), (405, 1, 21), (405, 1, 20), (405, 1, 19), (405, 1, 18), (405, 1, 17), (405, 1, 16), (405, 1, 15), (405, 1, 14), (405, 1, 13), (405, 1, 12), (405, 1, 11), (405, 1, 10), (405, 1, 9), (405, 1, 8), (405, 1, 7), (405, 1, 6), (405, 1, 5), (405, 1, 4), (405, 1, 3), (405, 1, 2), (405, 1, 1), (405, 0, 0)] [] [])) (hu.trans ap_ap) ?_
  show zx p l e _ s m _ below meth c g 3 0 0 _ _ 27 [(2, .int 37), (0, .ref (b + 405)), (1, .int 50)] _
  refine z_iinc (v := 38) (lv' := [(2, .int 38), (0, .ref (b + 405)), (1, .int 50)]) B dX9_tick_27 0 rfl (by decide) (by decide) rfl ?_
  refine z_goto (tgt := 18) B dX9_tick_30 (by decide) ?_
  refine z_iload_n B dX9_tick_18 rfl 0 rfl ?_
  refine z_iload_n B dX9_tick_19 rfl 2 rfl ?_
  refine z_icmp_ge (tgt := 33) B dX9_tick_20 (by decide) (fun h => absurd h (by decide)) (fun _ => ?_)
  refine z_aload_n B dX9_tick_23 rfl 1 rfl ?_
  refine z_cVv (As := []) (rest := []) B cw_X9_294 cx_10 dX9_tick_24 (ci_X9_ticks_1115 l (σ := (ap b σ [(405, 1, 38), (405, 1, 37), (405, 1, 36), (405, 1, 35), (405, 1, 34), (405, 1, 33), (405, 1, 32), (405, 1, 31), (405, 1, 30), (405, 1, 29), (405, 1, 28), (405, 1, 27), (405, 1, 26), (405, 1, 25), (405, 1, 24), (405, 1, 23), (405, 1, 22), (405, 1, 21), (405, 1, 20), (405, 1, 19), (405, 1, 18), (405, 1, 17), (405, 1, 16), (405, 1, 15), (405, 1, 14), (405, 1, 13), (405, 1, 12), (405, 1, 11), (405, 1, 10), (405, 1, 9), (405, 1, 8), (405, 1, 7), (405, 1, 6), (405, 1, 5), (405, 1, 4), (405, 1, 3), (405, 1, 2), (405, 1, 1), (405, 0, 0)] [] [])) (b := b) (lyA hK) (rI_at 405 1 rfl) (rI_at 405 6 hI_405_6) (rI_at 405 16 hI_405_16)) (lKA (hk_K hK 405 rfl rfl)) rfl (by decide) rfl (Nat.le_of_ble_eq_true rfl) (by decide) (fun u hu => ?_)
  refine z_eqs (σ' := (ap b σ [(405, 1, 39), (405, 1, 38), (405, 1, 37), (405, 1, 36), (405, 1, 35), (405, 1, 34), (405, 1, 33), (405, 1, 32), (405, 1, 31), (405, 1, 30), (405, 1, 29), (405, 1, 28), (405, 1, 27), (405, 1, 26), (405, 1, 25), (405, 1, 24), (405, 1, 23), (405, 1, 22), (405, 1, 21), (405, 1, 20), (405, 1, 19), (405, 1, 18), (405, 1, 17), (405, 1, 16), (405, 1, 15), (405, 1, 14), (405, 1, 13), (405, 1, 12), (405, 1, 11), (405, 1, 10), (405, 1, 9), (405, 1, 8), (405, 1, 7), (405, 1, 6), (405, 1, 5), (405, 1, 4), (405, 1, 3), (405, 1, 2), (405, 1, 1), (405, 0, 0)] [] [])) (hu.trans ap_ap) ?_
  show zx p l e _ s m _ below meth c g 3 0 0 _ _ 27 [(2, .int 38), (0, .ref (b + 405)), (1, .int 50)] _
  refine z_iinc (v := 39) (lv' := [(2, .int 39), (0, .ref (b + 405)), (1, .int 50)]) B dX9_tick_27 0 rfl (by decide) (by decide) rfl ?_
  refine z_goto (tgt := 18) B dX9_tick_30 (by decide) ?_
  refine z_iload_n B dX9_tick_18 rfl 0 rfl ?_
  refine z_iload_n B dX9_tick_19 rfl 2 rfl ?_
  refine z_icmp_ge (tgt := 33) B dX9_tick_20 (by decide) (fun h => absurd h (by decide)) (fun _ => ?_)
  refine z_aload_n B dX9_tick_23 rfl 1 rfl ?_
  refine z_cVv (As := []) (rest := []) B cw_X9_294 cx_10 dX9_tick_24 (ci_X9_ticks_1120 l (σ := (ap b σ [(405, 1, 39), (405, 1, 38), (405, 1, 37), (405, 1, 36), (405, 1, 35), (405, 1, 34), (405, 1, 33), (405, 1, 32), (405, 1, 31), (405, 1, 30), (405, 1, 29), (405, 1, 28), (405, 1, 27), (405, 1, 26), (405, 1, 25), (405, 1, 24), (405, 1, 23), (405, 1, 22), (405, 1, 21), (405, 1, 20), (405, 1, 19), (405, 1, 18), (405, 1, 17), (405, 1, 16), (405, 1, 15), (405, 1, 14), (405, 1, 13), (405, 1, 12), (405, 1, 11), (405, 1, 10), (405, 1, 9), (405, 1, 8), (405, 1, 7), (405, 1, 6), (405, 1, 5), (405, 1, 4), (405, 1, 3), (405, 1, 2), (405, 1, 1), (405, 0, 0)] [] [])) (b := b) (lyA hK) (rI_at 405 1 rfl) (rI_at 405 6 hI_405_6) (rI_at 405 16 hI_405_16)) (lKA (hk_K hK 405 rfl rfl)) rfl (by decide) rfl (Nat.le_of_ble_eq_true rfl) (by decide) (fun u hu => ?_)
  refine z_eqs (σ' := (ap b σ [(405, 1, 40), (405, 1, 39), (405, 1, 38), (405, 1, 37), (405, 1, 36), (405, 1, 35), (405, 1, 34), (405, 1, 33), (405, 1, 32), (405, 1, 31), (405, 1, 30), (405, 1, 29), (405, 1, 28), (405, 1, 27), (405, 1, 26), (405, 1, 25), (405, 1, 24), (405, 1, 23), (405, 1, 22), (405, 1, 21), (405, 1, 20), (405, 1, 19), (405, 1, 18), (405, 1, 17), (405, 1, 16), (405, 1, 15), (405, 1, 14), (405, 1, 13), (405, 1, 12), (405, 1, 11), (405, 1, 10), (405, 1, 9), (405, 1, 8), (405, 1, 7), (405, 1, 6), (405, 1, 5), (405, 1, 4), (405, 1, 3), (405, 1, 2), (405, 1, 1), (405, 0, 0)] [] [])) (hu.trans ap_ap) ?_
  show zx p l e _ s m _ below meth c g 3 0 0 _ _ 27 [(2, .int 39), (0, .ref (b + 405)), (1, .int 50)] _
  refine z_iinc (v := 40) (lv' := [(2, .int 40), (0, .ref (b + 405)), (1, .int 50)]) B dX9_tick_27 0 rfl (by decide) (by decide) rfl ?_
  refine z_goto (tgt := 18) B dX9_tick_30 (by decide) ?_
  refine z_iload_n B dX9_tick_18 rfl 0 rfl ?_
  refine z_iload_n B dX9_tick_19 rfl 2 rfl ?_
  refine z_icmp_ge (tgt := 33) B dX9_tick_20 (by decide) (fun h => absurd h (by decide)) (fun _ => ?_)
  refine z_aload_n B dX9_tick_23 rfl 1 rfl ?_
  refine z_cVv (As := []) (rest := []) B cw_X9_294 cx_10 dX9_tick_24 (ci_X9_ticks_1125 l (σ := (ap b σ [(405, 1, 40), (405, 1, 39), (405, 1, 38), (405, 1, 37), (405, 1, 36), (405, 1, 35), (405, 1, 34), (405, 1, 33), (405, 1, 32), (405, 1, 31), (405, 1, 30), (405, 1, 29), (405, 1, 28), (405, 1, 27), (405, 1, 26), (405, 1, 25), (405, 1, 24), (405, 1, 23), (405, 1, 22), (405, 1, 21), (405, 1, 20), (405, 1, 19), (405, 1, 18), (405, 1, 17), (405, 1, 16), (405, 1, 15), (405, 1, 14), (405, 1, 13), (405, 1, 12), (405, 1, 11), (405, 1, 10), (405, 1, 9), (405, 1, 8), (405, 1, 7), (405, 1, 6), (405, 1, 5), (405, 1, 4), (405, 1, 3), (405, 1, 2), (405, 1, 1), (405, 0, 0)] [] [])) (b := b) (lyA hK) (rI_at 405 1 rfl) (rI_at 405 6 hI_405_6) (rI_at 405 16 hI_405_16)) (lKA (hk_K hK 405 rfl rfl)) rfl (by decide) rfl (Nat.le_of_ble_eq_true rfl) (by decide) (fun u hu => ?_)
  refine z_eqs (σ' := (ap b σ [(405, 1, 41), (405, 1, 40), (405, 1, 39), (405, 1, 38), (405, 1, 37), (405, 1, 36), (405, 1, 35), (405, 1, 34), (405, 1, 33), (405, 1, 32), (405, 1, 31), (405, 1, 30), (405, 1, 29), (405, 1, 28), (405, 1, 27), (405, 1, 26), (405, 1, 25), (405, 1, 24), (405, 1, 23), (405, 1, 22), (405, 1, 21), (405, 1, 20), (405, 1, 19), (405, 1, 18), (405, 1, 17), (405, 1, 16), (405, 1, 15), (405, 1, 14), (405, 1, 13), (405, 1, 12), (405, 1, 11), (405, 1, 10), (405, 1, 9), (405, 1, 8), (405, 1, 7), (405, 1, 6), (405, 1, 5), (405, 1, 4), (405, 1, 3), (405, 1, 2), (405, 1, 1), (405, 0, 0)] [] [])) (hu.trans ap_ap) ?_
  show zx p l e _ s m _ below meth c g 3 0 0 _ _ 27 [(2, .int 40), (0, .ref (b + 405)), (1, .int 50)] _
  refine z_iinc (v := 41) (lv' := [(2, .int 41), (0, .ref (b + 405)), (1, .int 50)]) B dX9_tick_27 0 rfl (by decide) (by decide) rfl ?_
  refine z_goto (tgt := 18) B dX9_tick_30 (by decide) ?_
  refine z_iload_n B dX9_tick_18 rfl 0 rfl ?_
  refine z_iload_n B dX9_tick_19 rfl 2 rfl ?_
  refine z_icmp_ge (tgt := 33) B dX9_tick_20 (by decide) (fun h => absurd h (by decide)) (fun _ => ?_)
  refine z_aload_n B dX9_tick_23 rfl 1 rfl ?_
  refine z_cVv (As := []) (rest := []) B cw_X9_294 cx_10 dX9_tick_24 (ci_X9_ticks_1130 l (σ := (ap b σ [(405, 1, 41), (405, 1, 40), (405, 1, 39), (405, 1, 38), (405, 1, 37), (405, 1, 36), (405, 1, 35), (405, 1, 34), (405, 1, 33), (405, 1, 32), (405, 1, 31), (405, 1, 30), (405, 1, 29), (405, 1, 28), (405, 1, 27), (405, 1, 26), (405, 1, 25), (405, 1, 24), (405, 1, 23), (405, 1, 22), (405, 1, 21), (405, 1, 20), (405, 1, 19), (405, 1, 18), (405, 1, 17), (405, 1, 16), (405, 1, 15), (405, 1, 14), (405, 1, 13), (405, 1, 12), (405, 1, 11), (405, 1, 10), (405, 1, 9), (405, 1, 8), (405, 1, 7), (405, 1, 6), (405, 1, 5), (405, 1, 4), (405, 1, 3), (405, 1, 2), (405, 1, 1), (405, 0, 0)] [] [])) (b := b) (lyA hK) (rI_at 405 1 rfl) (rI_at 405 6 hI_405_6) (rI_at 405 16 hI_405_16)) (lKA (hk_K hK 405 rfl rfl)) rfl (by decide) rfl (Nat.le_of_ble_eq_true rfl) (by decide) (fun u hu => ?_)
  refine z_eqs (σ' := (ap b σ [(405, 1, 42), (405, 1, 41), (405, 1, 40), (405, 1, 39), (405, 1, 38), (405, 1, 37), (405, 1, 36), (405, 1, 35), (405, 1, 34), (405, 1, 33), (405, 1, 32), (405, 1, 31), (405, 1, 30), (405, 1, 29), (405, 1, 28), (405, 1, 27), (405, 1, 26), (405, 1, 25), (405, 1, 24), (405, 1, 23), (405, 1, 22), (405, 1, 21), (405, 1, 20), (405, 1, 19), (405, 1, 18), (405, 1, 17), (405, 1, 16), (405, 1, 15), (405, 1, 14), (405, 1, 13), (405, 1, 12), (405, 1, 11), (405, 1, 10), (405, 1, 9), (405, 1, 8), (405, 1, 7), (405, 1, 6), (405, 1, 5), (405, 1, 4), (405, 1, 3), (405, 1, 2), (405, 1, 1), (405, 0, 0)] [] [])) (hu.trans ap_ap) ?_
  show zx p l e _ s m _ below meth c g 3 0 0 _ _ 27 [(2, .int 41), (0, .ref (b + 405)), (1, .int 50)] _
  refine z_iinc (v := 42) (lv' := [(2, .int 42), (0, .ref (b + 405)), (1, .int 50)]) B dX9_tick_27 0 rfl (by decide) (by decide) rfl ?_
  refine z_goto (tgt := 18) B dX9_tick_30 (by decide) ?_
  refine z_iload_n B dX9_tick_18 rfl 0 rfl ?_
  refine z_iload_n B dX9_tick_19 rfl 2 rfl ?_
  refine z_icmp_ge (tgt := 33) B dX9_tick_20 (by decide) (fun h => absurd h (by decide)) (fun _ => ?_)
  refine z_aload_n B dX9_tick_23 rfl 1 rfl ?_
  refine z_cVv (As := []) (rest := []) B cw_X9_294 cx_10 dX9_tick_24 (ci_X9_ticks_1135 l (σ := (ap b σ [(405, 1, 42), (405, 1, 41), (405, 1, 40), (405, 1, 39), (405, 1, 38), (405, 1, 37), (405, 1, 36), (405, 1, 35), (405, 1, 34), (405, 1, 33), (405, 1, 32), (405, 1, 31), (405, 1, 30), (405, 1, 29), (405, 1, 28), (405, 1, 27), (405, 1, 26), (405, 1, 25), (405, 1, 24), (405, 1, 23), (405, 1, 22), (405, 1, 21), (405, 1, 20), (405, 1, 19), (405, 1, 18), (405, 1, 17), (405, 1, 16), (405, 1, 15), (405, 1, 14), (405, 1, 13), (405, 1, 12), (405, 1, 11), (405, 1, 10), (405, 1, 9), (405, 1, 8), (405, 1, 7), (405, 1, 6), (405, 1, 5), (405, 1, 4), (405, 1, 3), (405, 1, 2), (405, 1, 1), (405, 0, 0)] [] [])) (b := b) (lyA hK) (rI_at 405 1 rfl) (rI_at 405 6 hI_405_6) (rI_at 405 16 hI_405_16)) (lKA (hk_K hK 405 rfl rfl)) rfl (by decide) rfl (Nat.le_of_ble_eq_true rfl) (by decide) (fun u hu => ?_)
  refine z_eqs (σ' := (ap b σ [(405, 1, 43), (405, 1, 42), (405, 1, 41), (405, 1, 40), (405, 1, 39), (405, 1, 38), (405, 1, 37), (405, 1, 36), (405, 1, 35), (405, 1, 34), (405, 1, 33), (405, 1, 32), (405, 1, 31), (405, 1, 30), (405, 1, 29), (405, 1, 28), (405, 1, 27), (405, 1, 26), (405, 1, 25), (405, 1, 24), (405, 1, 23), (405, 1, 22), (405, 1, 21), (405, 1, 20), (405, 1, 19), (405, 1, 18), (405, 1, 17), (405, 1, 16), (405, 1, 15), (405, 1, 14), (405, 1, 13), (405, 1, 12), (405, 1, 11), (405, 1, 10), (405, 1, 9), (405, 1, 8), (405, 1, 7), (405, 1, 6), (405, 1, 5), (405, 1, 4), (405, 1, 3), (405, 1, 2), (405, 1, 1), (405, 0, 0)] [] [])) (hu.trans ap_ap) ?_
  show zx p l e _ s m _ below meth c g 3 0 0 _ _ 27 [(2, .int 42), (0, .ref (b + 405)), (1, .int 50)] _
  refine z_iinc (v := 43) (lv' := [(2, .int 43), (0, .ref (b + 405)), (1, .int 50)]) B dX9_tick_27 0 rfl (by decide) (by decide) rfl ?_
  refine z_goto (tgt := 18) B dX9_tick_30 (by decide) ?_
  refine z_iload_n B dX9_tick_18 rfl 0 rfl ?_
  refine z_iload_n B dX9_tick_19 rfl 2 rfl ?_
  refine z_icmp_ge (tgt := 33) B dX9_tick_20 (by decide) (fun h => absurd h (by decide)) (fun _ => ?_)
  refine z_aload_n B dX9_tick_23 rfl 1 rfl ?_
  refine z_cVv (As := []) (rest := []) B cw_X9_294 cx_10 dX9_tick_24 (ci_X9_ticks_1140 l (σ := (ap b σ [(405, 1, 43), (405, 1, 42), (405, 1, 41), (405, 1, 40), (405, 1, 39), (405, 1, 38), (405, 1, 37), (405, 1, 36), (405, 1, 35), (405, 1, 34), (405, 1, 33), (405, 1, 32), (405, 1, 31), (405, 1, 30), (405, 1, 29), (405, 1, 28), (405, 1, 27), (405, 1, 26), (405, 1, 25), (405, 1, 24), (405, 1, 23), (405, 1, 22), (405, 1, 21), (405, 1, 20), (405, 1, 19), (405, 1, 18), (405, 1, 17), (405, 1, 16), (405, 1, 15), (405, 1, 14), (405, 1, 13), (405, 1, 12), (405, 1, 11), (405, 1, 10), (405, 1, 9), (405, 1, 8), (405, 1, 7), (405, 1, 6), (405, 1, 5), (405, 1, 4), (405, 1, 3), (405, 1, 2), (405, 1, 1), (405, 0, 0)] [] [])) (b := b) (lyA hK) (rI_at 405 1 rfl) (rI_at 405 6 hI_405_6) (rI_at 405 16 hI_405_16)) (lKA (hk_K hK 405 rfl rfl)) rfl (by decide) rfl (Nat.le_of_ble_eq_true rfl) (by decide) (fun u hu => ?_)
  refine z_eqs (σ' := (ap b σ [(405, 1, 44), (405, 1, 43), (405, 1, 42), (405, 1, 41), (405, 1, 40), (405, 1, 39), (405, 1, 38), (405, 1, 37), (405, 1, 36), (405, 1, 35), (405, 1, 34), (405, 1, 33), (405, 1, 32), (405, 1, 31), (405, 1, 30), (405, 1, 29), (405, 1, 28), (405, 1, 27), (405, 1, 26), (405, 1, 25), (405, 1, 24), (405, 1, 23), (405, 1, 22), (405, 1, 21), (405, 1, 20), (405, 1, 19), (405, 1, 18), (405, 1, 17), (405, 1, 16), (405, 1, 15), (405, 1, 14), (405, 1, 13), (405, 1, 12), (405, 1, 11), (405, 1, 10), (405, 1, 9), (405, 1, 8), (405, 1, 7), (405, 1, 6), (405, 1, 5), (405, 1, 4), (405, 1, 3), (405, 1, 2), (405, 1, 1), (405, 0, 0)] [] [])) (hu.trans ap_ap) ?_
  show zx p l e _ s m _ below meth c g 3 0 0 _ _ 27 [(2, .int 43), (0, .ref (b + 405)), (1, .int 50)] _
  refine z_iinc (v := 44) (lv' := [(2, .int 44), (0, .ref (b + 405)), (1, .int 50)]) B dX9_tick_27 0 rfl (by decide) (by decide) rfl ?_
  refine z_goto (tgt := 18) B dX9_tick_30 (by decide) ?_
  refine z_iload_n B dX9_tick_18 rfl 0 rfl ?_
  refine z_iload_n B dX9_tick_19 rfl 2 rfl ?_
  refine z_icmp_ge (tgt := 33) B dX9_tick_20 (by decide) (fun h => absurd h (by decide)) (fun _ => ?_)
  refine z_aload_n B dX9_tick_23 rfl 1 rfl ?_
  refine z_cVv (As := []) (rest := []) B cw_X9_294 cx_10 dX9_tick_24 (ci_X9_ticks_1145 l (σ := (ap b σ [(405, 1, 44), (405, 1, 43), (405, 1, 42), (405, 1, 41), (405, 1, 40), (405, 1, 39), (405, 1, 38), (405, 1, 37), (405, 1, 36), (405, 1, 35), (405, 1, 34), (405, 1, 33), (405, 1, 32), (405, 1, 31), (405, 1, 30), (405, 1, 29), (405, 1, 28), (405, 1, 27), (405, 1, 26), (405, 1, 25), (405, 1, 24), (405, 1, 23), (405, 1, 22), (405, 1, 21), (405, 1, 20), (405, 1, 19), (405, 1, 18), (405, 1, 17), (405, 1, 16), (405, 1, 15), (405, 1, 14), (405, 1, 13), (405, 1, 12), (405, 1, 11), (405, 1, 10), (405, 1, 9), (405, 1, 8), (405, 1, 7), (405, 1, 6), (405, 1, 5), (405, 1, 4), (405, 1, 3), (405, 1, 2), (405, 1, 1), (405, 0, 0)] [] [])) (b := b) (lyA hK) (rI_at 405 1 rfl) (rI_at 405 6 hI_405_6) (rI_at 405 16 hI_405_16)) (lKA (hk_K hK 405 rfl rfl)) rfl (by decide) rfl (Nat.le_of_ble_eq_true rfl) (by decide) (fun u hu => ?_)
  refine z_eqs (σ' := (ap b σ [(405, 1, 45), (405, 1, 44), (405, 1, 43), (405, 1, 42), (405, 1, 41), (405, 1, 40), (405, 1, 39), (405, 1, 38), (405, 1, 37), (405, 1, 36), (405, 1, 35), (405, 1, 34), (405, 1, 33), (405, 1, 32), (405, 1, 31), (405, 1, 30), (405, 1, 29), (405, 1, 28), (405, 1, 27), (405, 1, 26), (405, 1, 25), (405, 1, 24), (405, 1, 23), (405, 1, 22), (405, 1, 21), (405, 1, 20), (405, 1, 19), (405, 1, 18), (405, 1, 17), (405, 1, 16), (405, 1, 15), (405, 1, 14), (405, 1, 13), (405, 1, 12), (405, 1, 11), (405, 1, 10), (405, 1, 9), (405, 1, 8), (405, 1, 7), (405, 1, 6), (405, 1, 5), (405, 1, 4), (405, 1, 3), (405, 1, 2), (405, 1, 1), (405, 0, 0)] [] [])) (hu.trans ap_ap) ?_
  show zx p l e _ s m _ below meth c g 3 0 0 _ _ 27 [(2, .int 44), (0, .ref (b + 405)), (1, .int 50)] _
  refine z_iinc (v := 45) (lv' := [(2, .int 45), (0, .ref (b + 405)), (1, .int 50)]) B dX9_tick_27 0 rfl (by decide) (by decide) rfl ?_
  refine z_goto (tgt := 18) B dX9_tick_30 (by decide) ?_
  refine z_iload_n B dX9_tick_18 rfl 0 rfl ?_
  refine z_iload_n B dX9_tick_19 rfl 2 rfl ?_
  refine z_icmp_ge (tgt := 33) B dX9_tick_20 (by decide) (fun h => absurd h (by decide)) (fun _ => ?_)
  refine z_aload_n B dX9_tick_23 rfl 1 rfl ?_
  refine z_cVv (As := []) (rest := []) B cw_X9_294 cx_10 dX9_tick_24 (ci_X9_ticks_1150 l (σ := (ap b σ [(405, 1, 45), (405, 1, 44), (405, 1, 43), (405, 1, 42), (405, 1, 41), (405, 1, 40), (405, 1, 39), (405, 1, 38), (405, 1, 37), (405, 1, 36), (405, 1, 35), (405, 1, 34), (405, 1, 33), (405, 1, 32), (405, 1, 31), (405, 1, 30), (405, 1, 29), (405, 1, 28), (405, 1, 27), (405, 1, 26), (405, 1, 25), (405, 1, 24), (405, 1, 23), (405, 1, 22), (405, 1, 21), (405, 1, 20), (405, 1, 19), (405, 1, 18), (405, 1, 17), (405, 1, 16), (405, 1, 15), (405, 1, 14), (405, 1, 13), (405, 1, 12), (405, 1, 11), (405, 1, 10), (405, 1, 9), (405, 1, 8), (405, 1, 7), (405, 1, 6), (405, 1, 5), (405, 1, 4), (405, 1, 3), (405, 1, 2), (405, 1, 1), (405, 0, 0)] [] [])) (b := b) (lyA hK) (rI_at 405 1 rfl) (rI_at 405 6 hI_405_6) (rI_at 405 16 hI_405_16)) (lKA (hk_K hK 405 rfl rfl)) rfl (by decide) rfl (Nat.le_of_ble_eq_true rfl) (by decide) (fun u hu => ?_)
  refine z_eqs (σ' := (ap b σ [(405, 1, 46), (405, 1, 45), (405, 1, 44), (405, 1, 43), (405, 1, 42), (405, 1, 41), (405, 1, 40), (405, 1, 39), (405, 1, 38), (405, 1, 37), (405, 1, 36), (405, 1, 35), (405, 1, 34), (405, 1, 33), (405, 1, 32), (405, 1, 31), (405, 1, 30), (405, 1, 29), (405, 1, 28), (405, 1, 27), (405, 1, 26), (405, 1, 25), (405, 1, 24), (405, 1, 23), (405, 1, 22), (405, 1, 21), (405, 1, 20), (405, 1, 19), (405, 1, 18), (405, 1, 17), (405, 1, 16), (405, 1, 15), (405, 1, 14), (405, 1, 13), (405, 1, 12), (405, 1, 11), (405, 1, 10), (405, 1, 9), (405, 1, 8), (405, 1, 7), (405, 1, 6), (405, 1, 5), (405, 1, 4), (405, 1, 3), (405, 1, 2), (405, 1, 1), (405, 0, 0)] [] [])) (hu.trans ap_ap) ?_
  show zx p l e _ s m _ below meth c g 3 0 0 _ _ 27 [(2, .int 45), (0, .ref (b + 405)), (1, .int 50)] _
  refine z_iinc (v := 46) (lv' := [(2, .int 46), (0, .ref (b + 405)), (1, .int 50)]) B dX9_tick_27 0 rfl (by decide) (by decide) rfl ?_
  refine z_goto (tgt := 18) B dX9_tick_30 (by decide) ?_
  refine z_iload_n B dX9_tick_18 rfl 0 rfl ?_
  refine z_iload_n B dX9_tick_19 rfl 2 rfl ?_
  refine z_icmp_ge (tgt := 33) B dX9_tick_20 (by decide) (fun h => absurd h (by decide)) (fun _ => ?_)
  refine z_aload_n B dX9_tick_23 rfl 1 rfl ?_
  refine z_cVv (As := []) (rest := []) B cw_X9_294 cx_10 dX9_tick_24 (ci_X9_ticks_1155 l (σ := (ap b σ [(405, 1, 46), (405, 1, 45), (405, 1, 44), (405, 1, 43), (405, 1, 42), (405, 1, 41), (405, 1, 40), (405, 1, 39), (405, 1, 38), (405, 1, 37), (405, 1, 36), (405, 1, 35), (405, 1, 34), (405, 1, 33), (405, 1, 32), (405, 1, 31), (405, 1, 30), (405, 1, 29), (405, 1, 28), (405, 1, 27), (405, 1, 26), (405, 1, 25), (405, 1, 24), (405, 1, 23), (405, 1, 22), (405, 1, 21), (405, 1, 20), (405, 1, 19), (405, 1, 18), (405, 1, 17), (405, 1, 16), (405, 1, 15), (405, 1, 14), (405, 1, 13), (405, 1, 12), (405, 1, 11), (405, 1, 10), (405, 1, 9), (405, 1, 8), (405, 1, 7), (405, 1, 6), (405, 1, 5), (405, 1, 4), (405, 1, 3), (405, 1, 2), (405, 1, 1), (405, 0, 0)] [] [])) (b := b) (lyA hK) (rI_at 405 1 rfl) (rI_at 405 6 hI_405_6) (rI_at 405 16 hI_405_16)) (lKA (hk_K hK 405 rfl rfl)) rfl (by decide) rfl (Nat.le_of_ble_eq_true rfl) (by decide) (fun u hu => ?_)
  refine z_eqs (σ' := (ap b σ [(405, 1, 47), (405, 1, 46), (405, 1, 45), (405, 1, 44), (405, 1, 43), (405, 1, 42), (405, 1, 41), (405, 1, 40), (405, 1, 39), (405, 1, 38), (405, 1, 37), (405, 1, 36), (405, 1, 35), (405, 1, 34), (405, 1, 33), (405, 1, 32), (405, 1, 31), (405, 1, 30), (405, 1, 29), (405, 1, 28), (405, 1, 27), (405, 1, 26), (405, 1, 25), (405, 1, 24), (405, 1, 23), (405, 1, 22), (405, 1, 21), (405, 1, 20), (405, 1, 19), (405, 1, 18), (405, 1, 17), (405, 1, 16), (405, 1, 15), (405, 1, 14), (405, 1, 13), (405, 1, 12), (405, 1, 11), (405, 1, 10), (405, 1, 9), (405, 1, 8), (405, 1, 7), (405, 1, 6), (405, 1, 5), (405, 1, 4), (405, 1, 3), (405, 1, 2), (405, 1, 1), (405, 0, 0)] [] [])) (hu.trans ap_ap) ?_
  show zx p l e _ s m _ below meth c g 3 0 0 _ _ 27 [(2, .int 46), (0, .ref (b + 405)), (1, .int 50)] _
  refine z_iinc (v := 47) (lv' := [(2, .int 47), (0, .ref (b + 405)), (1, .int 50)]) B dX9_tick_27 0 rfl (by decide) (by decide) rfl ?_
  refine z_goto (tgt := 18) B dX9_tick_30 (by decide) ?_
  refine z_iload_n B dX9_tick_18 rfl 0 rfl ?_
  refine z_iload_n B dX9_tick_19 rfl 2 rfl ?_
  refine z_icmp_ge (tgt := 33) B dX9_tick_20 (by decide) (fun h => absurd h (by decide)) (fun _ => ?_)
  refine z_aload_n B dX9_tick_23 rfl 1 rfl ?_
  refine z_cVv (As := []) (rest := []) B cw_X9_294 cx_10 dX9_tick_24 (ci_X9_ticks_1160 l (σ := (ap b σ [(405, 1, 47), (405, 1, 46), (405, 1, 45), (405, 1, 44), (405, 1, 43), (405, 1, 42), (405, 1, 41), (405, 1, 40), (405, 1, 39), (405, 1, 38), (405, 1, 37), (405, 1, 36), (405, 1, 35), (405, 1, 34), (405, 1, 33), (405, 1, 32), (405, 1, 31), (405, 1, 30), (405, 1, 29), (405, 1, 28), (405, 1, 27), (405, 1, 26), (405, 1, 25), (405, 1, 24), (405, 1, 23), (405, 1, 22), (405, 1, 21), (405, 1, 20), (405, 1, 19), (405, 1, 18), (405, 1, 17), (405, 1, 16), (405, 1, 15), (405, 1, 14), (405, 1, 13), (405, 1, 12), (405, 1, 11), (405, 1, 10), (405, 1, 9), (405, 1, 8), (405, 1, 7), (405, 1, 6), (405, 1, 5), (405, 1, 4), (405, 1, 3), (405, 1, 2), (405, 1, 1), (405, 0, 0)] [] [])) (b := b) (lyA hK) (rI_at 405 1 rfl) (rI_at 405 6 hI_405_6) (rI_at 405 16 hI_405_16)) (lKA (hk_K hK 405 rfl rfl)) rfl (by decide) rfl (Nat.le_of_ble_eq_true rfl) (by decide) (fun u hu => ?_)
  refine z_eqs (σ' := (ap b σ [(405, 1, 48), (405, 1, 47), (405, 1, 46), (405, 1, 45), (405, 1, 44), (405, 1, 43), (405, 1, 42), (405, 1, 41), (405, 1, 40), (405, 1, 39), (405, 1, 38), (405, 1, 37), (405, 1, 36), (405, 1, 35), (405, 1, 34), (405, 1, 33), (405, 1, 32), (405, 1, 31), (405, 1, 30), (405, 1, 29), (405, 1, 28), (405, 1, 27), (405, 1, 26), (405, 1, 25), (405, 1, 24), (405, 1, 23), (405, 1, 22), (405, 1, 21), (405, 1, 20), (405, 1, 19), (405, 1, 18), (405, 1, 17), (405, 1, 16), (405, 1, 15), (405, 1, 14), (405, 1, 13), (405, 1, 12), (405, 1, 11), (405, 1, 10), (405, 1, 9), (405, 1, 8), (405, 1, 7), (405, 1, 6), (405, 1, 5), (405, 1, 4), (405, 1, 3), (405, 1, 2), (405, 1, 1), (405, 0, 0)] [] [])) (hu.trans ap_ap) ?_
  show zx p l e _ s m _ below meth c g 3 0 0 _ _ 27 [(2, .int 47), (0, .ref (b + 405)), (1, .int 50)] _
  refine z_iinc (v := 48) (lv' := [(2, .int 48), (0, .ref (b + 405)), (1, .int 50)]) B dX9_tick_27 0 rfl (by decide) (by decide) rfl ?_
  refine z_goto (tgt := 18) B dX9_tick_30 (by decide) ?_
  refine z_iload_n B dX9_tick_18 rfl 0 rfl ?_
  refine z_iload_n B dX9_tick_19 rfl 2 rfl ?_
  refine z_icmp_ge (tgt := 33) B dX9_tick_20 (by decide) (fun h => absurd h (by decide)) (fun _ => ?_)
  refine z_aload_n B dX9_tick_23 rfl 1 rfl ?_
  refine z_cVv (As := []) (rest := []) B cw_X9_294 cx_10 dX9_tick_24 (ci_X9_ticks_1165 l (σ := (ap b σ [(405, 1, 48), (405, 1, 47), (405, 1, 46), (405, 1, 45), (405, 1, 44), (405, 1, 43), (405, 1, 42), (405, 1, 41), (405, 1, 40), (405, 1, 39), (405, 1, 38), (405, 1, 37), (405, 1, 36), (405, 1, 35), (405, 1, 34), (405, 1, 33), (405, 1, 32), (405, 1, 31), (405, 1, 30), (405, 1, 29), (405, 1, 28), (405, 1, 27), (405, 1, 26), (405, 1, 25), (405, 1, 24), (405, 1, 23), (405, 1, 22), (405, 1, 21), (405, 1, 20), (405, 1, 19), (405, 1, 18), (405, 1, 17), (405, 1, 16), (405, 1, 15), (405, 1, 14), (405, 1, 13), (405, 1, 12), (405, 1, 11), (405, 1, 10), (405, 1, 9), (405, 1, 8), (405, 1, 7), (405, 1, 6), (405, 1, 5), (405, 1, 4), (405, 1, 3), (405, 1, 2), (405, 1, 1), (405, 0, 0)] [] [])) (b := b) (lyA hK) (rI_at 405 1 rfl) (rI_at 405 6 hI_405_6) (rI_at 405 16 hI_405_16)) (lKA (hk_K hK 405 rfl rfl)) rfl (by decide) rfl (Nat.le_of_ble_eq_true rfl) (by decide) (fun u hu => ?_)
  refine z_eqs (σ' := (ap b σ [(405, 1, 49), (405, 1, 48), (405, 1, 47), (405, 1, 46), (405, 1, 45), (405, 1, 44), (405, 1, 43), (405, 1, 42), (405, 1, 41), (405, 1, 40), (405, 1, 39), (405, 1, 38), (405, 1, 37), (405, 1, 36), (405, 1, 35), (405, 1, 34), (405, 1, 33), (405, 1, 32), (405, 1, 31), (405, 1, 30), (405, 1, 29), (405, 1, 28), (405, 1, 27), (405, 1, 26), (405, 1, 25), (405, 1, 24), (405, 1, 23), (405, 1, 22), (405, 1, 21), (405, 1, 20), (405, 1, 19), (405, 1, 18), (405, 1, 17), (405, 1, 16), (405, 1, 15), (405, 1, 14), (405, 1, 13), (405, 1, 12), (405, 1, 11), (405, 1, 10), (405, 1, 9), (405, 1, 8), (405, 1, 7), (405, 1, 6), (405, 1, 5), (405, 1, 4), (405, 1, 3), (405, 1, 2), (405, 1, 1), (405, 0, 0)] [] [])) (hu.trans ap_ap) ?_
  show zx p l e _ s m _ below meth c g 3 0 0 _ _ 27 [(2, .int 48), (0, .ref (b + 405)), (1, .int 50)] _
  refine z_iinc (v := 49) (lv' := [(2, .int 49), (0, .ref (b + 405)), (1, .int 50)]) B dX9_tick_27 0 rfl (by decide) (by decide) rfl ?_
  refine z_goto (tgt := 18) B dX9_tick_30 (by decide) ?_
  refine z_iload_n B dX9_tick_18 rfl 0 rfl ?_
  refine z_iload_n B dX9_tick_19 rfl 2 rfl ?_
  refine z_icmp_ge (tgt := 33) B dX9_tick_20 (by decide) (fun h => absurd h (by decide)) (fun _ => ?_)
  refine z_aload_n B dX9_tick_23 rfl 1 rfl ?_
  refine z_cVv (As := []) (rest := []) B cw_X9_294 cx_10 dX9_tick_24 (ci_X9_ticks_1170 l (σ := (ap b σ [(405, 1, 49), (405, 1, 48), (405, 1, 47), (405, 1, 46), (405, 1, 45), (405, 1, 44), (405, 1, 43), (405, 1, 42), (405, 1, 41), (405, 1, 40), (405, 1, 39), (405, 1, 38), (405, 1, 37), (405, 1, 36), (405, 1, 35), (405, 1, 34), (405, 1, 33), (405, 1, 32), (405, 1, 31), (405, 1, 30), (405, 1, 29), (405, 1, 28), (405, 1, 27), (405, 1, 26), (405, 1, 25), (405, 1, 24), (405, 1, 23), (405, 1, 22), (405, 1, 21), (405, 1, 20), (405, 1, 19), (405, 1, 18), (405, 1, 17), (405, 1, 16), (405, 1, 15), (405, 1, 14), (405, 1, 13), (405, 1, 12), (405, 1, 11), (405, 1, 10), (405, 1, 9), (405, 1, 8), (405, 1, 7), (405, 1, 6), (405, 1, 5), (405, 1, 4), (405, 1, 3), (405, 1, 2), (405, 1, 1), (405, 0, 0)] [] [])) (b := b) (lyA hK) (rI_at 405 1 rfl) (rI_at 405 6 hI_405_6) (rI_at 405 16 hI_405_16)) (lKA (hk_K hK 405 rfl rfl)) rfl (by decide) rfl (Nat.le_of_ble_eq_true rfl) (by decide) (fun u hu => ?_)
  refine z_eqs (σ' := (ap b σ [(405, 1, 50), (405, 1, 49), (405, 1, 48), (405, 1, 47), (405, 1, 46), (405, 1, 45), (405, 1, 44), (405, 1, 43), (405, 1, 42), (405, 1, 41), (405, 1, 40), (405, 1, 39), (405, 1, 38), (405, 1, 37), (405, 1, 36), (405, 1, 35), (405, 1, 34), (405, 1, 33), (405, 1, 32), (405, 1, 31), (405, 1, 30), (405, 1, 29), (405, 1, 28), (405, 1, 27), (405, 1, 26), (405, 1, 25), (405, 1, 24), (405, 1, 23), (405, 1, 22), (405, 1, 21), (405, 1, 20), (405, 1, 19), (405, 1, 18), (405, 1, 17), (405, 1, 16), (405, 1, 15), (405, 1, 14), (405, 1, 13), (405, 1, 12), (405, 1, 11), (405, 1, 10), (405, 1, 9), (405, 1, 8), (405, 1, 7), (405, 1, 6), (405, 1, 5), (405, 1, 4), (405, 1, 3), (405, 1, 2), (405, 1, 1), (405, 0, 0)] [] [])) (hu.trans ap_ap) ?_
  show zx p l e _ s m _ below meth c g 3 0 0 _ _ 27 [(2, .int 49), (0, .ref (b + 405)), (1, .int 50)] _
  refine z_iinc (v := 50) (lv' := [(2, .int 50), (0, .ref (b + 405)), (1, .int 50)]) B dX9_tick_27 0 rfl (by decide) (by decide) rfl ?_
  refine z_goto (tgt := 18) B dX9_tick_30 (by decide) ?_
  refine z_iload_n B dX9_tick_18 rfl 0 rfl ?_
  refine z_iload_n B dX9_tick_19 rfl 2 rfl ?_
  refine z_icmp_ge (tgt := 33) B dX9_tick_20 (by decide) (fun _ => ?_) (fun h => absurd (by decide) h)
  refine z_aload_n B dX9_tick_33 rfl 1 rfl ?_
  refine gf_X9_197 (x := 50) B (lKA (hk_K hK 405 rfl rfl)) (rI_at 405 1 rfl) dX9_tick_34 ?_
  exact z_iret B hr (by decide) (by decide) dX9_tick_37 ⟨rfl, rfl⟩
set_option maxRecDepth 100000 in
set_option maxHeartbeats 4000000 in
theorem ci_X8_tick_1172 (l : Launch) (hlt : l.stackTraces = false) {g : gx_T} {σ : sx_T} {b : Nat} (hK : lay b σ) (w1 : Int32) (q1_w1 : (51 : Int) ≤ w1.toInt) (q2_w1 : w1.toInt ≤ (2147483647 : Int))  : vx_Met l yX8_tick (.code yX8_tick cX8_tick 3 (some .int) :: lw_g) { frames := 7, cells := 1, slots := 6, locals := 136 } (va_Pc [.ref (b + 0), .int w1] (zx_w g σ)) (va_Qi (S := sx_T) (fun _ _ => False) (zx_w g) (gx_Q g)) (vx_X (fun u : sx_T => ∃ z, u = wx_Z σ z) (fun E u t => E = "java/lang/IllegalArgumentException" ∧ zx_h g u t.heap) (gx_Q g)) 1 6 (gx_Q g) := by
  refine z_metX (by decide) (Nat.le_of_ble_eq_true rfl) (fun p e s m below meth c B hr hin hout => ?_)
  refine z_eqs (σ' := (ap b σ [] [] [])) rfl ?_
  show zx p l e _ s m _ below meth c g 3 0 0 _ _ 0 [(0, .ref (b + 0)), (1, .int w1)] []
  refine z_iload_n B dX8_tick_0 rfl 1 rfl ?_
  refine z_iconst (v := 1) B dX8_tick_1 (by decide) ?_
  refine z_icmp_lt (tgt := 11) B dX8_tick_2 (by decide) (fun h => absurd h (iv_nlt q1_w1 (by decide))) (fun _ => ?_)
  refine z_iload_n B dX8_tick_5 rfl 1 rfl ?_
  refine z_bipush (v := 50) B dX8_tick_6 (by decide) ?_
  refine z_icmp_le (tgt := 21) B dX8_tick_8 (by decide) (fun h => absurd h (iv_nle q1_w1 (by decide))) (fun _ => ?_)
  exact z_throw B hlt hout (cls := "java/lang/IllegalArgumentException") (text := "ticks are out of range") tw_X8_83_238_87 dX8_tick_11 dX8_tick_14 dX8_tick_15 dX8_tick_17 dX8_tick_20 (by decide) (by decide) (by decide) (by decide) (by decide) (by decide) (fun z => ⟨z, rfl⟩)
set_option maxRecDepth 100000 in
set_option maxHeartbeats 4000000 in
theorem ci_L_tick_1173 (l : Launch) (hlt : l.stackTraces = false) {g : gx_T} {σ : sx_T} {b : Nat} (hK : lay b σ) (w1 : Int32) (q1_w1 : (51 : Int) ≤ w1.toInt) (q2_w1 : w1.toInt ≤ (2147483647 : Int))  : Met l yL_tick (.codeWith yL_tick cL_tick 4 (some .int) [(0, 9, 12, 15)] :: lw_g) { frames := 8, cells := 1, slots := 6, locals := 158 } (va_Pc [.ref (b + 0), .int w1, .ref (b + 431)] (zx_w g σ)) (va_Qi (fun r u => r = 1 ∧ ∃ z, u = (ap b (wx_Z σ z) [] [] [])) (zx_w g) (gx_Q g)) 1 6 (gx_Q g) := by
  refine z_metW (by decide) (Nat.le_of_ble_eq_true rfl) (fun p e s m below meth c B hr htab => ?_)
  refine z_eqs (σ' := (ap b σ [] [] [])) rfl ?_
  show zx p l e _ s m _ below meth c g 4 0 0 _ _ 0 [(0, .ref (b + 0)), (1, .int w1), (2, .ref (b + 431))] []
  refine z_aload_n B dL_tick_0 rfl 2 rfl ?_
  refine z_iconst (v := 0) B dL_tick_1 (by decide) ?_
  refine z_aload_n B dL_tick_2 rfl 0 rfl ?_
  refine z_iload_n B dL_tick_3 rfl 1 rfl ?_
  refine z_cXi (As := [.int w1]) (rest := [.int 0, .ref (b + 431)]) B htab tc_tick_4_IllegalArgumentException cw_L_41 cx_9 dL_tick_4 (ci_X8_tick_1172 l hlt (σ := (ap b σ [] [] [])) (b := b) (lyA hK) w1 q1_w1 q2_w1) (lKA (hk_K hK 0 rfl rfl)) rfl (by decide) rfl (Nat.le_of_ble_eq_true rfl) (by decide) (fun z q => ?_)
  refine z_eqs (σ' := (ap b (wx_Z σ z) [] [] [])) rfl ?_
  show zx p l e _ s m _ below meth c g 4 _ _ _ _ 12 [(0, .ref (b + 0)), (1, .int w1), (2, .ref (b + 431))] _
  refine z_astore_n (lv' := [(3, .ref q), (0, .ref (b + 0)), (1, .int w1), (2, .ref (b + 431))]) B dL_tick_12 rfl (by decide) rfl ?_
  refine z_iconst (v := 1) B dL_tick_13 (by decide) ?_
  exact z_iret B hr (by decide) (by decide) dL_tick_14 ⟨rfl, _, rfl⟩
set_option maxRecDepth 100000 in
set_option maxHeartbeats 4000000 in
theorem ci_X9_in_1174 (l : Launch) {g : gx_T} {σ : sx_T} {b : Nat} (hK : lay b σ) (w1 : Int32) (q1_w1 : (51 : Int) ≤ w1.toInt) (q2_w1 : w1.toInt ≤ (2147483647 : Int))  : Met l yX9_in (.code yX9_in cX9_in 3 (some .boolean) :: lw_g) { frames := 0, cells := 0, slots := 0, locals := 0 } (va_Pc [.int w1, .int 1, .int 50] (zx_w g σ)) (va_Qi (fun r u => r = 0 ∧ u = σ) (zx_w g) (gx_Q g)) 0 0 (gx_Q g) := by
  refine z_met (by decide) (Nat.le_of_ble_eq_true rfl) (fun p e s m below meth c B hr hin => ?_)
  refine z_eqs (σ' := (ap b σ [] [] [])) rfl ?_
  show zx p l e _ s m _ below meth c g 3 0 0 _ _ 0 [(0, .int w1), (1, .int 1), (2, .int 50)] []
  refine z_iload_n B dX9_in_0 rfl 0 rfl ?_
  refine z_iload_n B dX9_in_1 rfl 1 rfl ?_
  refine z_icmp_lt (tgt := 14) B dX9_in_2 (by decide) (fun h => absurd h (iv_nlt q1_w1 (by decide))) (fun _ => ?_)
  refine z_iload_n B dX9_in_5 rfl 0 rfl ?_
  refine z_iload_n B dX9_in_6 rfl 2 rfl ?_
  refine z_icmp_gt (tgt := 14) B dX9_in_7 (by decide) (fun _ => ?_) (fun h => absurd (iv_gt q1_w1 (by decide)) h)
  refine z_iconst (v := 0) B dX9_in_14 (by decide) ?_
  exact z_zret B hr (by decide) (by decide) (by decide) dX9_in_15 ⟨rfl, rfl⟩
set_option maxRecDepth 100000 in
set_option maxHeartbeats 4000000 in
theorem ci_X9_tick_1175 (l : Launch) {g : gx_T} {σ : sx_T} {b : Nat} (hK : lay b σ) (w1 : Int32) (q1_w1 : (51 : Int) ≤ w1.toInt) (q2_w1 : w1.toInt ≤ (2147483647 : Int))  : Met l yX9_tick (.code yX9_tick cX9_tick 3 (some .int) :: lw_g) { frames := 1, cells := 0, slots := 0, locals := 22 } (va_Pc [.ref (b + 405), .int w1] (zx_w g σ)) (va_Qi (fun r u => r = 0 ∧ u = (ap b σ [(405, 0, 1)] [] [])) (zx_w g) (gx_Q g)) 0 0 (gx_Q g) := by
  refine z_met (by decide) (Nat.le_of_ble_eq_true rfl) (fun p e s m below meth c B hr hin => ?_)
  refine z_eqs (σ' := (ap b σ [] [] [])) rfl ?_
  show zx p l e _ s m _ below meth c g 3 0 0 _ _ 0 [(0, .ref (b + 405)), (1, .int w1)] []
  refine z_aload_n B dX9_tick_0 rfl 0 rfl ?_
  refine z_iload_n B dX9_tick_1 rfl 1 rfl ?_
  refine z_iconst (v := 1) B dX9_tick_2 (by decide) ?_
  refine z_bipush (v := 50) B dX9_tick_3 (by decide) ?_
  refine z_cSi (As := [.int w1, .int 1, .int 50]) (rest := [.ref (b + 405)]) B cw_X9_96 dX9_tick_5 (ci_X9_in_1174 l (σ := (ap b σ [] [] [])) (b := b) (lyA hK) w1 q1_w1 q2_w1) rfl (by decide) rfl (Nat.le_of_ble_eq_true rfl) (by decide) (fun r u hu => ?_)
  refine z_eqs (σ' := (ap b σ [] [] [])) hu.2 ?_
  show zx p l e _ s m _ below meth c g 3 0 0 _ _ 8 [(0, .ref (b + 405)), (1, .int w1)] _
  refine z_seti (y := 0) hu.1 ?_
  refine z_cVi (As := [.int 0]) (rest := []) B cw_X9_269 cx_10 dX9_tick_8 (ci_X9_needs_883 l (σ := (ap b σ [] [] [])) (b := b) (lyA hK) ) (lKA (hk_K hK 405 rfl rfl)) rfl (by decide) rfl (Nat.le_of_ble_eq_true rfl) (by decide) (fun r u hu => ?_)
  refine z_eqs (σ' := (ap b σ [(405, 0, 1)] [] [])) (hu.2.trans ap_ap) ?_
  show zx p l e _ s m _ below meth c g 3 0 0 _ _ 11 [(0, .ref (b + 405)), (1, .int w1)] _
  refine z_seti (y := 0) hu.1 ?_
  refine z_if_ne (tgt := 16) B dX9_tick_11 (by decide) (fun h => absurd (by decide) h) (fun _ => ?_)
  refine z_iconst (v := 0) B dX9_tick_14 (by decide) ?_
  exact z_iret B hr (by decide) (by decide) dX9_tick_15 ⟨rfl, rfl⟩
set_option maxRecDepth 100000 in
set_option maxHeartbeats 4000000 in
theorem ci_X8_workflows_1176 (l : Launch) {g : gx_T} {σ : sx_T} {b : Nat} (hK : lay b σ)   (hI_0_7 : sx_I σ (b + 0) 7 = 0) : Met l yX8_workflows (.code yX8_workflows cX8_workflows 1 (some .int) :: lw_g) { frames := 0, cells := 0, slots := 0, locals := 0 } (va_Pc [.ref (b + 0)] (zx_w g σ)) (va_Qi (fun r u => r = 0 ∧ u = σ) (zx_w g) (gx_Q g)) 0 0 (gx_Q g) := by
  refine z_met (by decide) (Nat.le_of_ble_eq_true rfl) (fun p e s m below meth c B hr hin => ?_)
  refine z_eqs (σ' := (ap b σ [] [] [])) rfl ?_
  show zx p l e _ s m _ below meth c g 1 0 0 _ _ 0 [(0, .ref (b + 0))] []
  refine z_aload_n B dX8_workflows_0 rfl 0 rfl ?_
  refine gf_X8_96 (x := 0) B (lKA (hk_K hK 0 rfl rfl)) (rI_at 0 7 hI_0_7) dX8_workflows_1 ?_
  exact z_iret B hr (by decide) (by decide) dX8_workflows_4 ⟨rfl, rfl⟩
set_option maxRecDepth 100000 in
set_option maxHeartbeats 4000000 in
theorem ci_X9_workflows_1177 (l : Launch) {g : gx_T} {σ : sx_T} {b : Nat} (hK : lay b σ)   (hI_405_6 : sx_I σ (b + 405) 6 = 0) : Met l yX9_workflows (.code yX9_workflows cX9_workflows 1 (some .int) :: lw_g) { frames := 0, cells := 0, slots := 0, locals := 0 } (va_Pc [.ref (b + 405)] (zx_w g σ)) (va_Qi (fun r u => r = 0 ∧ u = (ap b σ [(405, 0, 0)] [] [])) (zx_w g) (gx_Q g)) 0 0 (gx_Q g) := by
  refine z_met (by decide) (Nat.le_of_ble_eq_true rfl) (fun p e s m below meth c B hr hin => ?_)
  refine z_eqs (σ' := (ap b σ [] [] [])) rfl ?_
  show zx p l e _ s m _ below meth c g 1 0 0 _ _ 0 [(0, .ref (b + 405))] []
  refine z_aload_n B dX9_workflows_0 rfl 0 rfl ?_
  refine z_iconst (v := 0) B dX9_workflows_1 (by decide) ?_
  refine pf_X9_90 (x := 0) (σ' := (ap b σ [(405, 0, 0)] [] [])) B (lKA (hk_K hK 405 rfl rfl)) wI_ap dX9_workflows_2 ?_
  refine z_aload_n B dX9_workflows_5 rfl 0 rfl ?_
  refine gf_X9_93 (x := 0) B (lKA (hk_K hK 405 rfl rfl)) (rI_at 405 6 hI_405_6) dX9_workflows_6 ?_
  exact z_iret B hr (by decide) (by decide) dX9_workflows_9 ⟨rfl, rfl⟩
set_option maxRecDepth 100000 in
set_option maxHeartbeats 4000000 in
theorem ci_X8_state_1178 (l : Launch) (hlt : l.stackTraces = false) {g : gx_T} {σ : sx_T} {b : Nat} (hK : lay b σ) (w1 : Int32) (q1_w1 : (-2147483648 : Int) ≤ w1.toInt) (q2_w1 : w1.toInt ≤ (-1 : Int))  : vx_Met l yX8_state (.code yX8_state cX8_state 3 (some .int) :: lw_g) { frames := 7, cells := 1, slots := 6, locals := 136 } (va_Pc [.ref (b + 0), .int w1] (zx_w g σ)) (va_Qi (S := sx_T) (fun _ _ => False) (zx_w g) (gx_Q g)) (vx_X (fun u : sx_T => ∃ z, u = wx_Z σ z) (fun E u t => E = "java/lang/IndexOutOfBoundsException" ∧ zx_h g u t.heap) (gx_Q g)) 1 6 (gx_Q g) := by
  refine z_metX (by decide) (Nat.le_of_ble_eq_true rfl) (fun p e s m below meth c B hr hin hout => ?_)
  refine z_eqs (σ' := (ap b σ [] [] [])) rfl ?_
  show zx p l e _ s m _ below meth c g 3 0 0 _ _ 0 [(0, .ref (b + 0)), (1, .int w1)] []
  refine z_aload_n B dX8_state_0 rfl 0 rfl ?_
  refine z_iload_n B dX8_state_1 rfl 1 rfl ?_
  refine z_cVq (As := [.int w1]) (rest := []) B cw_X8_99 cx_9 dX8_state_2 (ci_X8_flowAt_861 l (σ := (ap b σ [] [] [])) (b := b) (lyA hK) w1 q1_w1 q2_w1) (lKA (hk_K hK 0 rfl rfl)) rfl (by decide) rfl (Nat.le_of_ble_eq_true rfl) (by decide) (fun r u hu => ?_)
  refine z_eqs (σ' := (ap b σ [] [] [])) hu.2 ?_
  show zx p l e _ s m _ below meth c g 3 0 0 _ _ 5 [(0, .ref (b + 0)), (1, .int w1)] _
  refine z_setr (y := none) hu.1 ?_
  refine z_qstore_n (r := none) (lv' := [(2, .null), (0, .ref (b + 0)), (1, .int w1)]) B dX8_state_5 rfl (by decide) rfl ?_
  refine z_qload_n (r := none) B dX8_state_6 rfl 0 rfl ?_
  refine z_ifnonnull (r := none) (tgt := 20) B dX8_state_7 (by decide) (fun a h => nomatch h) (fun _ => ?_)
  exact z_throw B hlt hout (cls := "java/lang/IndexOutOfBoundsException") (text := "no such workflow") tw_X8_72_153_76 dX8_state_10 dX8_state_13 dX8_state_14 dX8_state_16 dX8_state_19 (by decide) (by decide) (by decide) (by decide) (by decide) (by decide) (fun z => ⟨z, rfl⟩)
set_option maxRecDepth 100000 in
set_option maxHeartbeats 4000000 in
theorem ci_L_state_1179 (l : Launch) (hlt : l.stackTraces = false) {g : gx_T} {σ : sx_T} {b : Nat} (hK : lay b σ) (w1 : Int32) (q1_w1 : (-2147483648 : Int) ≤ w1.toInt) (q2_w1 : w1.toInt ≤ (-1 : Int))  : Met l yL_state (.codeWith yL_state cL_state 4 (some .int) [(0, 9, 12, 13)] :: lw_g) { frames := 8, cells := 1, slots := 6, locals := 158 } (va_Pc [.ref (b + 0), .int w1, .ref (b + 431)] (zx_w g σ)) (va_Qi (fun r u => r = 1 ∧ ∃ z, u = (ap b (wx_Z σ z) [] [] [])) (zx_w g) (gx_Q g)) 1 6 (gx_Q g) := by
  refine z_metW (by decide) (Nat.le_of_ble_eq_true rfl) (fun p e s m below meth c B hr htab => ?_)
  refine z_eqs (σ' := (ap b σ [] [] [])) rfl ?_
  show zx p l e _ s m _ below meth c g 4 0 0 _ _ 0 [(0, .ref (b + 0)), (1, .int w1), (2, .ref (b + 431))] []
  refine z_aload_n B dL_state_0 rfl 2 rfl ?_
  refine z_iconst (v := 0) B dL_state_1 (by decide) ?_
  refine z_aload_n B dL_state_2 rfl 0 rfl ?_
  refine z_iload_n B dL_state_3 rfl 1 rfl ?_
  refine z_cXi (As := [.int w1]) (rest := [.int 0, .ref (b + 431)]) B htab tc_state_4_IndexOutOfBoundsException cw_L_45 cx_9 dL_state_4 (ci_X8_state_1178 l hlt (σ := (ap b σ [] [] [])) (b := b) (lyA hK) w1 q1_w1 q2_w1) (lKA (hk_K hK 0 rfl rfl)) rfl (by decide) rfl (Nat.le_of_ble_eq_true rfl) (by decide) (fun z q => ?_)
  refine z_eqs (σ' := (ap b (wx_Z σ z) [] [] [])) rfl ?_
  show zx p l e _ s m _ below meth c g 4 _ _ _ _ 12 [(0, .ref (b + 0)), (1, .int w1), (2, .ref (b + 431))] _
  refine z_astore_n (lv' := [(3, .ref q), (0, .ref (b + 0)), (1, .int w1), (2, .ref (b + 431))]) B dL_state_12 rfl (by decide) rfl ?_
  refine z_iconst (v := 1) B dL_state_13 (by decide) ?_
  exact z_iret B hr (by decide) (by decide) dL_state_14 ⟨rfl, _, rfl⟩
set_option maxRecDepth 100000 in
set_option maxHeartbeats 4000000 in
theorem ci_X9_state_1180 (l : Launch) {g : gx_T} {σ : sx_T} {b : Nat} (hK : lay b σ) (w1 : Int32) (q1_w1 : (-2147483648 : Int) ≤ w1.toInt) (q2_w1 : w1.toInt ≤ (-1 : Int)) (hI_405_6 : sx_I σ (b + 405) 6 = 0) : Met l yX9_state (.code yX9_state cX9_state 2 (some .int) :: lw_g) { frames := 2, cells := 0, slots := 0, locals := 43 } (va_Pc [.ref (b + 405), .int w1] (zx_w g σ)) (va_Qi (fun r u => r = 0 ∧ u = (ap b σ [(405, 0, 1)] [] [])) (zx_w g) (gx_Q g)) 0 0 (gx_Q g) := by
  refine z_met (by decide) (Nat.le_of_ble_eq_true rfl) (fun p e s m below meth c B hr hin => ?_)
  refine z_eqs (σ' := (ap b σ [] [] [])) rfl ?_
  show zx p l e _ s m _ below meth c g 2 0 0 _ _ 0 [(0, .ref (b + 405)), (1, .int w1)] []
  refine z_aload_n B dX9_state_0 rfl 0 rfl ?_
  refine z_aload_n B dX9_state_1 rfl 0 rfl ?_
  refine z_iload_n B dX9_state_2 rfl 1 rfl ?_
  refine z_cVi (As := [.int w1]) (rest := [.ref (b + 405)]) B cw_X9_262 cx_10 dX9_state_3 (ci_X9_isWorkflow_865 l (σ := (ap b σ [] [] [])) (b := b) (lyA hK) w1 q1_w1 q2_w1 (rI_at 405 6 hI_405_6)) (lKA (hk_K hK 405 rfl rfl)) rfl (by decide) rfl (Nat.le_of_ble_eq_true rfl) (by decide) (fun r u hu => ?_)
  refine z_eqs (σ' := (ap b σ [] [] [])) hu.2 ?_
  show zx p l e _ s m _ below meth c g 2 0 0 _ _ 6 [(0, .ref (b + 405)), (1, .int w1)] _
  refine z_seti (y := 0) hu.1 ?_
  refine z_cVi (As := [.int 0]) (rest := []) B cw_X9_269 cx_10 dX9_state_6 (ci_X9_needs_883 l (σ := (ap b σ [] [] [])) (b := b) (lyA hK) ) (lKA (hk_K hK 405 rfl rfl)) rfl (by decide) rfl (Nat.le_of_ble_eq_true rfl) (by decide) (fun r u hu => ?_)
  refine z_eqs (σ' := (ap b σ [(405, 0, 1)] [] [])) (hu.2.trans ap_ap) ?_
  show zx p l e _ s m _ below meth c g 2 0 0 _ _ 9 [(0, .ref (b + 405)), (1, .int w1)] _
  refine z_seti (y := 0) hu.1 ?_
  refine z_if_ne (tgt := 14) B dX9_state_9 (by decide) (fun h => absurd (by decide) h) (fun _ => ?_)
  refine z_iconst (v := 0) B dX9_state_12 (by decide) ?_
  exact z_iret B hr (by decide) (by decide) dX9_state_13 ⟨rfl, rfl⟩
set_option maxRecDepth 100000 in
set_option maxHeartbeats 4000000 in
theorem ci_X8_state_1181 (l : Launch) (hlt : l.stackTraces = false) {g : gx_T} {σ : sx_T} {b : Nat} (hK : lay b σ) (w1 : Int32) (q1_w1 : (0 : Int) ≤ w1.toInt) (q2_w1 : w1.toInt ≤ (2147483647 : Int)) (hI_0_7 : sx_I σ (b + 0) 7 = 0) : vx_Met l yX8_state (.code yX8_state cX8_state 3 (some .int) :: lw_g) { frames := 7, cells := 1, slots := 6, locals := 136 } (va_Pc [.ref (b + 0), .int w1] (zx_w g σ)) (va_Qi (S := sx_T) (fun _ _ => False) (zx_w g) (gx_Q g)) (vx_X (fun u : sx_T => ∃ z, u = wx_Z σ z) (fun E u t => E = "java/lang/IndexOutOfBoundsException" ∧ zx_h g u t.heap) (gx_Q g)) 1 6 (gx_Q g) := by
  refine z_metX (by decide) (Nat.le_of_ble_eq_true rfl) (fun p e s m below meth c B hr hin hout => ?_)
  refine z_eqs (σ' := (ap b σ [] [] [])) rfl ?_
  show zx p l e _ s m _ below meth c g 3 0 0 _ _ 0 [(0, .ref (b + 0)), (1, .int w1)] []
  refine z_aload_n B dX8_state_0 rfl 0 rfl ?_
  refine z_iload_n B dX8_state_1 rfl 1 rfl ?_
  refine z_cVq (As := [.int w1]) (rest := []) B cw_X8_99 cx_9 dX8_state_2 (ci_X8_flowAt_871 l (σ := (ap b σ [] [] [])) (b := b) (lyA hK) w1 q1_w1 q2_w1 (rI_at 0 7 hI_0_7)) (lKA (hk_K hK 0 rfl rfl)) rfl (by decide) rfl (Nat.le_of_ble_eq_true rfl) (by decide) (fun r u hu => ?_)
  refine z_eqs (σ' := (ap b σ [] [] [])) hu.2 ?_
  show zx p l e _ s m _ below meth c g 3 0 0 _ _ 5 [(0, .ref (b + 0)), (1, .int w1)] _
  refine z_setr (y := none) hu.1 ?_
  refine z_qstore_n (r := none) (lv' := [(2, .null), (0, .ref (b + 0)), (1, .int w1)]) B dX8_state_5 rfl (by decide) rfl ?_
  refine z_qload_n (r := none) B dX8_state_6 rfl 0 rfl ?_
  refine z_ifnonnull (r := none) (tgt := 20) B dX8_state_7 (by decide) (fun a h => nomatch h) (fun _ => ?_)
  exact z_throw B hlt hout (cls := "java/lang/IndexOutOfBoundsException") (text := "no such workflow") tw_X8_72_153_76 dX8_state_10 dX8_state_13 dX8_state_14 dX8_state_16 dX8_state_19 (by decide) (by decide) (by decide) (by decide) (by decide) (by decide) (fun z => ⟨z, rfl⟩)
set_option maxRecDepth 100000 in
set_option maxHeartbeats 4000000 in
theorem ci_L_state_1182 (l : Launch) (hlt : l.stackTraces = false) {g : gx_T} {σ : sx_T} {b : Nat} (hK : lay b σ) (w1 : Int32) (q1_w1 : (0 : Int) ≤ w1.toInt) (q2_w1 : w1.toInt ≤ (2147483647 : Int)) (hI_0_7 : sx_I σ (b + 0) 7 = 0) : Met l yL_state (.codeWith yL_state cL_state 4 (some .int) [(0, 9, 12, 13)] :: lw_g) { frames := 8, cells := 1, slots := 6, locals := 158 } (va_Pc [.ref (b + 0), .int w1, .ref (b + 431)] (zx_w g σ)) (va_Qi (fun r u => r = 1 ∧ ∃ z, u = (ap b (wx_Z σ z) [] [] [])) (zx_w g) (gx_Q g)) 1 6 (gx_Q g) := by
  refine z_metW (by decide) (Nat.le_of_ble_eq_true rfl) (fun p e s m below meth c B hr htab => ?_)
  refine z_eqs (σ' := (ap b σ [] [] [])) rfl ?_
  show zx p l e _ s m _ below meth c g 4 0 0 _ _ 0 [(0, .ref (b + 0)), (1, .int w1), (2, .ref (b + 431))] []
  refine z_aload_n B dL_state_0 rfl 2 rfl ?_
  refine z_iconst (v := 0) B dL_state_1 (by decide) ?_
  refine z_aload_n B dL_state_2 rfl 0 rfl ?_
  refine z_iload_n B dL_state_3 rfl 1 rfl ?_
  refine z_cXi (As := [.int w1]) (rest := [.int 0, .ref (b + 431)]) B htab tc_state_4_IndexOutOfBoundsException cw_L_45 cx_9 dL_state_4 (ci_X8_state_1181 l hlt (σ := (ap b σ [] [] [])) (b := b) (lyA hK) w1 q1_w1 q2_w1 (rI_at 0 7 hI_0_7)) (lKA (hk_K hK 0 rfl rfl)) rfl (by decide) rfl (Nat.le_of_ble_eq_true rfl) (by decide) (fun z q => ?_)
  refine z_eqs (σ' := (ap b (wx_Z σ z) [] [] [])) rfl ?_
  show zx p l e _ s m _ below meth c g 4 _ _ _ _ 12 [(0, .ref (b + 0)), (1, .int w1), (2, .ref (b + 431))] _
  refine z_astore_n (lv' := [(3, .ref q), (0, .ref (b + 0)), (1, .int w1), (2, .ref (b + 431))]) B dL_state_12 rfl (by decide) rfl ?_
  refine z_iconst (v := 1) B dL_state_13 (by decide) ?_
  exact z_iret B hr (by decide) (by decide) dL_state_14 ⟨rfl, _, rfl⟩
set_option maxRecDepth 100000 in
set_option maxHeartbeats 4000000 in
theorem ci_X9_state_1183 (l : Launch) {g : gx_T} {σ : sx_T} {b : Nat} (hK : lay b σ) (w1 : Int32) (q1_w1 : (0 : Int) ≤ w1.toInt) (q2_w1 : w1.toInt ≤ (2147483647 : Int)) (hI_405_6 : sx_I σ (b + 405) 6 = 0) : Met l yX9_state (.code yX9_state cX9_state 2 (some .int) :: lw_g) { frames := 2, cells := 0, slots := 0, locals := 43 } (va_Pc [.ref (b + 405), .int w1] (zx_w g σ)) (va_Qi (fun r u => r = 0 ∧ u = (ap b σ [(405, 0, 1)] [] [])) (zx_w g) (gx_Q g)) 0 0 (gx_Q g) := by
  refine z_met (by decide) (Nat.le_of_ble_eq_true rfl) (fun p e s m below meth c B hr hin => ?_)
  refine z_eqs (σ' := (ap b σ [] [] [])) rfl ?_
  show zx p l e _ s m _ below meth c g 2 0 0 _ _ 0 [(0, .ref (b + 405)), (1, .int w1)] []
  refine z_aload_n B dX9_state_0 rfl 0 rfl ?_
  refine z_aload_n B dX9_state_1 rfl 0 rfl ?_
  refine z_iload_n B dX9_state_2 rfl 1 rfl ?_
  refine z_cVi (As := [.int w1]) (rest := [.ref (b + 405)]) B cw_X9_262 cx_10 dX9_state_3 (ci_X9_isWorkflow_875 l (σ := (ap b σ [] [] [])) (b := b) (lyA hK) w1 q1_w1 q2_w1 (rI_at 405 6 hI_405_6)) (lKA (hk_K hK 405 rfl rfl)) rfl (by decide) rfl (Nat.le_of_ble_eq_true rfl) (by decide) (fun r u hu => ?_)
  refine z_eqs (σ' := (ap b σ [] [] [])) hu.2 ?_
  show zx p l e _ s m _ below meth c g 2 0 0 _ _ 6 [(0, .ref (b + 405)), (1, .int w1)] _
  refine z_seti (y := 0) hu.1 ?_
  refine z_cVi (As := [.int 0]) (rest := []) B cw_X9_269 cx_10 dX9_state_6 (ci_X9_needs_883 l (σ := (ap b σ [] [] [])) (b := b) (lyA hK) ) (lKA (hk_K hK 405 rfl rfl)) rfl (by decide) rfl (Nat.le_of_ble_eq_true rfl) (by decide) (fun r u hu => ?_)
  refine z_eqs (σ' := (ap b σ [(405, 0, 1)] [] [])) (hu.2.trans ap_ap) ?_
  show zx p l e _ s m _ below meth c g 2 0 0 _ _ 9 [(0, .ref (b + 405)), (1, .int w1)] _
  refine z_seti (y := 0) hu.1 ?_
  refine z_if_ne (tgt := 14) B dX9_state_9 (by decide) (fun h => absurd (by decide) h) (fun _ => ?_)
  refine z_iconst (v := 0) B dX9_state_12 (by decide) ?_
  exact z_iret B hr (by decide) (by decide) dX9_state_13 ⟨rfl, rfl⟩
set_option maxRecDepth 100000 in
set_option maxHeartbeats 4000000 in
theorem ci_X8_about_1184 (l : Launch) (hlt : l.stackTraces = false) {g : gx_T} {σ : sx_T} {b : Nat} (hK : lay b σ) (w1 : Int32) (w2 : Int32) (q1_w1 : (-2147483648 : Int) ≤ w1.toInt) (q2_w1 : w1.toInt ≤ (-1 : Int))  : vx_Met l yX8_about (.code yX8_about cX8_about 5 (some .int) :: lw_g) { frames := 7, cells := 1, slots := 6, locals := 136 } (va_Pc [.ref (b + 0), .int w1, .int w2] (zx_w g σ)) (va_Qi (S := sx_T) (fun _ _ => False) (zx_w g) (gx_Q g)) (vx_X (fun u : sx_T => ∃ z, u = wx_Z σ z) (fun E u t => E = "java/lang/IndexOutOfBoundsException" ∧ zx_h g u t.heap) (gx_Q g)) 1 6 (gx_Q g) := by
  refine z_metX (by decide) (Nat.le_of_ble_eq_true rfl) (fun p e s m below meth c B hr hin hout => ?_)
  refine z_eqs (σ' := (ap b σ [] [] [])) rfl ?_
  show zx p l e _ s m _ below meth c g 5 0 0 _ _ 0 [(0, .ref (b + 0)), (1, .int w1), (2, .int w2)] []
  refine z_aload_n B dX8_about_0 rfl 0 rfl ?_
  refine z_iload_n B dX8_about_1 rfl 1 rfl ?_
  refine z_cVq (As := [.int w1]) (rest := []) B cw_X8_99 cx_9 dX8_about_2 (ci_X8_flowAt_861 l (σ := (ap b σ [] [] [])) (b := b) (lyA hK) w1 q1_w1 q2_w1) (lKA (hk_K hK 0 rfl rfl)) rfl (by decide) rfl (Nat.le_of_ble_eq_true rfl) (by decide) (fun r u hu => ?_)
  refine z_eqs (σ' := (ap b σ [] [] [])) hu.2 ?_
  show zx p l e _ s m _ below meth c g 5 0 0 _ _ 5 [(0, .ref (b + 0)), (1, .int w1), (2, .int w2)] _
  refine z_setr (y := none) hu.1 ?_
  refine z_qstore_n (r := none) (lv' := [(3, .null), (0, .ref (b + 0)), (1, .int w1), (2, .int w2)]) B dX8_about_5 rfl (by decide) rfl ?_
  refine z_qload_n (r := none) B dX8_about_6 rfl 0 rfl ?_
  refine z_ifnonnull (r := none) (tgt := 20) B dX8_about_7 (by decide) (fun a h => nomatch h) (fun _ => ?_)
  exact z_throw B hlt hout (cls := "java/lang/IndexOutOfBoundsException") (text := "no such workflow") tw_X8_72_153_76 dX8_about_10 dX8_about_13 dX8_about_14 dX8_about_16 dX8_about_19 (by decide) (by decide) (by decide) (by decide) (by decide) (by decide) (fun z => ⟨z, rfl⟩)
set_option maxRecDepth 100000 in
set_option maxHeartbeats 4000000 in
theorem ci_L_about_1185 (l : Launch) (hlt : l.stackTraces = false) {g : gx_T} {σ : sx_T} {b : Nat} (hK : lay b σ) (w1 : Int32) (w2 : Int32) (q1_w1 : (-2147483648 : Int) ≤ w1.toInt) (q2_w1 : w1.toInt ≤ (-1 : Int))  : Met l yL_about (.codeWith yL_about cL_about 5 (some .int) [(0, 10, 13, 13), (0, 10, 17, 15), (0, 10, 21, 24)] :: lw_g) { frames := 8, cells := 1, slots := 6, locals := 160 } (va_Pc [.ref (b + 0), .int w1, .int w2, .ref (b + 431)] (zx_w g σ)) (va_Qi (fun r u => r = 1 ∧ ∃ z, u = (ap b (wx_Z σ z) [] [] [])) (zx_w g) (gx_Q g)) 1 6 (gx_Q g) := by
  refine z_metW (by decide) (Nat.le_of_ble_eq_true rfl) (fun p e s m below meth c B hr htab => ?_)
  refine z_eqs (σ' := (ap b σ [] [] [])) rfl ?_
  show zx p l e _ s m _ below meth c g 5 0 0 _ _ 0 [(0, .ref (b + 0)), (1, .int w1), (2, .int w2), (3, .ref (b + 431))] []
  refine z_aload_n B dL_about_0 rfl 3 rfl ?_
  refine z_iconst (v := 0) B dL_about_1 (by decide) ?_
  refine z_aload_n B dL_about_2 rfl 0 rfl ?_
  refine z_iload_n B dL_about_3 rfl 1 rfl ?_
  refine z_iload_n B dL_about_4 rfl 2 rfl ?_
  refine z_cXi (As := [.int w1, .int w2]) (rest := [.int 0, .ref (b + 431)]) B htab tc_about_5_IndexOutOfBoundsException cw_L_48 cx_9 dL_about_5 (ci_X8_about_1184 l hlt (σ := (ap b σ [] [] [])) (b := b) (lyA hK) w1 w2 q1_w1 q2_w1) (lKA (hk_K hK 0 rfl rfl)) rfl (by decide) rfl (Nat.le_of_ble_eq_true rfl) (by decide) (fun z q => ?_)
  refine z_eqs (σ' := (ap b (wx_Z σ z) [] [] [])) rfl ?_
  show zx p l e _ s m _ below meth c g 5 _ _ _ _ 13 [(0, .ref (b + 0)), (1, .int w1), (2, .int w2), (3, .ref (b + 431))] _
  refine z_astore (lv' := [(4, .ref q), (0, .ref (b + 0)), (1, .int w1), (2, .int w2), (3, .ref (b + 431))]) B dL_about_13 (by decide) rfl ?_
  refine z_iconst (v := 1) B dL_about_15 (by decide) ?_
  exact z_iret B hr (by decide) (by decide) dL_about_16 ⟨rfl, _, rfl⟩
set_option maxRecDepth 100000 in
set_option maxHeartbeats 4000000 in
theorem ci_X9_in_1186 (l : Launch) {g : gx_T} {σ : sx_T} {b : Nat} (hK : lay b σ) (w1 : Int32) (q1_w1 : (-2147483648 : Int) ≤ w1.toInt) (q2_w1 : w1.toInt ≤ (-1 : Int))  : Met l yX9_in (.code yX9_in cX9_in 3 (some .boolean) :: lw_g) { frames := 0, cells := 0, slots := 0, locals := 0 } (va_Pc [.int w1, .int 0, .int 8] (zx_w g σ)) (va_Qi (fun r u => r = 0 ∧ u = σ) (zx_w g) (gx_Q g)) 0 0 (gx_Q g) := by
  refine z_met (by decide) (Nat.le_of_ble_eq_true rfl) (fun p e s m below meth c B hr hin => ?_)
  refine z_eqs (σ' := (ap b σ [] [] [])) rfl ?_
  show zx p l e _ s m _ below meth c g 3 0 0 _ _ 0 [(0, .int w1), (1, .int 0), (2, .int 8)] []
  refine z_iload_n B dX9_in_0 rfl 0 rfl ?_
  refine z_iload_n B dX9_in_1 rfl 1 rfl ?_
  refine z_icmp_lt (tgt := 14) B dX9_in_2 (by decide) (fun _ => ?_) (fun h => absurd (iv_lt q2_w1 (by decide)) h)
  refine z_iconst (v := 0) B dX9_in_14 (by decide) ?_
  exact z_zret B hr (by decide) (by decide) (by decide) dX9_in_15 ⟨rfl, rfl⟩
set_option maxRecDepth 100000 in
set_option maxHeartbeats 4000000 in
theorem ci_X9_told_1187 (l : Launch) {g : gx_T} {σ : sx_T} {b : Nat} (hK : lay b σ) (w1 : Int32) (w2 : Int32) (q1_w1 : (-2147483648 : Int) ≤ w1.toInt) (q2_w1 : w1.toInt ≤ (-1 : Int)) (q1_w2 : (-2147483648 : Int) ≤ w2.toInt) (q2_w2 : w2.toInt ≤ (-1 : Int)) (hI_405_6 : sx_I σ (b + 405) 6 = 0) : Met l yX9_told (.code yX9_told cX9_told 5 (some .int) :: lw_g) { frames := 2, cells := 0, slots := 0, locals := 43 } (va_Pc [.ref (b + 405), .int w1, .int w2] (zx_w g σ)) (va_Qi (fun r u => r = 0 ∧ u = (ap b σ [(405, 0, 1)] [] [])) (zx_w g) (gx_Q g)) 0 0 (gx_Q g) := by
  refine z_met (by decide) (Nat.le_of_ble_eq_true rfl) (fun p e s m below meth c B hr hin => ?_)
  refine z_eqs (σ' := (ap b σ [] [] [])) rfl ?_
  show zx p l e _ s m _ below meth c g 5 0 0 _ _ 0 [(0, .ref (b + 405)), (1, .int w1), (2, .int w2)] []
  refine z_aload_n B dX9_told_0 rfl 0 rfl ?_
  refine z_iload_n B dX9_told_1 rfl 1 rfl ?_
  refine z_cVi (As := [.int w1]) (rest := []) B cw_X9_262 cx_10 dX9_told_2 (ci_X9_isWorkflow_865 l (σ := (ap b σ [] [] [])) (b := b) (lyA hK) w1 q1_w1 q2_w1 (rI_at 405 6 hI_405_6)) (lKA (hk_K hK 405 rfl rfl)) rfl (by decide) rfl (Nat.le_of_ble_eq_true rfl) (by decide) (fun r u hu => ?_)
  refine z_eqs (σ' := (ap b σ [] [] [])) hu.2 ?_
  show zx p l e _ s m _ below meth c g 5 0 0 _ _ 5 [(0, .ref (b + 405)), (1, .int w1), (2, .int w2)] _
  refine z_seti (y := 0) hu.1 ?_
  refine z_istore_n (lv' := [(3, .int 0), (0, .ref (b + 405)), (1, .int w1), (2, .int w2)]) B dX9_told_5 rfl (by decide) rfl ?_
  refine z_iload_n B dX9_told_6 rfl 3 rfl ?_
  refine z_iconst (v := 0) B dX9_told_7 (by decide) ?_
  refine z_bipush (v := 8) B dX9_told_8 (by decide) ?_
  refine z_cSi (As := [.int w2, .int 0, .int 8]) (rest := []) B cw_X9_96 dX9_told_10 (ci_X9_in_1186 l (σ := (ap b σ [] [] [])) (b := b) (lyA hK) w2 q1_w2 q2_w2) rfl (by decide) rfl (Nat.le_of_ble_eq_true rfl) (by decide) (fun r u hu => ?_)
  refine z_eqs (σ' := (ap b σ [] [] [])) hu.2 ?_
  show zx p l e _ s m _ below meth c g 5 0 0 _ _ 13 [(3, .int 0), (0, .ref (b + 405)), (1, .int w1), (2, .int w2)] _
  refine z_seti (y := 0) hu.1 ?_
  refine z_istore (lv' := [(4, .int 0), (3, .int 0), (0, .ref (b + 405)), (1, .int w1), (2, .int w2)]) B dX9_told_13 (by decide) rfl ?_
  refine z_aload_n B dX9_told_15 rfl 2 rfl ?_
  refine z_iload_n B dX9_told_16 rfl 1 rfl ?_
  refine z_iload B dX9_told_17 0 rfl ?_
  refine z_iload_n B dX9_told_19 rfl 1 rfl ?_
  refine z_if_eq (tgt := 40) B dX9_told_20 (by decide) (fun _ => ?_) (fun h => absurd (by decide) h)
  refine z_iconst (v := 0) B dX9_told_40 (by decide) ?_
  refine z_cVi (As := [.int 0, .int 0, .int 0]) (rest := []) B cw_X9_259 cx_10 dX9_told_41 (ci_X9_needs___890 l (σ := (ap b σ [] [] [])) (b := b) (lyA hK) ) (lKA (hk_K hK 405 rfl rfl)) rfl (by decide) rfl (Nat.le_of_ble_eq_true rfl) (by decide) (fun r u hu => ?_)
  refine z_eqs (σ' := (ap b σ [(405, 0, 1)] [] [])) (hu.2.trans ap_ap) ?_
  show zx p l e _ s m _ below meth c g 5 0 0 _ _ 44 [(4, .int 0), (3, .int 0), (0, .ref (b + 405)), (1, .int w1), (2, .int w2)] _
  refine z_seti (y := 0) hu.1 ?_
  refine z_if_ne (tgt := 49) B dX9_told_44 (by decide) (fun h => absurd (by decide) h) (fun _ => ?_)
  refine z_iconst (v := 0) B dX9_told_47 (by decide) ?_
  exact z_iret B hr (by decide) (by decide) dX9_told_48 ⟨rfl, rfl⟩
set_option maxRecDepth 100000 in
set_option maxHeartbeats 4000000 in
theorem ci_X9_about_1188 (l : Launch) {g : gx_T} {σ : sx_T} {b : Nat} (hK : lay b σ) (w1 : Int32) (w2 : Int32) (q1_w1 : (-2147483648 : Int) ≤ w1.toInt) (q2_w1 : w1.toInt ≤ (-1 : Int)) (q1_w2 : (-2147483648 : Int) ≤ w2.toInt) (q2_w2 : w2.toInt ≤ (-1 : Int)) (hI_405_6 : sx_I σ (b + 405) 6 = 0) : Met l yX9_about (.code yX9_about cX9_about 3 (some .int) :: lw_g) { frames := 3, cells := 0, slots := 0, locals := 67 } (va_Pc [.ref (b + 405), .int w1, .int w2] (zx_w g σ)) (va_Qi (fun r u => r = 0 ∧ u = (ap b σ [(405, 0, 1)] [] [])) (zx_w g) (gx_Q g)) 0 0 (gx_Q g) := by
  refine z_met (by decide) (Nat.le_of_ble_eq_true rfl) (fun p e s m below meth c B hr hin => ?_)
  refine z_eqs (σ' := (ap b σ [] [] [])) rfl ?_
  show zx p l e _ s m _ below meth c g 3 0 0 _ _ 0 [(0, .ref (b + 405)), (1, .int w1), (2, .int w2)] []
  refine z_aload_n B dX9_about_0 rfl 0 rfl ?_
  refine z_iload_n B dX9_about_1 rfl 1 rfl ?_
  refine z_iload_n B dX9_about_2 rfl 2 rfl ?_
  refine z_cVi (As := [.int w1, .int w2]) (rest := []) B cw_X9_297 cx_10 dX9_about_3 (ci_X9_told_1187 l (σ := (ap b σ [] [] [])) (b := b) (lyA hK) w1 w2 q1_w1 q2_w1 q1_w2 q2_w2 (rI_at 405 6 hI_405_6)) (lKA (hk_K hK 405 rfl rfl)) rfl (by decide) rfl (Nat.le_of_ble_eq_true rfl) (by decide) (fun r u hu => ?_)
  refine z_eqs (σ' := (ap b σ [(405, 0, 1)] [] [])) (hu.2.trans ap_ap) ?_
  show zx p l e _ s m _ below meth c g 3 0 0 _ _ 6 [(0, .ref (b + 405)), (1, .int w1), (2, .int w2)] _
  refine z_seti (y := 0) hu.1 ?_
  exact z_iret B hr (by decide) (by decide) dX9_about_6 ⟨rfl, rfl⟩
set_option maxRecDepth 100000 in
set_option maxHeartbeats 4000000 in
theorem ci_X9_in_1189 (l : Launch) {g : gx_T} {σ : sx_T} {b : Nat} (hK : lay b σ) (w1 : Int32) (q1_w1 : (0 : Int) ≤ w1.toInt) (q2_w1 : w1.toInt ≤ (8 : Int))  : Met l yX9_in (.code yX9_in cX9_in 3 (some .boolean) :: lw_g) { frames := 0, cells := 0, slots := 0, locals := 0 } (va_Pc [.int w1, .int 0, .int 8] (zx_w g σ)) (va_Qi (fun r u => r = 1 ∧ u = σ) (zx_w g) (gx_Q g)) 0 0 (gx_Q g) := by
  refine z_met (by decide) (Nat.le_of_ble_eq_true rfl) (fun p e s m below meth c B hr hin => ?_)
  refine z_eqs (σ' := (ap b σ [] [] [])) rfl ?_
  show zx p l e _ s m _ below meth c g 3 0 0 _ _ 0 [(0, .int w1), (1, .int 0), (2, .int 8)] []
  refine z_iload_n B dX9_in_0 rfl 0 rfl ?_
  refine z_iload_n B dX9_in_1 rfl 1 rfl ?_
  refine z_icmp_lt (tgt := 14) B dX9_in_2 (by decide) (fun h => absurd h (iv_nlt q1_w1 (by decide))) (fun _ => ?_)
  refine z_iload_n B dX9_in_5 rfl 0 rfl ?_
  refine z_iload_n B dX9_in_6 rfl 2 rfl ?_
  refine z_icmp_gt (tgt := 14) B dX9_in_7 (by decide) (fun h => absurd h (iv_ngt q2_w1 (by decide))) (fun _ => ?_)
  refine z_iconst (v := 1) B dX9_in_10 (by decide) ?_
  refine z_goto (tgt := 15) B dX9_in_11 (by decide) ?_
  exact z_zret B hr (by decide) (by decide) (by decide) dX9_in_15 ⟨rfl, rfl⟩
set_option maxRecDepth 100000 in
set_option maxHeartbeats 4000000 in
theorem ci_X9_needs___1190 (l : Launch) {g : gx_T} {σ : sx_T} {b : Nat} (hK : lay b σ)    : Met l yX9_needs__ (.code yX9_needs__ cX9_needs__ 4 (some .boolean) :: lw_g) { frames := 0, cells := 0, slots := 0, locals := 0 } (va_Pc [.ref (b + 405), .int 0, .int 1, .int 0] (zx_w g σ)) (va_Qi (fun r u => r = 0 ∧ u = (ap b σ [(405, 0, 1)] [] [])) (zx_w g) (gx_Q g)) 0 0 (gx_Q g) := by
  refine z_met (by decide) (Nat.le_of_ble_eq_true rfl) (fun p e s m below meth c B hr hin => ?_)
  refine z_eqs (σ' := (ap b σ [] [] [])) rfl ?_
  show zx p l e _ s m _ below meth c g 4 0 0 _ _ 0 [(0, .ref (b + 405)), (1, .int 0), (2, .int 1), (3, .int 0)] []
  refine z_aload_n B dX9_needs___0 rfl 0 rfl ?_
  refine z_iload_n B dX9_needs___1 rfl 1 rfl ?_
  refine z_if_ne (tgt := 9) B dX9_needs___2 (by decide) (fun h => absurd (by decide) h) (fun _ => ?_)
  refine z_iconst (v := 1) B dX9_needs___5 (by decide) ?_
  refine z_goto (tgt := 26) B dX9_needs___6 (by decide) ?_
  refine pf_X9_90 (x := 1) (σ' := (ap b σ [(405, 0, 1)] [] [])) B (lKA (hk_K hK 405 rfl rfl)) wI_ap dX9_needs___26 ?_
  refine z_aload_n B dX9_needs___29 rfl 0 rfl ?_
  refine gf_X9_90 (x := 1) B (lKA (hk_K hK 405 rfl rfl)) (rI_at 405 0 rfl) dX9_needs___30 ?_
  refine z_if_ne (tgt := 40) B dX9_needs___33 (by decide) (fun _ => ?_) (fun h => absurd h (by decide))
  refine z_iconst (v := 0) B dX9_needs___40 (by decide) ?_
  exact z_zret B hr (by decide) (by decide) (by decide) dX9_needs___41 ⟨rfl, rfl⟩
set_option maxRecDepth 100000 in
set_option maxHeartbeats 4000000 in
theorem ci_X9_told_1191 (l : Launch) {g : gx_T} {σ : sx_T} {b : Nat} (hK : lay b σ) (w1 : Int32) (w2 : Int32) (q1_w1 : (-2147483648 : Int) ≤ w1.toInt) (q2_w1 : w1.toInt ≤ (-1 : Int)) (q1_w2 : (0 : Int) ≤ w2.toInt) (q2_w2 : w2.toInt ≤ (8 : Int)) (hI_405_6 : sx_I σ (b + 405) 6 = 0) : Met l yX9_told (.code yX9_told cX9_told 5 (some .int) :: lw_g) { frames := 2, cells := 0, slots := 0, locals := 43 } (va_Pc [.ref (b + 405), .int w1, .int w2] (zx_w g σ)) (va_Qi (fun r u => r = 0 ∧ u = (ap b σ [(405, 0, 1)] [] [])) (zx_w g) (gx_Q g)) 0 0 (gx_Q g) := by
  refine z_met (by decide) (Nat.le_of_ble_eq_true rfl) (fun p e s m below meth c B hr hin => ?_)
  refine z_eqs (σ' := (ap b σ [] [] [])) rfl ?_
  show zx p l e _ s m _ below meth c g 5 0 0 _ _ 0 [(0, .ref (b + 405)), (1, .int w1), (2, .int w2)] []
  refine z_aload_n B dX9_told_0 rfl 0 rfl ?_
  refine z_iload_n B dX9_told_1 rfl 1 rfl ?_
  refine z_cVi (As := [.int w1]) (rest := []) B cw_X9_262 cx_10 dX9_told_2 (ci_X9_isWorkflow_865 l (σ := (ap b σ [] [] [])) (b := b) (lyA hK) w1 q1_w1 q2_w1 (rI_at 405 6 hI_405_6)) (lKA (hk_K hK 405 rfl rfl)) rfl (by decide) rfl (Nat.le_of_ble_eq_true rfl) (by decide) (fun r u hu => ?_)
  refine z_eqs (σ' := (ap b σ [] [] [])) hu.2 ?_
  show zx p l e _ s m _ below meth c g 5 0 0 _ _ 5 [(0, .ref (b + 405)), (1, .int w1), (2, .int w2)] _
  refine z_seti (y := 0) hu.1 ?_
  refine z_istore_n (lv' := [(3, .int 0), (0, .ref (b + 405)), (1, .int w1), (2, .int w2)]) B dX9_told_5 rfl (by decide) rfl ?_
  refine z_iload_n B dX9_told_6 rfl 3 rfl ?_
  refine z_iconst (v := 0) B dX9_told_7 (by decide) ?_
  refine z_bipush (v := 8) B dX9_told_8 (by decide) ?_
  refine z_cSi (As := [.int w2, .int 0, .int 8]) (rest := []) B cw_X9_96 dX9_told_10 (ci_X9_in_1189 l (σ := (ap b σ [] [] [])) (b := b) (lyA hK) w2 q1_w2 q2_w2) rfl (by decide) rfl (Nat.le_of_ble_eq_true rfl) (by decide) (fun r u hu => ?_)
  refine z_eqs (σ' := (ap b σ [] [] [])) hu.2 ?_
  show zx p l e _ s m _ below meth c g 5 0 0 _ _ 13 [(3, .int 0), (0, .ref (b + 405)), (1, .int w1), (2, .int w2)] _
  refine z_seti (y := 1) hu.1 ?_
  refine z_istore (lv' := [(4, .int 1), (3, .int 0), (0, .ref (b + 405)), (1, .int w1), (2, .int w2)]) B dX9_told_13 (by decide) rfl ?_
  refine z_aload_n B dX9_told_15 rfl 2 rfl ?_
  refine z_iload_n B dX9_told_16 rfl 1 rfl ?_
  refine z_iload B dX9_told_17 0 rfl ?_
  refine z_iload_n B dX9_told_19 rfl 1 rfl ?_
  refine z_if_eq (tgt := 40) B dX9_told_20 (by decide) (fun _ => ?_) (fun h => absurd (by decide) h)
  refine z_iconst (v := 0) B dX9_told_40 (by decide) ?_
  refine z_cVi (As := [.int 0, .int 1, .int 0]) (rest := []) B cw_X9_259 cx_10 dX9_told_41 (ci_X9_needs___1190 l (σ := (ap b σ [] [] [])) (b := b) (lyA hK) ) (lKA (hk_K hK 405 rfl rfl)) rfl (by decide) rfl (Nat.le_of_ble_eq_true rfl) (by decide) (fun r u hu => ?_)
  refine z_eqs (σ' := (ap b σ [(405, 0, 1)] [] [])) (hu.2.trans ap_ap) ?_
  show zx p l e _ s m _ below meth c g 5 0 0 _ _ 44 [(4, .int 1), (3, .int 0), (0, .ref (b + 405)), (1, .int w1), (2, .int w2)] _
  refine z_seti (y := 0) hu.1 ?_
  refine z_if_ne (tgt := 49) B dX9_told_44 (by decide) (fun h => absurd (by decide) h) (fun _ => ?_)
  refine z_iconst (v := 0) B dX9_told_47 (by decide) ?_
  exact z_iret B hr (by decide) (by decide) dX9_told_48 ⟨rfl, rfl⟩
set_option maxRecDepth 100000 in
set_option maxHeartbeats 4000000 in
theorem ci_X9_about_1192 (l : Launch) {g : gx_T} {σ : sx_T} {b : Nat} (hK : lay b σ) (w1 : Int32) (w2 : Int32) (q1_w1 : (-2147483648 : Int) ≤ w1.toInt) (q2_w1 : w1.toInt ≤ (-1 : Int)) (q1_w2 : (0 : Int) ≤ w2.toInt) (q2_w2 : w2.toInt ≤ (8 : Int)) (hI_405_6 : sx_I σ (b + 405) 6 = 0) : Met l yX9_about (.code yX9_about cX9_about 3 (some .int) :: lw_g) { frames := 3, cells := 0, slots := 0, locals := 67 } (va_Pc [.ref (b + 405), .int w1, .int w2] (zx_w g σ)) (va_Qi (fun r u => r = 0 ∧ u = (ap b σ [(405, 0, 1)] [] [])) (zx_w g) (gx_Q g)) 0 0 (gx_Q g) := by
  refine z_met (by decide) (Nat.le_of_ble_eq_true rfl) (fun p e s m below meth c B hr hin => ?_)
  refine z_eqs (σ' := (ap b σ [] [] [])) rfl ?_
  show zx p l e _ s m _ below meth c g 3 0 0 _ _ 0 [(0, .ref (b + 405)), (1, .int w1), (2, .int w2)] []
  refine z_aload_n B dX9_about_0 rfl 0 rfl ?_
  refine z_iload_n B dX9_about_1 rfl 1 rfl ?_
  refine z_iload_n B dX9_about_2 rfl 2 rfl ?_
  refine z_cVi (As := [.int w1, .int w2]) (rest := []) B cw_X9_297 cx_10 dX9_about_3 (ci_X9_told_1191 l (σ := (ap b σ [] [] [])) (b := b) (lyA hK) w1 w2 q1_w1 q2_w1 q1_w2 q2_w2 (rI_at 405 6 hI_405_6)) (lKA (hk_K hK 405 rfl rfl)) rfl (by decide) rfl (Nat.le_of_ble_eq_true rfl) (by decide) (fun r u hu => ?_)
  refine z_eqs (σ' := (ap b σ [(405, 0, 1)] [] [])) (hu.2.trans ap_ap) ?_
  show zx p l e _ s m _ below meth c g 3 0 0 _ _ 6 [(0, .ref (b + 405)), (1, .int w1), (2, .int w2)] _
  refine z_seti (y := 0) hu.1 ?_
  exact z_iret B hr (by decide) (by decide) dX9_about_6 ⟨rfl, rfl⟩
set_option maxRecDepth 100000 in
set_option maxHeartbeats 4000000 in
theorem ci_X9_in_1193 (l : Launch) {g : gx_T} {σ : sx_T} {b : Nat} (hK : lay b σ) (w1 : Int32) (q1_w1 : (9 : Int) ≤ w1.toInt) (q2_w1 : w1.toInt ≤ (2147483647 : Int))  : Met l yX9_in (.code yX9_in cX9_in 3 (some .boolean) :: lw_g) { frames := 0, cells := 0, slots := 0, locals := 0 } (va_Pc [.int w1, .int 0, .int 8] (zx_w g σ)) (va_Qi (fun r u => r = 0 ∧ u = σ) (zx_w g) (gx_Q g)) 0 0 (gx_Q g) := by
  refine z_met (by decide) (Nat.le_of_ble_eq_true rfl) (fun p e s m below meth c B hr hin => ?_)
  refine z_eqs (σ' := (ap b σ [] [] [])) rfl ?_
  show zx p l e _ s m _ below meth c g 3 0 0 _ _ 0 [(0, .int w1), (1, .int 0), (2, .int 8)] []
  refine z_iload_n B dX9_in_0 rfl 0 rfl ?_
  refine z_iload_n B dX9_in_1 rfl 1 rfl ?_
  refine z_icmp_lt (tgt := 14) B dX9_in_2 (by decide) (fun h => absurd h (iv_nlt q1_w1 (by decide))) (fun _ => ?_)
  refine z_iload_n B dX9_in_5 rfl 0 rfl ?_
  refine z_iload_n B dX9_in_6 rfl 2 rfl ?_
  refine z_icmp_gt (tgt := 14) B dX9_in_7 (by decide) (fun _ => ?_) (fun h => absurd (iv_gt q1_w1 (by decide)) h)
  refine z_iconst (v := 0) B dX9_in_14 (by decide) ?_
  exact z_zret B hr (by decide) (by decide) (by decide) dX9_in_15 ⟨rfl, rfl⟩
set_option maxRecDepth 100000 in
set_option maxHeartbeats 4000000 in
theorem ci_X9_told_1194 (l : Launch) {g : gx_T} {σ : sx_T} {b : Nat} (hK : lay b σ) (w1 : Int32) (w2 : Int32) (q1_w1 : (-2147483648 : Int) ≤ w1.toInt) (q2_w1 : w1.toInt ≤ (-1 : Int)) (q1_w2 : (9 : Int) ≤ w2.toInt) (q2_w2 : w2.toInt ≤ (2147483647 : Int)) (hI_405_6 : sx_I σ (b + 405) 6 = 0) : Met l yX9_told (.code yX9_told cX9_told 5 (some .int) :: lw_g) { frames := 2, cells := 0, slots := 0, locals := 43 } (va_Pc [.ref (b + 405), .int w1, .int w2] (zx_w g σ)) (va_Qi (fun r u => r = 0 ∧ u = (ap b σ [(405, 0, 1)] [] [])) (zx_w g) (gx_Q g)) 0 0 (gx_Q g) := by
  refine z_met (by decide) (Nat.le_of_ble_eq_true rfl) (fun p e s m below meth c B hr hin => ?_)
  refine z_eqs (σ' := (ap b σ [] [] [])) rfl ?_
  show zx p l e _ s m _ below meth c g 5 0 0 _ _ 0 [(0, .ref (b + 405)), (1, .int w1), (2, .int w2)] []
  refine z_aload_n B dX9_told_0 rfl 0 rfl ?_
  refine z_iload_n B dX9_told_1 rfl 1 rfl ?_
  refine z_cVi (As := [.int w1]) (rest := []) B cw_X9_262 cx_10 dX9_told_2 (ci_X9_isWorkflow_865 l (σ := (ap b σ [] [] [])) (b := b) (lyA hK) w1 q1_w1 q2_w1 (rI_at 405 6 hI_405_6)) (lKA (hk_K hK 405 rfl rfl)) rfl (by decide) rfl (Nat.le_of_ble_eq_true rfl) (by decide) (fun r u hu => ?_)
  refine z_eqs (σ' := (ap b σ [] [] [])) hu.2 ?_
  show zx p l e _ s m _ below meth c g 5 0 0 _ _ 5 [(0, .ref (b + 405)), (1, .int w1), (2, .int w2)] _
  refine z_seti (y := 0) hu.1 ?_
  refine z_istore_n (lv' := [(3, .int 0), (0, .ref (b + 405)), (1, .int w1), (2, .int w2)]) B dX9_told_5 rfl (by decide) rfl ?_
  refine z_iload_n B dX9_told_6 rfl 3 rfl ?_
  refine z_iconst (v := 0) B dX9_told_7 (by decide) ?_
  refine z_bipush (v := 8) B dX9_told_8 (by decide) ?_
  refine z_cSi (As := [.int w2, .int 0, .int 8]) (rest := []) B cw_X9_96 dX9_told_10 (ci_X9_in_1193 l (σ := (ap b σ [] [] [])) (b := b) (lyA hK) w2 q1_w2 q2_w2) rfl (by decide) rfl (Nat.le_of_ble_eq_true rfl) (by decide) (fun r u hu => ?_)
  refine z_eqs (σ' := (ap b σ [] [] [])) hu.2 ?_
  show zx p l e _ s m _ below meth c g 5 0 0 _ _ 13 [(3, .int 0), (0, .ref (b + 405)), (1, .int w1), (2, .int w2)] _
  refine z_seti (y := 0) hu.1 ?_
  refine z_istore (lv' := [(4, .int 0), (3, .int 0), (0, .ref (b + 405)), (1, .int w1), (2, .int w2)]) B dX9_told_13 (by decide) rfl ?_
  refine z_aload_n B dX9_told_15 rfl 2 rfl ?_
  refine z_iload_n B dX9_told_16 rfl 1 rfl ?_
  refine z_iload B dX9_told_17 0 rfl ?_
  refine z_iload_n B dX9_told_19 rfl 1 rfl ?_
  refine z_if_eq (tgt := 40) B dX9_told_20 (by decide) (fun _ => ?_) (fun h => absurd (by decide) h)
  refine z_iconst (v := 0) B dX9_told_40 (by decide) ?_
  refine z_cVi (As := [.int 0, .int 0, .int 0]) (rest := []) B cw_X9_259 cx_10 dX9_told_41 (ci_X9_needs___890 l (σ := (ap b σ [] [] [])) (b := b) (lyA hK) ) (lKA (hk_K hK 405 rfl rfl)) rfl (by decide) rfl (Nat.le_of_ble_eq_true rfl) (by decide) (fun r u hu => ?_)
  refine z_eqs (σ' := (ap b σ [(405, 0, 1)] [] [])) (hu.2.trans ap_ap) ?_
  show zx p l e _ s m _ below meth c g 5 0 0 _ _ 44 [(4, .int 0), (3, .int 0), (0, .ref (b + 405)), (1, .int w1), (2, .int w2)] _
  refine z_seti (y := 0) hu.1 ?_
  refine z_if_ne (tgt := 49) B dX9_told_44 (by decide) (fun h => absurd (by decide) h) (fun _ => ?_)
  refine z_iconst (v := 0) B dX9_told_47 (by decide) ?_
  exact z_iret B hr (by decide) (by decide) dX9_told_48 ⟨rfl, rfl⟩
set_option maxRecDepth 100000 in
set_option maxHeartbeats 4000000 in
theorem ci_X9_about_1195 (l : Launch) {g : gx_T} {σ : sx_T} {b : Nat} (hK : lay b σ) (w1 : Int32) (w2 : Int32) (q1_w1 : (-2147483648 : Int) ≤ w1.toInt) (q2_w1 : w1.toInt ≤ (-1 : Int)) (q1_w2 : (9 : Int) ≤ w2.toInt) (q2_w2 : w2.toInt ≤ (2147483647 : Int)) (hI_405_6 : sx_I σ (b + 405) 6 = 0) : Met l yX9_about (.code yX9_about cX9_about 3 (some .int) :: lw_g) { frames := 3, cells := 0, slots := 0, locals := 67 } (va_Pc [.ref (b + 405), .int w1, .int w2] (zx_w g σ)) (va_Qi (fun r u => r = 0 ∧ u = (ap b σ [(405, 0, 1)] [] [])) (zx_w g) (gx_Q g)) 0 0 (gx_Q g) := by
  refine z_met (by decide) (Nat.le_of_ble_eq_true rfl) (fun p e s m below meth c B hr hin => ?_)
  refine z_eqs (σ' := (ap b σ [] [] [])) rfl ?_
  show zx p l e _ s m _ below meth c g 3 0 0 _ _ 0 [(0, .ref (b + 405)), (1, .int w1), (2, .int w2)] []
  refine z_aload_n B dX9_about_0 rfl 0 rfl ?_
  refine z_iload_n B dX9_about_1 rfl 1 rfl ?_
  refine z_iload_n B dX9_about_2 rfl 2 rfl ?_
  refine z_cVi (As := [.int w1, .int w2]) (rest := []) B cw_X9_297 cx_10 dX9_about_3 (ci_X9_told_1194 l (σ := (ap b σ [] [] [])) (b := b) (lyA hK) w1 w2 q1_w1 q2_w1 q1_w2 q2_w2 (rI_at 405 6 hI_405_6)) (lKA (hk_K hK 405 rfl rfl)) rfl (by decide) rfl (Nat.le_of_ble_eq_true rfl) (by decide) (fun r u hu => ?_)
  refine z_eqs (σ' := (ap b σ [(405, 0, 1)] [] [])) (hu.2.trans ap_ap) ?_
  show zx p l e _ s m _ below meth c g 3 0 0 _ _ 6 [(0, .ref (b + 405)), (1, .int w1), (2, .int w2)] _
  refine z_seti (y := 0) hu.1 ?_
  exact z_iret B hr (by decide) (by decide) dX9_about_6 ⟨rfl, rfl⟩
set_option maxRecDepth 100000 in
set_option maxHeartbeats 4000000 in
theorem ci_X8_about_1196 (l : Launch) (hlt : l.stackTraces = false) {g : gx_T} {σ : sx_T} {b : Nat} (hK : lay b σ) (w1 : Int32) (w2 : Int32) (q1_w1 : (0 : Int) ≤ w1.toInt) (q2_w1 : w1.toInt ≤ (2147483647 : Int)) (hI_0_7 : sx_I σ (b + 0) 7 = 0) : vx_Met l yX8_about (.code yX8_about cX8_about 5 (some .int) :: lw_g) { frames := 7, cells := 1, slots := 6, locals := 136 } (va_Pc [.ref (b + 0), .int w1, .int w2] (zx_w g σ)) (va_Qi (S := sx_T) (fun _ _ => False) (zx_w g) (gx_Q g)) (vx_X (fun u : sx_T => ∃ z, u = wx_Z σ z) (fun E u t => E = "java/lang/IndexOutOfBoundsException" ∧ zx_h g u t.heap) (gx_Q g)) 1 6 (gx_Q g) := by
  refine z_metX (by decide) (Nat.le_of_ble_eq_true rfl) (fun p e s m below meth c B hr hin hout => ?_)
  refine z_eqs (σ' := (ap b σ [] [] [])) rfl ?_
  show zx p l e _ s m _ below meth c g 5 0 0 _ _ 0 [(0, .ref (b + 0)), (1, .int w1), (2, .int w2)] []
  refine z_aload_n B dX8_about_0 rfl 0 rfl ?_
  refine z_iload_n B dX8_about_1 rfl 1 rfl ?_
  refine z_cVq (As := [.int w1]) (rest := []) B cw_X8_99 cx_9 dX8_about_2 (ci_X8_flowAt_871 l (σ := (ap b σ [] [] [])) (b := b) (lyA hK) w1 q1_w1 q2_w1 (rI_at 0 7 hI_0_7)) (lKA (hk_K hK 0 rfl rfl)) rfl (by decide) rfl (Nat.le_of_ble_eq_true rfl) (by decide) (fun r u hu => ?_)
  refine z_eqs (σ' := (ap b σ [] [] [])) hu.2 ?_
  show zx p l e _ s m _ below meth c g 5 0 0 _ _ 5 [(0, .ref (b + 0)), (1, .int w1), (2, .int w2)] _
  refine z_setr (y := none) hu.1 ?_
  refine z_qstore_n (r := none) (lv' := [(3, .null), (0, .ref (b + 0)), (1, .int w1), (2, .int w2)]) B dX8_about_5 rfl (by decide) rfl ?_
  refine z_qload_n (r := none) B dX8_about_6 rfl 0 rfl ?_
  refine z_ifnonnull (r := none) (tgt := 20) B dX8_about_7 (by decide) (fun a h => nomatch h) (fun _ => ?_)
  exact z_throw B hlt hout (cls := "java/lang/IndexOutOfBoundsException") (text := "no such workflow") tw_X8_72_153_76 dX8_about_10 dX8_about_13 dX8_about_14 dX8_about_16 dX8_about_19 (by decide) (by decide) (by decide) (by decide) (by decide) (by decide) (fun z => ⟨z, rfl⟩)
set_option maxRecDepth 100000 in
set_option maxHeartbeats 4000000 in
theorem ci_L_about_1197 (l : Launch) (hlt : l.stackTraces = false) {g : gx_T} {σ : sx_T} {b : Nat} (hK : lay b σ) (w1 : Int32) (w2 : Int32) (q1_w1 : (0 : Int) ≤ w1.toInt) (q2_w1 : w1.toInt ≤ (2147483647 : Int)) (hI_0_7 : sx_I σ (b + 0) 7 = 0) : Met l yL_about (.codeWith yL_about cL_about 5 (some .int) [(0, 10, 13, 13), (0, 10, 17, 15), (0, 10, 21, 24)] :: lw_g) { frames := 8, cells := 1, slots := 6, locals := 160 } (va_Pc [.ref (b + 0), .int w1, .int w2, .ref (b + 431)] (zx_w g σ)) (va_Qi (fun r u => r = 1 ∧ ∃ z, u = (ap b (wx_Z σ z) [] [] [])) (zx_w g) (gx_Q g)) 1 6 (gx_Q g) := by
  refine z_metW (by decide) (Nat.le_of_ble_eq_true rfl) (fun p e s m below meth c B hr htab => ?_)
  refine z_eqs (σ' := (ap b σ [] [] [])) rfl ?_
  show zx p l e _ s m _ below meth c g 5 0 0 _ _ 0 [(0, .ref (b + 0)), (1, .int w1), (2, .int w2), (3, .ref (b + 431))] []
  refine z_aload_n B dL_about_0 rfl 3 rfl ?_
  refine z_iconst (v := 0) B dL_about_1 (by decide) ?_
  refine z_aload_n B dL_about_2 rfl 0 rfl ?_
  refine z_iload_n B dL_about_3 rfl 1 rfl ?_
  refine z_iload_n B dL_about_4 rfl 2 rfl ?_
  refine z_cXi (As := [.int w1, .int w2]) (rest := [.int 0, .ref (b + 431)]) B htab tc_about_5_IndexOutOfBoundsException cw_L_48 cx_9 dL_about_5 (ci_X8_about_1196 l hlt (σ := (ap b σ [] [] [])) (b := b) (lyA hK) w1 w2 q1_w1 q2_w1 (rI_at 0 7 hI_0_7)) (lKA (hk_K hK 0 rfl rfl)) rfl (by decide) rfl (Nat.le_of_ble_eq_true rfl) (by decide) (fun z q => ?_)
  refine z_eqs (σ' := (ap b (wx_Z σ z) [] [] [])) rfl ?_
  show zx p l e _ s m _ below meth c g 5 _ _ _ _ 13 [(0, .ref (b + 0)), (1, .int w1), (2, .int w2), (3, .ref (b + 431))] _
  refine z_astore (lv' := [(4, .ref q), (0, .ref (b + 0)), (1, .int w1), (2, .int w2), (3, .ref (b + 431))]) B dL_about_13 (by decide) rfl ?_
  refine z_iconst (v := 1) B dL_about_15 (by decide) ?_
  exact z_iret B hr (by decide) (by decide) dL_about_16 ⟨rfl, _, rfl⟩
set_option maxRecDepth 100000 in
set_option maxHeartbeats 4000000 in
theorem ci_X9_told_1198 (l : Launch) {g : gx_T} {σ : sx_T} {b : Nat} (hK : lay b σ) (w1 : Int32) (w2 : Int32) (q1_w1 : (0 : Int) ≤ w1.toInt) (q2_w1 : w1.toInt ≤ (2147483647 : Int)) (q1_w2 : (-2147483648 : Int) ≤ w2.toInt) (q2_w2 : w2.toInt ≤ (-1 : Int)) (hI_405_6 : sx_I σ (b + 405) 6 = 0) : Met l yX9_told (.code yX9_told cX9_told 5 (some .int) :: lw_g) { frames := 2, cells := 0, slots := 0, locals := 43 } (va_Pc [.ref (b + 405), .int w1, .int w2] (zx_w g σ)) (va_Qi (fun r u => r = 0 ∧ u = (ap b σ [(405, 0, 1)] [] [])) (zx_w g) (gx_Q g)) 0 0 (gx_Q g) := by
  refine z_met (by decide) (Nat.le_of_ble_eq_true rfl) (fun p e s m below meth c B hr hin => ?_)
  refine z_eqs (σ' := (ap b σ [] [] [])) rfl ?_
  show zx p l e _ s m _ below meth c g 5 0 0 _ _ 0 [(0, .ref (b + 405)), (1, .int w1), (2, .int w2)] []
  refine z_aload_n B dX9_told_0 rfl 0 rfl ?_
  refine z_iload_n B dX9_told_1 rfl 1 rfl ?_
  refine z_cVi (As := [.int w1]) (rest := []) B cw_X9_262 cx_10 dX9_told_2 (ci_X9_isWorkflow_875 l (σ := (ap b σ [] [] [])) (b := b) (lyA hK) w1 q1_w1 q2_w1 (rI_at 405 6 hI_405_6)) (lKA (hk_K hK 405 rfl rfl)) rfl (by decide) rfl (Nat.le_of_ble_eq_true rfl) (by decide) (fun r u hu => ?_)
  refine z_eqs (σ' := (ap b σ [] [] [])) hu.2 ?_
  show zx p l e _ s m _ below meth c g 5 0 0 _ _ 5 [(0, .ref (b + 405)), (1, .int w1), (2, .int w2)] _
  refine z_seti (y := 0) hu.1 ?_
  refine z_istore_n (lv' := [(3, .int 0), (0, .ref (b + 405)), (1, .int w1), (2, .int w2)]) B dX9_told_5 rfl (by decide) rfl ?_
  refine z_iload_n B dX9_told_6 rfl 3 rfl ?_
  refine z_iconst (v := 0) B dX9_told_7 (by decide) ?_
  refine z_bipush (v := 8) B dX9_told_8 (by decide) ?_
  refine z_cSi (As := [.int w2, .int 0, .int 8]) (rest := []) B cw_X9_96 dX9_told_10 (ci_X9_in_1186 l (σ := (ap b σ [] [] [])) (b := b) (lyA hK) w2 q1_w2 q2_w2) rfl (by decide) rfl (Nat.le_of_ble_eq_true rfl) (by decide) (fun r u hu => ?_)
  refine z_eqs (σ' := (ap b σ [] [] [])) hu.2 ?_
  show zx p l e _ s m _ below meth c g 5 0 0 _ _ 13 [(3, .int 0), (0, .ref (b + 405)), (1, .int w1), (2, .int w2)] _
  refine z_seti (y := 0) hu.1 ?_
  refine z_istore (lv' := [(4, .int 0), (3, .int 0), (0, .ref (b + 405)), (1, .int w1), (2, .int w2)]) B dX9_told_13 (by decide) rfl ?_
  refine z_aload_n B dX9_told_15 rfl 2 rfl ?_
  refine z_iload_n B dX9_told_16 rfl 1 rfl ?_
  refine z_iload B dX9_told_17 0 rfl ?_
  refine z_iload_n B dX9_told_19 rfl 1 rfl ?_
  refine z_if_eq (tgt := 40) B dX9_told_20 (by decide) (fun _ => ?_) (fun h => absurd (by decide) h)
  refine z_iconst (v := 0) B dX9_told_40 (by decide) ?_
  refine z_cVi (As := [.int 0, .int 0, .int 0]) (rest := []) B cw_X9_259 cx_10 dX9_told_41 (ci_X9_needs___890 l (σ := (ap b σ [] [] [])) (b := b) (lyA hK) ) (lKA (hk_K hK 405 rfl rfl)) rfl (by decide) rfl (Nat.le_of_ble_eq_true rfl) (by decide) (fun r u hu => ?_)
  refine z_eqs (σ' := (ap b σ [(405, 0, 1)] [] [])) (hu.2.trans ap_ap) ?_
  show zx p l e _ s m _ below meth c g 5 0 0 _ _ 44 [(4, .int 0), (3, .int 0), (0, .ref (b + 405)), (1, .int w1), (2, .int w2)] _
  refine z_seti (y := 0) hu.1 ?_
  refine z_if_ne (tgt := 49) B dX9_told_44 (by decide) (fun h => absurd (by decide) h) (fun _ => ?_)
  refine z_iconst (v := 0) B dX9_told_47 (by decide) ?_
  exact z_iret B hr (by decide) (by decide) dX9_told_48 ⟨rfl, rfl⟩
set_option maxRecDepth 100000 in
set_option maxHeartbeats 4000000 in
theorem ci_X9_about_1199 (l : Launch) {g : gx_T} {σ : sx_T} {b : Nat} (hK : lay b σ) (w1 : Int32) (w2 : Int32) (q1_w1 : (0 : Int) ≤ w1.toInt) (q2_w1 : w1.toInt ≤ (2147483647 : Int)) (q1_w2 : (-2147483648 : Int) ≤ w2.toInt) (q2_w2 : w2.toInt ≤ (-1 : Int)) (hI_405_6 : sx_I σ (b + 405) 6 = 0) : Met l yX9_about (.code yX9_about cX9_about 3 (some .int) :: lw_g) { frames := 3, cells := 0, slots := 0, locals := 67 } (va_Pc [.ref (b + 405), .int w1, .int w2] (zx_w g σ)) (va_Qi (fun r u => r = 0 ∧ u = (ap b σ [(405, 0, 1)] [] [])) (zx_w g) (gx_Q g)) 0 0 (gx_Q g) := by
  refine z_met (by decide) (Nat.le_of_ble_eq_true rfl) (fun p e s m below meth c B hr hin => ?_)
  refine z_eqs (σ' := (ap b σ [] [] [])) rfl ?_
  show zx p l e _ s m _ below meth c g 3 0 0 _ _ 0 [(0, .ref (b + 405)), (1, .int w1), (2, .int w2)] []
  refine z_aload_n B dX9_about_0 rfl 0 rfl ?_
  refine z_iload_n B dX9_about_1 rfl 1 rfl ?_
  refine z_iload_n B dX9_about_2 rfl 2 rfl ?_
  refine z_cVi (As := [.int w1, .int w2]) (rest := []) B cw_X9_297 cx_10 dX9_about_3 (ci_X9_told_1198 l (σ := (ap b σ [] [] [])) (b := b) (lyA hK) w1 w2 q1_w1 q2_w1 q1_w2 q2_w2 (rI_at 405 6 hI_405_6)) (lKA (hk_K hK 405 rfl rfl)) rfl (by decide) rfl (Nat.le_of_ble_eq_true rfl) (by decide) (fun r u hu => ?_)
  refine z_eqs (σ' := (ap b σ [(405, 0, 1)] [] [])) (hu.2.trans ap_ap) ?_
  show zx p l e _ s m _ below meth c g 3 0 0 _ _ 6 [(0, .ref (b + 405)), (1, .int w1), (2, .int w2)] _
  refine z_seti (y := 0) hu.1 ?_
  exact z_iret B hr (by decide) (by decide) dX9_about_6 ⟨rfl, rfl⟩
set_option maxRecDepth 100000 in
set_option maxHeartbeats 4000000 in
theorem ci_X9_told_1200 (l : Launch) {g : gx_T} {σ : sx_T} {b : Nat} (hK : lay b σ) (w1 : Int32) (w2 : Int32) (q1_w1 : (0 : Int) ≤ w1.toInt) (q2_w1 : w1.toInt ≤ (2147483647 : Int)) (q1_w2 : (0 : Int) ≤ w2.toInt) (q2_w2 : w2.toInt ≤ (8 : Int)) (hI_405_6 : sx_I σ (b + 405) 6 = 0) : Met l yX9_told (.code yX9_told cX9_told 5 (some .int) :: lw_g) { frames := 2, cells := 0, slots := 0, locals := 43 } (va_Pc [.ref (b + 405), .int w1, .int w2] (zx_w g σ)) (va_Qi (fun r u => r = 0 ∧ u = (ap b σ [(405, 0, 1)] [] [])) (zx_w g) (gx_Q g)) 0 0 (gx_Q g) := by
  refine z_met (by decide) (Nat.le_of_ble_eq_true rfl) (fun p e s m below meth c B hr hin => ?_)
  refine z_eqs (σ' := (ap b σ [] [] [])) rfl ?_
  show zx p l e _ s m _ below meth c g 5 0 0 _ _ 0 [(0, .ref (b + 405)), (1, .int w1), (2, .int w2)] []
  refine z_aload_n B dX9_told_0 rfl 0 rfl ?_
  refine z_iload_n B dX9_told_1 rfl 1 rfl ?_
  refine z_cVi (As := [.int w1]) (rest := []) B cw_X9_262 cx_10 dX9_told_2 (ci_X9_isWorkflow_875 l (σ := (ap b σ [] [] [])) (b := b) (lyA hK) w1 q1_w1 q2_w1 (rI_at 405 6 hI_405_6)) (lKA (hk_K hK 405 rfl rfl)) rfl (by decide) rfl (Nat.le_of_ble_eq_true rfl) (by decide) (fun r u hu => ?_)
  refine z_eqs (σ' := (ap b σ [] [] [])) hu.2 ?_
  show zx p l e _ s m _ below meth c g 5 0 0 _ _ 5 [(0, .ref (b + 405)), (1, .int w1), (2, .int w2)] _
  refine z_seti (y := 0) hu.1 ?_
  refine z_istore_n (lv' := [(3, .int 0), (0, .ref (b + 405)), (1, .int w1), (2, .int w2)]) B dX9_told_5 rfl (by decide) rfl ?_
  refine z_iload_n B dX9_told_6 rfl 3 rfl ?_
  refine z_iconst (v := 0) B dX9_told_7 (by decide) ?_
  refine z_bipush (v := 8) B dX9_told_8 (by decide) ?_
  refine z_cSi (As := [.int w2, .int 0, .int 8]) (rest := []) B cw_X9_96 dX9_told_10 (ci_X9_in_1189 l (σ := (ap b σ [] [] [])) (b := b) (lyA hK) w2 q1_w2 q2_w2) rfl (by decide) rfl (Nat.le_of_ble_eq_true rfl) (by decide) (fun r u hu => ?_)
  refine z_eqs (σ' := (ap b σ [] [] [])) hu.2 ?_
  show zx p l e _ s m _ below meth c g 5 0 0 _ _ 13 [(3, .int 0), (0, .ref (b + 405)), (1, .int w1), (2, .int w2)] _
  refine z_seti (y := 1) hu.1 ?_
  refine z_istore (lv' := [(4, .int 1), (3, .int 0), (0, .ref (b + 405)), (1, .int w1), (2, .int w2)]) B dX9_told_13 (by decide) rfl ?_
  refine z_aload_n B dX9_told_15 rfl 2 rfl ?_
  refine z_iload_n B dX9_told_16 rfl 1 rfl ?_
  refine z_iload B dX9_told_17 0 rfl ?_
  refine z_iload_n B dX9_told_19 rfl 1 rfl ?_
  refine z_if_eq (tgt := 40) B dX9_told_20 (by decide) (fun _ => ?_) (fun h => absurd (by decide) h)
  refine z_iconst (v := 0) B dX9_told_40 (by decide) ?_
  refine z_cVi (As := [.int 0, .int 1, .int 0]) (rest := []) B cw_X9_259 cx_10 dX9_told_41 (ci_X9_needs___1190 l (σ := (ap b σ [] [] [])) (b := b) (lyA hK) ) (lKA (hk_K hK 405 rfl rfl)) rfl (by decide) rfl (Nat.le_of_ble_eq_true rfl) (by decide) (fun r u hu => ?_)
  refine z_eqs (σ' := (ap b σ [(405, 0, 1)] [] [])) (hu.2.trans ap_ap) ?_
  show zx p l e _ s m _ below meth c g 5 0 0 _ _ 44 [(4, .int 1), (3, .int 0), (0, .ref (b + 405)), (1, .int w1), (2, .int w2)] _
  refine z_seti (y := 0) hu.1 ?_
  refine z_if_ne (tgt := 49) B dX9_told_44 (by decide) (fun h => absurd (by decide) h) (fun _ => ?_)
  refine z_iconst (v := 0) B dX9_told_47 (by decide) ?_
  exact z_iret B hr (by decide) (by decide) dX9_told_48 ⟨rfl, rfl⟩
set_option maxRecDepth 100000 in
set_option maxHeartbeats 4000000 in
theorem ci_X9_about_1201 (l : Launch) {g : gx_T} {σ : sx_T} {b : Nat} (hK : lay b σ) (w1 : Int32) (w2 : Int32) (q1_w1 : (0 : Int) ≤ w1.toInt) (q2_w1 : w1.toInt ≤ (2147483647 : Int)) (q1_w2 : (0 : Int) ≤ w2.toInt) (q2_w2 : w2.toInt ≤ (8 : Int)) (hI_405_6 : sx_I σ (b + 405) 6 = 0) : Met l yX9_about (.code yX9_about cX9_about 3 (some .int) :: lw_g) { frames := 3, cells := 0, slots := 0, locals := 67 } (va_Pc [.ref (b + 405), .int w1, .int w2] (zx_w g σ)) (va_Qi (fun r u => r = 0 ∧ u = (ap b σ [(405, 0, 1)] [] [])) (zx_w g) (gx_Q g)) 0 0 (gx_Q g) := by
  refine z_met (by decide) (Nat.le_of_ble_eq_true rfl) (fun p e s m below meth c B hr hin => ?_)
  refine z_eqs (σ' := (ap b σ [] [] [])) rfl ?_
  show zx p l e _ s m _ below meth c g 3 0 0 _ _ 0 [(0, .ref (b + 405)), (1, .int w1), (2, .int w2)] []
  refine z_aload_n B dX9_about_0 rfl 0 rfl ?_
  refine z_iload_n B dX9_about_1 rfl 1 rfl ?_
  refine z_iload_n B dX9_about_2 rfl 2 rfl ?_
  refine z_cVi (As := [.int w1, .int w2]) (rest := []) B cw_X9_297 cx_10 dX9_about_3 (ci_X9_told_1200 l (σ := (ap b σ [] [] [])) (b := b) (lyA hK) w1 w2 q1_w1 q2_w1 q1_w2 q2_w2 (rI_at 405 6 hI_405_6)) (lKA (hk_K hK 405 rfl rfl)) rfl (by decide) rfl (Nat.le_of_ble_eq_true rfl) (by decide) (fun r u hu => ?_)
  refine z_eqs (σ' := (ap b σ [(405, 0, 1)] [] [])) (hu.2.trans ap_ap) ?_
  show zx p l e _ s m _ below meth c g 3 0 0 _ _ 6 [(0, .ref (b + 405)), (1, .int w1), (2, .int w2)] _
  refine z_seti (y := 0) hu.1 ?_
  exact z_iret B hr (by decide) (by decide) dX9_about_6 ⟨rfl, rfl⟩
set_option maxRecDepth 100000 in
set_option maxHeartbeats 4000000 in
theorem ci_X9_told_1202 (l : Launch) {g : gx_T} {σ : sx_T} {b : Nat} (hK : lay b σ) (w1 : Int32) (w2 : Int32) (q1_w1 : (0 : Int) ≤ w1.toInt) (q2_w1 : w1.toInt ≤ (2147483647 : Int)) (q1_w2 : (9 : Int) ≤ w2.toInt) (q2_w2 : w2.toInt ≤ (2147483647 : Int)) (hI_405_6 : sx_I σ (b + 405) 6 = 0) : Met l yX9_told (.code yX9_told cX9_told 5 (some .int) :: lw_g) { frames := 2, cells := 0, slots := 0, locals := 43 } (va_Pc [.ref (b + 405), .int w1, .int w2] (zx_w g σ)) (va_Qi (fun r u => r = 0 ∧ u = (ap b σ [(405, 0, 1)] [] [])) (zx_w g) (gx_Q g)) 0 0 (gx_Q g) := by
  refine z_met (by decide) (Nat.le_of_ble_eq_true rfl) (fun p e s m below meth c B hr hin => ?_)
  refine z_eqs (σ' := (ap b σ [] [] [])) rfl ?_
  show zx p l e _ s m _ below meth c g 5 0 0 _ _ 0 [(0, .ref (b + 405)), (1, .int w1), (2, .int w2)] []
  refine z_aload_n B dX9_told_0 rfl 0 rfl ?_
  refine z_iload_n B dX9_told_1 rfl 1 rfl ?_
  refine z_cVi (As := [.int w1]) (rest := []) B cw_X9_262 cx_10 dX9_told_2 (ci_X9_isWorkflow_875 l (σ := (ap b σ [] [] [])) (b := b) (lyA hK) w1 q1_w1 q2_w1 (rI_at 405 6 hI_405_6)) (lKA (hk_K hK 405 rfl rfl)) rfl (by decide) rfl (Nat.le_of_ble_eq_true rfl) (by decide) (fun r u hu => ?_)
  refine z_eqs (σ' := (ap b σ [] [] [])) hu.2 ?_
  show zx p l e _ s m _ below meth c g 5 0 0 _ _ 5 [(0, .ref (b + 405)), (1, .int w1), (2, .int w2)] _
  refine z_seti (y := 0) hu.1 ?_
  refine z_istore_n (lv' := [(3, .int 0), (0, .ref (b + 405)), (1, .int w1), (2, .int w2)]) B dX9_told_5 rfl (by decide) rfl ?_
  refine z_iload_n B dX9_told_6 rfl 3 rfl ?_
  refine z_iconst (v := 0) B dX9_told_7 (by decide) ?_
  refine z_bipush (v := 8) B dX9_told_8 (by decide) ?_
  refine z_cSi (As := [.int w2, .int 0, .int 8]) (rest := []) B cw_X9_96 dX9_told_10 (ci_X9_in_1193 l (σ := (ap b σ [] [] [])) (b := b) (lyA hK) w2 q1_w2 q2_w2) rfl (by decide) rfl (Nat.le_of_ble_eq_true rfl) (by decide) (fun r u hu => ?_)
  refine z_eqs (σ' := (ap b σ [] [] [])) hu.2 ?_
  show zx p l e _ s m _ below meth c g 5 0 0 _ _ 13 [(3, .int 0), (0, .ref (b + 405)), (1, .int w1), (2, .int w2)] _
  refine z_seti (y := 0) hu.1 ?_
  refine z_istore (lv' := [(4, .int 0), (3, .int 0), (0, .ref (b + 405)), (1, .int w1), (2, .int w2)]) B dX9_told_13 (by decide) rfl ?_
  refine z_aload_n B dX9_told_15 rfl 2 rfl ?_
  refine z_iload_n B dX9_told_16 rfl 1 rfl ?_
  refine z_iload B dX9_told_17 0 rfl ?_
  refine z_iload_n B dX9_told_19 rfl 1 rfl ?_
  refine z_if_eq (tgt := 40) B dX9_told_20 (by decide) (fun _ => ?_) (fun h => absurd (by decide) h)
  refine z_iconst (v := 0) B dX9_told_40 (by decide) ?_
  refine z_cVi (As := [.int 0, .int 0, .int 0]) (rest := []) B cw_X9_259 cx_10 dX9_told_41 (ci_X9_needs___890 l (σ := (ap b σ [] [] [])) (b := b) (lyA hK) ) (lKA (hk_K hK 405 rfl rfl)) rfl (by decide) rfl (Nat.le_of_ble_eq_true rfl) (by decide) (fun r u hu => ?_)
  refine z_eqs (σ' := (ap b σ [(405, 0, 1)] [] [])) (hu.2.trans ap_ap) ?_
  show zx p l e _ s m _ below meth c g 5 0 0 _ _ 44 [(4, .int 0), (3, .int 0), (0, .ref (b + 405)), (1, .int w1), (2, .int w2)] _
  refine z_seti (y := 0) hu.1 ?_
  refine z_if_ne (tgt := 49) B dX9_told_44 (by decide) (fun h => absurd (by decide) h) (fun _ => ?_)
  refine z_iconst (v := 0) B dX9_told_47 (by decide) ?_
  exact z_iret B hr (by decide) (by decide) dX9_told_48 ⟨rfl, rfl⟩
set_option maxRecDepth 100000 in
set_option maxHeartbeats 4000000 in
theorem ci_X9_about_1203 (l : Launch) {g : gx_T} {σ : sx_T} {b : Nat} (hK : lay b σ) (w1 : Int32) (w2 : Int32) (q1_w1 : (0 : Int) ≤ w1.toInt) (q2_w1 : w1.toInt ≤ (2147483647 : Int)) (q1_w2 : (9 : Int) ≤ w2.toInt) (q2_w2 : w2.toInt ≤ (2147483647 : Int)) (hI_405_6 : sx_I σ (b + 405) 6 = 0) : Met l yX9_about (.code yX9_about cX9_about 3 (some .int) :: lw_g) { frames := 3, cells := 0, slots := 0, locals := 67 } (va_Pc [.ref (b + 405), .int w1, .int w2] (zx_w g σ)) (va_Qi (fun r u => r = 0 ∧ u = (ap b σ [(405, 0, 1)] [] [])) (zx_w g) (gx_Q g)) 0 0 (gx_Q g) := by
  refine z_met (by decide) (Nat.le_of_ble_eq_true rfl) (fun p e s m below meth c B hr hin => ?_)
  refine z_eqs (σ' := (ap b σ [] [] [])) rfl ?_
  show zx p l e _ s m _ below meth c g 3 0 0 _ _ 0 [(0, .ref (b + 405)), (1, .int w1), (2, .int w2)] []
  refine z_aload_n B dX9_about_0 rfl 0 rfl ?_
  refine z_iload_n B dX9_about_1 rfl 1 rfl ?_
  refine z_iload_n B dX9_about_2 rfl 2 rfl ?_
  refine z_cVi (As := [.int w1, .int w2]) (rest := []) B cw_X9_297 cx_10 dX9_about_3 (ci_X9_told_1202 l (σ := (ap b σ [] [] [])) (b := b) (lyA hK) w1 w2 q1_w1 q2_w1 q1_w2 q2_w2 (rI_at 405 6 hI_405_6)) (lKA (hk_K hK 405 rfl rfl)) rfl (by decide) rfl (Nat.le_of_ble_eq_true rfl) (by decide) (fun r u hu => ?_)
  refine z_eqs (σ' := (ap b σ [(405, 0, 1)] [] [])) (hu.2.trans ap_ap) ?_
  show zx p l e _ s m _ below meth c g 3 0 0 _ _ 6 [(0, .ref (b + 405)), (1, .int w1), (2, .int w2)] _
  refine z_seti (y := 0) hu.1 ?_
  exact z_iret B hr (by decide) (by decide) dX9_about_6 ⟨rfl, rfl⟩
set_option maxRecDepth 100000 in
set_option maxHeartbeats 4000000 in
theorem ci_X8_aboutAnew_1204 (l : Launch) (hlt : l.stackTraces = false) {g : gx_T} {σ : sx_T} {b : Nat} (hK : lay b σ) (w1 : Int32) (w2 : Int32) (q1_w1 : (-2147483648 : Int) ≤ w1.toInt) (q2_w1 : w1.toInt ≤ (-1 : Int))  : vx_Met l yX8_aboutAnew (.code yX8_aboutAnew cX8_aboutAnew 5 (some .int) :: lw_g) { frames := 7, cells := 1, slots := 6, locals := 136 } (va_Pc [.ref (b + 0), .int w1, .int w2] (zx_w g σ)) (va_Qi (S := sx_T) (fun _ _ => False) (zx_w g) (gx_Q g)) (vx_X (fun u : sx_T => ∃ z, u = wx_Z σ z) (fun E u t => E = "java/lang/IndexOutOfBoundsException" ∧ zx_h g u t.heap) (gx_Q g)) 1 6 (gx_Q g) := by
  refine z_metX (by decide) (Nat.le_of_ble_eq_true rfl) (fun p e s m below meth c B hr hin hout => ?_)
  refine z_eqs (σ' := (ap b σ [] [] [])) rfl ?_
  show zx p l e _ s m _ below meth c g 5 0 0 _ _ 0 [(0, .ref (b + 0)), (1, .int w1), (2, .int w2)] []
  refine z_aload_n B dX8_aboutAnew_0 rfl 0 rfl ?_
  refine z_iload_n B dX8_aboutAnew_1 rfl 1 rfl ?_
  refine z_cVq (As := [.int w1]) (rest := []) B cw_X8_99 cx_9 dX8_aboutAnew_2 (ci_X8_flowAt_861 l (σ := (ap b σ [] [] [])) (b := b) (lyA hK) w1 q1_w1 q2_w1) (lKA (hk_K hK 0 rfl rfl)) rfl (by decide) rfl (Nat.le_of_ble_eq_true rfl) (by decide) (fun r u hu => ?_)
  refine z_eqs (σ' := (ap b σ [] [] [])) hu.2 ?_
  show zx p l e _ s m _ below meth c g 5 0 0 _ _ 5 [(0, .ref (b + 0)), (1, .int w1), (2, .int w2)] _
  refine z_setr (y := none) hu.1 ?_
  refine z_qstore_n (r := none) (lv' := [(3, .null), (0, .ref (b + 0)), (1, .int w1), (2, .int w2)]) B dX8_aboutAnew_5 rfl (by decide) rfl ?_
  refine z_qload_n (r := none) B dX8_aboutAnew_6 rfl 0 rfl ?_
  refine z_ifnonnull (r := none) (tgt := 20) B dX8_aboutAnew_7 (by decide) (fun a h => nomatch h) (fun _ => ?_)
  exact z_throw B hlt hout (cls := "java/lang/IndexOutOfBoundsException") (text := "no such workflow") tw_X8_72_153_76 dX8_aboutAnew_10 dX8_aboutAnew_13 dX8_aboutAnew_14 dX8_aboutAnew_16 dX8_aboutAnew_19 (by decide) (by decide) (by decide) (by decide) (by decide) (by decide) (fun z => ⟨z, rfl⟩)
set_option maxRecDepth 100000 in
set_option maxHeartbeats 4000000 in
theorem ci_L_aboutAnew_1205 (l : Launch) (hlt : l.stackTraces = false) {g : gx_T} {σ : sx_T} {b : Nat} (hK : lay b σ) (w1 : Int32) (w2 : Int32) (q1_w1 : (-2147483648 : Int) ≤ w1.toInt) (q2_w1 : w1.toInt ≤ (-1 : Int))  : Met l yL_aboutAnew (.codeWith yL_aboutAnew cL_aboutAnew 5 (some .int) [(0, 10, 13, 13), (0, 10, 17, 15), (0, 10, 21, 24)] :: lw_g) { frames := 8, cells := 1, slots := 6, locals := 160 } (va_Pc [.ref (b + 0), .int w1, .int w2, .ref (b + 431)] (zx_w g σ)) (va_Qi (fun r u => r = 1 ∧ ∃ z, u = (ap b (wx_Z σ z) [] [] [])) (zx_w g) (gx_Q g)) 1 6 (gx_Q g) := by
  refine z_metW (by decide) (Nat.le_of_ble_eq_true rfl) (fun p e s m below meth c B hr htab => ?_)
  refine z_eqs (σ' := (ap b σ [] [] [])) rfl ?_
  show zx p l e _ s m _ below meth c g 5 0 0 _ _ 0 [(0, .ref (b + 0)), (1, .int w1), (2, .int w2), (3, .ref (b + 431))] []
  refine z_aload_n B dL_aboutAnew_0 rfl 3 rfl ?_
  refine z_iconst (v := 0) B dL_aboutAnew_1 (by decide) ?_
  refine z_aload_n B dL_aboutAnew_2 rfl 0 rfl ?_
  refine z_iload_n B dL_aboutAnew_3 rfl 1 rfl ?_
  refine z_iload_n B dL_aboutAnew_4 rfl 2 rfl ?_
  refine z_cXi (As := [.int w1, .int w2]) (rest := [.int 0, .ref (b + 431)]) B htab tc_aboutAnew_5_IndexOutOfBoundsException cw_L_51 cx_9 dL_aboutAnew_5 (ci_X8_aboutAnew_1204 l hlt (σ := (ap b σ [] [] [])) (b := b) (lyA hK) w1 w2 q1_w1 q2_w1) (lKA (hk_K hK 0 rfl rfl)) rfl (by decide) rfl (Nat.le_of_ble_eq_true rfl) (by decide) (fun z q => ?_)
  refine z_eqs (σ' := (ap b (wx_Z σ z) [] [] [])) rfl ?_
  show zx p l e _ s m _ below meth c g 5 _ _ _ _ 13 [(0, .ref (b + 0)), (1, .int w1), (2, .int w2), (3, .ref (b + 431))] _
  refine z_astore (lv' := [(4, .ref q), (0, .ref (b + 0)), (1, .int w1), (2, .int w2), (3, .ref (b + 431))]) B dL_aboutAnew_13 (by decide) rfl ?_
  refine z_iconst (v := 1) B dL_aboutAnew_15 (by decide) ?_
  exact z_iret B hr (by decide) (by decide) dL_aboutAnew_16 ⟨rfl, _, rfl⟩
set_option maxRecDepth 100000 in
set_option maxHeartbeats 4000000 in
theorem ci_X9_aboutAnew_1206 (l : Launch) {g : gx_T} {σ : sx_T} {b : Nat} (hK : lay b σ) (w1 : Int32) (w2 : Int32) (q1_w1 : (-2147483648 : Int) ≤ w1.toInt) (q2_w1 : w1.toInt ≤ (-1 : Int)) (q1_w2 : (-2147483648 : Int) ≤ w2.toInt) (q2_w2 : w2.toInt ≤ (-1 : Int)) (hI_405_6 : sx_I σ (b + 405) 6 = 0) : Met l yX9_aboutAnew (.code yX9_aboutAnew cX9_aboutAnew 3 (some .int) :: lw_g) { frames := 3, cells := 0, slots := 0, locals := 67 } (va_Pc [.ref (b + 405), .int w1, .int w2] (zx_w g σ)) (va_Qi (fun r u => r = 0 ∧ u = (ap b σ [(405, 0, 1)] [] [])) (zx_w g) (gx_Q g)) 0 0 (gx_Q g) := by
  refine z_met (by decide) (Nat.le_of_ble_eq_true rfl) (fun p e s m below meth c B hr hin => ?_)
  refine z_eqs (σ' := (ap b σ [] [] [])) rfl ?_
  show zx p l e _ s m _ below meth c g 3 0 0 _ _ 0 [(0, .ref (b + 405)), (1, .int w1), (2, .int w2)] []
  refine z_aload_n B dX9_aboutAnew_0 rfl 0 rfl ?_
  refine z_iload_n B dX9_aboutAnew_1 rfl 1 rfl ?_
  refine z_iload_n B dX9_aboutAnew_2 rfl 2 rfl ?_
  refine z_cVi (As := [.int w1, .int w2]) (rest := []) B cw_X9_297 cx_10 dX9_aboutAnew_3 (ci_X9_told_1187 l (σ := (ap b σ [] [] [])) (b := b) (lyA hK) w1 w2 q1_w1 q2_w1 q1_w2 q2_w2 (rI_at 405 6 hI_405_6)) (lKA (hk_K hK 405 rfl rfl)) rfl (by decide) rfl (Nat.le_of_ble_eq_true rfl) (by decide) (fun r u hu => ?_)
  refine z_eqs (σ' := (ap b σ [(405, 0, 1)] [] [])) (hu.2.trans ap_ap) ?_
  show zx p l e _ s m _ below meth c g 3 0 0 _ _ 6 [(0, .ref (b + 405)), (1, .int w1), (2, .int w2)] _
  refine z_seti (y := 0) hu.1 ?_
  exact z_iret B hr (by decide) (by decide) dX9_aboutAnew_6 ⟨rfl, rfl⟩
set_option maxRecDepth 100000 in
set_option maxHeartbeats 4000000 in
theorem ci_X9_aboutAnew_1207 (l : Launch) {g : gx_T} {σ : sx_T} {b : Nat} (hK : lay b σ) (w1 : Int32) (w2 : Int32) (q1_w1 : (-2147483648 : Int) ≤ w1.toInt) (q2_w1 : w1.toInt ≤ (-1 : Int)) (q1_w2 : (0 : Int) ≤ w2.toInt) (q2_w2 : w2.toInt ≤ (8 : Int)) (hI_405_6 : sx_I σ (b + 405) 6 = 0) : Met l yX9_aboutAnew (.code yX9_aboutAnew cX9_aboutAnew 3 (some .int) :: lw_g) { frames := 3, cells := 0, slots := 0, locals := 67 } (va_Pc [.ref (b + 405), .int w1, .int w2] (zx_w g σ)) (va_Qi (fun r u => r = 0 ∧ u = (ap b σ [(405, 0, 1)] [] [])) (zx_w g) (gx_Q g)) 0 0 (gx_Q g) := by
  refine z_met (by decide) (Nat.le_of_ble_eq_true rfl) (fun p e s m below meth c B hr hin => ?_)
  refine z_eqs (σ' := (ap b σ [] [] [])) rfl ?_
  show zx p l e _ s m _ below meth c g 3 0 0 _ _ 0 [(0, .ref (b + 405)), (1, .int w1), (2, .int w2)] []
  refine z_aload_n B dX9_aboutAnew_0 rfl 0 rfl ?_
  refine z_iload_n B dX9_aboutAnew_1 rfl 1 rfl ?_
  refine z_iload_n B dX9_aboutAnew_2 rfl 2 rfl ?_
  refine z_cVi (As := [.int w1, .int w2]) (rest := []) B cw_X9_297 cx_10 dX9_aboutAnew_3 (ci_X9_told_1191 l (σ := (ap b σ [] [] [])) (b := b) (lyA hK) w1 w2 q1_w1 q2_w1 q1_w2 q2_w2 (rI_at 405 6 hI_405_6)) (lKA (hk_K hK 405 rfl rfl)) rfl (by decide) rfl (Nat.le_of_ble_eq_true rfl) (by decide) (fun r u hu => ?_)
  refine z_eqs (σ' := (ap b σ [(405, 0, 1)] [] [])) (hu.2.trans ap_ap) ?_
  show zx p l e _ s m _ below meth c g 3 0 0 _ _ 6 [(0, .ref (b + 405)), (1, .int w1), (2, .int w2)] _
  refine z_seti (y := 0) hu.1 ?_
  exact z_iret B hr (by decide) (by decide) dX9_aboutAnew_6 ⟨rfl, rfl⟩
set_option maxRecDepth 100000 in
set_option maxHeartbeats 4000000 in
theorem ci_X9_aboutAnew_1208 (l : Launch) {g : gx_T} {σ : sx_T} {b : Nat} (hK : lay b σ) (w1 : Int32) (w2 : Int32) (q1_w1 : (-2147483648 : Int) ≤ w1.toInt) (q2_w1 : w1.toInt ≤ (-1 : Int)) (q1_w2 : (9 : Int) ≤ w2.toInt) (q2_w2 : w2.toInt ≤ (2147483647 : Int)) (hI_405_6 : sx_I σ (b + 405) 6 = 0) : Met l yX9_aboutAnew (.code yX9_aboutAnew cX9_aboutAnew 3 (some .int) :: lw_g) { frames := 3, cells := 0, slots := 0, locals := 67 } (va_Pc [.ref (b + 405), .int w1, .int w2] (zx_w g σ)) (va_Qi (fun r u => r = 0 ∧ u = (ap b σ [(405, 0, 1)] [] [])) (zx_w g) (gx_Q g)) 0 0 (gx_Q g) := by
  refine z_met (by decide) (Nat.le_of_ble_eq_true rfl) (fun p e s m below meth c B hr hin => ?_)
  refine z_eqs (σ' := (ap b σ [] [] [])) rfl ?_
  show zx p l e _ s m _ below meth c g 3 0 0 _ _ 0 [(0, .ref (b + 405)), (1, .int w1), (2, .int w2)] []
  refine z_aload_n B dX9_aboutAnew_0 rfl 0 rfl ?_
  refine z_iload_n B dX9_aboutAnew_1 rfl 1 rfl ?_
  refine z_iload_n B dX9_aboutAnew_2 rfl 2 rfl ?_
  refine z_cVi (As := [.int w1, .int w2]) (rest := []) B cw_X9_297 cx_10 dX9_aboutAnew_3 (ci_X9_told_1194 l (σ := (ap b σ [] [] [])) (b := b) (lyA hK) w1 w2 q1_w1 q2_w1 q1_w2 q2_w2 (rI_at 405 6 hI_405_6)) (lKA (hk_K hK 405 rfl rfl)) rfl (by decide) rfl (Nat.le_of_ble_eq_true rfl) (by decide) (fun r u hu => ?_)
  refine z_eqs (σ' := (ap b σ [(405, 0, 1)] [] [])) (hu.2.trans ap_ap) ?_
  show zx p l e _ s m _ below meth c g 3 0 0 _ _ 6 [(0, .ref (b + 405)), (1, .int w1), (2, .int w2)] _
  refine z_seti (y := 0) hu.1 ?_
  exact z_iret B hr (by decide) (by decide) dX9_aboutAnew_6 ⟨rfl, rfl⟩
set_option maxRecDepth 100000 in
set_option maxHeartbeats 4000000 in
theorem ci_X8_aboutAnew_1209 (l : Launch) (hlt : l.stackTraces = false) {g : gx_T} {σ : sx_T} {b : Nat} (hK : lay b σ) (w1 : Int32) (w2 : Int32) (q1_w1 : (0 : Int) ≤ w1.toInt) (q2_w1 : w1.toInt ≤ (2147483647 : Int)) (hI_0_7 : sx_I σ (b + 0) 7 = 0) : vx_Met l yX8_aboutAnew (.code yX8_aboutAnew cX8_aboutAnew 5 (some .int) :: lw_g) { frames := 7, cells := 1, slots := 6, locals := 136 } (va_Pc [.ref (b + 0), .int w1, .int w2] (zx_w g σ)) (va_Qi (S := sx_T) (fun _ _ => False) (zx_w g) (gx_Q g)) (vx_X (fun u : sx_T => ∃ z, u = wx_Z σ z) (fun E u t => E = "java/lang/IndexOutOfBoundsException" ∧ zx_h g u t.heap) (gx_Q g)) 1 6 (gx_Q g) := by
  refine z_metX (by decide) (Nat.le_of_ble_eq_true rfl) (fun p e s m below meth c B hr hin hout => ?_)
  refine z_eqs (σ' := (ap b σ [] [] [])) rfl ?_
  show zx p l e _ s m _ below meth c g 5 0 0 _ _ 0 [(0, .ref (b + 0)), (1, .int w1), (2, .int w2)] []
  refine z_aload_n B dX8_aboutAnew_0 rfl 0 rfl ?_
  refine z_iload_n B dX8_aboutAnew_1 rfl 1 rfl ?_
  refine z_cVq (As := [.int w1]) (rest := []) B cw_X8_99 cx_9 dX8_aboutAnew_2 (ci_X8_flowAt_871 l (σ := (ap b σ [] [] [])) (b := b) (lyA hK) w1 q1_w1 q2_w1 (rI_at 0 7 hI_0_7)) (lKA (hk_K hK 0 rfl rfl)) rfl (by decide) rfl (Nat.le_of_ble_eq_true rfl) (by decide) (fun r u hu => ?_)
  refine z_eqs (σ' := (ap b σ [] [] [])) hu.2 ?_
  show zx p l e _ s m _ below meth c g 5 0 0 _ _ 5 [(0, .ref (b + 0)), (1, .int w1), (2, .int w2)] _
  refine z_setr (y := none) hu.1 ?_
  refine z_qstore_n (r := none) (lv' := [(3, .null), (0, .ref (b + 0)), (1, .int w1), (2, .int w2)]) B dX8_aboutAnew_5 rfl (by decide) rfl ?_
  refine z_qload_n (r := none) B dX8_aboutAnew_6 rfl 0 rfl ?_
  refine z_ifnonnull (r := none) (tgt := 20) B dX8_aboutAnew_7 (by decide) (fun a h => nomatch h) (fun _ => ?_)
  exact z_throw B hlt hout (cls := "java/lang/IndexOutOfBoundsException") (text := "no such workflow") tw_X8_72_153_76 dX8_aboutAnew_10 dX8_aboutAnew_13 dX8_aboutAnew_14 dX8_aboutAnew_16 dX8_aboutAnew_19 (by decide) (by decide) (by decide) (by decide) (by decide) (by decide) (fun z => ⟨z, rfl⟩)
set_option maxRecDepth 100000 in
set_option maxHeartbeats 4000000 in
theorem ci_L_aboutAnew_1210 (l : Launch) (hlt : l.stackTraces = false) {g : gx_T} {σ : sx_T} {b : Nat} (hK : lay b σ) (w1 : Int32) (w2 : Int32) (q1_w1 : (0 : Int) ≤ w1.toInt) (q2_w1 : w1.toInt ≤ (2147483647 : Int)) (hI_0_7 : sx_I σ (b + 0) 7 = 0) : Met l yL_aboutAnew (.codeWith yL_aboutAnew cL_aboutAnew 5 (some .int) [(0, 10, 13, 13), (0, 10, 17, 15), (0, 10, 21, 24)] :: lw_g) { frames := 8, cells := 1, slots := 6, locals := 160 } (va_Pc [.ref (b + 0), .int w1, .int w2, .ref (b + 431)] (zx_w g σ)) (va_Qi (fun r u => r = 1 ∧ ∃ z, u = (ap b (wx_Z σ z) [] [] [])) (zx_w g) (gx_Q g)) 1 6 (gx_Q g) := by
  refine z_metW (by decide) (Nat.le_of_ble_eq_true rfl) (fun p e s m below meth c B hr htab => ?_)
  refine z_eqs (σ' := (ap b σ [] [] [])) rfl ?_
  show zx p l e _ s m _ below meth c g 5 0 0 _ _ 0 [(0, .ref (b + 0)), (1, .int w1), (2, .int w2), (3, .ref (b + 431))] []
  refine z_aload_n B dL_aboutAnew_0 rfl 3 rfl ?_
  refine z_iconst (v := 0) B dL_aboutAnew_1 (by decide) ?_
  refine z_aload_n B dL_aboutAnew_2 rfl 0 rfl ?_
  refine z_iload_n B dL_aboutAnew_3 rfl 1 rfl ?_
  refine z_iload_n B dL_aboutAnew_4 rfl 2 rfl ?_
  refine z_cXi (As := [.int w1, .int w2]) (rest := [.int 0, .ref (b + 431)]) B htab tc_aboutAnew_5_IndexOutOfBoundsException cw_L_51 cx_9 dL_aboutAnew_5 (ci_X8_aboutAnew_1209 l hlt (σ := (ap b σ [] [] [])) (b := b) (lyA hK) w1 w2 q1_w1 q2_w1 (rI_at 0 7 hI_0_7)) (lKA (hk_K hK 0 rfl rfl)) rfl (by decide) rfl (Nat.le_of_ble_eq_true rfl) (by decide) (fun z q => ?_)
  refine z_eqs (σ' := (ap b (wx_Z σ z) [] [] [])) rfl ?_
  show zx p l e _ s m _ below meth c g 5 _ _ _ _ 13 [(0, .ref (b + 0)), (1, .int w1), (2, .int w2), (3, .ref (b + 431))] _
  refine z_astore (lv' := [(4, .ref q), (0, .ref (b + 0)), (1, .int w1), (2, .int w2), (3, .ref (b + 431))]) B dL_aboutAnew_13 (by decide) rfl ?_
  refine z_iconst (v := 1) B dL_aboutAnew_15 (by decide) ?_
  exact z_iret B hr (by decide) (by decide) dL_aboutAnew_16 ⟨rfl, _, rfl⟩
set_option maxRecDepth 100000 in
set_option maxHeartbeats 4000000 in
theorem ci_X9_aboutAnew_1211 (l : Launch) {g : gx_T} {σ : sx_T} {b : Nat} (hK : lay b σ) (w1 : Int32) (w2 : Int32) (q1_w1 : (0 : Int) ≤ w1.toInt) (q2_w1 : w1.toInt ≤ (2147483647 : Int)) (q1_w2 : (-2147483648 : Int) ≤ w2.toInt) (q2_w2 : w2.toInt ≤ (-1 : Int)) (hI_405_6 : sx_I σ (b + 405) 6 = 0) : Met l yX9_aboutAnew (.code yX9_aboutAnew cX9_aboutAnew 3 (some .int) :: lw_g) { frames := 3, cells := 0, slots := 0, locals := 67 } (va_Pc [.ref (b + 405), .int w1, .int w2] (zx_w g σ)) (va_Qi (fun r u => r = 0 ∧ u = (ap b σ [(405, 0, 1)] [] [])) (zx_w g) (gx_Q g)) 0 0 (gx_Q g) := by
  refine z_met (by decide) (Nat.le_of_ble_eq_true rfl) (fun p e s m below meth c B hr hin => ?_)
  refine z_eqs (σ' := (ap b σ [] [] [])) rfl ?_
  show zx p l e _ s m _ below meth c g 3 0 0 _ _ 0 [(0, .ref (b + 405)), (1, .int w1), (2, .int w2)] []
  refine z_aload_n B dX9_aboutAnew_0 rfl 0 rfl ?_
  refine z_iload_n B dX9_aboutAnew_1 rfl 1 rfl ?_
  refine z_iload_n B dX9_aboutAnew_2 rfl 2 rfl ?_
  refine z_cVi (As := [.int w1, .int w2]) (rest := []) B cw_X9_297 cx_10 dX9_aboutAnew_3 (ci_X9_told_1198 l (σ := (ap b σ [] [] [])) (b := b) (lyA hK) w1 w2 q1_w1 q2_w1 q1_w2 q2_w2 (rI_at 405 6 hI_405_6)) (lKA (hk_K hK 405 rfl rfl)) rfl (by decide) rfl (Nat.le_of_ble_eq_true rfl) (by decide) (fun r u hu => ?_)
  refine z_eqs (σ' := (ap b σ [(405, 0, 1)] [] [])) (hu.2.trans ap_ap) ?_
  show zx p l e _ s m _ below meth c g 3 0 0 _ _ 6 [(0, .ref (b + 405)), (1, .int w1), (2, .int w2)] _
  refine z_seti (y := 0) hu.1 ?_
  exact z_iret B hr (by decide) (by decide) dX9_aboutAnew_6 ⟨rfl, rfl⟩
set_option maxRecDepth 100000 in
set_option maxHeartbeats 4000000 in
theorem ci_X9_aboutAnew_1212 (l : Launch) {g : gx_T} {σ : sx_T} {b : Nat} (hK : lay b σ) (w1 : Int32) (w2 : Int32) (q1_w1 : (0 : Int) ≤ w1.toInt) (q2_w1 : w1.toInt ≤ (2147483647 : Int)) (q1_w2 : (0 : Int) ≤ w2.toInt) (q2_w2 : w2.toInt ≤ (8 : Int)) (hI_405_6 : sx_I σ (b + 405) 6 = 0) : Met l yX9_aboutAnew (.code yX9_aboutAnew cX9_aboutAnew 3 (some .int) :: lw_g) { frames := 3, cells := 0, slots := 0, locals := 67 } (va_Pc [.ref (b + 405), .int w1, .int w2] (zx_w g σ)) (va_Qi (fun r u => r = 0 ∧ u = (ap b σ [(405, 0, 1)] [] [])) (zx_w g) (gx_Q g)) 0 0 (gx_Q g) := by
  refine z_met (by decide) (Nat.le_of_ble_eq_true rfl) (fun p e s m below meth c B hr hin => ?_)
  refine z_eqs (σ' := (ap b σ [] [] [])) rfl ?_
  show zx p l e _ s m _ below meth c g 3 0 0 _ _ 0 [(0, .ref (b + 405)), (1, .int w1), (2, .int w2)] []
  refine z_aload_n B dX9_aboutAnew_0 rfl 0 rfl ?_
  refine z_iload_n B dX9_aboutAnew_1 rfl 1 rfl ?_
  refine z_iload_n B dX9_aboutAnew_2 rfl 2 rfl ?_
  refine z_cVi (As := [.int w1, .int w2]) (rest := []) B cw_X9_297 cx_10 dX9_aboutAnew_3 (ci_X9_told_1200 l (σ := (ap b σ [] [] [])) (b := b) (lyA hK) w1 w2 q1_w1 q2_w1 q1_w2 q2_w2 (rI_at 405 6 hI_405_6)) (lKA (hk_K hK 405 rfl rfl)) rfl (by decide) rfl (Nat.le_of_ble_eq_true rfl) (by decide) (fun r u hu => ?_)
  refine z_eqs (σ' := (ap b σ [(405, 0, 1)] [] [])) (hu.2.trans ap_ap) ?_
  show zx p l e _ s m _ below meth c g 3 0 0 _ _ 6 [(0, .ref (b + 405)), (1, .int w1), (2, .int w2)] _
  refine z_seti (y := 0) hu.1 ?_
  exact z_iret B hr (by decide) (by decide) dX9_aboutAnew_6 ⟨rfl, rfl⟩
set_option maxRecDepth 100000 in
set_option maxHeartbeats 4000000 in
theorem ci_X9_aboutAnew_1213 (l : Launch) {g : gx_T} {σ : sx_T} {b : Nat} (hK : lay b σ) (w1 : Int32) (w2 : Int32) (q1_w1 : (0 : Int) ≤ w1.toInt) (q2_w1 : w1.toInt ≤ (2147483647 : Int)) (q1_w2 : (9 : Int) ≤ w2.toInt) (q2_w2 : w2.toInt ≤ (2147483647 : Int)) (hI_405_6 : sx_I σ (b + 405) 6 = 0) : Met l yX9_aboutAnew (.code yX9_aboutAnew cX9_aboutAnew 3 (some .int) :: lw_g) { frames := 3, cells := 0, slots := 0, locals := 67 } (va_Pc [.ref (b + 405), .int w1, .int w2] (zx_w g σ)) (va_Qi (fun r u => r = 0 ∧ u = (ap b σ [(405, 0, 1)] [] [])) (zx_w g) (gx_Q g)) 0 0 (gx_Q g) := by
  refine z_met (by decide) (Nat.le_of_ble_eq_true rfl) (fun p e s m below meth c B hr hin => ?_)
  refine z_eqs (σ' := (ap b σ [] [] [])) rfl ?_
  show zx p l e _ s m _ below meth c g 3 0 0 _ _ 0 [(0, .ref (b + 405)), (1, .int w1), (2, .int w2)] []
  refine z_aload_n B dX9_aboutAnew_0 rfl 0 rfl ?_
  refine z_iload_n B dX9_aboutAnew_1 rfl 1 rfl ?_
  refine z_iload_n B dX9_aboutAnew_2 rfl 2 rfl ?_
  refine z_cVi (As := [.int w1, .int w2]) (rest := []) B cw_X9_297 cx_10 dX9_aboutAnew_3 (ci_X9_told_1202 l (σ := (ap b σ [] [] [])) (b := b) (lyA hK) w1 w2 q1_w1 q2_w1 q1_w2 q2_w2 (rI_at 405 6 hI_405_6)) (lKA (hk_K hK 405 rfl rfl)) rfl (by decide) rfl (Nat.le_of_ble_eq_true rfl) (by decide) (fun r u hu => ?_)
  refine z_eqs (σ' := (ap b σ [(405, 0, 1)] [] [])) (hu.2.trans ap_ap) ?_
  show zx p l e _ s m _ below meth c g 3 0 0 _ _ 6 [(0, .ref (b + 405)), (1, .int w1), (2, .int w2)] _
  refine z_seti (y := 0) hu.1 ?_
  exact z_iret B hr (by decide) (by decide) dX9_aboutAnew_6 ⟨rfl, rfl⟩
set_option maxRecDepth 100000 in
set_option maxHeartbeats 4000000 in
theorem ci_X8_parent_1214 (l : Launch) (hlt : l.stackTraces = false) {g : gx_T} {σ : sx_T} {b : Nat} (hK : lay b σ) (w1 : Int32) (q1_w1 : (-2147483648 : Int) ≤ w1.toInt) (q2_w1 : w1.toInt ≤ (-1 : Int))  : vx_Met l yX8_parent (.code yX8_parent cX8_parent 3 (some .int) :: lw_g) { frames := 7, cells := 1, slots := 6, locals := 136 } (va_Pc [.ref (b + 0), .int w1] (zx_w g σ)) (va_Qi (S := sx_T) (fun _ _ => False) (zx_w g) (gx_Q g)) (vx_X (fun u : sx_T => ∃ z, u = wx_Z σ z) (fun E u t => E = "java/lang/IndexOutOfBoundsException" ∧ zx_h g u t.heap) (gx_Q g)) 1 6 (gx_Q g) := by
  refine z_metX (by decide) (Nat.le_of_ble_eq_true rfl) (fun p e s m below meth c B hr hin hout => ?_)
  refine z_eqs (σ' := (ap b σ [] [] [])) rfl ?_
  show zx p l e _ s m _ below meth c g 3 0 0 _ _ 0 [(0, .ref (b + 0)), (1, .int w1)] []
  refine z_aload_n B dX8_parent_0 rfl 0 rfl ?_
  refine z_iload_n B dX8_parent_1 rfl 1 rfl ?_
  refine z_cVq (As := [.int w1]) (rest := []) B cw_X8_99 cx_9 dX8_parent_2 (ci_X8_flowAt_861 l (σ := (ap b σ [] [] [])) (b := b) (lyA hK) w1 q1_w1 q2_w1) (lKA (hk_K hK 0 rfl rfl)) rfl (by decide) rfl (Nat.le_of_ble_eq_true rfl) (by decide) (fun r u hu => ?_)
  refine z_eqs (σ' := (ap b σ [] [] [])) hu.2 ?_
  show zx p l e _ s m _ below meth c g 3 0 0 _ _ 5 [(0, .ref (b + 0)), (1, .int w1)] _
  refine z_setr (y := none) hu.1 ?_
  refine z_qstore_n (r := none) (lv' := [(2, .null), (0, .ref (b + 0)), (1, .int w1)]) B dX8_parent_5 rfl (by decide) rfl ?_
  refine z_qload_n (r := none) B dX8_parent_6 rfl 0 rfl ?_
  refine z_ifnonnull (r := none) (tgt := 20) B dX8_parent_7 (by decide) (fun a h => nomatch h) (fun _ => ?_)
  exact z_throw B hlt hout (cls := "java/lang/IndexOutOfBoundsException") (text := "no such workflow") tw_X8_72_153_76 dX8_parent_10 dX8_parent_13 dX8_parent_14 dX8_parent_16 dX8_parent_19 (by decide) (by decide) (by decide) (by decide) (by decide) (by decide) (fun z => ⟨z, rfl⟩)
set_option maxRecDepth 100000 in
set_option maxHeartbeats 4000000 in
theorem ci_L_parent_1215 (l : Launch) (hlt : l.stackTraces = false) {g : gx_T} {σ : sx_T} {b : Nat} (hK : lay b σ) (w1 : Int32) (q1_w1 : (-2147483648 : Int) ≤ w1.toInt) (q2_w1 : w1.toInt ≤ (-1 : Int))  : Met l yL_parent (.codeWith yL_parent cL_parent 4 (some .int) [(0, 9, 12, 13)] :: lw_g) { frames := 8, cells := 1, slots := 6, locals := 158 } (va_Pc [.ref (b + 0), .int w1, .ref (b + 431)] (zx_w g σ)) (va_Qi (fun r u => r = 1 ∧ ∃ z, u = (ap b (wx_Z σ z) [] [] [])) (zx_w g) (gx_Q g)) 1 6 (gx_Q g) := by
  refine z_metW (by decide) (Nat.le_of_ble_eq_true rfl) (fun p e s m below meth c B hr htab => ?_)
  refine z_eqs (σ' := (ap b σ [] [] [])) rfl ?_
  show zx p l e _ s m _ below meth c g 4 0 0 _ _ 0 [(0, .ref (b + 0)), (1, .int w1), (2, .ref (b + 431))] []
  refine z_aload_n B dL_parent_0 rfl 2 rfl ?_
  refine z_iconst (v := 0) B dL_parent_1 (by decide) ?_
  refine z_aload_n B dL_parent_2 rfl 0 rfl ?_
  refine z_iload_n B dL_parent_3 rfl 1 rfl ?_
  refine z_cXi (As := [.int w1]) (rest := [.int 0, .ref (b + 431)]) B htab tc_parent_4_IndexOutOfBoundsException cw_L_54 cx_9 dL_parent_4 (ci_X8_parent_1214 l hlt (σ := (ap b σ [] [] [])) (b := b) (lyA hK) w1 q1_w1 q2_w1) (lKA (hk_K hK 0 rfl rfl)) rfl (by decide) rfl (Nat.le_of_ble_eq_true rfl) (by decide) (fun z q => ?_)
  refine z_eqs (σ' := (ap b (wx_Z σ z) [] [] [])) rfl ?_
  show zx p l e _ s m _ below meth c g 4 _ _ _ _ 12 [(0, .ref (b + 0)), (1, .int w1), (2, .ref (b + 431))] _
  refine z_astore_n (lv' := [(3, .ref q), (0, .ref (b + 0)), (1, .int w1), (2, .ref (b + 431))]) B dL_parent_12 rfl (by decide) rfl ?_
  refine z_iconst (v := 1) B dL_parent_13 (by decide) ?_
  exact z_iret B hr (by decide) (by decide) dL_parent_14 ⟨rfl, _, rfl⟩
set_option maxRecDepth 100000 in
set_option maxHeartbeats 4000000 in
theorem ci_X9_parent_1216 (l : Launch) {g : gx_T} {σ : sx_T} {b : Nat} (hK : lay b σ) (w1 : Int32) (q1_w1 : (-2147483648 : Int) ≤ w1.toInt) (q2_w1 : w1.toInt ≤ (-1 : Int)) (hI_405_6 : sx_I σ (b + 405) 6 = 0) : Met l yX9_parent (.code yX9_parent cX9_parent 2 (some .int) :: lw_g) { frames := 2, cells := 0, slots := 0, locals := 43 } (va_Pc [.ref (b + 405), .int w1] (zx_w g σ)) (va_Qi (fun r u => r = 0 ∧ u = (ap b σ [(405, 0, 1)] [] [])) (zx_w g) (gx_Q g)) 0 0 (gx_Q g) := by
  refine z_met (by decide) (Nat.le_of_ble_eq_true rfl) (fun p e s m below meth c B hr hin => ?_)
  refine z_eqs (σ' := (ap b σ [] [] [])) rfl ?_
  show zx p l e _ s m _ below meth c g 2 0 0 _ _ 0 [(0, .ref (b + 405)), (1, .int w1)] []
  refine z_aload_n B dX9_parent_0 rfl 0 rfl ?_
  refine z_aload_n B dX9_parent_1 rfl 0 rfl ?_
  refine z_iload_n B dX9_parent_2 rfl 1 rfl ?_
  refine z_cVi (As := [.int w1]) (rest := [.ref (b + 405)]) B cw_X9_262 cx_10 dX9_parent_3 (ci_X9_isWorkflow_865 l (σ := (ap b σ [] [] [])) (b := b) (lyA hK) w1 q1_w1 q2_w1 (rI_at 405 6 hI_405_6)) (lKA (hk_K hK 405 rfl rfl)) rfl (by decide) rfl (Nat.le_of_ble_eq_true rfl) (by decide) (fun r u hu => ?_)
  refine z_eqs (σ' := (ap b σ [] [] [])) hu.2 ?_
  show zx p l e _ s m _ below meth c g 2 0 0 _ _ 6 [(0, .ref (b + 405)), (1, .int w1)] _
  refine z_seti (y := 0) hu.1 ?_
  refine z_cVi (As := [.int 0]) (rest := []) B cw_X9_269 cx_10 dX9_parent_6 (ci_X9_needs_883 l (σ := (ap b σ [] [] [])) (b := b) (lyA hK) ) (lKA (hk_K hK 405 rfl rfl)) rfl (by decide) rfl (Nat.le_of_ble_eq_true rfl) (by decide) (fun r u hu => ?_)
  refine z_eqs (σ' := (ap b σ [(405, 0, 1)] [] [])) (hu.2.trans ap_ap) ?_
  show zx p l e _ s m _ below meth c g 2 0 0 _ _ 9 [(0, .ref (b + 405)), (1, .int w1)] _
  refine z_seti (y := 0) hu.1 ?_
  refine z_if_eq (tgt := 21) B dX9_parent_9 (by decide) (fun _ => ?_) (fun h => absurd (by decide) h)
  refine z_iconst (v := 0) B dX9_parent_21 (by decide) ?_
  exact z_iret B hr (by decide) (by decide) dX9_parent_22 ⟨rfl, rfl⟩
set_option maxRecDepth 100000 in
set_option maxHeartbeats 4000000 in
theorem ci_X8_parent_1217 (l : Launch) (hlt : l.stackTraces = false) {g : gx_T} {σ : sx_T} {b : Nat} (hK : lay b σ) (w1 : Int32) (q1_w1 : (0 : Int) ≤ w1.toInt) (q2_w1 : w1.toInt ≤ (2147483647 : Int)) (hI_0_7 : sx_I σ (b + 0) 7 = 0) : vx_Met l yX8_parent (.code yX8_parent cX8_parent 3 (some .int) :: lw_g) { frames := 7, cells := 1, slots := 6, locals := 136 } (va_Pc [.ref (b + 0), .int w1] (zx_w g σ)) (va_Qi (S := sx_T) (fun _ _ => False) (zx_w g) (gx_Q g)) (vx_X (fun u : sx_T => ∃ z, u = wx_Z σ z) (fun E u t => E = "java/lang/IndexOutOfBoundsException" ∧ zx_h g u t.heap) (gx_Q g)) 1 6 (gx_Q g) := by
  refine z_metX (by decide) (Nat.le_of_ble_eq_true rfl) (fun p e s m below meth c B hr hin hout => ?_)
  refine z_eqs (σ' := (ap b σ [] [] [])) rfl ?_
  show zx p l e _ s m _ below meth c g 3 0 0 _ _ 0 [(0, .ref (b + 0)), (1, .int w1)] []
  refine z_aload_n B dX8_parent_0 rfl 0 rfl ?_
  refine z_iload_n B dX8_parent_1 rfl 1 rfl ?_
  refine z_cVq (As := [.int w1]) (rest := []) B cw_X8_99 cx_9 dX8_parent_2 (ci_X8_flowAt_871 l (σ := (ap b σ [] [] [])) (b := b) (lyA hK) w1 q1_w1 q2_w1 (rI_at 0 7 hI_0_7)) (lKA (hk_K hK 0 rfl rfl)) rfl (by decide) rfl (Nat.le_of_ble_eq_true rfl) (by decide) (fun r u hu => ?_)
  refine z_eqs (σ' := (ap b σ [] [] [])) hu.2 ?_
  show zx p l e _ s m _ below meth c g 3 0 0 _ _ 5 [(0, .ref (b + 0)), (1, .int w1)] _
  refine z_setr (y := none) hu.1 ?_
  refine z_qstore_n (r := none) (lv' := [(2, .null), (0, .ref (b + 0)), (1, .int w1)]) B dX8_parent_5 rfl (by decide) rfl ?_
  refine z_qload_n (r := none) B dX8_parent_6 rfl 0 rfl ?_
  refine z_ifnonnull (r := none) (tgt := 20) B dX8_parent_7 (by decide) (fun a h => nomatch h) (fun _ => ?_)
  exact z_throw B hlt hout (cls := "java/lang/IndexOutOfBoundsException") (text := "no such workflow") tw_X8_72_153_76 dX8_parent_10 dX8_parent_13 dX8_parent_14 dX8_parent_16 dX8_parent_19 (by decide) (by decide) (by decide) (by decide) (by decide) (by decide) (fun z => ⟨z, rfl⟩)
set_option maxRecDepth 100000 in
set_option maxHeartbeats 4000000 in
theorem ci_L_parent_1218 (l : Launch) (hlt : l.stackTraces = false) {g : gx_T} {σ : sx_T} {b : Nat} (hK : lay b σ) (w1 : Int32) (q1_w1 : (0 : Int) ≤ w1.toInt) (q2_w1 : w1.toInt ≤ (2147483647 : Int)) (hI_0_7 : sx_I σ (b + 0) 7 = 0) : Met l yL_parent (.codeWith yL_parent cL_parent 4 (some .int) [(0, 9, 12, 13)] :: lw_g) { frames := 8, cells := 1, slots := 6, locals := 158 } (va_Pc [.ref (b + 0), .int w1, .ref (b + 431)] (zx_w g σ)) (va_Qi (fun r u => r = 1 ∧ ∃ z, u = (ap b (wx_Z σ z) [] [] [])) (zx_w g) (gx_Q g)) 1 6 (gx_Q g) := by
  refine z_metW (by decide) (Nat.le_of_ble_eq_true rfl) (fun p e s m below meth c B hr htab => ?_)
  refine z_eqs (σ' := (ap b σ [] [] [])) rfl ?_
  show zx p l e _ s m _ below meth c g 4 0 0 _ _ 0 [(0, .ref (b + 0)), (1, .int w1), (2, .ref (b + 431))] []
  refine z_aload_n B dL_parent_0 rfl 2 rfl ?_
  refine z_iconst (v := 0) B dL_parent_1 (by decide) ?_
  refine z_aload_n B dL_parent_2 rfl 0 rfl ?_
  refine z_iload_n B dL_parent_3 rfl 1 rfl ?_
  refine z_cXi (As := [.int w1]) (rest := [.int 0, .ref (b + 431)]) B htab tc_parent_4_IndexOutOfBoundsException cw_L_54 cx_9 dL_parent_4 (ci_X8_parent_1217 l hlt (σ := (ap b σ [] [] [])) (b := b) (lyA hK) w1 q1_w1 q2_w1 (rI_at 0 7 hI_0_7)) (lKA (hk_K hK 0 rfl rfl)) rfl (by decide) rfl (Nat.le_of_ble_eq_true rfl) (by decide) (fun z q => ?_)
  refine z_eqs (σ' := (ap b (wx_Z σ z) [] [] [])) rfl ?_
  show zx p l e _ s m _ below meth c g 4 _ _ _ _ 12 [(0, .ref (b + 0)), (1, .int w1), (2, .ref (b + 431))] _
  refine z_astore_n (lv' := [(3, .ref q), (0, .ref (b + 0)), (1, .int w1), (2, .ref (b + 431))]) B dL_parent_12 rfl (by decide) rfl ?_
  refine z_iconst (v := 1) B dL_parent_13 (by decide) ?_
  exact z_iret B hr (by decide) (by decide) dL_parent_14 ⟨rfl, _, rfl⟩
set_option maxRecDepth 100000 in
set_option maxHeartbeats 4000000 in
theorem ci_X9_parent_1219 (l : Launch) {g : gx_T} {σ : sx_T} {b : Nat} (hK : lay b σ) (w1 : Int32) (q1_w1 : (0 : Int) ≤ w1.toInt) (q2_w1 : w1.toInt ≤ (2147483647 : Int)) (hI_405_6 : sx_I σ (b + 405) 6 = 0) : Met l yX9_parent (.code yX9_parent cX9_parent 2 (some .int) :: lw_g) { frames := 2, cells := 0, slots := 0, locals := 43 } (va_Pc [.ref (b + 405), .int w1] (zx_w g σ)) (va_Qi (fun r u => r = 0 ∧ u = (ap b σ [(405, 0, 1)] [] [])) (zx_w g) (gx_Q g)) 0 0 (gx_Q g) := by
  refine z_met (by decide) (Nat.le_of_ble_eq_true rfl) (fun p e s m below meth c B hr hin => ?_)
  refine z_eqs (σ' := (ap b σ [] [] [])) rfl ?_
  show zx p l e _ s m _ below meth c g 2 0 0 _ _ 0 [(0, .ref (b + 405)), (1, .int w1)] []
  refine z_aload_n B dX9_parent_0 rfl 0 rfl ?_
  refine z_aload_n B dX9_parent_1 rfl 0 rfl ?_
  refine z_iload_n B dX9_parent_2 rfl 1 rfl ?_
  refine z_cVi (As := [.int w1]) (rest := [.ref (b + 405)]) B cw_X9_262 cx_10 dX9_parent_3 (ci_X9_isWorkflow_875 l (σ := (ap b σ [] [] [])) (b := b) (lyA hK) w1 q1_w1 q2_w1 (rI_at 405 6 hI_405_6)) (lKA (hk_K hK 405 rfl rfl)) rfl (by decide) rfl (Nat.le_of_ble_eq_true rfl) (by decide) (fun r u hu => ?_)
  refine z_eqs (σ' := (ap b σ [] [] [])) hu.2 ?_
  show zx p l e _ s m _ below meth c g 2 0 0 _ _ 6 [(0, .ref (b + 405)), (1, .int w1)] _
  refine z_seti (y := 0) hu.1 ?_
  refine z_cVi (As := [.int 0]) (rest := []) B cw_X9_269 cx_10 dX9_parent_6 (ci_X9_needs_883 l (σ := (ap b σ [] [] [])) (b := b) (lyA hK) ) (lKA (hk_K hK 405 rfl rfl)) rfl (by decide) rfl (Nat.le_of_ble_eq_true rfl) (by decide) (fun r u hu => ?_)
  refine z_eqs (σ' := (ap b σ [(405, 0, 1)] [] [])) (hu.2.trans ap_ap) ?_
  show zx p l e _ s m _ below meth c g 2 0 0 _ _ 9 [(0, .ref (b + 405)), (1, .int w1)] _
  refine z_seti (y := 0) hu.1 ?_
  refine z_if_eq (tgt := 21) B dX9_parent_9 (by decide) (fun _ => ?_) (fun h => absurd (by decide) h)
  refine z_iconst (v := 0) B dX9_parent_21 (by decide) ?_
  exact z_iret B hr (by decide) (by decide) dX9_parent_22 ⟨rfl, rfl⟩
set_option maxRecDepth 100000 in
set_option maxHeartbeats 4000000 in
theorem ci_X8_events_1220 (l : Launch) (hlt : l.stackTraces = false) {g : gx_T} {σ : sx_T} {b : Nat} (hK : lay b σ) (w1 : Int32) (q1_w1 : (-2147483648 : Int) ≤ w1.toInt) (q2_w1 : w1.toInt ≤ (-1 : Int))  : vx_Met l yX8_events (.code yX8_events cX8_events 3 (some .int) :: lw_g) { frames := 7, cells := 1, slots := 6, locals := 136 } (va_Pc [.ref (b + 0), .int w1] (zx_w g σ)) (va_Qi (S := sx_T) (fun _ _ => False) (zx_w g) (gx_Q g)) (vx_X (fun u : sx_T => ∃ z, u = wx_Z σ z) (fun E u t => E = "java/lang/IndexOutOfBoundsException" ∧ zx_h g u t.heap) (gx_Q g)) 1 6 (gx_Q g) := by
  refine z_metX (by decide) (Nat.le_of_ble_eq_true rfl) (fun p e s m below meth c B hr hin hout => ?_)
  refine z_eqs (σ' := (ap b σ [] [] [])) rfl ?_
  show zx p l e _ s m _ below meth c g 3 0 0 _ _ 0 [(0, .ref (b + 0)), (1, .int w1)] []
  refine z_aload_n B dX8_events_0 rfl 0 rfl ?_
  refine z_iload_n B dX8_events_1 rfl 1 rfl ?_
  refine z_cVq (As := [.int w1]) (rest := []) B cw_X8_99 cx_9 dX8_events_2 (ci_X8_flowAt_861 l (σ := (ap b σ [] [] [])) (b := b) (lyA hK) w1 q1_w1 q2_w1) (lKA (hk_K hK 0 rfl rfl)) rfl (by decide) rfl (Nat.le_of_ble_eq_true rfl) (by decide) (fun r u hu => ?_)
  refine z_eqs (σ' := (ap b σ [] [] [])) hu.2 ?_
  show zx p l e _ s m _ below meth c g 3 0 0 _ _ 5 [(0, .ref (b + 0)), (1, .int w1)] _
  refine z_setr (y := none) hu.1 ?_
  refine z_qstore_n (r := none) (lv' := [(2, .null), (0, .ref (b + 0)), (1, .int w1)]) B dX8_events_5 rfl (by decide) rfl ?_
  refine z_qload_n (r := none) B dX8_events_6 rfl 0 rfl ?_
  refine z_ifnonnull (r := none) (tgt := 20) B dX8_events_7 (by decide) (fun a h => nomatch h) (fun _ => ?_)
  exact z_throw B hlt hout (cls := "java/lang/IndexOutOfBoundsException") (text := "no such workflow") tw_X8_72_153_76 dX8_events_10 dX8_events_13 dX8_events_14 dX8_events_16 dX8_events_19 (by decide) (by decide) (by decide) (by decide) (by decide) (by decide) (fun z => ⟨z, rfl⟩)
set_option maxRecDepth 100000 in
set_option maxHeartbeats 4000000 in
theorem ci_L_events_1221 (l : Launch) (hlt : l.stackTraces = false) {g : gx_T} {σ : sx_T} {b : Nat} (hK : lay b σ) (w1 : Int32) (q1_w1 : (-2147483648 : Int) ≤ w1.toInt) (q2_w1 : w1.toInt ≤ (-1 : Int))  : Met l yL_events (.codeWith yL_events cL_events 4 (some .int) [(0, 9, 12, 13)] :: lw_g) { frames := 8, cells := 1, slots := 6, locals := 158 } (va_Pc [.ref (b + 0), .int w1, .ref (b + 431)] (zx_w g σ)) (va_Qi (fun r u => r = 1 ∧ ∃ z, u = (ap b (wx_Z σ z) [] [] [])) (zx_w g) (gx_Q g)) 1 6 (gx_Q g) := by
  refine z_metW (by decide) (Nat.le_of_ble_eq_true rfl) (fun p e s m below meth c B hr htab => ?_)
  refine z_eqs (σ' := (ap b σ [] [] [])) rfl ?_
  show zx p l e _ s m _ below meth c g 4 0 0 _ _ 0 [(0, .ref (b + 0)), (1, .int w1), (2, .ref (b + 431))] []
  refine z_aload_n B dL_events_0 rfl 2 rfl ?_
  refine z_iconst (v := 0) B dL_events_1 (by decide) ?_
  refine z_aload_n B dL_events_2 rfl 0 rfl ?_
  refine z_iload_n B dL_events_3 rfl 1 rfl ?_
  refine z_cXi (As := [.int w1]) (rest := [.int 0, .ref (b + 431)]) B htab tc_events_4_IndexOutOfBoundsException cw_L_57 cx_9 dL_events_4 (ci_X8_events_1220 l hlt (σ := (ap b σ [] [] [])) (b := b) (lyA hK) w1 q1_w1 q2_w1) (lKA (hk_K hK 0 rfl rfl)) rfl (by decide) rfl (Nat.le_of_ble_eq_true rfl) (by decide) (fun z q => ?_)
  refine z_eqs (σ' := (ap b (wx_Z σ z) [] [] [])) rfl ?_
  show zx p l e _ s m _ below meth c g 4 _ _ _ _ 12 [(0, .ref (b + 0)), (1, .int w1), (2, .ref (b + 431))] _
  refine z_astore_n (lv' := [(3, .ref q), (0, .ref (b + 0)), (1, .int w1), (2, .ref (b + 431))]) B dL_events_12 rfl (by decide) rfl ?_
  refine z_iconst (v := 1) B dL_events_13 (by decide) ?_
  exact z_iret B hr (by decide) (by decide) dL_events_14 ⟨rfl, _, rfl⟩
set_option maxRecDepth 100000 in
set_option maxHeartbeats 4000000 in
theorem ci_X9_events_1222 (l : Launch) {g : gx_T} {σ : sx_T} {b : Nat} (hK : lay b σ) (w1 : Int32) (q1_w1 : (-2147483648 : Int) ≤ w1.toInt) (q2_w1 : w1.toInt ≤ (-1 : Int)) (hI_405_6 : sx_I σ (b + 405) 6 = 0) : Met l yX9_events (.code yX9_events cX9_events 2 (some .int) :: lw_g) { frames := 2, cells := 0, slots := 0, locals := 43 } (va_Pc [.ref (b + 405), .int w1] (zx_w g σ)) (va_Qi (fun r u => r = 0 ∧ u = (ap b σ [(405, 0, 1)] [] [])) (zx_w g) (gx_Q g)) 0 0 (gx_Q g) := by
  refine z_met (by decide) (Nat.le_of_ble_eq_true rfl) (fun p e s m below meth c B hr hin => ?_)
  refine z_eqs (σ' := (ap b σ [] [] [])) rfl ?_
  show zx p l e _ s m _ below meth c g 2 0 0 _ _ 0 [(0, .ref (b + 405)), (1, .int w1)] []
  refine z_aload_n B dX9_events_0 rfl 0 rfl ?_
  refine z_aload_n B dX9_events_1 rfl 0 rfl ?_
  refine z_iload_n B dX9_events_2 rfl 1 rfl ?_
  refine z_cVi (As := [.int w1]) (rest := [.ref (b + 405)]) B cw_X9_262 cx_10 dX9_events_3 (ci_X9_isWorkflow_865 l (σ := (ap b σ [] [] [])) (b := b) (lyA hK) w1 q1_w1 q2_w1 (rI_at 405 6 hI_405_6)) (lKA (hk_K hK 405 rfl rfl)) rfl (by decide) rfl (Nat.le_of_ble_eq_true rfl) (by decide) (fun r u hu => ?_)
  refine z_eqs (σ' := (ap b σ [] [] [])) hu.2 ?_
  show zx p l e _ s m _ below meth c g 2 0 0 _ _ 6 [(0, .ref (b + 405)), (1, .int w1)] _
  refine z_seti (y := 0) hu.1 ?_
  refine z_cVi (As := [.int 0]) (rest := []) B cw_X9_269 cx_10 dX9_events_6 (ci_X9_needs_883 l (σ := (ap b σ [] [] [])) (b := b) (lyA hK) ) (lKA (hk_K hK 405 rfl rfl)) rfl (by decide) rfl (Nat.le_of_ble_eq_true rfl) (by decide) (fun r u hu => ?_)
  refine z_eqs (σ' := (ap b σ [(405, 0, 1)] [] [])) (hu.2.trans ap_ap) ?_
  show zx p l e _ s m _ below meth c g 2 0 0 _ _ 9 [(0, .ref (b + 405)), (1, .int w1)] _
  refine z_seti (y := 0) hu.1 ?_
  refine z_if_eq (tgt := 21) B dX9_events_9 (by decide) (fun _ => ?_) (fun h => absurd (by decide) h)
  refine z_iconst (v := 0) B dX9_events_21 (by decide) ?_
  exact z_iret B hr (by decide) (by decide) dX9_events_22 ⟨rfl, rfl⟩
set_option maxRecDepth 100000 in
set_option maxHeartbeats 4000000 in
theorem ci_X8_events_1223 (l : Launch) (hlt : l.stackTraces = false) {g : gx_T} {σ : sx_T} {b : Nat} (hK : lay b σ) (w1 : Int32) (q1_w1 : (0 : Int) ≤ w1.toInt) (q2_w1 : w1.toInt ≤ (2147483647 : Int)) (hI_0_7 : sx_I σ (b + 0) 7 = 0) : vx_Met l yX8_events (.code yX8_events cX8_events 3 (some .int) :: lw_g) { frames := 7, cells := 1, slots := 6, locals := 136 } (va_Pc [.ref (b + 0), .int w1] (zx_w g σ)) (va_Qi (S := sx_T) (fun _ _ => False) (zx_w g) (gx_Q g)) (vx_X (fun u : sx_T => ∃ z, u = wx_Z σ z) (fun E u t => E = "java/lang/IndexOutOfBoundsException" ∧ zx_h g u t.heap) (gx_Q g)) 1 6 (gx_Q g) := by
  refine z_metX (by decide) (Nat.le_of_ble_eq_true rfl) (fun p e s m below meth c B hr hin hout => ?_)
  refine z_eqs (σ' := (ap b σ [] [] [])) rfl ?_
  show zx p l e _ s m _ below meth c g 3 0 0 _ _ 0 [(0, .ref (b + 0)), (1, .int w1)] []
  refine z_aload_n B dX8_events_0 rfl 0 rfl ?_
  refine z_iload_n B dX8_events_1 rfl 1 rfl ?_
  refine z_cVq (As := [.int w1]) (rest := []) B cw_X8_99 cx_9 dX8_events_2 (ci_X8_flowAt_871 l (σ := (ap b σ [] [] [])) (b := b) (lyA hK) w1 q1_w1 q2_w1 (rI_at 0 7 hI_0_7)) (lKA (hk_K hK 0 rfl rfl)) rfl (by decide) rfl (Nat.le_of_ble_eq_true rfl) (by decide) (fun r u hu => ?_)
  refine z_eqs (σ' := (ap b σ [] [] [])) hu.2 ?_
  show zx p l e _ s m _ below meth c g 3 0 0 _ _ 5 [(0, .ref (b + 0)), (1, .int w1)] _
  refine z_setr (y := none) hu.1 ?_
  refine z_qstore_n (r := none) (lv' := [(2, .null), (0, .ref (b + 0)), (1, .int w1)]) B dX8_events_5 rfl (by decide) rfl ?_
  refine z_qload_n (r := none) B dX8_events_6 rfl 0 rfl ?_
  refine z_ifnonnull (r := none) (tgt := 20) B dX8_events_7 (by decide) (fun a h => nomatch h) (fun _ => ?_)
  exact z_throw B hlt hout (cls := "java/lang/IndexOutOfBoundsException") (text := "no such workflow") tw_X8_72_153_76 dX8_events_10 dX8_events_13 dX8_events_14 dX8_events_16 dX8_events_19 (by decide) (by decide) (by decide) (by decide) (by decide) (by decide) (fun z => ⟨z, rfl⟩)
set_option maxRecDepth 100000 in
set_option maxHeartbeats 4000000 in
theorem ci_L_events_1224 (l : Launch) (hlt : l.stackTraces = false) {g : gx_T} {σ : sx_T} {b : Nat} (hK : lay b σ) (w1 : Int32) (q1_w1 : (0 : Int) ≤ w1.toInt) (q2_w1 : w1.toInt ≤ (2147483647 : Int)) (hI_0_7 : sx_I σ (b + 0) 7 = 0) : Met l yL_events (.codeWith yL_events cL_events 4 (some .int) [(0, 9, 12, 13)] :: lw_g) { frames := 8, cells := 1, slots := 6, locals := 158 } (va_Pc [.ref (b + 0), .int w1, .ref (b + 431)] (zx_w g σ)) (va_Qi (fun r u => r = 1 ∧ ∃ z, u = (ap b (wx_Z σ z) [] [] [])) (zx_w g) (gx_Q g)) 1 6 (gx_Q g) := by
  refine z_metW (by decide) (Nat.le_of_ble_eq_true rfl) (fun p e s m below meth c B hr htab => ?_)
  refine z_eqs (σ' := (ap b σ [] [] [])) rfl ?_
  show zx p l e _ s m _ below meth c g 4 0 0 _ _ 0 [(0, .ref (b + 0)), (1, .int w1), (2, .ref (b + 431))] []
  refine z_aload_n B dL_events_0 rfl 2 rfl ?_
  refine z_iconst (v := 0) B dL_events_1 (by decide) ?_
  refine z_aload_n B dL_events_2 rfl 0 rfl ?_
  refine z_iload_n B dL_events_3 rfl 1 rfl ?_
  refine z_cXi (As := [.int w1]) (rest := [.int 0, .ref (b + 431)]) B htab tc_events_4_IndexOutOfBoundsException cw_L_57 cx_9 dL_events_4 (ci_X8_events_1223 l hlt (σ := (ap b σ [] [] [])) (b := b) (lyA hK) w1 q1_w1 q2_w1 (rI_at 0 7 hI_0_7)) (lKA (hk_K hK 0 rfl rfl)) rfl (by decide) rfl (Nat.le_of_ble_eq_true rfl) (by decide) (fun z q => ?_)
  refine z_eqs (σ' := (ap b (wx_Z σ z) [] [] [])) rfl ?_
  show zx p l e _ s m _ below meth c g 4 _ _ _ _ 12 [(0, .ref (b + 0)), (1, .int w1), (2, .ref (b + 431))] _
  refine z_astore_n (lv' := [(3, .ref q), (0, .ref (b + 0)), (1, .int w1), (2, .ref (b + 431))]) B dL_events_12 rfl (by decide) rfl ?_
  refine z_iconst (v := 1) B dL_events_13 (by decide) ?_
  exact z_iret B hr (by decide) (by decide) dL_events_14 ⟨rfl, _, rfl⟩
set_option maxRecDepth 100000 in
set_option maxHeartbeats 4000000 in
theorem ci_X9_events_1225 (l : Launch) {g : gx_T} {σ : sx_T} {b : Nat} (hK : lay b σ) (w1 : Int32) (q1_w1 : (0 : Int) ≤ w1.toInt) (q2_w1 : w1.toInt ≤ (2147483647 : Int)) (hI_405_6 : sx_I σ (b + 405) 6 = 0) : Met l yX9_events (.code yX9_events cX9_events 2 (some .int) :: lw_g) { frames := 2, cells := 0, slots := 0, locals := 43 } (va_Pc [.ref (b + 405), .int w1] (zx_w g σ)) (va_Qi (fun r u => r = 0 ∧ u = (ap b σ [(405, 0, 1)] [] [])) (zx_w g) (gx_Q g)) 0 0 (gx_Q g) := by
  refine z_met (by decide) (Nat.le_of_ble_eq_true rfl) (fun p e s m below meth c B hr hin => ?_)
  refine z_eqs (σ' := (ap b σ [] [] [])) rfl ?_
  show zx p l e _ s m _ below meth c g 2 0 0 _ _ 0 [(0, .ref (b + 405)), (1, .int w1)] []
  refine z_aload_n B dX9_events_0 rfl 0 rfl ?_
  refine z_aload_n B dX9_events_1 rfl 0 rfl ?_
  refine z_iload_n B dX9_events_2 rfl 1 rfl ?_
  refine z_cVi (As := [.int w1]) (rest := [.ref (b + 405)]) B cw_X9_262 cx_10 dX9_events_3 (ci_X9_isWorkflow_875 l (σ := (ap b σ [] [] [])) (b := b) (lyA hK) w1 q1_w1 q2_w1 (rI_at 405 6 hI_405_6)) (lKA (hk_K hK 405 rfl rfl)) rfl (by decide) rfl (Nat.le_of_ble_eq_true rfl) (by decide) (fun r u hu => ?_)
  refine z_eqs (σ' := (ap b σ [] [] [])) hu.2 ?_
  show zx p l e _ s m _ below meth c g 2 0 0 _ _ 6 [(0, .ref (b + 405)), (1, .int w1)] _
  refine z_seti (y := 0) hu.1 ?_
  refine z_cVi (As := [.int 0]) (rest := []) B cw_X9_269 cx_10 dX9_events_6 (ci_X9_needs_883 l (σ := (ap b σ [] [] [])) (b := b) (lyA hK) ) (lKA (hk_K hK 405 rfl rfl)) rfl (by decide) rfl (Nat.le_of_ble_eq_true rfl) (by decide) (fun r u hu => ?_)
  refine z_eqs (σ' := (ap b σ [(405, 0, 1)] [] [])) (hu.2.trans ap_ap) ?_
  show zx p l e _ s m _ below meth c g 2 0 0 _ _ 9 [(0, .ref (b + 405)), (1, .int w1)] _
  refine z_seti (y := 0) hu.1 ?_
  refine z_if_eq (tgt := 21) B dX9_events_9 (by decide) (fun _ => ?_) (fun h => absurd (by decide) h)
  refine z_iconst (v := 0) B dX9_events_21 (by decide) ?_
  exact z_iret B hr (by decide) (by decide) dX9_events_22 ⟨rfl, rfl⟩
set_option maxRecDepth 100000 in
set_option maxHeartbeats 4000000 in
theorem ci_X8_kind_1226 (l : Launch) (hlt : l.stackTraces = false) {g : gx_T} {σ : sx_T} {b : Nat} (hK : lay b σ) (w1 : Int32) (w2 : Int32) (q1_w1 : (-2147483648 : Int) ≤ w1.toInt) (q2_w1 : w1.toInt ≤ (-1 : Int))  : vx_Met l yX8_kind (.code yX8_kind cX8_kind 4 (some .int) :: lw_g) { frames := 7, cells := 1, slots := 6, locals := 136 } (va_Pc [.ref (b + 0), .int w1, .int w2] (zx_w g σ)) (va_Qi (S := sx_T) (fun _ _ => False) (zx_w g) (gx_Q g)) (vx_X (fun u : sx_T => ∃ z, u = wx_Z σ z) (fun E u t => E = "java/lang/IndexOutOfBoundsException" ∧ zx_h g u t.heap) (gx_Q g)) 1 6 (gx_Q g) := by
  refine z_metX (by decide) (Nat.le_of_ble_eq_true rfl) (fun p e s m below meth c B hr hin hout => ?_)
  refine z_eqs (σ' := (ap b σ [] [] [])) rfl ?_
  show zx p l e _ s m _ below meth c g 4 0 0 _ _ 0 [(0, .ref (b + 0)), (1, .int w1), (2, .int w2)] []
  refine z_aload_n B dX8_kind_0 rfl 0 rfl ?_
  refine z_iload_n B dX8_kind_1 rfl 1 rfl ?_
  refine z_cVq (As := [.int w1]) (rest := []) B cw_X8_99 cx_9 dX8_kind_2 (ci_X8_flowAt_861 l (σ := (ap b σ [] [] [])) (b := b) (lyA hK) w1 q1_w1 q2_w1) (lKA (hk_K hK 0 rfl rfl)) rfl (by decide) rfl (Nat.le_of_ble_eq_true rfl) (by decide) (fun r u hu => ?_)
  refine z_eqs (σ' := (ap b σ [] [] [])) hu.2 ?_
  show zx p l e _ s m _ below meth c g 4 0 0 _ _ 5 [(0, .ref (b + 0)), (1, .int w1), (2, .int w2)] _
  refine z_setr (y := none) hu.1 ?_
  refine z_qstore_n (r := none) (lv' := [(3, .null), (0, .ref (b + 0)), (1, .int w1), (2, .int w2)]) B dX8_kind_5 rfl (by decide) rfl ?_
  refine z_qload_n (r := none) B dX8_kind_6 rfl 0 rfl ?_
  refine z_ifnull (r := none) (tgt := 24) B dX8_kind_7 (by decide) (fun _ => ?_) (fun a h => nomatch h)
  exact z_throwW B hlt hout (cls := "java/lang/IndexOutOfBoundsException") (text := "no such event") tw_X8_72_262_76 dX8_kind_24 dX8_kind_27 dX8_kind_28 dX8_kind_31 dX8_kind_34 (by decide) (by decide) (by decide) (by decide) (by decide) (by decide) (fun z => ⟨z, rfl⟩)
set_option maxRecDepth 100000 in
set_option maxHeartbeats 4000000 in
theorem ci_L_kind_1227 (l : Launch) (hlt : l.stackTraces = false) {g : gx_T} {σ : sx_T} {b : Nat} (hK : lay b σ) (w1 : Int32) (w2 : Int32) (q1_w1 : (-2147483648 : Int) ≤ w1.toInt) (q2_w1 : w1.toInt ≤ (-1 : Int))  : Met l yL_kind (.codeWith yL_kind cL_kind 5 (some .int) [(0, 10, 13, 13)] :: lw_g) { frames := 8, cells := 1, slots := 6, locals := 159 } (va_Pc [.ref (b + 0), .int w1, .int w2, .ref (b + 431)] (zx_w g σ)) (va_Qi (fun r u => r = 1 ∧ ∃ z, u = (ap b (wx_Z σ z) [] [] [])) (zx_w g) (gx_Q g)) 1 6 (gx_Q g) := by
  refine z_metW (by decide) (Nat.le_of_ble_eq_true rfl) (fun p e s m below meth c B hr htab => ?_)
  refine z_eqs (σ' := (ap b σ [] [] [])) rfl ?_
  show zx p l e _ s m _ below meth c g 5 0 0 _ _ 0 [(0, .ref (b + 0)), (1, .int w1), (2, .int w2), (3, .ref (b + 431))] []
  refine z_aload_n B dL_kind_0 rfl 3 rfl ?_
  refine z_iconst (v := 0) B dL_kind_1 (by decide) ?_
  refine z_aload_n B dL_kind_2 rfl 0 rfl ?_
  refine z_iload_n B dL_kind_3 rfl 1 rfl ?_
  refine z_iload_n B dL_kind_4 rfl 2 rfl ?_
  refine z_cXi (As := [.int w1, .int w2]) (rest := [.int 0, .ref (b + 431)]) B htab tc_kind_5_IndexOutOfBoundsException cw_L_60 cx_9 dL_kind_5 (ci_X8_kind_1226 l hlt (σ := (ap b σ [] [] [])) (b := b) (lyA hK) w1 w2 q1_w1 q2_w1) (lKA (hk_K hK 0 rfl rfl)) rfl (by decide) rfl (Nat.le_of_ble_eq_true rfl) (by decide) (fun z q => ?_)
  refine z_eqs (σ' := (ap b (wx_Z σ z) [] [] [])) rfl ?_
  show zx p l e _ s m _ below meth c g 5 _ _ _ _ 13 [(0, .ref (b + 0)), (1, .int w1), (2, .int w2), (3, .ref (b + 431))] _
  refine z_astore (lv' := [(4, .ref q), (0, .ref (b + 0)), (1, .int w1), (2, .int w2), (3, .ref (b + 431))]) B dL_kind_13 (by decide) rfl ?_
  refine z_iconst (v := 1) B dL_kind_15 (by decide) ?_
  exact z_iret B hr (by decide) (by decide) dL_kind_16 ⟨rfl, _, rfl⟩
set_option maxRecDepth 100000 in
set_option maxHeartbeats 4000000 in
theorem ci_X9_isEvent_1228 (l : Launch) {g : gx_T} {σ : sx_T} {b : Nat} (hK : lay b σ) (w1 : Int32) (w2 : Int32) (q1_w1 : (-2147483648 : Int) ≤ w1.toInt) (q2_w1 : w1.toInt ≤ (-1 : Int)) (hI_405_6 : sx_I σ (b + 405) 6 = 0) : Met l yX9_isEvent (.code yX9_isEvent cX9_isEvent 3 (some .boolean) :: lw_g) { frames := 2, cells := 0, slots := 0, locals := 43 } (va_Pc [.ref (b + 405), .int w1, .int w2] (zx_w g σ)) (va_Qi (fun r u => r = 0 ∧ u = σ) (zx_w g) (gx_Q g)) 0 0 (gx_Q g) := by
  refine z_met (by decide) (Nat.le_of_ble_eq_true rfl) (fun p e s m below meth c B hr hin => ?_)
  refine z_eqs (σ' := (ap b σ [] [] [])) rfl ?_
  show zx p l e _ s m _ below meth c g 3 0 0 _ _ 0 [(0, .ref (b + 405)), (1, .int w1), (2, .int w2)] []
  refine z_aload_n B dX9_isEvent_0 rfl 0 rfl ?_
  refine z_iload_n B dX9_isEvent_1 rfl 1 rfl ?_
  refine z_cVi (As := [.int w1]) (rest := []) B cw_X9_262 cx_10 dX9_isEvent_2 (ci_X9_isWorkflow_865 l (σ := (ap b σ [] [] [])) (b := b) (lyA hK) w1 q1_w1 q2_w1 (rI_at 405 6 hI_405_6)) (lKA (hk_K hK 405 rfl rfl)) rfl (by decide) rfl (Nat.le_of_ble_eq_true rfl) (by decide) (fun r u hu => ?_)
  refine z_eqs (σ' := (ap b σ [] [] [])) hu.2 ?_
  show zx p l e _ s m _ below meth c g 3 0 0 _ _ 5 [(0, .ref (b + 405)), (1, .int w1), (2, .int w2)] _
  refine z_seti (y := 0) hu.1 ?_
  refine z_if_eq (tgt := 28) B dX9_isEvent_5 (by decide) (fun _ => ?_) (fun h => absurd (by decide) h)
  refine z_iconst (v := 0) B dX9_isEvent_28 (by decide) ?_
  exact z_zret B hr (by decide) (by decide) (by decide) dX9_isEvent_29 ⟨rfl, rfl⟩
set_option maxRecDepth 100000 in
set_option maxHeartbeats 4000000 in
theorem ci_X9_kind_1229 (l : Launch) {g : gx_T} {σ : sx_T} {b : Nat} (hK : lay b σ) (w1 : Int32) (w2 : Int32) (q1_w1 : (-2147483648 : Int) ≤ w1.toInt) (q2_w1 : w1.toInt ≤ (-1 : Int)) (hI_405_6 : sx_I σ (b + 405) 6 = 0) : Met l yX9_kind (.code yX9_kind cX9_kind 3 (some .int) :: lw_g) { frames := 3, cells := 0, slots := 0, locals := 65 } (va_Pc [.ref (b + 405), .int w1, .int w2] (zx_w g σ)) (va_Qi (fun r u => r = 0 ∧ u = (ap b σ [(405, 0, 1)] [] [])) (zx_w g) (gx_Q g)) 0 0 (gx_Q g) := by
  refine z_met (by decide) (Nat.le_of_ble_eq_true rfl) (fun p e s m below meth c B hr hin => ?_)
  refine z_eqs (σ' := (ap b σ [] [] [])) rfl ?_
  show zx p l e _ s m _ below meth c g 3 0 0 _ _ 0 [(0, .ref (b + 405)), (1, .int w1), (2, .int w2)] []
  refine z_aload_n B dX9_kind_0 rfl 0 rfl ?_
  refine z_aload_n B dX9_kind_1 rfl 0 rfl ?_
  refine z_iload_n B dX9_kind_2 rfl 1 rfl ?_
  refine z_iload_n B dX9_kind_3 rfl 2 rfl ?_
  refine z_cVi (As := [.int w1, .int w2]) (rest := [.ref (b + 405)]) B cw_X9_300 cx_10 dX9_kind_4 (ci_X9_isEvent_1228 l (σ := (ap b σ [] [] [])) (b := b) (lyA hK) w1 w2 q1_w1 q2_w1 (rI_at 405 6 hI_405_6)) (lKA (hk_K hK 405 rfl rfl)) rfl (by decide) rfl (Nat.le_of_ble_eq_true rfl) (by decide) (fun r u hu => ?_)
  refine z_eqs (σ' := (ap b σ [] [] [])) hu.2 ?_
  show zx p l e _ s m _ below meth c g 3 0 0 _ _ 7 [(0, .ref (b + 405)), (1, .int w1), (2, .int w2)] _
  refine z_seti (y := 0) hu.1 ?_
  refine z_cVi (As := [.int 0]) (rest := []) B cw_X9_269 cx_10 dX9_kind_7 (ci_X9_needs_883 l (σ := (ap b σ [] [] [])) (b := b) (lyA hK) ) (lKA (hk_K hK 405 rfl rfl)) rfl (by decide) rfl (Nat.le_of_ble_eq_true rfl) (by decide) (fun r u hu => ?_)
  refine z_eqs (σ' := (ap b σ [(405, 0, 1)] [] [])) (hu.2.trans ap_ap) ?_
  show zx p l e _ s m _ below meth c g 3 0 0 _ _ 10 [(0, .ref (b + 405)), (1, .int w1), (2, .int w2)] _
  refine z_seti (y := 0) hu.1 ?_
  refine z_if_eq (tgt := 28) B dX9_kind_10 (by decide) (fun _ => ?_) (fun h => absurd (by decide) h)
  refine z_iconst (v := 0) B dX9_kind_28 (by decide) ?_
  exact z_iret B hr (by decide) (by decide) dX9_kind_29 ⟨rfl, rfl⟩
set_option maxRecDepth 100000 in
set_option maxHeartbeats 4000000 in
theorem ci_X8_kind_1230 (l : Launch) (hlt : l.stackTraces = false) {g : gx_T} {σ : sx_T} {b : Nat} (hK : lay b σ) (w1 : Int32) (w2 : Int32) (q1_w1 : (0 : Int) ≤ w1.toInt) (q2_w1 : w1.toInt ≤ (2147483647 : Int)) (hI_0_7 : sx_I σ (b + 0) 7 = 0) : vx_Met l yX8_kind (.code yX8_kind cX8_kind 4 (some .int) :: lw_g) { frames := 7, cells := 1, slots := 6, locals := 136 } (va_Pc [.ref (b + 0), .int w1, .int w2] (zx_w g σ)) (va_Qi (S := sx_T) (fun _ _ => False) (zx_w g) (gx_Q g)) (vx_X (fun u : sx_T => ∃ z, u = wx_Z σ z) (fun E u t => E = "java/lang/IndexOutOfBoundsException" ∧ zx_h g u t.heap) (gx_Q g)) 1 6 (gx_Q g) := by
  refine z_metX (by decide) (Nat.le_of_ble_eq_true rfl) (fun p e s m below meth c B hr hin hout => ?_)
  refine z_eqs (σ' := (ap b σ [] [] [])) rfl ?_
  show zx p l e _ s m _ below meth c g 4 0 0 _ _ 0 [(0, .ref (b + 0)), (1, .int w1), (2, .int w2)] []
  refine z_aload_n B dX8_kind_0 rfl 0 rfl ?_
  refine z_iload_n B dX8_kind_1 rfl 1 rfl ?_
  refine z_cVq (As := [.int w1]) (rest := []) B cw_X8_99 cx_9 dX8_kind_2 (ci_X8_flowAt_871 l (σ := (ap b σ [] [] [])) (b := b) (lyA hK) w1 q1_w1 q2_w1 (rI_at 0 7 hI_0_7)) (lKA (hk_K hK 0 rfl rfl)) rfl (by decide) rfl (Nat.le_of_ble_eq_true rfl) (by decide) (fun r u hu => ?_)
  refine z_eqs (σ' := (ap b σ [] [] [])) hu.2 ?_
  show zx p l e _ s m _ below meth c g 4 0 0 _ _ 5 [(0, .ref (b + 0)), (1, .int w1), (2, .int w2)] _
  refine z_setr (y := none) hu.1 ?_
  refine z_qstore_n (r := none) (lv' := [(3, .null), (0, .ref (b + 0)), (1, .int w1), (2, .int w2)]) B dX8_kind_5 rfl (by decide) rfl ?_
  refine z_qload_n (r := none) B dX8_kind_6 rfl 0 rfl ?_
  refine z_ifnull (r := none) (tgt := 24) B dX8_kind_7 (by decide) (fun _ => ?_) (fun a h => nomatch h)
  exact z_throwW B hlt hout (cls := "java/lang/IndexOutOfBoundsException") (text := "no such event") tw_X8_72_262_76 dX8_kind_24 dX8_kind_27 dX8_kind_28 dX8_kind_31 dX8_kind_34 (by decide) (by decide) (by decide) (by decide) (by decide) (by decide) (fun z => ⟨z, rfl⟩)
set_option maxRecDepth 100000 in
set_option maxHeartbeats 4000000 in
theorem ci_L_kind_1231 (l : Launch) (hlt : l.stackTraces = false) {g : gx_T} {σ : sx_T} {b : Nat} (hK : lay b σ) (w1 : Int32) (w2 : Int32) (q1_w1 : (0 : Int) ≤ w1.toInt) (q2_w1 : w1.toInt ≤ (2147483647 : Int)) (hI_0_7 : sx_I σ (b + 0) 7 = 0) : Met l yL_kind (.codeWith yL_kind cL_kind 5 (some .int) [(0, 10, 13, 13)] :: lw_g) { frames := 8, cells := 1, slots := 6, locals := 159 } (va_Pc [.ref (b + 0), .int w1, .int w2, .ref (b + 431)] (zx_w g σ)) (va_Qi (fun r u => r = 1 ∧ ∃ z, u = (ap b (wx_Z σ z) [] [] [])) (zx_w g) (gx_Q g)) 1 6 (gx_Q g) := by
  refine z_metW (by decide) (Nat.le_of_ble_eq_true rfl) (fun p e s m below meth c B hr htab => ?_)
  refine z_eqs (σ' := (ap b σ [] [] [])) rfl ?_
  show zx p l e _ s m _ below meth c g 5 0 0 _ _ 0 [(0, .ref (b + 0)), (1, .int w1), (2, .int w2), (3, .ref (b + 431))] []
  refine z_aload_n B dL_kind_0 rfl 3 rfl ?_
  refine z_iconst (v := 0) B dL_kind_1 (by decide) ?_
  refine z_aload_n B dL_kind_2 rfl 0 rfl ?_
  refine z_iload_n B dL_kind_3 rfl 1 rfl ?_
  refine z_iload_n B dL_kind_4 rfl 2 rfl ?_
  refine z_cXi (As := [.int w1, .int w2]) (rest := [.int 0, .ref (b + 431)]) B htab tc_kind_5_IndexOutOfBoundsException cw_L_60 cx_9 dL_kind_5 (ci_X8_kind_1230 l hlt (σ := (ap b σ [] [] [])) (b := b) (lyA hK) w1 w2 q1_w1 q2_w1 (rI_at 0 7 hI_0_7)) (lKA (hk_K hK 0 rfl rfl)) rfl (by decide) rfl (Nat.le_of_ble_eq_true rfl) (by decide) (fun z q => ?_)
  refine z_eqs (σ' := (ap b (wx_Z σ z) [] [] [])) rfl ?_
  show zx p l e _ s m _ below meth c g 5 _ _ _ _ 13 [(0, .ref (b + 0)), (1, .int w1), (2, .int w2), (3, .ref (b + 431))] _
  refine z_astore (lv' := [(4, .ref q), (0, .ref (b + 0)), (1, .int w1), (2, .int w2), (3, .ref (b + 431))]) B dL_kind_13 (by decide) rfl ?_
  refine z_iconst (v := 1) B dL_kind_15 (by decide) ?_
  exact z_iret B hr (by decide) (by decide) dL_kind_16 ⟨rfl, _, rfl⟩
set_option maxRecDepth 100000 in
set_option maxHeartbeats 4000000 in
theorem ci_X9_isEvent_1232 (l : Launch) {g : gx_T} {σ : sx_T} {b : Nat} (hK : lay b σ) (w1 : Int32) (w2 : Int32) (q1_w1 : (0 : Int) ≤ w1.toInt) (q2_w1 : w1.toInt ≤ (2147483647 : Int)) (hI_405_6 : sx_I σ (b + 405) 6 = 0) : Met l yX9_isEvent (.code yX9_isEvent cX9_isEvent 3 (some .boolean) :: lw_g) { frames := 2, cells := 0, slots := 0, locals := 43 } (va_Pc [.ref (b + 405), .int w1, .int w2] (zx_w g σ)) (va_Qi (fun r u => r = 0 ∧ u = σ) (zx_w g) (gx_Q g)) 0 0 (gx_Q g) := by
  refine z_met (by decide) (Nat.le_of_ble_eq_true rfl) (fun p e s m below meth c B hr hin => ?_)
  refine z_eqs (σ' := (ap b σ [] [] [])) rfl ?_
  show zx p l e _ s m _ below meth c g 3 0 0 _ _ 0 [(0, .ref (b + 405)), (1, .int w1), (2, .int w2)] []
  refine z_aload_n B dX9_isEvent_0 rfl 0 rfl ?_
  refine z_iload_n B dX9_isEvent_1 rfl 1 rfl ?_
  refine z_cVi (As := [.int w1]) (rest := []) B cw_X9_262 cx_10 dX9_isEvent_2 (ci_X9_isWorkflow_875 l (σ := (ap b σ [] [] [])) (b := b) (lyA hK) w1 q1_w1 q2_w1 (rI_at 405 6 hI_405_6)) (lKA (hk_K hK 405 rfl rfl)) rfl (by decide) rfl (Nat.le_of_ble_eq_true rfl) (by decide) (fun r u hu => ?_)
  refine z_eqs (σ' := (ap b σ [] [] [])) hu.2 ?_
  show zx p l e _ s m _ below meth c g 3 0 0 _ _ 5 [(0, .ref (b + 405)), (1, .int w1), (2, .int w2)] _
  refine z_seti (y := 0) hu.1 ?_
  refine z_if_eq (tgt := 28) B dX9_isEvent_5 (by decide) (fun _ => ?_) (fun h => absurd (by decide) h)
  refine z_iconst (v := 0) B dX9_isEvent_28 (by decide) ?_
  exact z_zret B hr (by decide) (by decide) (by decide) dX9_isEvent_29 ⟨rfl, rfl⟩
set_option maxRecDepth 100000 in
set_option maxHeartbeats 4000000 in
theorem ci_X9_kind_1233 (l : Launch) {g : gx_T} {σ : sx_T} {b : Nat} (hK : lay b σ) (w1 : Int32) (w2 : Int32) (q1_w1 : (0 : Int) ≤ w1.toInt) (q2_w1 : w1.toInt ≤ (2147483647 : Int)) (hI_405_6 : sx_I σ (b + 405) 6 = 0) : Met l yX9_kind (.code yX9_kind cX9_kind 3 (some .int) :: lw_g) { frames := 3, cells := 0, slots := 0, locals := 65 } (va_Pc [.ref (b + 405), .int w1, .int w2] (zx_w g σ)) (va_Qi (fun r u => r = 0 ∧ u = (ap b σ [(405, 0, 1)] [] [])) (zx_w g) (gx_Q g)) 0 0 (gx_Q g) := by
  refine z_met (by decide) (Nat.le_of_ble_eq_true rfl) (fun p e s m below meth c B hr hin => ?_)
  refine z_eqs (σ' := (ap b σ [] [] [])) rfl ?_
  show zx p l e _ s m _ below meth c g 3 0 0 _ _ 0 [(0, .ref (b + 405)), (1, .int w1), (2, .int w2)] []
  refine z_aload_n B dX9_kind_0 rfl 0 rfl ?_
  refine z_aload_n B dX9_kind_1 rfl 0 rfl ?_
  refine z_iload_n B dX9_kind_2 rfl 1 rfl ?_
  refine z_iload_n B dX9_kind_3 rfl 2 rfl ?_
  refine z_cVi (As := [.int w1, .int w2]) (rest := [.ref (b + 405)]) B cw_X9_300 cx_10 dX9_kind_4 (ci_X9_isEvent_1232 l (σ := (ap b σ [] [] [])) (b := b) (lyA hK) w1 w2 q1_w1 q2_w1 (rI_at 405 6 hI_405_6)) (lKA (hk_K hK 405 rfl rfl)) rfl (by decide) rfl (Nat.le_of_ble_eq_true rfl) (by decide) (fun r u hu => ?_)
  refine z_eqs (σ' := (ap b σ [] [] [])) hu.2 ?_
  show zx p l e _ s m _ below meth c g 3 0 0 _ _ 7 [(0, .ref (b + 405)), (1, .int w1), (2, .int w2)] _
  refine z_seti (y := 0) hu.1 ?_
  refine z_cVi (As := [.int 0]) (rest := []) B cw_X9_269 cx_10 dX9_kind_7 (ci_X9_needs_883 l (σ := (ap b σ [] [] [])) (b := b) (lyA hK) ) (lKA (hk_K hK 405 rfl rfl)) rfl (by decide) rfl (Nat.le_of_ble_eq_true rfl) (by decide) (fun r u hu => ?_)
  refine z_eqs (σ' := (ap b σ [(405, 0, 1)] [] [])) (hu.2.trans ap_ap) ?_
  show zx p l e _ s m _ below meth c g 3 0 0 _ _ 10 [(0, .ref (b + 405)), (1, .int w1), (2, .int w2)] _
  refine z_seti (y := 0) hu.1 ?_
  refine z_if_eq (tgt := 28) B dX9_kind_10 (by decide) (fun _ => ?_) (fun h => absurd (by decide) h)
  refine z_iconst (v := 0) B dX9_kind_28 (by decide) ?_
  exact z_iret B hr (by decide) (by decide) dX9_kind_29 ⟨rfl, rfl⟩
set_option maxRecDepth 100000 in
set_option maxHeartbeats 4000000 in
theorem ci_X8_number_1234 (l : Launch) (hlt : l.stackTraces = false) {g : gx_T} {σ : sx_T} {b : Nat} (hK : lay b σ) (w1 : Int32) (w2 : Int32) (q1_w1 : (-2147483648 : Int) ≤ w1.toInt) (q2_w1 : w1.toInt ≤ (-1 : Int))  : vx_Met l yX8_number (.code yX8_number cX8_number 4 (some .long) :: lw_g) { frames := 7, cells := 1, slots := 6, locals := 136 } (va_Pc [.ref (b + 0), .int w1, .int w2] (zx_w g σ)) (va_Ql (S := sx_T) (fun _ _ => False) (zx_w g) (gx_Q g)) (vx_X (fun u : sx_T => ∃ z, u = wx_Z σ z) (fun E u t => E = "java/lang/IndexOutOfBoundsException" ∧ zx_h g u t.heap) (gx_Q g)) 1 6 (gx_Q g) := by
  refine z_metX (by decide) (Nat.le_of_ble_eq_true rfl) (fun p e s m below meth c B hr hin hout => ?_)
  refine z_eqs (σ' := (ap b σ [] [] [])) rfl ?_
  show zx p l e _ s m _ below meth c g 4 0 0 _ _ 0 [(0, .ref (b + 0)), (1, .int w1), (2, .int w2)] []
  refine z_aload_n B dX8_number_0 rfl 0 rfl ?_
  refine z_iload_n B dX8_number_1 rfl 1 rfl ?_
  refine z_cVq (As := [.int w1]) (rest := []) B cw_X8_99 cx_9 dX8_number_2 (ci_X8_flowAt_861 l (σ := (ap b σ [] [] [])) (b := b) (lyA hK) w1 q1_w1 q2_w1) (lKA (hk_K hK 0 rfl rfl)) rfl (by decide) rfl (Nat.le_of_ble_eq_true rfl) (by decide) (fun r u hu => ?_)
  refine z_eqs (σ' := (ap b σ [] [] [])) hu.2 ?_
  show zx p l e _ s m _ below meth c g 4 0 0 _ _ 5 [(0, .ref (b + 0)), (1, .int w1), (2, .int w2)] _
  refine z_setr (y := none) hu.1 ?_
  refine z_qstore_n (r := none) (lv' := [(3, .null), (0, .ref (b + 0)), (1, .int w1), (2, .int w2)]) B dX8_number_5 rfl (by decide) rfl ?_
  refine z_qload_n (r := none) B dX8_number_6 rfl 0 rfl ?_
  refine z_ifnull (r := none) (tgt := 24) B dX8_number_7 (by decide) (fun _ => ?_) (fun a h => nomatch h)
  exact z_throwW B hlt hout (cls := "java/lang/IndexOutOfBoundsException") (text := "no such event") tw_X8_72_262_76 dX8_number_24 dX8_number_27 dX8_number_28 dX8_number_31 dX8_number_34 (by decide) (by decide) (by decide) (by decide) (by decide) (by decide) (fun z => ⟨z, rfl⟩)
set_option maxRecDepth 100000 in
set_option maxHeartbeats 4000000 in
theorem ci_L_number_1235 (l : Launch) (hlt : l.stackTraces = false) {g : gx_T} {σ : sx_T} {b : Nat} (hK : lay b σ) (w1 : Int32) (w2 : Int32) (q1_w1 : (-2147483648 : Int) ≤ w1.toInt) (q2_w1 : w1.toInt ≤ (-1 : Int))  : Met l yL_number (.codeWith yL_number cL_number 5 (some .int) [(0, 9, 12, 13)] :: lw_g) { frames := 8, cells := 1, slots := 6, locals := 159 } (va_Pc [.ref (b + 0), .int w1, .int w2, .ref (b + 431)] (zx_w g σ)) (va_Qi (fun r u => r = 1 ∧ ∃ z, u = (ap b (wx_Z σ z) [] [] [])) (zx_w g) (gx_Q g)) 1 6 (gx_Q g) := by
  refine z_metW (by decide) (Nat.le_of_ble_eq_true rfl) (fun p e s m below meth c B hr htab => ?_)
  refine z_eqs (σ' := (ap b σ [] [] [])) rfl ?_
  show zx p l e _ s m _ below meth c g 5 0 0 _ _ 0 [(0, .ref (b + 0)), (1, .int w1), (2, .int w2), (3, .ref (b + 431))] []
  refine z_aload_n B dL_number_0 rfl 3 rfl ?_
  refine z_iconst (v := 0) B dL_number_1 (by decide) ?_
  refine z_aload_n B dL_number_2 rfl 0 rfl ?_
  refine z_iload_n B dL_number_3 rfl 1 rfl ?_
  refine z_iload_n B dL_number_4 rfl 2 rfl ?_
  refine z_cXl (As := [.int w1, .int w2]) (rest := [.int 0, .ref (b + 431)]) B htab tc_number_5_IndexOutOfBoundsException cw_L_63 cx_9 dL_number_5 (ci_X8_number_1234 l hlt (σ := (ap b σ [] [] [])) (b := b) (lyA hK) w1 w2 q1_w1 q2_w1) (lKA (hk_K hK 0 rfl rfl)) rfl (by decide) rfl (Nat.le_of_ble_eq_true rfl) (by decide) (fun z q => ?_)
  refine z_eqs (σ' := (ap b (wx_Z σ z) [] [] [])) rfl ?_
  show zx p l e _ s m _ below meth c g 5 _ _ _ _ 12 [(0, .ref (b + 0)), (1, .int w1), (2, .int w2), (3, .ref (b + 431))] _
  refine z_astore (lv' := [(4, .ref q), (0, .ref (b + 0)), (1, .int w1), (2, .int w2), (3, .ref (b + 431))]) B dL_number_12 (by decide) rfl ?_
  refine z_iconst (v := 1) B dL_number_14 (by decide) ?_
  exact z_iret B hr (by decide) (by decide) dL_number_15 ⟨rfl, _, rfl⟩
set_option maxRecDepth 100000 in
set_option maxHeartbeats 4000000 in
theorem ci_X9_number_1236 (l : Launch) {g : gx_T} {σ : sx_T} {b : Nat} (hK : lay b σ) (w1 : Int32) (w2 : Int32) (q1_w1 : (-2147483648 : Int) ≤ w1.toInt) (q2_w1 : w1.toInt ≤ (-1 : Int)) (hI_405_6 : sx_I σ (b + 405) 6 = 0) : Met l yX9_number (.code yX9_number cX9_number 3 (some .long) :: lw_g) { frames := 3, cells := 0, slots := 0, locals := 65 } (va_Pc [.ref (b + 405), .int w1, .int w2] (zx_w g σ)) (va_Ql (fun r u => r = 0 ∧ u = (ap b σ [(405, 0, 1)] [] [])) (zx_w g) (gx_Q g)) 0 0 (gx_Q g) := by
  refine z_met (by decide) (Nat.le_of_ble_eq_true rfl) (fun p e s m below meth c B hr hin => ?_)
  refine z_eqs (σ' := (ap b σ [] [] [])) rfl ?_
  show zx p l e _ s m _ below meth c g 3 0 0 _ _ 0 [(0, .ref (b + 405)), (1, .int w1), (2, .int w2)] []
  refine z_aload_n B dX9_number_0 rfl 0 rfl ?_
  refine z_aload_n B dX9_number_1 rfl 0 rfl ?_
  refine z_iload_n B dX9_number_2 rfl 1 rfl ?_
  refine z_iload_n B dX9_number_3 rfl 2 rfl ?_
  refine z_cVi (As := [.int w1, .int w2]) (rest := [.ref (b + 405)]) B cw_X9_300 cx_10 dX9_number_4 (ci_X9_isEvent_1228 l (σ := (ap b σ [] [] [])) (b := b) (lyA hK) w1 w2 q1_w1 q2_w1 (rI_at 405 6 hI_405_6)) (lKA (hk_K hK 405 rfl rfl)) rfl (by decide) rfl (Nat.le_of_ble_eq_true rfl) (by decide) (fun r u hu => ?_)
  refine z_eqs (σ' := (ap b σ [] [] [])) hu.2 ?_
  show zx p l e _ s m _ below meth c g 3 0 0 _ _ 7 [(0, .ref (b + 405)), (1, .int w1), (2, .int w2)] _
  refine z_seti (y := 0) hu.1 ?_
  refine z_cVi (As := [.int 0]) (rest := []) B cw_X9_269 cx_10 dX9_number_7 (ci_X9_needs_883 l (σ := (ap b σ [] [] [])) (b := b) (lyA hK) ) (lKA (hk_K hK 405 rfl rfl)) rfl (by decide) rfl (Nat.le_of_ble_eq_true rfl) (by decide) (fun r u hu => ?_)
  refine z_eqs (σ' := (ap b σ [(405, 0, 1)] [] [])) (hu.2.trans ap_ap) ?_
  show zx p l e _ s m _ below meth c g 3 0 0 _ _ 10 [(0, .ref (b + 405)), (1, .int w1), (2, .int w2)] _
  refine z_seti (y := 0) hu.1 ?_
  refine z_if_eq (tgt := 28) B dX9_number_10 (by decide) (fun _ => ?_) (fun h => absurd (by decide) h)
  refine z_lconst (v := 0) B dX9_number_28 (by decide) ?_
  exact z_lret B hr (by decide) (by decide) dX9_number_29 ⟨rfl, rfl⟩
set_option maxRecDepth 100000 in
set_option maxHeartbeats 4000000 in
theorem ci_X8_number_1237 (l : Launch) (hlt : l.stackTraces = false) {g : gx_T} {σ : sx_T} {b : Nat} (hK : lay b σ) (w1 : Int32) (w2 : Int32) (q1_w1 : (0 : Int) ≤ w1.toInt) (q2_w1 : w1.toInt ≤ (2147483647 : Int)) (hI_0_7 : sx_I σ (b + 0) 7 = 0) : vx_Met l yX8_number (.code yX8_number cX8_number 4 (some .long) :: lw_g) { frames := 7, cells := 1, slots := 6, locals := 136 } (va_Pc [.ref (b + 0), .int w1, .int w2] (zx_w g σ)) (va_Ql (S := sx_T) (fun _ _ => False) (zx_w g) (gx_Q g)) (vx_X (fun u : sx_T => ∃ z, u = wx_Z σ z) (fun E u t => E = "java/lang/IndexOutOfBoundsException" ∧ zx_h g u t.heap) (gx_Q g)) 1 6 (gx_Q g) := by
  refine z_metX (by decide) (Nat.le_of_ble_eq_true rfl) (fun p e s m below meth c B hr hin hout => ?_)
  refine z_eqs (σ' := (ap b σ [] [] [])) rfl ?_
  show zx p l e _ s m _ below meth c g 4 0 0 _ _ 0 [(0, .ref (b + 0)), (1, .int w1), (2, .int w2)] []
  refine z_aload_n B dX8_number_0 rfl 0 rfl ?_
  refine z_iload_n B dX8_number_1 rfl 1 rfl ?_
  refine z_cVq (As := [.int w1]) (rest := []) B cw_X8_99 cx_9 dX8_number_2 (ci_X8_flowAt_871 l (σ := (ap b σ [] [] [])) (b := b) (lyA hK) w1 q1_w1 q2_w1 (rI_at 0 7 hI_0_7)) (lKA (hk_K hK 0 rfl rfl)) rfl (by decide) rfl (Nat.le_of_ble_eq_true rfl) (by decide) (fun r u hu => ?_)
  refine z_eqs (σ' := (ap b σ [] [] [])) hu.2 ?_
  show zx p l e _ s m _ below meth c g 4 0 0 _ _ 5 [(0, .ref (b + 0)), (1, .int w1), (2, .int w2)] _
  refine z_setr (y := none) hu.1 ?_
  refine z_qstore_n (r := none) (lv' := [(3, .null), (0, .ref (b + 0)), (1, .int w1), (2, .int w2)]) B dX8_number_5 rfl (by decide) rfl ?_
  refine z_qload_n (r := none) B dX8_number_6 rfl 0 rfl ?_
  refine z_ifnull (r := none) (tgt := 24) B dX8_number_7 (by decide) (fun _ => ?_) (fun a h => nomatch h)
  exact z_throwW B hlt hout (cls := "java/lang/IndexOutOfBoundsException") (text := "no such event") tw_X8_72_262_76 dX8_number_24 dX8_number_27 dX8_number_28 dX8_number_31 dX8_number_34 (by decide) (by decide) (by decide) (by decide) (by decide) (by decide) (fun z => ⟨z, rfl⟩)
set_option maxRecDepth 100000 in
set_option maxHeartbeats 4000000 in
theorem ci_L_number_1238 (l : Launch) (hlt : l.stackTraces = false) {g : gx_T} {σ : sx_T} {b : Nat} (hK : lay b σ) (w1 : Int32) (w2 : Int32) (q1_w1 : (0 : Int) ≤ w1.toInt) (q2_w1 : w1.toInt ≤ (2147483647 : Int)) (hI_0_7 : sx_I σ (b + 0) 7 = 0) : Met l yL_number (.codeWith yL_number cL_number 5 (some .int) [(0, 9, 12, 13)] :: lw_g) { frames := 8, cells := 1, slots := 6, locals := 159 } (va_Pc [.ref (b + 0), .int w1, .int w2, .ref (b + 431)] (zx_w g σ)) (va_Qi (fun r u => r = 1 ∧ ∃ z, u = (ap b (wx_Z σ z) [] [] [])) (zx_w g) (gx_Q g)) 1 6 (gx_Q g) := by
  refine z_metW (by decide) (Nat.le_of_ble_eq_true rfl) (fun p e s m below meth c B hr htab => ?_)
  refine z_eqs (σ' := (ap b σ [] [] [])) rfl ?_
  show zx p l e _ s m _ below meth c g 5 0 0 _ _ 0 [(0, .ref (b + 0)), (1, .int w1), (2, .int w2), (3, .ref (b + 431))] []
  refine z_aload_n B dL_number_0 rfl 3 rfl ?_
  refine z_iconst (v := 0) B dL_number_1 (by decide) ?_
  refine z_aload_n B dL_number_2 rfl 0 rfl ?_
  refine z_iload_n B dL_number_3 rfl 1 rfl ?_
  refine z_iload_n B dL_number_4 rfl 2 rfl ?_
  refine z_cXl (As := [.int w1, .int w2]) (rest := [.int 0, .ref (b + 431)]) B htab tc_number_5_IndexOutOfBoundsException cw_L_63 cx_9 dL_number_5 (ci_X8_number_1237 l hlt (σ := (ap b σ [] [] [])) (b := b) (lyA hK) w1 w2 q1_w1 q2_w1 (rI_at 0 7 hI_0_7)) (lKA (hk_K hK 0 rfl rfl)) rfl (by decide) rfl (Nat.le_of_ble_eq_true rfl) (by decide) (fun z q => ?_)
  refine z_eqs (σ' := (ap b (wx_Z σ z) [] [] [])) rfl ?_
  show zx p l e _ s m _ below meth c g 5 _ _ _ _ 12 [(0, .ref (b + 0)), (1, .int w1), (2, .int w2), (3, .ref (b + 431))] _
  refine z_astore (lv' := [(4, .ref q), (0, .ref (b + 0)), (1, .int w1), (2, .int w2), (3, .ref (b + 431))]) B dL_number_12 (by decide) rfl ?_
  refine z_iconst (v := 1) B dL_number_14 (by decide) ?_
  exact z_iret B hr (by decide) (by decide) dL_number_15 ⟨rfl, _, rfl⟩
set_option maxRecDepth 100000 in
set_option maxHeartbeats 4000000 in
theorem ci_X9_number_1239 (l : Launch) {g : gx_T} {σ : sx_T} {b : Nat} (hK : lay b σ) (w1 : Int32) (w2 : Int32) (q1_w1 : (0 : Int) ≤ w1.toInt) (q2_w1 : w1.toInt ≤ (2147483647 : Int)) (hI_405_6 : sx_I σ (b + 405) 6 = 0) : Met l yX9_number (.code yX9_number cX9_number 3 (some .long) :: lw_g) { frames := 3, cells := 0, slots := 0, locals := 65 } (va_Pc [.ref (b + 405), .int w1, .int w2] (zx_w g σ)) (va_Ql (fun r u => r = 0 ∧ u = (ap b σ [(405, 0, 1)] [] [])) (zx_w g) (gx_Q g)) 0 0 (gx_Q g) := by
  refine z_met (by decide) (Nat.le_of_ble_eq_true rfl) (fun p e s m below meth c B hr hin => ?_)
  refine z_eqs (σ' := (ap b σ [] [] [])) rfl ?_
  show zx p l e _ s m _ below meth c g 3 0 0 _ _ 0 [(0, .ref (b + 405)), (1, .int w1), (2, .int w2)] []
  refine z_aload_n B dX9_number_0 rfl 0 rfl ?_
  refine z_aload_n B dX9_number_1 rfl 0 rfl ?_
  refine z_iload_n B dX9_number_2 rfl 1 rfl ?_
  refine z_iload_n B dX9_number_3 rfl 2 rfl ?_
  refine z_cVi (As := [.int w1, .int w2]) (rest := [.ref (b + 405)]) B cw_X9_300 cx_10 dX9_number_4 (ci_X9_isEvent_1232 l (σ := (ap b σ [] [] [])) (b := b) (lyA hK) w1 w2 q1_w1 q2_w1 (rI_at 405 6 hI_405_6)) (lKA (hk_K hK 405 rfl rfl)) rfl (by decide) rfl (Nat.le_of_ble_eq_true rfl) (by decide) (fun r u hu => ?_)
  refine z_eqs (σ' := (ap b σ [] [] [])) hu.2 ?_
  show zx p l e _ s m _ below meth c g 3 0 0 _ _ 7 [(0, .ref (b + 405)), (1, .int w1), (2, .int w2)] _
  refine z_seti (y := 0) hu.1 ?_
  refine z_cVi (As := [.int 0]) (rest := []) B cw_X9_269 cx_10 dX9_number_7 (ci_X9_needs_883 l (σ := (ap b σ [] [] [])) (b := b) (lyA hK) ) (lKA (hk_K hK 405 rfl rfl)) rfl (by decide) rfl (Nat.le_of_ble_eq_true rfl) (by decide) (fun r u hu => ?_)
  refine z_eqs (σ' := (ap b σ [(405, 0, 1)] [] [])) (hu.2.trans ap_ap) ?_
  show zx p l e _ s m _ below meth c g 3 0 0 _ _ 10 [(0, .ref (b + 405)), (1, .int w1), (2, .int w2)] _
  refine z_seti (y := 0) hu.1 ?_
  refine z_if_eq (tgt := 28) B dX9_number_10 (by decide) (fun _ => ?_) (fun h => absurd (by decide) h)
  refine z_lconst (v := 0) B dX9_number_28 (by decide) ?_
  exact z_lret B hr (by decide) (by decide) dX9_number_29 ⟨rfl, rfl⟩
set_option maxRecDepth 100000 in
set_option maxHeartbeats 4000000 in
theorem ci_X8_tasks_1240 (l : Launch) {g : gx_T} {σ : sx_T} {b : Nat} (hK : lay b σ)   (hI_4_2 : sx_I σ (b + 4) 2 = 0) (hR_0_3 : sx_R σ (b + 0) 3 = (some (b + 4))) : Met l yX8_tasks (.code yX8_tasks cX8_tasks 1 (some .int) :: lw_g) { frames := 1, cells := 0, slots := 0, locals := 20 } (va_Pc [.ref (b + 0)] (zx_w g σ)) (va_Qi (fun r u => r = 0 ∧ u = σ) (zx_w g) (gx_Q g)) 0 0 (gx_Q g) := by
  refine z_met (by decide) (Nat.le_of_ble_eq_true rfl) (fun p e s m below meth c B hr hin => ?_)
  refine z_eqs (σ' := (ap b σ [] [] [])) rfl ?_
  show zx p l e _ s m _ below meth c g 1 0 0 _ _ 0 [(0, .ref (b + 0))] []
  refine z_aload_n B dX8_tasks_0 rfl 0 rfl ?_
  refine gf_X8_28 (x := (some (b + 4))) B (lKA (hk_K hK 0 rfl rfl)) (rR_at 0 3 hR_0_3) dX8_tasks_1 ?_
  refine z_cVi (As := []) (rest := []) B cw_X8_264 cx_0 dX8_tasks_4 (ci_Jx4a65c_size_8abf5_919 l (σ := (ap b σ [] [] [])) (b := b) (lyA hK) (rI_at 4 2 hI_4_2)) (lKA (hk_K hK 4 rfl rfl)) rfl (by decide) rfl (Nat.le_of_ble_eq_true rfl) (by decide) (fun r u hu => ?_)
  refine z_eqs (σ' := (ap b σ [] [] [])) hu.2 ?_
  show zx p l e _ s m _ below meth c g 1 0 0 _ _ 7 [(0, .ref (b + 0))] _
  refine z_seti (y := 0) hu.1 ?_
  exact z_iret B hr (by decide) (by decide) dX8_tasks_7 ⟨rfl, rfl⟩
set_option maxRecDepth 100000 in
set_option maxHeartbeats 4000000 in
theorem ci_X9_tasks_1241 (l : Launch) {g : gx_T} {σ : sx_T} {b : Nat} (hK : lay b σ)   (hI_405_16 : sx_I σ (b + 405) 16 = 0) : Met l yX9_tasks (.code yX9_tasks cX9_tasks 1 (some .int) :: lw_g) { frames := 0, cells := 0, slots := 0, locals := 0 } (va_Pc [.ref (b + 405)] (zx_w g σ)) (va_Qi (fun r u => r = 0 ∧ u = (ap b σ [(405, 0, 0)] [] [])) (zx_w g) (gx_Q g)) 0 0 (gx_Q g) := by
  refine z_met (by decide) (Nat.le_of_ble_eq_true rfl) (fun p e s m below meth c B hr hin => ?_)
  refine z_eqs (σ' := (ap b σ [] [] [])) rfl ?_
  show zx p l e _ s m _ below meth c g 1 0 0 _ _ 0 [(0, .ref (b + 405))] []
  refine z_aload_n B dX9_tasks_0 rfl 0 rfl ?_
  refine z_iconst (v := 0) B dX9_tasks_1 (by decide) ?_
  refine pf_X9_90 (x := 0) (σ' := (ap b σ [(405, 0, 0)] [] [])) B (lKA (hk_K hK 405 rfl rfl)) wI_ap dX9_tasks_2 ?_
  refine z_aload_n B dX9_tasks_5 rfl 0 rfl ?_
  refine gf_X9_100 (x := 0) B (lKA (hk_K hK 405 rfl rfl)) (rI_at 405 16 hI_405_16) dX9_tasks_6 ?_
  exact z_iret B hr (by decide) (by decide) dX9_tasks_9 ⟨rfl, rfl⟩
set_option maxRecDepth 100000 in
set_option maxHeartbeats 4000000 in
theorem ci_X8_taskAt_1242 (l : Launch) {g : gx_T} {σ : sx_T} {b : Nat} (hK : lay b σ) (w1 : Int32) (q1_w1 : (-2147483648 : Int) ≤ w1.toInt) (q2_w1 : w1.toInt ≤ (-1 : Int))  : Met l yX8_taskAt (.code yX8_taskAt cX8_taskAt 2 (some (.object "Loomkeeper$Task")) :: lw_g) { frames := 0, cells := 0, slots := 0, locals := 0 } (va_Pc [.ref (b + 0), .int w1] (zx_w g σ)) (va_Qq (fun r u => r = none ∧ u = σ) (zx_w g) (gx_Q g)) 0 0 (gx_Q g) := by
  refine z_met (by decide) (Nat.le_of_ble_eq_true rfl) (fun p e s m below meth c B hr hin => ?_)
  refine z_eqs (σ' := (ap b σ [] [] [])) rfl ?_
  show zx p l e _ s m _ below meth c g 2 0 0 _ _ 0 [(0, .ref (b + 0)), (1, .int w1)] []
  refine z_iload_n B dX8_taskAt_0 rfl 1 rfl ?_
  refine z_if_lt (tgt := 29) B dX8_taskAt_1 (by decide) (fun _ => ?_) (fun h => absurd (iv_lt q2_w1 (by decide)) h)
  refine z_null B dX8_taskAt_29 ?_
  exact z_qret (r := none) B hr (by decide) (by decide) dX8_taskAt_30 ⟨rfl, rfl⟩
set_option maxRecDepth 100000 in
set_option maxHeartbeats 4000000 in
theorem ci_X8_task_1243 (l : Launch) (hlt : l.stackTraces = false) {g : gx_T} {σ : sx_T} {b : Nat} (hK : lay b σ) (w1 : Int32) (w2 : Int32) (q1_w1 : (-2147483648 : Int) ≤ w1.toInt) (q2_w1 : w1.toInt ≤ (-1 : Int))  : vx_Met l yX8_task (.code yX8_task cX8_task 4 (some .int) :: lw_g) { frames := 7, cells := 1, slots := 6, locals := 136 } (va_Pc [.ref (b + 0), .int w1, .int w2] (zx_w g σ)) (va_Qi (S := sx_T) (fun _ _ => False) (zx_w g) (gx_Q g)) (vx_X (fun u : sx_T => ∃ z, u = wx_Z σ z) (fun E u t => E = "java/lang/IndexOutOfBoundsException" ∧ zx_h g u t.heap) (gx_Q g)) 1 6 (gx_Q g) := by
  refine z_metX (by decide) (Nat.le_of_ble_eq_true rfl) (fun p e s m below meth c B hr hin hout => ?_)
  refine z_eqs (σ' := (ap b σ [] [] [])) rfl ?_
  show zx p l e _ s m _ below meth c g 4 0 0 _ _ 0 [(0, .ref (b + 0)), (1, .int w1), (2, .int w2)] []
  refine z_aload_n B dX8_task_0 rfl 0 rfl ?_
  refine z_iload_n B dX8_task_1 rfl 1 rfl ?_
  refine z_cVq (As := [.int w1]) (rest := []) B cw_X8_265 cx_9 dX8_task_2 (ci_X8_taskAt_1242 l (σ := (ap b σ [] [] [])) (b := b) (lyA hK) w1 q1_w1 q2_w1) (lKA (hk_K hK 0 rfl rfl)) rfl (by decide) rfl (Nat.le_of_ble_eq_true rfl) (by decide) (fun r u hu => ?_)
  refine z_eqs (σ' := (ap b σ [] [] [])) hu.2 ?_
  show zx p l e _ s m _ below meth c g 4 0 0 _ _ 5 [(0, .ref (b + 0)), (1, .int w1), (2, .int w2)] _
  refine z_setr (y := none) hu.1 ?_
  refine z_qstore_n (r := none) (lv' := [(3, .null), (0, .ref (b + 0)), (1, .int w1), (2, .int w2)]) B dX8_task_5 rfl (by decide) rfl ?_
  refine z_qload_n (r := none) B dX8_task_6 rfl 0 rfl ?_
  refine z_ifnonnull (r := none) (tgt := 21) B dX8_task_7 (by decide) (fun a h => nomatch h) (fun _ => ?_)
  exact z_throwW B hlt hout (cls := "java/lang/IndexOutOfBoundsException") (text := "no such task") tw_X8_72_268_76 dX8_task_10 dX8_task_13 dX8_task_14 dX8_task_17 dX8_task_20 (by decide) (by decide) (by decide) (by decide) (by decide) (by decide) (fun z => ⟨z, rfl⟩)
set_option maxRecDepth 100000 in
set_option maxHeartbeats 4000000 in
theorem ci_L_task_1244 (l : Launch) (hlt : l.stackTraces = false) {g : gx_T} {σ : sx_T} {b : Nat} (hK : lay b σ) (w1 : Int32) (w2 : Int32) (q1_w1 : (-2147483648 : Int) ≤ w1.toInt) (q2_w1 : w1.toInt ≤ (-1 : Int))  : Met l yL_task (.codeWith yL_task cL_task 5 (some .int) [(0, 10, 13, 13), (0, 10, 17, 15)] :: lw_g) { frames := 8, cells := 1, slots := 6, locals := 159 } (va_Pc [.ref (b + 0), .int w1, .int w2, .ref (b + 431)] (zx_w g σ)) (va_Qi (fun r u => r = 1 ∧ ∃ z, u = (ap b (wx_Z σ z) [] [] [])) (zx_w g) (gx_Q g)) 1 6 (gx_Q g) := by
  refine z_metW (by decide) (Nat.le_of_ble_eq_true rfl) (fun p e s m below meth c B hr htab => ?_)
  refine z_eqs (σ' := (ap b σ [] [] [])) rfl ?_
  show zx p l e _ s m _ below meth c g 5 0 0 _ _ 0 [(0, .ref (b + 0)), (1, .int w1), (2, .int w2), (3, .ref (b + 431))] []
  refine z_aload_n B dL_task_0 rfl 3 rfl ?_
  refine z_iconst (v := 0) B dL_task_1 (by decide) ?_
  refine z_aload_n B dL_task_2 rfl 0 rfl ?_
  refine z_iload_n B dL_task_3 rfl 1 rfl ?_
  refine z_iload_n B dL_task_4 rfl 2 rfl ?_
  refine z_cXi (As := [.int w1, .int w2]) (rest := [.int 0, .ref (b + 431)]) B htab tc_task_5_IndexOutOfBoundsException cw_L_67 cx_9 dL_task_5 (ci_X8_task_1243 l hlt (σ := (ap b σ [] [] [])) (b := b) (lyA hK) w1 w2 q1_w1 q2_w1) (lKA (hk_K hK 0 rfl rfl)) rfl (by decide) rfl (Nat.le_of_ble_eq_true rfl) (by decide) (fun z q => ?_)
  refine z_eqs (σ' := (ap b (wx_Z σ z) [] [] [])) rfl ?_
  show zx p l e _ s m _ below meth c g 5 _ _ _ _ 13 [(0, .ref (b + 0)), (1, .int w1), (2, .int w2), (3, .ref (b + 431))] _
  refine z_astore (lv' := [(4, .ref q), (0, .ref (b + 0)), (1, .int w1), (2, .int w2), (3, .ref (b + 431))]) B dL_task_13 (by decide) rfl ?_
  refine z_iconst (v := 1) B dL_task_15 (by decide) ?_
  exact z_iret B hr (by decide) (by decide) dL_task_16 ⟨rfl, _, rfl⟩
set_option maxRecDepth 100000 in
set_option maxHeartbeats 4000000 in
theorem ci_X9_task_1245 (l : Launch) {g : gx_T} {σ : sx_T} {b : Nat} (hK : lay b σ) (w1 : Int32) (w2 : Int32) (q1_w1 : (-2147483648 : Int) ≤ w1.toInt) (q2_w1 : w1.toInt ≤ (-1 : Int)) (q1_w2 : (-2147483648 : Int) ≤ w2.toInt) (q2_w2 : w2.toInt ≤ (-1 : Int)) (hI_405_16 : sx_I σ (b + 405) 16 = 0) : Met l yX9_task (.code yX9_task cX9_task 3 (some .int) :: lw_g) { frames := 1, cells := 0, slots := 0, locals := 22 } (va_Pc [.ref (b + 405), .int w1, .int w2] (zx_w g σ)) (va_Qi (fun r u => r = 0 ∧ u = (ap b σ [(405, 0, 1)] [] [])) (zx_w g) (gx_Q g)) 0 0 (gx_Q g) := by
  refine z_met (by decide) (Nat.le_of_ble_eq_true rfl) (fun p e s m below meth c B hr hin => ?_)
  refine z_eqs (σ' := (ap b σ [] [] [])) rfl ?_
  show zx p l e _ s m _ below meth c g 3 0 0 _ _ 0 [(0, .ref (b + 405)), (1, .int w1), (2, .int w2)] []
  refine z_aload_n B dX9_task_0 rfl 0 rfl ?_
  refine z_iload_n B dX9_task_1 rfl 1 rfl ?_
  refine z_iconst (v := 0) B dX9_task_2 (by decide) ?_
  refine z_aload_n B dX9_task_3 rfl 0 rfl ?_
  refine gf_X9_100 (x := 0) B (lKA (hk_K hK 405 rfl rfl)) (rI_at 405 16 hI_405_16) dX9_task_4 ?_
  refine z_iconst (v := 1) B dX9_task_7 (by decide) ?_
  refine z_isub B dX9_task_8 ?_
  refine z_seti (y := (-1)) (by decide) ?_
  refine z_cSi (As := [.int w1, .int 0, .int (-1)]) (rest := [.ref (b + 405)]) B cw_X9_96 dX9_task_9 (ci_X9_in_864 l (σ := (ap b σ [] [] [])) (b := b) (lyA hK) w1 q1_w1 q2_w1) rfl (by decide) rfl (Nat.le_of_ble_eq_true rfl) (by decide) (fun r u hu => ?_)
  refine z_eqs (σ' := (ap b σ [] [] [])) hu.2 ?_
  show zx p l e _ s m _ below meth c g 3 0 0 _ _ 12 [(0, .ref (b + 405)), (1, .int w1), (2, .int w2)] _
  refine z_seti (y := 0) hu.1 ?_
  refine z_iload_n B dX9_task_12 rfl 2 rfl ?_
  refine z_iconst (v := 0) B dX9_task_13 (by decide) ?_
  refine z_iconst (v := 5) B dX9_task_14 (by decide) ?_
  refine z_cSi (As := [.int w2, .int 0, .int 5]) (rest := [.int 0, .ref (b + 405)]) B cw_X9_96 dX9_task_15 (ci_X9_in_25 l (σ := (ap b σ [] [] [])) (b := b) (lyA hK) w2 q1_w2 q2_w2) rfl (by decide) rfl (Nat.le_of_ble_eq_true rfl) (by decide) (fun r u hu => ?_)
  refine z_eqs (σ' := (ap b σ [] [] [])) hu.2 ?_
  show zx p l e _ s m _ below meth c g 3 0 0 _ _ 18 [(0, .ref (b + 405)), (1, .int w1), (2, .int w2)] _
  refine z_seti (y := 0) hu.1 ?_
  refine z_cVi (As := [.int 0, .int 0]) (rest := []) B cw_X9_245 cx_10 dX9_task_18 (ci_X9_needs__29 l (σ := (ap b σ [] [] [])) (b := b) (lyA hK) ) (lKA (hk_K hK 405 rfl rfl)) rfl (by decide) rfl (Nat.le_of_ble_eq_true rfl) (by decide) (fun r u hu => ?_)
  refine z_eqs (σ' := (ap b σ [(405, 0, 1)] [] [])) (hu.2.trans ap_ap) ?_
  show zx p l e _ s m _ below meth c g 3 0 0 _ _ 21 [(0, .ref (b + 405)), (1, .int w1), (2, .int w2)] _
  refine z_seti (y := 0) hu.1 ?_
  refine z_if_ne (tgt := 26) B dX9_task_21 (by decide) (fun h => absurd (by decide) h) (fun _ => ?_)
  refine z_iconst (v := 0) B dX9_task_24 (by decide) ?_
  exact z_iret B hr (by decide) (by decide) dX9_task_25 ⟨rfl, rfl⟩
set_option maxRecDepth 100000 in
set_option maxHeartbeats 4000000 in
theorem ci_X9_in_1246 (l : Launch) {g : gx_T} {σ : sx_T} {b : Nat} (hK : lay b σ) (w1 : Int32) (q1_w1 : (0 : Int) ≤ w1.toInt) (q2_w1 : w1.toInt ≤ (5 : Int))  : Met l yX9_in (.code yX9_in cX9_in 3 (some .boolean) :: lw_g) { frames := 0, cells := 0, slots := 0, locals := 0 } (va_Pc [.int w1, .int 0, .int 5] (zx_w g σ)) (va_Qi (fun r u => r = 1 ∧ u = σ) (zx_w g) (gx_Q g)) 0 0 (gx_Q g) := by
  refine z_met (by decide) (Nat.le_of_ble_eq_true rfl) (fun p e s m below meth c B hr hin => ?_)
  refine z_eqs (σ' := (ap b σ [] [] [])) rfl ?_
  show zx p l e _ s m _ below meth c g 3 0 0 _ _ 0 [(0, .int w1), (1, .int 0), (2, .int 5)] []
  refine z_iload_n B dX9_in_0 rfl 0 rfl ?_
  refine z_iload_n B dX9_in_1 rfl 1 rfl ?_
  refine z_icmp_lt (tgt := 14) B dX9_in_2 (by decide) (fun h => absurd h (iv_nlt q1_w1 (by decide))) (fun _ => ?_)
  refine z_iload_n B dX9_in_5 rfl 0 rfl ?_
  refine z_iload_n B dX9_in_6 rfl 2 rfl ?_
  refine z_icmp_gt (tgt := 14) B dX9_in_7 (by decide) (fun h => absurd h (iv_ngt q2_w1 (by decide))) (fun _ => ?_)
  refine z_iconst (v := 1) B dX9_in_10 (by decide) ?_
  refine z_goto (tgt := 15) B dX9_in_11 (by decide) ?_
  exact z_zret B hr (by decide) (by decide) (by decide) dX9_in_15 ⟨rfl, rfl⟩
set_option maxRecDepth 100000 in
set_option maxHeartbeats 4000000 in
theorem ci_X9_task_1247 (l : Launch) {g : gx_T} {σ : sx_T} {b : Nat} (hK : lay b σ) (w1 : Int32) (w2 : Int32) (q1_w1 : (-2147483648 : Int) ≤ w1.toInt) (q2_w1 : w1.toInt ≤ (-1 : Int)) (q1_w2 : (0 : Int) ≤ w2.toInt) (q2_w2 : w2.toInt ≤ (5 : Int)) (hI_405_16 : sx_I σ (b + 405) 16 = 0) : Met l yX9_task (.code yX9_task cX9_task 3 (some .int) :: lw_g) { frames := 1, cells := 0, slots := 0, locals := 22 } (va_Pc [.ref (b + 405), .int w1, .int w2] (zx_w g σ)) (va_Qi (fun r u => r = 0 ∧ u = (ap b σ [(405, 0, 1)] [] [])) (zx_w g) (gx_Q g)) 0 0 (gx_Q g) := by
  refine z_met (by decide) (Nat.le_of_ble_eq_true rfl) (fun p e s m below meth c B hr hin => ?_)
  refine z_eqs (σ' := (ap b σ [] [] [])) rfl ?_
  show zx p l e _ s m _ below meth c g 3 0 0 _ _ 0 [(0, .ref (b + 405)), (1, .int w1), (2, .int w2)] []
  refine z_aload_n B dX9_task_0 rfl 0 rfl ?_
  refine z_iload_n B dX9_task_1 rfl 1 rfl ?_
  refine z_iconst (v := 0) B dX9_task_2 (by decide) ?_
  refine z_aload_n B dX9_task_3 rfl 0 rfl ?_
  refine gf_X9_100 (x := 0) B (lKA (hk_K hK 405 rfl rfl)) (rI_at 405 16 hI_405_16) dX9_task_4 ?_
  refine z_iconst (v := 1) B dX9_task_7 (by decide) ?_
  refine z_isub B dX9_task_8 ?_
  refine z_seti (y := (-1)) (by decide) ?_
  refine z_cSi (As := [.int w1, .int 0, .int (-1)]) (rest := [.ref (b + 405)]) B cw_X9_96 dX9_task_9 (ci_X9_in_864 l (σ := (ap b σ [] [] [])) (b := b) (lyA hK) w1 q1_w1 q2_w1) rfl (by decide) rfl (Nat.le_of_ble_eq_true rfl) (by decide) (fun r u hu => ?_)
  refine z_eqs (σ' := (ap b σ [] [] [])) hu.2 ?_
  show zx p l e _ s m _ below meth c g 3 0 0 _ _ 12 [(0, .ref (b + 405)), (1, .int w1), (2, .int w2)] _
  refine z_seti (y := 0) hu.1 ?_
  refine z_iload_n B dX9_task_12 rfl 2 rfl ?_
  refine z_iconst (v := 0) B dX9_task_13 (by decide) ?_
  refine z_iconst (v := 5) B dX9_task_14 (by decide) ?_
  refine z_cSi (As := [.int w2, .int 0, .int 5]) (rest := [.int 0, .ref (b + 405)]) B cw_X9_96 dX9_task_15 (ci_X9_in_1246 l (σ := (ap b σ [] [] [])) (b := b) (lyA hK) w2 q1_w2 q2_w2) rfl (by decide) rfl (Nat.le_of_ble_eq_true rfl) (by decide) (fun r u hu => ?_)
  refine z_eqs (σ' := (ap b σ [] [] [])) hu.2 ?_
  show zx p l e _ s m _ below meth c g 3 0 0 _ _ 18 [(0, .ref (b + 405)), (1, .int w1), (2, .int w2)] _
  refine z_seti (y := 1) hu.1 ?_
  refine z_cVi (As := [.int 0, .int 1]) (rest := []) B cw_X9_245 cx_10 dX9_task_18 (ci_X9_needs__40 l (σ := (ap b σ [] [] [])) (b := b) (lyA hK) ) (lKA (hk_K hK 405 rfl rfl)) rfl (by decide) rfl (Nat.le_of_ble_eq_true rfl) (by decide) (fun r u hu => ?_)
  refine z_eqs (σ' := (ap b σ [(405, 0, 1)] [] [])) (hu.2.trans ap_ap) ?_
  show zx p l e _ s m _ below meth c g 3 0 0 _ _ 21 [(0, .ref (b + 405)), (1, .int w1), (2, .int w2)] _
  refine z_seti (y := 0) hu.1 ?_
  refine z_if_ne (tgt := 26) B dX9_task_21 (by decide) (fun h => absurd (by decide) h) (fun _ => ?_)
  refine z_iconst (v := 0) B dX9_task_24 (by decide) ?_
  exact z_iret B hr (by decide) (by decide) dX9_task_25 ⟨rfl, rfl⟩
set_option maxRecDepth 100000 in
set_option maxHeartbeats 4000000 in
theorem ci_X9_task_1248 (l : Launch) {g : gx_T} {σ : sx_T} {b : Nat} (hK : lay b σ) (w1 : Int32) (w2 : Int32) (q1_w1 : (-2147483648 : Int) ≤ w1.toInt) (q2_w1 : w1.toInt ≤ (-1 : Int)) (q1_w2 : (6 : Int) ≤ w2.toInt) (q2_w2 : w2.toInt ≤ (2147483647 : Int)) (hI_405_16 : sx_I σ (b + 405) 16 = 0) : Met l yX9_task (.code yX9_task cX9_task 3 (some .int) :: lw_g) { frames := 1, cells := 0, slots := 0, locals := 22 } (va_Pc [.ref (b + 405), .int w1, .int w2] (zx_w g σ)) (va_Qi (fun r u => r = 0 ∧ u = (ap b σ [(405, 0, 1)] [] [])) (zx_w g) (gx_Q g)) 0 0 (gx_Q g) := by
  refine z_met (by decide) (Nat.le_of_ble_eq_true rfl) (fun p e s m below meth c B hr hin => ?_)
  refine z_eqs (σ' := (ap b σ [] [] [])) rfl ?_
  show zx p l e _ s m _ below meth c g 3 0 0 _ _ 0 [(0, .ref (b + 405)), (1, .int w1), (2, .int w2)] []
  refine z_aload_n B dX9_task_0 rfl 0 rfl ?_
  refine z_iload_n B dX9_task_1 rfl 1 rfl ?_
  refine z_iconst (v := 0) B dX9_task_2 (by decide) ?_
  refine z_aload_n B dX9_task_3 rfl 0 rfl ?_
  refine gf_X9_100 (x := 0) B (lKA (hk_K hK 405 rfl rfl)) (rI_at 405 16 hI_405_16) dX9_task_4 ?_
  refine z_iconst (v := 1) B dX9_task_7 (by decide) ?_
  refine z_isub B dX9_task_8 ?_
  refine z_seti (y := (-1)) (by decide) ?_
  refine z_cSi (As := [.int w1, .int 0, .int (-1)]) (rest := [.ref (b + 405)]) B cw_X9_96 dX9_task_9 (ci_X9_in_864 l (σ := (ap b σ [] [] [])) (b := b) (lyA hK) w1 q1_w1 q2_w1) rfl (by decide) rfl (Nat.le_of_ble_eq_true rfl) (by decide) (fun r u hu => ?_)
  refine z_eqs (σ' := (ap b σ [] [] [])) hu.2 ?_
  show zx p l e _ s m _ below meth c g 3 0 0 _ _ 12 [(0, .ref (b + 405)), (1, .int w1), (2, .int w2)] _
  refine z_seti (y := 0) hu.1 ?_
  refine z_iload_n B dX9_task_12 rfl 2 rfl ?_
  refine z_iconst (v := 0) B dX9_task_13 (by decide) ?_
  refine z_iconst (v := 5) B dX9_task_14 (by decide) ?_
  refine z_cSi (As := [.int w2, .int 0, .int 5]) (rest := [.int 0, .ref (b + 405)]) B cw_X9_96 dX9_task_15 (ci_X9_in_370 l (σ := (ap b σ [] [] [])) (b := b) (lyA hK) w2 q1_w2 q2_w2) rfl (by decide) rfl (Nat.le_of_ble_eq_true rfl) (by decide) (fun r u hu => ?_)
  refine z_eqs (σ' := (ap b σ [] [] [])) hu.2 ?_
  show zx p l e _ s m _ below meth c g 3 0 0 _ _ 18 [(0, .ref (b + 405)), (1, .int w1), (2, .int w2)] _
  refine z_seti (y := 0) hu.1 ?_
  refine z_cVi (As := [.int 0, .int 0]) (rest := []) B cw_X9_245 cx_10 dX9_task_18 (ci_X9_needs__29 l (σ := (ap b σ [] [] [])) (b := b) (lyA hK) ) (lKA (hk_K hK 405 rfl rfl)) rfl (by decide) rfl (Nat.le_of_ble_eq_true rfl) (by decide) (fun r u hu => ?_)
  refine z_eqs (σ' := (ap b σ [(405, 0, 1)] [] [])) (hu.2.trans ap_ap) ?_
  show zx p l e _ s m _ below meth c g 3 0 0 _ _ 21 [(0, .ref (b + 405)), (1, .int w1), (2, .int w2)] _
  refine z_seti (y := 0) hu.1 ?_
  refine z_if_ne (tgt := 26) B dX9_task_21 (by decide) (fun h => absurd (by decide) h) (fun _ => ?_)
  refine z_iconst (v := 0) B dX9_task_24 (by decide) ?_
  exact z_iret B hr (by decide) (by decide) dX9_task_25 ⟨rfl, rfl⟩
set_option maxRecDepth 100000 in
set_option maxHeartbeats 4000000 in
theorem ci_X8_taskAt_1249 (l : Launch) {g : gx_T} {σ : sx_T} {b : Nat} (hK : lay b σ) (w1 : Int32) (q1_w1 : (0 : Int) ≤ w1.toInt) (q2_w1 : w1.toInt ≤ (2147483647 : Int)) (hI_4_2 : sx_I σ (b + 4) 2 = 0) (hR_0_3 : sx_R σ (b + 0) 3 = (some (b + 4))) : Met l yX8_taskAt (.code yX8_taskAt cX8_taskAt 2 (some (.object "Loomkeeper$Task")) :: lw_g) { frames := 1, cells := 0, slots := 0, locals := 20 } (va_Pc [.ref (b + 0), .int w1] (zx_w g σ)) (va_Qq (fun r u => r = none ∧ u = σ) (zx_w g) (gx_Q g)) 0 0 (gx_Q g) := by
  refine z_met (by decide) (Nat.le_of_ble_eq_true rfl) (fun p e s m below meth c B hr hin => ?_)
  refine z_eqs (σ' := (ap b σ [] [] [])) rfl ?_
  show zx p l e _ s m _ below meth c g 2 0 0 _ _ 0 [(0, .ref (b + 0)), (1, .int w1)] []
  refine z_iload_n B dX8_taskAt_0 rfl 1 rfl ?_
  refine z_if_lt (tgt := 29) B dX8_taskAt_1 (by decide) (fun h => absurd h (iv_nlt q1_w1 (by decide))) (fun _ => ?_)
  refine z_iload_n B dX8_taskAt_4 rfl 1 rfl ?_
  refine z_aload_n B dX8_taskAt_5 rfl 0 rfl ?_
  refine gf_X8_28 (x := (some (b + 4))) B (lKA (hk_K hK 0 rfl rfl)) (rR_at 0 3 hR_0_3) dX8_taskAt_6 ?_
  refine z_cVi (As := []) (rest := [.int w1]) B cw_X8_264 cx_0 dX8_taskAt_9 (ci_Jx4a65c_size_8abf5_919 l (σ := (ap b σ [] [] [])) (b := b) (lyA hK) (rI_at 4 2 hI_4_2)) (lKA (hk_K hK 4 rfl rfl)) rfl (by decide) rfl (Nat.le_of_ble_eq_true rfl) (by decide) (fun r u hu => ?_)
  refine z_eqs (σ' := (ap b σ [] [] [])) hu.2 ?_
  show zx p l e _ s m _ below meth c g 2 0 0 _ _ 12 [(0, .ref (b + 0)), (1, .int w1)] _
  refine z_seti (y := 0) hu.1 ?_
  refine z_icmp_ge (tgt := 29) B dX8_taskAt_12 (by decide) (fun _ => ?_) (fun h => absurd (iv_ge q1_w1 (by decide)) h)
  refine z_null B dX8_taskAt_29 ?_
  exact z_qret (r := none) B hr (by decide) (by decide) dX8_taskAt_30 ⟨rfl, rfl⟩
set_option maxRecDepth 100000 in
set_option maxHeartbeats 4000000 in
theorem ci_X8_task_1250 (l : Launch) (hlt : l.stackTraces = false) {g : gx_T} {σ : sx_T} {b : Nat} (hK : lay b σ) (w1 : Int32) (w2 : Int32) (q1_w1 : (0 : Int) ≤ w1.toInt) (q2_w1 : w1.toInt ≤ (2147483647 : Int)) (hI_4_2 : sx_I σ (b + 4) 2 = 0) (hR_0_3 : sx_R σ (b + 0) 3 = (some (b + 4))) : vx_Met l yX8_task (.code yX8_task cX8_task 4 (some .int) :: lw_g) { frames := 7, cells := 1, slots := 6, locals := 136 } (va_Pc [.ref (b + 0), .int w1, .int w2] (zx_w g σ)) (va_Qi (S := sx_T) (fun _ _ => False) (zx_w g) (gx_Q g)) (vx_X (fun u : sx_T => ∃ z, u = wx_Z σ z) (fun E u t => E = "java/lang/IndexOutOfBoundsException" ∧ zx_h g u t.heap) (gx_Q g)) 1 6 (gx_Q g) := by
  refine z_metX (by decide) (Nat.le_of_ble_eq_true rfl) (fun p e s m below meth c B hr hin hout => ?_)
  refine z_eqs (σ' := (ap b σ [] [] [])) rfl ?_
  show zx p l e _ s m _ below meth c g 4 0 0 _ _ 0 [(0, .ref (b + 0)), (1, .int w1), (2, .int w2)] []
  refine z_aload_n B dX8_task_0 rfl 0 rfl ?_
  refine z_iload_n B dX8_task_1 rfl 1 rfl ?_
  refine z_cVq (As := [.int w1]) (rest := []) B cw_X8_265 cx_9 dX8_task_2 (ci_X8_taskAt_1249 l (σ := (ap b σ [] [] [])) (b := b) (lyA hK) w1 q1_w1 q2_w1 (rI_at 4 2 hI_4_2) (rR_at 0 3 hR_0_3)) (lKA (hk_K hK 0 rfl rfl)) rfl (by decide) rfl (Nat.le_of_ble_eq_true rfl) (by decide) (fun r u hu => ?_)
  refine z_eqs (σ' := (ap b σ [] [] [])) hu.2 ?_
  show zx p l e _ s m _ below meth c g 4 0 0 _ _ 5 [(0, .ref (b + 0)), (1, .int w1), (2, .int w2)] _
  refine z_setr (y := none) hu.1 ?_
  refine z_qstore_n (r := none) (lv' := [(3, .null), (0, .ref (b + 0)), (1, .int w1), (2, .int w2)]) B dX8_task_5 rfl (by decide) rfl ?_
  refine z_qload_n (r := none) B dX8_task_6 rfl 0 rfl ?_
  refine z_ifnonnull (r := none) (tgt := 21) B dX8_task_7 (by decide) (fun a h => nomatch h) (fun _ => ?_)
  exact z_throwW B hlt hout (cls := "java/lang/IndexOutOfBoundsException") (text := "no such task") tw_X8_72_268_76 dX8_task_10 dX8_task_13 dX8_task_14 dX8_task_17 dX8_task_20 (by decide) (by decide) (by decide) (by decide) (by decide) (by decide) (fun z => ⟨z, rfl⟩)
set_option maxRecDepth 100000 in
set_option maxHeartbeats 4000000 in
theorem ci_L_task_1251 (l : Launch) (hlt : l.stackTraces = false) {g : gx_T} {σ : sx_T} {b : Nat} (hK : lay b σ) (w1 : Int32) (w2 : Int32) (q1_w1 : (0 : Int) ≤ w1.toInt) (q2_w1 : w1.toInt ≤ (2147483647 : Int)) (hI_4_2 : sx_I σ (b + 4) 2 = 0) (hR_0_3 : sx_R σ (b + 0) 3 = (some (b + 4))) : Met l yL_task (.codeWith yL_task cL_task 5 (some .int) [(0, 10, 13, 13), (0, 10, 17, 15)] :: lw_g) { frames := 8, cells := 1, slots := 6, locals := 159 } (va_Pc [.ref (b + 0), .int w1, .int w2, .ref (b + 431)] (zx_w g σ)) (va_Qi (fun r u => r = 1 ∧ ∃ z, u = (ap b (wx_Z σ z) [] [] [])) (zx_w g) (gx_Q g)) 1 6 (gx_Q g) := by
  refine z_metW (by decide) (Nat.le_of_ble_eq_true rfl) (fun p e s m below meth c B hr htab => ?_)
  refine z_eqs (σ' := (ap b σ [] [] [])) rfl ?_
  show zx p l e _ s m _ below meth c g 5 0 0 _ _ 0 [(0, .ref (b + 0)), (1, .int w1), (2, .int w2), (3, .ref (b + 431))] []
  refine z_aload_n B dL_task_0 rfl 3 rfl ?_
  refine z_iconst (v := 0) B dL_task_1 (by decide) ?_
  refine z_aload_n B dL_task_2 rfl 0 rfl ?_
  refine z_iload_n B dL_task_3 rfl 1 rfl ?_
  refine z_iload_n B dL_task_4 rfl 2 rfl ?_
  refine z_cXi (As := [.int w1, .int w2]) (rest := [.int 0, .ref (b + 431)]) B htab tc_task_5_IndexOutOfBoundsException cw_L_67 cx_9 dL_task_5 (ci_X8_task_1250 l hlt (σ := (ap b σ [] [] [])) (b := b) (lyA hK) w1 w2 q1_w1 q2_w1 (rI_at 4 2 hI_4_2) (rR_at 0 3 hR_0_3)) (lKA (hk_K hK 0 rfl rfl)) rfl (by decide) rfl (Nat.le_of_ble_eq_true rfl) (by decide) (fun z q => ?_)
  refine z_eqs (σ' := (ap b (wx_Z σ z) [] [] [])) rfl ?_
  show zx p l e _ s m _ below meth c g 5 _ _ _ _ 13 [(0, .ref (b + 0)), (1, .int w1), (2, .int w2), (3, .ref (b + 431))] _
  refine z_astore (lv' := [(4, .ref q), (0, .ref (b + 0)), (1, .int w1), (2, .int w2), (3, .ref (b + 431))]) B dL_task_13 (by decide) rfl ?_
  refine z_iconst (v := 1) B dL_task_15 (by decide) ?_
  exact z_iret B hr (by decide) (by decide) dL_task_16 ⟨rfl, _, rfl⟩
set_option maxRecDepth 100000 in
set_option maxHeartbeats 4000000 in
theorem ci_X9_task_1252 (l : Launch) {g : gx_T} {σ : sx_T} {b : Nat} (hK : lay b σ) (w1 : Int32) (w2 : Int32) (q1_w1 : (0 : Int) ≤ w1.toInt) (q2_w1 : w1.toInt ≤ (2147483647 : Int)) (q1_w2 : (-2147483648 : Int) ≤ w2.toInt) (q2_w2 : w2.toInt ≤ (-1 : Int)) (hI_405_16 : sx_I σ (b + 405) 16 = 0) : Met l yX9_task (.code yX9_task cX9_task 3 (some .int) :: lw_g) { frames := 1, cells := 0, slots := 0, locals := 22 } (va_Pc [.ref (b + 405), .int w1, .int w2] (zx_w g σ)) (va_Qi (fun r u => r = 0 ∧ u = (ap b σ [(405, 0, 1)] [] [])) (zx_w g) (gx_Q g)) 0 0 (gx_Q g) := by
  refine z_met (by decide) (Nat.le_of_ble_eq_true rfl) (fun p e s m below meth c B hr hin => ?_)
  refine z_eqs (σ' := (ap b σ [] [] [])) rfl ?_
  show zx p l e _ s m _ below meth c g 3 0 0 _ _ 0 [(0, .ref (b + 405)), (1, .int w1), (2, .int w2)] []
  refine z_aload_n B dX9_task_0 rfl 0 rfl ?_
  refine z_iload_n B dX9_task_1 rfl 1 rfl ?_
  refine z_iconst (v := 0) B dX9_task_2 (by decide) ?_
  refine z_aload_n B dX9_task_3 rfl 0 rfl ?_
  refine gf_X9_100 (x := 0) B (lKA (hk_K hK 405 rfl rfl)) (rI_at 405 16 hI_405_16) dX9_task_4 ?_
  refine z_iconst (v := 1) B dX9_task_7 (by decide) ?_
  refine z_isub B dX9_task_8 ?_
  refine z_seti (y := (-1)) (by decide) ?_
  refine z_cSi (As := [.int w1, .int 0, .int (-1)]) (rest := [.ref (b + 405)]) B cw_X9_96 dX9_task_9 (ci_X9_in_874 l (σ := (ap b σ [] [] [])) (b := b) (lyA hK) w1 q1_w1 q2_w1) rfl (by decide) rfl (Nat.le_of_ble_eq_true rfl) (by decide) (fun r u hu => ?_)
  refine z_eqs (σ' := (ap b σ [] [] [])) hu.2 ?_
  show zx p l e _ s m _ below meth c g 3 0 0 _ _ 12 [(0, .ref (b + 405)), (1, .int w1), (2, .int w2)] _
  refine z_seti (y := 0) hu.1 ?_
  refine z_iload_n B dX9_task_12 rfl 2 rfl ?_
  refine z_iconst (v := 0) B dX9_task_13 (by decide) ?_
  refine z_iconst (v := 5) B dX9_task_14 (by decide) ?_
  refine z_cSi (As := [.int w2, .int 0, .int 5]) (rest := [.int 0, .ref (b + 405)]) B cw_X9_96 dX9_task_15 (ci_X9_in_25 l (σ := (ap b σ [] [] [])) (b := b) (lyA hK) w2 q1_w2 q2_w2) rfl (by decide) rfl (Nat.le_of_ble_eq_true rfl) (by decide) (fun r u hu => ?_)
  refine z_eqs (σ' := (ap b σ [] [] [])) hu.2 ?_
  show zx p l e _ s m _ below meth c g 3 0 0 _ _ 18 [(0, .ref (b + 405)), (1, .int w1), (2, .int w2)] _
  refine z_seti (y := 0) hu.1 ?_
  refine z_cVi (As := [.int 0, .int 0]) (rest := []) B cw_X9_245 cx_10 dX9_task_18 (ci_X9_needs__29 l (σ := (ap b σ [] [] [])) (b := b) (lyA hK) ) (lKA (hk_K hK 405 rfl rfl)) rfl (by decide) rfl (Nat.le_of_ble_eq_true rfl) (by decide) (fun r u hu => ?_)
  refine z_eqs (σ' := (ap b σ [(405, 0, 1)] [] [])) (hu.2.trans ap_ap) ?_
  show zx p l e _ s m _ below meth c g 3 0 0 _ _ 21 [(0, .ref (b + 405)), (1, .int w1), (2, .int w2)] _
  refine z_seti (y := 0) hu.1 ?_
  refine z_if_ne (tgt := 26) B dX9_task_21 (by decide) (fun h => absurd (by decide) h) (fun _ => ?_)
  refine z_iconst (v := 0) B dX9_task_24 (by decide) ?_
  exact z_iret B hr (by decide) (by decide) dX9_task_25 ⟨rfl, rfl⟩
set_option maxRecDepth 100000 in
set_option maxHeartbeats 4000000 in
theorem ci_X9_task_1253 (l : Launch) {g : gx_T} {σ : sx_T} {b : Nat} (hK : lay b σ) (w1 : Int32) (w2 : Int32) (q1_w1 : (0 : Int) ≤ w1.toInt) (q2_w1 : w1.toInt ≤ (2147483647 : Int)) (q1_w2 : (0 : Int) ≤ w2.toInt) (q2_w2 : w2.toInt ≤ (5 : Int)) (hI_405_16 : sx_I σ (b + 405) 16 = 0) : Met l yX9_task (.code yX9_task cX9_task 3 (some .int) :: lw_g) { frames := 1, cells := 0, slots := 0, locals := 22 } (va_Pc [.ref (b + 405), .int w1, .int w2] (zx_w g σ)) (va_Qi (fun r u => r = 0 ∧ u = (ap b σ [(405, 0, 1)] [] [])) (zx_w g) (gx_Q g)) 0 0 (gx_Q g) := by
  refine z_met (by decide) (Nat.le_of_ble_eq_true rfl) (fun p e s m below meth c B hr hin => ?_)
  refine z_eqs (σ' := (ap b σ [] [] [])) rfl ?_
  show zx p l e _ s m _ below meth c g 3 0 0 _ _ 0 [(0, .ref (b + 405)), (1, .int w1), (2, .int w2)] []
  refine z_aload_n B dX9_task_0 rfl 0 rfl ?_
  refine z_iload_n B dX9_task_1 rfl 1 rfl ?_
  refine z_iconst (v := 0) B dX9_task_2 (by decide) ?_
  refine z_aload_n B dX9_task_3 rfl 0 rfl ?_
  refine gf_X9_100 (x := 0) B (lKA (hk_K hK 405 rfl rfl)) (rI_at 405 16 hI_405_16) dX9_task_4 ?_
  refine z_iconst (v := 1) B dX9_task_7 (by decide) ?_
  refine z_isub B dX9_task_8 ?_
  refine z_seti (y := (-1)) (by decide) ?_
  refine z_cSi (As := [.int w1, .int 0, .int (-1)]) (rest := [.ref (b + 405)]) B cw_X9_96 dX9_task_9 (ci_X9_in_874 l (σ := (ap b σ [] [] [])) (b := b) (lyA hK) w1 q1_w1 q2_w1) rfl (by decide) rfl (Nat.le_of_ble_eq_true rfl) (by decide) (fun r u hu => ?_)
  refine z_eqs (σ' := (ap b σ [] [] [])) hu.2 ?_
  show zx p l e _ s m _ below meth c g 3 0 0 _ _ 12 [(0, .ref (b + 405)), (1, .int w1), (2, .int w2)] _
  refine z_seti (y := 0) hu.1 ?_
  refine z_iload_n B dX9_task_12 rfl 2 rfl ?_
  refine z_iconst (v := 0) B dX9_task_13 (by decide) ?_
  refine z_iconst (v := 5) B dX9_task_14 (by decide) ?_
  refine z_cSi (As := [.int w2, .int 0, .int 5]) (rest := [.int 0, .ref (b + 405)]) B cw_X9_96 dX9_task_15 (ci_X9_in_1246 l (σ := (ap b σ [] [] [])) (b := b) (lyA hK) w2 q1_w2 q2_w2) rfl (by decide) rfl (Nat.le_of_ble_eq_true rfl) (by decide) (fun r u hu => ?_)
  refine z_eqs (σ' := (ap b σ [] [] [])) hu.2 ?_
  show zx p l e _ s m _ below meth c g 3 0 0 _ _ 18 [(0, .ref (b + 405)), (1, .int w1), (2, .int w2)] _
  refine z_seti (y := 1) hu.1 ?_
  refine z_cVi (As := [.int 0, .int 1]) (rest := []) B cw_X9_245 cx_10 dX9_task_18 (ci_X9_needs__40 l (σ := (ap b σ [] [] [])) (b := b) (lyA hK) ) (lKA (hk_K hK 405 rfl rfl)) rfl (by decide) rfl (Nat.le_of_ble_eq_true rfl) (by decide) (fun r u hu => ?_)
  refine z_eqs (σ' := (ap b σ [(405, 0, 1)] [] [])) (hu.2.trans ap_ap) ?_
  show zx p l e _ s m _ below meth c g 3 0 0 _ _ 21 [(0, .ref (b + 405)), (1, .int w1), (2, .int w2)] _
  refine z_seti (y := 0) hu.1 ?_
  refine z_if_ne (tgt := 26) B dX9_task_21 (by decide) (fun h => absurd (by decide) h) (fun _ => ?_)
  refine z_iconst (v := 0) B dX9_task_24 (by decide) ?_
  exact z_iret B hr (by decide) (by decide) dX9_task_25 ⟨rfl, rfl⟩
set_option maxRecDepth 100000 in
set_option maxHeartbeats 4000000 in
theorem ci_X9_task_1254 (l : Launch) {g : gx_T} {σ : sx_T} {b : Nat} (hK : lay b σ) (w1 : Int32) (w2 : Int32) (q1_w1 : (0 : Int) ≤ w1.toInt) (q2_w1 : w1.toInt ≤ (2147483647 : Int)) (q1_w2 : (6 : Int) ≤ w2.toInt) (q2_w2 : w2.toInt ≤ (2147483647 : Int)) (hI_405_16 : sx_I σ (b + 405) 16 = 0) : Met l yX9_task (.code yX9_task cX9_task 3 (some .int) :: lw_g) { frames := 1, cells := 0, slots := 0, locals := 22 } (va_Pc [.ref (b + 405), .int w1, .int w2] (zx_w g σ)) (va_Qi (fun r u => r = 0 ∧ u = (ap b σ [(405, 0, 1)] [] [])) (zx_w g) (gx_Q g)) 0 0 (gx_Q g) := by
  refine z_met (by decide) (Nat.le_of_ble_eq_true rfl) (fun p e s m below meth c B hr hin => ?_)
  refine z_eqs (σ' := (ap b σ [] [] [])) rfl ?_
  show zx p l e _ s m _ below meth c g 3 0 0 _ _ 0 [(0, .ref (b + 405)), (1, .int w1), (2, .int w2)] []
  refine z_aload_n B dX9_task_0 rfl 0 rfl ?_
  refine z_iload_n B dX9_task_1 rfl 1 rfl ?_
  refine z_iconst (v := 0) B dX9_task_2 (by decide) ?_
  refine z_aload_n B dX9_task_3 rfl 0 rfl ?_
  refine gf_X9_100 (x := 0) B (lKA (hk_K hK 405 rfl rfl)) (rI_at 405 16 hI_405_16) dX9_task_4 ?_
  refine z_iconst (v := 1) B dX9_task_7 (by decide) ?_
  refine z_isub B dX9_task_8 ?_
  refine z_seti (y := (-1)) (by decide) ?_
  refine z_cSi (As := [.int w1, .int 0, .int (-1)]) (rest := [.ref (b + 405)]) B cw_X9_96 dX9_task_9 (ci_X9_in_874 l (σ := (ap b σ [] [] [])) (b := b) (lyA hK) w1 q1_w1 q2_w1) rfl (by decide) rfl (Nat.le_of_ble_eq_true rfl) (by decide) (fun r u hu => ?_)
  refine z_eqs (σ' := (ap b σ [] [] [])) hu.2 ?_
  show zx p l e _ s m _ below meth c g 3 0 0 _ _ 12 [(0, .ref (b + 405)), (1, .int w1), (2, .int w2)] _
  refine z_seti (y := 0) hu.1 ?_
  refine z_iload_n B dX9_task_12 rfl 2 rfl ?_
  refine z_iconst (v := 0) B dX9_task_13 (by decide) ?_
  refine z_iconst (v := 5) B dX9_task_14 (by decide) ?_
  refine z_cSi (As := [.int w2, .int 0, .int 5]) (rest := [.int 0, .ref (b + 405)]) B cw_X9_96 dX9_task_15 (ci_X9_in_370 l (σ := (ap b σ [] [] [])) (b := b) (lyA hK) w2 q1_w2 q2_w2) rfl (by decide) rfl (Nat.le_of_ble_eq_true rfl) (by decide) (fun r u hu => ?_)
  refine z_eqs (σ' := (ap b σ [] [] [])) hu.2 ?_
  show zx p l e _ s m _ below meth c g 3 0 0 _ _ 18 [(0, .ref (b + 405)), (1, .int w1), (2, .int w2)] _
  refine z_seti (y := 0) hu.1 ?_
  refine z_cVi (As := [.int 0, .int 0]) (rest := []) B cw_X9_245 cx_10 dX9_task_18 (ci_X9_needs__29 l (σ := (ap b σ [] [] [])) (b := b) (lyA hK) ) (lKA (hk_K hK 405 rfl rfl)) rfl (by decide) rfl (Nat.le_of_ble_eq_true rfl) (by decide) (fun r u hu => ?_)
  refine z_eqs (σ' := (ap b σ [(405, 0, 1)] [] [])) (hu.2.trans ap_ap) ?_
  show zx p l e _ s m _ below meth c g 3 0 0 _ _ 21 [(0, .ref (b + 405)), (1, .int w1), (2, .int w2)] _
  refine z_seti (y := 0) hu.1 ?_
  refine z_if_ne (tgt := 26) B dX9_task_21 (by decide) (fun h => absurd (by decide) h) (fun _ => ?_)
  refine z_iconst (v := 0) B dX9_task_24 (by decide) ?_
  exact z_iret B hr (by decide) (by decide) dX9_task_25 ⟨rfl, rfl⟩
set_option maxRecDepth 100000 in
set_option maxHeartbeats 4000000 in
theorem ci_X8_now_1255 (l : Launch) {g : gx_T} {σ : sx_T} {b : Nat} (hK : lay b σ)   (hI_0_8 : sx_I σ (b + 0) 8 = 0) : Met l yX8_now (.code yX8_now cX8_now 1 (some .int) :: lw_g) { frames := 0, cells := 0, slots := 0, locals := 0 } (va_Pc [.ref (b + 0)] (zx_w g σ)) (va_Qi (fun r u => r = 0 ∧ u = σ) (zx_w g) (gx_Q g)) 0 0 (gx_Q g) := by
  refine z_met (by decide) (Nat.le_of_ble_eq_true rfl) (fun p e s m below meth c B hr hin => ?_)
  refine z_eqs (σ' := (ap b σ [] [] [])) rfl ?_
  show zx p l e _ s m _ below meth c g 1 0 0 _ _ 0 [(0, .ref (b + 0))] []
  refine z_aload_n B dX8_now_0 rfl 0 rfl ?_
  refine gf_X8_206 (x := 0) B (lKA (hk_K hK 0 rfl rfl)) (rI_at 0 8 hI_0_8) dX8_now_1 ?_
  exact z_iret B hr (by decide) (by decide) dX8_now_4 ⟨rfl, rfl⟩
set_option maxRecDepth 100000 in
set_option maxHeartbeats 4000000 in
theorem ci_X9_now_1256 (l : Launch) {g : gx_T} {σ : sx_T} {b : Nat} (hK : lay b σ)   (hI_405_1 : sx_I σ (b + 405) 1 = 0) : Met l yX9_now (.code yX9_now cX9_now 1 (some .int) :: lw_g) { frames := 0, cells := 0, slots := 0, locals := 0 } (va_Pc [.ref (b + 405)] (zx_w g σ)) (va_Qi (fun r u => r = 0 ∧ u = (ap b σ [(405, 0, 0)] [] [])) (zx_w g) (gx_Q g)) 0 0 (gx_Q g) := by
  refine z_met (by decide) (Nat.le_of_ble_eq_true rfl) (fun p e s m below meth c B hr hin => ?_)
  refine z_eqs (σ' := (ap b σ [] [] [])) rfl ?_
  show zx p l e _ s m _ below meth c g 1 0 0 _ _ 0 [(0, .ref (b + 405))] []
  refine z_aload_n B dX9_now_0 rfl 0 rfl ?_
  refine z_iconst (v := 0) B dX9_now_1 (by decide) ?_
  refine pf_X9_90 (x := 0) (σ' := (ap b σ [(405, 0, 0)] [] [])) B (lKA (hk_K hK 405 rfl rfl)) wI_ap dX9_now_2 ?_
  refine z_aload_n B dX9_now_5 rfl 0 rfl ?_
  refine gf_X9_197 (x := 0) B (lKA (hk_K hK 405 rfl rfl)) (rI_at 405 1 hI_405_1) dX9_now_6 ?_
  exact z_iret B hr (by decide) (by decide) dX9_now_9 ⟨rfl, rfl⟩
