set_option maxRecDepth 100000 in
set_option maxHeartbeats 4000000 in
theorem ci_X8_tick_1092 (l : Launch) {g : gx_T} {σ : sx_T} {b : Nat} (hK : lay b σ)   (hI_0_7 : sx_I σ (b + 0) 7 = 0) (hI_0_8 : sx_I σ (b + 0) 8 = 0) (hI_4_2 : sx_I σ (b + 4) 2 = 0) (hR_0_3 : sx_R σ (b + 0) 3 = (some (b + 4))) : Met l yX8_tick (.code yX8_tick cX8_tick 3 (some .int) :: lw_g) { frames := 2, cells := 0, slots := 0, locals := 42 } (va_Pc [.ref (b + 0), .int 35] (zx_w g σ)) (va_Qi (fun r u => r = 35 ∧ u = (ap b σ [(0, 8, 35), (0, 8, 34), (0, 8, 33), (0, 8, 32), (0, 8, 31), (0, 8, 30), (0, 8, 29), (0, 8, 28), (0, 8, 27), (0, 8, 26), (0, 8, 25), (0, 8, 24), (0, 8, 23), (0, 8, 22), (0, 8, 21), (0, 8, 20), (0, 8, 19), (0, 8, 18), (0, 8, 17), (0, 8, 16), (0, 8, 15), (0, 8, 14), (0, 8, 13), (0, 8, 12), (0, 8, 11), (0, 8, 10), (0, 8, 9), (0, 8, 8), (0, 8, 7), (0, 8, 6), (0, 8, 5), (0, 8, 4), (0, 8, 3), (0, 8, 2), (0, 8, 1)] [] [])) (zx_w g) (gx_Q g)) 0 0 (gx_Q g) := by
  refine z_met (by decide) (Nat.le_of_ble_eq_true rfl) (fun p e s m below meth c B hr hin => ?_)
  refine z_eqs (σ' := (ap b σ [] [] [])) rfl ?_
  show zx p l e _ s m _ below meth c g 3 0 0 _ _ 0 [(0, .ref (b + 0)), (1, .int 35)] []
  refine z_iload_n B dX8_tick_0 rfl 1 rfl ?_
  refine z_iconst (v := 1) B dX8_tick_1 (by decide) ?_
  refine z_icmp_lt (tgt := 11) B dX8_tick_2 (by decide) (fun h => absurd h (by decide)) (fun _ => ?_)
  refine z_iload_n B dX8_tick_5 rfl 1 rfl ?_
  refine z_bipush (v := 50) B dX8_tick_6 (by decide) ?_
  refine z_icmp_le (tgt := 21) B dX8_tick_8 (by decide) (fun _ => ?_) (fun h => absurd (by decide) h)
  refine z_iconst (v := 0) B dX8_tick_21 (by decide) ?_
  refine z_istore_n (lv' := [(2, .int 0), (0, .ref (b + 0)), (1, .int 35)]) B dX8_tick_22 rfl (by decide) rfl ?_
  refine z_iload_n B dX8_tick_23 rfl 0 rfl ?_
  refine z_iload_n B dX8_tick_24 rfl 2 rfl ?_
  refine z_icmp_ge (tgt := 52) B dX8_tick_25 (by decide) (fun h => absurd h (by decide)) (fun _ => ?_)
  refine z_aload_n B dX8_tick_28 rfl 1 rfl ?_
  refine z_dup B dX8_tick_29 rfl ?_
  refine gf_X8_206 (x := 0) B (lKA (hk_K hK 0 rfl rfl)) (rI_at 0 8 hI_0_8) dX8_tick_30 ?_
  refine z_iconst (v := 1) B dX8_tick_33 (by decide) ?_
  refine z_iadd B dX8_tick_34 ?_
  refine z_seti (y := 1) (by decide) ?_
  refine pf_X8_206 (x := 1) (σ' := (ap b σ [(0, 8, 1)] [] [])) B (lKA (hk_K hK 0 rfl rfl)) wI_ap dX8_tick_35 ?_
  refine z_aload_n B dX8_tick_38 rfl 1 rfl ?_
  refine z_cVv (As := []) (rest := []) B cw_X8_240 cx_9 dX8_tick_39 (ci_X8_passTasks_920 l (σ := (ap b σ [(0, 8, 1)] [] [])) (b := b) (lyA hK) (rI_at 4 2 hI_4_2) (rR_at 0 3 hR_0_3)) (lKA (hk_K hK 0 rfl rfl)) rfl (by decide) rfl (Nat.le_of_ble_eq_true rfl) (by decide) (fun u hu => ?_)
  refine z_eqs (σ' := (ap b σ [(0, 8, 1)] [] [])) hu ?_
  show zx p l e _ s m _ below meth c g 3 0 0 _ _ 42 [(2, .int 0), (0, .ref (b + 0)), (1, .int 35)] _
  refine z_aload_n B dX8_tick_42 rfl 1 rfl ?_
  refine z_cVv (As := []) (rest := []) B cw_X8_243 cx_9 dX8_tick_43 (ci_X8_passTimers_921 l (σ := (ap b σ [(0, 8, 1)] [] [])) (b := b) (lyA hK) (rI_at 0 7 hI_0_7)) (lKA (hk_K hK 0 rfl rfl)) rfl (by decide) rfl (Nat.le_of_ble_eq_true rfl) (by decide) (fun u hu => ?_)
  refine z_eqs (σ' := (ap b σ [(0, 8, 1)] [] [])) hu ?_
  show zx p l e _ s m _ below meth c g 3 0 0 _ _ 46 [(2, .int 0), (0, .ref (b + 0)), (1, .int 35)] _
  refine z_iinc (v := 1) (lv' := [(2, .int 1), (0, .ref (b + 0)), (1, .int 35)]) B dX8_tick_46 0 rfl (by decide) (by decide) rfl ?_
  refine z_goto (tgt := 23) B dX8_tick_49 (by decide) ?_
  refine z_iload_n B dX8_tick_23 rfl 0 rfl ?_
  refine z_iload_n B dX8_tick_24 rfl 2 rfl ?_
  refine z_icmp_ge (tgt := 52) B dX8_tick_25 (by decide) (fun h => absurd h (by decide)) (fun _ => ?_)
  refine z_aload_n B dX8_tick_28 rfl 1 rfl ?_
  refine z_dup B dX8_tick_29 rfl ?_
  refine gf_X8_206 (x := 1) B (lKA (hk_K hK 0 rfl rfl)) (rI_at 0 8 rfl) dX8_tick_30 ?_
  refine z_iconst (v := 1) B dX8_tick_33 (by decide) ?_
  refine z_iadd B dX8_tick_34 ?_
  refine z_seti (y := 2) (by decide) ?_
  refine pf_X8_206 (x := 2) (σ' := (ap b σ [(0, 8, 2), (0, 8, 1)] [] [])) B (lKA (hk_K hK 0 rfl rfl)) wI_ap dX8_tick_35 ?_
  refine z_aload_n B dX8_tick_38 rfl 1 rfl ?_
  refine z_cVv (As := []) (rest := []) B cw_X8_240 cx_9 dX8_tick_39 (ci_X8_passTasks_920 l (σ := (ap b σ [(0, 8, 2), (0, 8, 1)] [] [])) (b := b) (lyA hK) (rI_at 4 2 hI_4_2) (rR_at 0 3 hR_0_3)) (lKA (hk_K hK 0 rfl rfl)) rfl (by decide) rfl (Nat.le_of_ble_eq_true rfl) (by decide) (fun u hu => ?_)
  refine z_eqs (σ' := (ap b σ [(0, 8, 2), (0, 8, 1)] [] [])) hu ?_
  show zx p l e _ s m _ below meth c g 3 0 0 _ _ 42 [(2, .int 1), (0, .ref (b + 0)), (1, .int 35)] _
  refine z_aload_n B dX8_tick_42 rfl 1 rfl ?_
  refine z_cVv (As := []) (rest := []) B cw_X8_243 cx_9 dX8_tick_43 (ci_X8_passTimers_921 l (σ := (ap b σ [(0, 8, 2), (0, 8, 1)] [] [])) (b := b) (lyA hK) (rI_at 0 7 hI_0_7)) (lKA (hk_K hK 0 rfl rfl)) rfl (by decide) rfl (Nat.le_of_ble_eq_true rfl) (by decide) (fun u hu => ?_)
  refine z_eqs (σ' := (ap b σ [(0, 8, 2), (0, 8, 1)] [] [])) hu ?_
  show zx p l e _ s m _ below meth c g 3 0 0 _ _ 46 [(2, .int 1), (0, .ref (b + 0)), (1, .int 35)] _
  refine z_iinc (v := 2) (lv' := [(2, .int 2), (0, .ref (b + 0)), (1, .int 35)]) B dX8_tick_46 0 rfl (by decide) (by decide) rfl ?_
  refine z_goto (tgt := 23) B dX8_tick_49 (by decide) ?_
  refine z_iload_n B dX8_tick_23 rfl 0 rfl ?_
  refine z_iload_n B dX8_tick_24 rfl 2 rfl ?_
  refine z_icmp_ge (tgt := 52) B dX8_tick_25 (by decide) (fun h => absurd h (by decide)) (fun _ => ?_)
  refine z_aload_n B dX8_tick_28 rfl 1 rfl ?_
  refine z_dup B dX8_tick_29 rfl ?_
  refine gf_X8_206 (x := 2) B (lKA (hk_K hK 0 rfl rfl)) (rI_at 0 8 rfl) dX8_tick_30 ?_
  refine z_iconst (v := 1) B dX8_tick_33 (by decide) ?_
  refine z_iadd B dX8_tick_34 ?_
  refine z_seti (y := 3) (by decide) ?_
  refine pf_X8_206 (x := 3) (σ' := (ap b σ [(0, 8, 3), (0, 8, 2), (0, 8, 1)] [] [])) B (lKA (hk_K hK 0 rfl rfl)) wI_ap dX8_tick_35 ?_
  refine z_aload_n B dX8_tick_38 rfl 1 rfl ?_
  refine z_cVv (As := []) (rest := []) B cw_X8_240 cx_9 dX8_tick_39 (ci_X8_passTasks_920 l (σ := (ap b σ [(0, 8, 3), (0, 8, 2), (0, 8, 1)] [] [])) (b := b) (lyA hK) (rI_at 4 2 hI_4_2) (rR_at 0 3 hR_0_3)) (lKA (hk_K hK 0 rfl rfl)) rfl (by decide) rfl (Nat.le_of_ble_eq_true rfl) (by decide) (fun u hu => ?_)
  refine z_eqs (σ' := (ap b σ [(0, 8, 3), (0, 8, 2), (0, 8, 1)] [] [])) hu ?_
  show zx p l e _ s m _ below meth c g 3 0 0 _ _ 42 [(2, .int 2), (0, .ref (b + 0)), (1, .int 35)] _
  refine z_aload_n B dX8_tick_42 rfl 1 rfl ?_
  refine z_cVv (As := []) (rest := []) B cw_X8_243 cx_9 dX8_tick_43 (ci_X8_passTimers_921 l (σ := (ap b σ [(0, 8, 3), (0, 8, 2), (0, 8, 1)] [] [])) (b := b) (lyA hK) (rI_at 0 7 hI_0_7)) (lKA (hk_K hK 0 rfl rfl)) rfl (by decide) rfl (Nat.le_of_ble_eq_true rfl) (by decide) (fun u hu => ?_)
  refine z_eqs (σ' := (ap b σ [(0, 8, 3), (0, 8, 2), (0, 8, 1)] [] [])) hu ?_
  show zx p l e _ s m _ below meth c g 3 0 0 _ _ 46 [(2, .int 2), (0, .ref (b + 0)), (1, .int 35)] _
  refine z_iinc (v := 3) (lv' := [(2, .int 3), (0, .ref (b + 0)), (1, .int 35)]) B dX8_tick_46 0 rfl (by decide) (by decide) rfl ?_
  refine z_goto (tgt := 23) B dX8_tick_49 (by decide) ?_
  refine z_iload_n B dX8_tick_23 rfl 0 rfl ?_
  refine z_iload_n B dX8_tick_24 rfl 2 rfl ?_
  refine z_icmp_ge (tgt := 52) B dX8_tick_25 (by decide) (fun h => absurd h (by decide)) (fun _ => ?_)
  refine z_aload_n B dX8_tick_28 rfl 1 rfl ?_
  refine z_dup B dX8_tick_29 rfl ?_
  refine gf_X8_206 (x := 3) B (lKA (hk_K hK 0 rfl rfl)) (rI_at 0 8 rfl) dX8_tick_30 ?_
  refine z_iconst (v := 1) B dX8_tick_33 (by decide) ?_
  refine z_iadd B dX8_tick_34 ?_
  refine z_seti (y := 4) (by decide) ?_
  refine pf_X8_206 (x := 4) (σ' := (ap b σ [(0, 8, 4), (0, 8, 3), (0, 8, 2), (0, 8, 1)] [] [])) B (lKA (hk_K hK 0 rfl rfl)) wI_ap dX8_tick_35 ?_
  refine z_aload_n B dX8_tick_38 rfl 1 rfl ?_
  refine z_cVv (As := []) (rest := []) B cw_X8_240 cx_9 dX8_tick_39 (ci_X8_passTasks_920 l (σ := (ap b σ [(0, 8, 4), (0, 8, 3), (0, 8, 2), (0, 8, 1)] [] [])) (b := b) (lyA hK) (rI_at 4 2 hI_4_2) (rR_at 0 3 hR_0_3)) (lKA (hk_K hK 0 rfl rfl)) rfl (by decide) rfl (Nat.le_of_ble_eq_true rfl) (by decide) (fun u hu => ?_)
  refine z_eqs (σ' := (ap b σ [(0, 8, 4), (0, 8, 3), (0, 8, 2), (0, 8, 1)] [] [])) hu ?_
  show zx p l e _ s m _ below meth c g 3 0 0 _ _ 42 [(2, .int 3), (0, .ref (b + 0)), (1, .int 35)] _
  refine z_aload_n B dX8_tick_42 rfl 1 rfl ?_
  refine z_cVv (As := []) (rest := []) B cw_X8_243 cx_9 dX8_tick_43 (ci_X8_passTimers_921 l (σ := (ap b σ [(0, 8, 4), (0, 8, 3), (0, 8, 2), (0, 8, 1)] [] [])) (b := b) (lyA hK) (rI_at 0 7 hI_0_7)) (lKA (hk_K hK 0 rfl rfl)) rfl (by decide) rfl (Nat.le_of_ble_eq_true rfl) (by decide) (fun u hu => ?_)
  refine z_eqs (σ' := (ap b σ [(0, 8, 4), (0, 8, 3), (0, 8, 2), (0, 8, 1)] [] [])) hu ?_
  show zx p l e _ s m _ below meth c g 3 0 0 _ _ 46 [(2, .int 3), (0, .ref (b + 0)), (1, .int 35)] _
  refine z_iinc (v := 4) (lv' := [(2, .int 4), (0, .ref (b + 0)), (1, .int 35)]) B dX8_tick_46 0 rfl (by decide) (by decide) rfl ?_
  refine z_goto (tgt := 23) B dX8_tick_49 (by decide) ?_
  refine z_iload_n B dX8_tick_23 rfl 0 rfl ?_
  refine z_iload_n B dX8_tick_24 rfl 2 rfl ?_
  refine z_icmp_ge (tgt := 52) B dX8_tick_25 (by decide) (fun h => absurd h (by decide)) (fun _ => ?_)
  refine z_aload_n B dX8_tick_28 rfl 1 rfl ?_
  refine z_dup B dX8_tick_29 rfl ?_
  refine gf_X8_206 (x := 4) B (lKA (hk_K hK 0 rfl rfl)) (rI_at 0 8 rfl) dX8_tick_30 ?_
  refine z_iconst (v := 1) B dX8_tick_33 (by decide) ?_
  refine z_iadd B dX8_tick_34 ?_
  refine z_seti (y := 5) (by decide) ?_
  refine pf_X8_206 (x := 5) (σ' := (ap b σ [(0, 8, 5), (0, 8, 4), (0, 8, 3), (0, 8, 2), (0, 8, 1)] [] [])) B (lKA (hk_K hK 0 rfl rfl)) wI_ap dX8_tick_35 ?_
  refine z_aload_n B dX8_tick_38 rfl 1 rfl ?_
  refine z_cVv (As := []) (rest := []) B cw_X8_240 cx_9 dX8_tick_39 (ci_X8_passTasks_920 l (σ := (ap b σ [(0, 8, 5), (0, 8, 4), (0, 8, 3), (0, 8, 2), (0, 8, 1)] [] [])) (b := b) (lyA hK) (rI_at 4 2 hI_4_2) (rR_at 0 3 hR_0_3)) (lKA (hk_K hK 0 rfl rfl)) rfl (by decide) rfl (Nat.le_of_ble_eq_true rfl) (by decide) (fun u hu => ?_)
  refine z_eqs (σ' := (ap b σ [(0, 8, 5), (0, 8, 4), (0, 8, 3), (0, 8, 2), (0, 8, 1)] [] [])) hu ?_
  show zx p l e _ s m _ below meth c g 3 0 0 _ _ 42 [(2, .int 4), (0, .ref (b + 0)), (1, .int 35)] _
  refine z_aload_n B dX8_tick_42 rfl 1 rfl ?_
  refine z_cVv (As := []) (rest := []) B cw_X8_243 cx_9 dX8_tick_43 (ci_X8_passTimers_921 l (σ := (ap b σ [(0, 8, 5), (0, 8, 4), (0, 8, 3), (0, 8, 2), (0, 8, 1)] [] [])) (b := b) (lyA hK) (rI_at 0 7 hI_0_7)) (lKA (hk_K hK 0 rfl rfl)) rfl (by decide) rfl (Nat.le_of_ble_eq_true rfl) (by decide) (fun u hu => ?_)
  refine z_eqs (σ' := (ap b σ [(0, 8, 5), (0, 8, 4), (0, 8, 3), (0, 8, 2), (0, 8, 1)] [] [])) hu ?_
  show zx p l e _ s m _ below meth c g 3 0 0 _ _ 46 [(2, .int 4), (0, .ref (b + 0)), (1, .int 35)] _
  refine z_iinc (v := 5) (lv' := [(2, .int 5), (0, .ref (b + 0)), (1, .int 35)]) B dX8_tick_46 0 rfl (by decide) (by decide) rfl ?_
  refine z_goto (tgt := 23) B dX8_tick_49 (by decide) ?_
  refine z_iload_n B dX8_tick_23 rfl 0 rfl ?_
  refine z_iload_n B dX8_tick_24 rfl 2 rfl ?_
  refine z_icmp_ge (tgt := 52) B dX8_tick_25 (by decide) (fun h => absurd h (by decide)) (fun _ => ?_)
  refine z_aload_n B dX8_tick_28 rfl 1 rfl ?_
  refine z_dup B dX8_tick_29 rfl ?_
  refine gf_X8_206 (x := 5) B (lKA (hk_K hK 0 rfl rfl)) (rI_at 0 8 rfl) dX8_tick_30 ?_
  refine z_iconst (v := 1) B dX8_tick_33 (by decide) ?_
  refine z_iadd B dX8_tick_34 ?_
  refine z_seti (y := 6) (by decide) ?_
  refine pf_X8_206 (x := 6) (σ' := (ap b σ [(0, 8, 6), (0, 8, 5), (0, 8, 4), (0, 8, 3), (0, 8, 2), (0, 8, 1)] [] [])) B (lKA (hk_K hK 0 rfl rfl)) wI_ap dX8_tick_35 ?_
  refine z_aload_n B dX8_tick_38 rfl 1 rfl ?_
  refine z_cVv (As := []) (rest := []) B cw_X8_240 cx_9 dX8_tick_39 (ci_X8_passTasks_920 l (σ := (ap b σ [(0, 8, 6), (0, 8, 5), (0, 8, 4), (0, 8, 3), (0, 8, 2), (0, 8, 1)] [] [])) (b := b) (lyA hK) (rI_at 4 2 hI_4_2) (rR_at 0 3 hR_0_3)) (lKA (hk_K hK 0 rfl rfl)) rfl (by decide) rfl (Nat.le_of_ble_eq_true rfl) (by decide) (fun u hu => ?_)
  refine z_eqs (σ' := (ap b σ [(0, 8, 6), (0, 8, 5), (0, 8, 4), (0, 8, 3), (0, 8, 2), (0, 8, 1)] [] [])) hu ?_
  show zx p l e _ s m _ below meth c g 3 0 0 _ _ 42 [(2, .int 5), (0, .ref (b + 0)), (1, .int 35)] _
  refine z_aload_n B dX8_tick_42 rfl 1 rfl ?_
  refine z_cVv (As := []) (rest := []) B cw_X8_243 cx_9 dX8_tick_43 (ci_X8_passTimers_921 l (σ := (ap b σ [(0, 8, 6), (0, 8, 5), (0, 8, 4), (0, 8, 3), (0, 8, 2), (0, 8, 1)] [] [])) (b := b) (lyA hK) (rI_at 0 7 hI_0_7)) (lKA (hk_K hK 0 rfl rfl)) rfl (by decide) rfl (Nat.le_of_ble_eq_true rfl) (by decide) (fun u hu => ?_)
  refine z_eqs (σ' := (ap b σ [(0, 8, 6), (0, 8, 5), (0, 8, 4), (0, 8, 3), (0, 8, 2), (0, 8, 1)] [] [])) hu ?_
  show zx p l e _ s m _ below meth c g 3 0 0 _ _ 46 [(2, .int 5), (0, .ref (b + 0)), (1, .int 35)] _
  refine z_iinc (v := 6) (lv' := [(2, .int 6), (0, .ref (b + 0)), (1, .int 35)]) B dX8_tick_46 0 rfl (by decide) (by decide) rfl ?_
  refine z_goto (tgt := 23) B dX8_tick_49 (by decide) ?_
  refine z_iload_n B dX8_tick_23 rfl 0 rfl ?_
  refine z_iload_n B dX8_tick_24 rfl 2 rfl ?_
  refine z_icmp_ge (tgt := 52) B dX8_tick_25 (by decide) (fun h => absurd h (by decide)) (fun _ => ?_)
  refine z_aload_n B dX8_tick_28 rfl 1 rfl ?_
  refine z_dup B dX8_tick_29 rfl ?_
  refine gf_X8_206 (x := 6) B (lKA (hk_K hK 0 rfl rfl)) (rI_at 0 8 rfl) dX8_tick_30 ?_
  refine z_iconst (v := 1) B dX8_tick_33 (by decide) ?_
  refine z_iadd B dX8_tick_34 ?_
  refine z_seti (y := 7) (by decide) ?_
  refine pf_X8_206 (x := 7) (σ' := (ap b σ [(0, 8, 7), (0, 8, 6), (0, 8, 5), (0, 8, 4), (0, 8, 3), (0, 8, 2), (0, 8, 1)] [] [])) B (lKA (hk_K hK 0 rfl rfl)) wI_ap dX8_tick_35 ?_
  refine z_aload_n B dX8_tick_38 rfl 1 rfl ?_
  refine z_cVv (As := []) (rest := []) B cw_X8_240 cx_9 dX8_tick_39 (ci_X8_passTasks_920 l (σ := (ap b σ [(0, 8, 7), (0, 8, 6), (0, 8, 5), (0, 8, 4), (0, 8, 3), (0, 8, 2), (0, 8, 1)] [] [])) (b := b) (lyA hK) (rI_at 4 2 hI_4_2) (rR_at 0 3 hR_0_3)) (lKA (hk_K hK 0 rfl rfl)) rfl (by decide) rfl (Nat.le_of_ble_eq_true rfl) (by decide) (fun u hu => ?_)
  refine z_eqs (σ' := (ap b σ [(0, 8, 7), (0, 8, 6), (0, 8, 5), (0, 8, 4), (0, 8, 3), (0, 8, 2), (0, 8, 1)] [] [])) hu ?_
  show zx p l e _ s m _ below meth c g 3 0 0 _ _ 42 [(2, .int 6), (0, .ref (b + 0)), (1, .int 35)] _
  refine z_aload_n B dX8_tick_42 rfl 1 rfl ?_
  refine z_cVv (As := []) (rest := []) B cw_X8_243 cx_9 dX8_tick_43 (ci_X8_passTimers_921 l (σ := (ap b σ [(0, 8, 7), (0, 8, 6), (0, 8, 5), (0, 8, 4), (0, 8, 3), (0, 8, 2), (0, 8, 1)] [] [])) (b := b) (lyA hK) (rI_at 0 7 hI_0_7)) (lKA (hk_K hK 0 rfl rfl)) rfl (by decide) rfl (Nat.le_of_ble_eq_true rfl) (by decide) (fun u hu => ?_)
  refine z_eqs (σ' := (ap b σ [(0, 8, 7), (0, 8, 6), (0, 8, 5), (0, 8, 4), (0, 8, 3), (0, 8, 2), (0, 8, 1)] [] [])) hu ?_
  show zx p l e _ s m _ below meth c g 3 0 0 _ _ 46 [(2, .int 6), (0, .ref (b + 0)), (1, .int 35)] _
  refine z_iinc (v := 7) (lv' := [(2, .int 7), (0, .ref (b + 0)), (1, .int 35)]) B dX8_tick_46 0 rfl (by decide) (by decide) rfl ?_
  refine z_goto (tgt := 23) B dX8_tick_49 (by decide) ?_
  refine z_iload_n B dX8_tick_23 rfl 0 rfl ?_
  refine z_iload_n B dX8_tick_24 rfl 2 rfl ?_
  refine z_icmp_ge (tgt := 52) B dX8_tick_25 (by decide) (fun h => absurd h (by decide)) (fun _ => ?_)
  refine z_aload_n B dX8_tick_28 rfl 1 rfl ?_
  refine z_dup B dX8_tick_29 rfl ?_
  refine gf_X8_206 (x := 7) B (lKA (hk_K hK 0 rfl rfl)) (rI_at 0 8 rfl) dX8_tick_30 ?_
  refine z_iconst (v := 1) B dX8_tick_33 (by decide) ?_
  refine z_iadd B dX8_tick_34 ?_
  refine z_seti (y := 8) (by decide) ?_
  refine pf_X8_206 (x := 8) (σ' := (ap b σ [(0, 8, 8), (0, 8, 7), (0, 8, 6), (0, 8, 5), (0, 8, 4), (0, 8, 3), (0, 8, 2), (0, 8, 1)] [] [])) B (lKA (hk_K hK 0 rfl rfl)) wI_ap dX8_tick_35 ?_
  refine z_aload_n B dX8_tick_38 rfl 1 rfl ?_
  refine z_cVv (As := []) (rest := []) B cw_X8_240 cx_9 dX8_tick_39 (ci_X8_passTasks_920 l (σ := (ap b σ [(0, 8, 8), (0, 8, 7), (0, 8, 6), (0, 8, 5), (0, 8, 4), (0, 8, 3), (0, 8, 2), (0, 8, 1)] [] [])) (b := b) (lyA hK) (rI_at 4 2 hI_4_2) (rR_at 0 3 hR_0_3)) (lKA (hk_K hK 0 rfl rfl)) rfl (by decide) rfl (Nat.le_of_ble_eq_true rfl) (by decide) (fun u hu => ?_)
  refine z_eqs (σ' := (ap b σ [(0, 8, 8), (0, 8, 7), (0, 8, 6), (0, 8, 5), (0, 8, 4), (0, 8, 3), (0, 8, 2), (0, 8, 1)] [] [])) hu ?_
  show zx p l e _ s m _ below meth c g 3 0 0 _ _ 42 [(2, .int 7), (0, .ref (b + 0)), (1, .int 35)] _
  refine z_aload_n B dX8_tick_42 rfl 1 rfl ?_
  refine z_cVv (As := []) (rest := []) B cw_X8_243 cx_9 dX8_tick_43 (ci_X8_passTimers_921 l (σ := (ap b σ [(0, 8, 8), (0, 8, 7), (0, 8, 6), (0, 8, 5), (0, 8, 4), (0, 8, 3), (0, 8, 2), (0, 8, 1)] [] [])) (b := b) (lyA hK) (rI_at 0 7 hI_0_7)) (lKA (hk_K hK 0 rfl rfl)) rfl (by decide) rfl (Nat.le_of_ble_eq_true rfl) (by decide) (fun u hu => ?_)
  refine z_eqs (σ' := (ap b σ [(0, 8, 8), (0, 8, 7), (0, 8, 6), (0, 8, 5), (0, 8, 4), (0, 8, 3), (0, 8, 2), (0, 8, 1)] [] [])) hu ?_
  show zx p l e _ s m _ below meth c g 3 0 0 _ _ 46 [(2, .int 7), (0, .ref (b + 0)), (1, .int 35)] _
  refine z_iinc (v := 8) (lv' := [(2, .int 8), (0, .ref (b + 0)), (1, .int 35)]) B dX8_tick_46 0 rfl (by decide) (by decide) rfl ?_
  refine z_goto (tgt := 23) B dX8_tick_49 (by decide) ?_
  refine z_iload_n B dX8_tick_23 rfl 0 rfl ?_
  refine z_iload_n B dX8_tick_24 rfl 2 rfl ?_
  refine z_icmp_ge (tgt := 52) B dX8_tick_25 (by decide) (fun h => absurd h (by decide)) (fun _ => ?_)
  refine z_aload_n B dX8_tick_28 rfl 1 rfl ?_
  refine z_dup B dX8_tick_29 rfl ?_
  refine gf_X8_206 (x := 8) B (lKA (hk_K hK 0 rfl rfl)) (rI_at 0 8 rfl) dX8_tick_30 ?_
  refine z_iconst (v := 1) B dX8_tick_33 (by decide) ?_
  refine z_iadd B dX8_tick_34 ?_
  refine z_seti (y := 9) (by decide) ?_
  refine pf_X8_206 (x := 9) (σ' := (ap b σ [(0, 8, 9), (0, 8, 8), (0, 8, 7), (0, 8, 6), (0, 8, 5), (0, 8, 4), (0, 8, 3), (0, 8, 2), (0, 8, 1)] [] [])) B (lKA (hk_K hK 0 rfl rfl)) wI_ap dX8_tick_35 ?_
  refine z_aload_n B dX8_tick_38 rfl 1 rfl ?_
  refine z_cVv (As := []) (rest := []) B cw_X8_240 cx_9 dX8_tick_39 (ci_X8_passTasks_920 l (σ := (ap b σ [(0, 8, 9), (0, 8, 8), (0, 8, 7), (0, 8, 6), (0, 8, 5), (0, 8, 4), (0, 8, 3), (0, 8, 2), (0, 8, 1)] [] [])) (b := b) (lyA hK) (rI_at 4 2 hI_4_2) (rR_at 0 3 hR_0_3)) (lKA (hk_K hK 0 rfl rfl)) rfl (by decide) rfl (Nat.le_of_ble_eq_true rfl) (by decide) (fun u hu => ?_)
  refine z_eqs (σ' := (ap b σ [(0, 8, 9), (0, 8, 8), (0, 8, 7), (0, 8, 6), (0, 8, 5), (0, 8, 4), (0, 8, 3), (0, 8, 2), (0, 8, 1)] [] [])) hu ?_
  show zx p l e _ s m _ below meth c g 3 0 0 _ _ 42 [(2, .int 8), (0, .ref (b + 0)), (1, .int 35)] _
  refine z_aload_n B dX8_tick_42 rfl 1 rfl ?_
  refine z_cVv (As := []) (rest := []) B cw_X8_243 cx_9 dX8_tick_43 (ci_X8_passTimers_921 l (σ := (ap b σ [(0, 8, 9), (0, 8, 8), (0, 8, 7), (0, 8, 6), (0, 8, 5), (0, 8, 4), (0, 8, 3), (0, 8, 2), (0, 8, 1)] [] [])) (b := b) (lyA hK) (rI_at 0 7 hI_0_7)) (lKA (hk_K hK 0 rfl rfl)) rfl (by decide) rfl (Nat.le_of_ble_eq_true rfl) (by decide) (fun u hu => ?_)
  refine z_eqs (σ' := (ap b σ [(0, 8, 9), (0, 8, 8), (0, 8, 7), (0, 8, 6), (0, 8, 5), (0, 8, 4), (0, 8, 3), (0, 8, 2), (0, 8, 1)] [] [])) hu ?_
  show zx p l e _ s m _ below meth c g 3 0 0 _ _ 46 [(2, .int 8), (0, .ref (b + 0)), (1, .int 35)] _
  refine z_iinc (v := 9) (lv' := [(2, .int 9), (0, .ref (b + 0)), (1, .int 35)]) B dX8_tick_46 0 rfl (by decide) (by decide) rfl ?_
  refine z_goto (tgt := 23) B dX8_tick_49 (by decide) ?_
  refine z_iload_n B dX8_tick_23 rfl 0 rfl ?_
  refine z_iload_n B dX8_tick_24 rfl 2 rfl ?_
  refine z_icmp_ge (tgt := 52) B dX8_tick_25 (by decide) (fun h => absurd h (by decide)) (fun _ => ?_)
  refine z_aload_n B dX8_tick_28 rfl 1 rfl ?_
  refine z_dup B dX8_tick_29 rfl ?_
  refine gf_X8_206 (x := 9) B (lKA (hk_K hK 0 rfl rfl)) (rI_at 0 8 rfl) dX8_tick_30 ?_
  refine z_iconst (v := 1) B dX8_tick_33 (by decide) ?_
  refine z_iadd B dX8_tick_34 ?_
  refine z_seti (y := 10) (by decide) ?_
  refine pf_X8_206 (x := 10) (σ' := (ap b σ [(0, 8, 10), (0, 8, 9), (0, 8, 8), (0, 8, 7), (0, 8, 6), (0, 8, 5), (0, 8, 4), (0, 8, 3), (0, 8, 2), (0, 8, 1)] [] [])) B (lKA (hk_K hK 0 rfl rfl)) wI_ap dX8_tick_35 ?_
  refine z_aload_n B dX8_tick_38 rfl 1 rfl ?_
  refine z_cVv (As := []) (rest := []) B cw_X8_240 cx_9 dX8_tick_39 (ci_X8_passTasks_920 l (σ := (ap b σ [(0, 8, 10), (0, 8, 9), (0, 8, 8), (0, 8, 7), (0, 8, 6), (0, 8, 5), (0, 8, 4), (0, 8, 3), (0, 8, 2), (0, 8, 1)] [] [])) (b := b) (lyA hK) (rI_at 4 2 hI_4_2) (rR_at 0 3 hR_0_3)) (lKA (hk_K hK 0 rfl rfl)) rfl (by decide) rfl (Nat.le_of_ble_eq_true rfl) (by decide) (fun u hu => ?_)
  refine z_eqs (σ' := (ap b σ [(0, 8, 10), (0, 8, 9), (0, 8, 8), (0, 8, 7), (0, 8, 6), (0, 8, 5), (0, 8, 4), (0, 8, 3), (0, 8, 2), (0, 8, 1)] [] [])) hu ?_
  show zx p l e _ s m _ below meth c g 3 0 0 _ _ 42 [(2, .int 9), (0, .ref (b + 0)), (1, .int 35)] _
  refine z_aload_n B dX8_tick_42 rfl 1 rfl ?_
  refine z_cVv (As := []) (rest := []) B cw_X8_243 cx_9 dX8_tick_43 (ci_X8_passTimers_921 l (σ := (ap b σ [(0, 8, 10), (0, 8, 9), (0, 8, 8), (0, 8, 7), (0, 8, 6), (0, 8, 5), (0, 8, 4), (0, 8, 3), (0, 8, 2), (0, 8, 1)] [] [])) (b := b) (lyA hK) (rI_at 0 7 hI_0_7)) (lKA (hk_K hK 0 rfl rfl)) rfl (by decide) rfl (Nat.le_of_ble_eq_true rfl) (by decide) (fun u hu => ?_)
  refine z_eqs (σ' := (ap b σ [(0, 8, 10), (0, 8, 9), (0, 8, 8), (0, 8, 7), (0, 8, 6), (0, 8, 5), (0, 8, 4), (0, 8, 3), (0, 8, 2), (0, 8, 1)] [] [])) hu ?_
  show zx p l e _ s m _ below meth c g 3 0 0 _ _ 46 [(2, .int 9), (0, .ref (b + 0)), (1, .int 35)] _
  refine z_iinc (v := 10) (lv' := [(2, .int 10), (0, .ref (b + 0)), (1, .int 35)]) B dX8_tick_46 0 rfl (by decide) (by decide) rfl ?_
  refine z_goto (tgt := 23) B dX8_tick_49 (by decide) ?_
  refine z_iload_n B dX8_tick_23 rfl 0 rfl ?_
  refine z_iload_n B dX8_tick_24 rfl 2 rfl ?_
  refine z_icmp_ge (tgt := 52) B dX8_tick_25 (by decide) (fun h => absurd h (by decide)) (fun _ => ?_)
  refine z_aload_n B dX8_tick_28 rfl 1 rfl ?_
  refine z_dup B dX8_tick_29 rfl ?_
  refine gf_X8_206 (x := 10) B (lKA (hk_K hK 0 rfl rfl)) (rI_at 0 8 rfl) dX8_tick_30 ?_
  refine z_iconst (v := 1) B dX8_tick_33 (by decide) ?_
  refine z_iadd B dX8_tick_34 ?_
  refine z_seti (y := 11) (by decide) ?_
  refine pf_X8_206 (x := 11) (σ' := (ap b σ [(0, 8, 11), (0, 8, 10), (0, 8, 9), (0, 8, 8), (0, 8, 7), (0, 8, 6), (0, 8, 5), (0, 8, 4), (0, 8, 3), (0, 8, 2), (0, 8, 1)] [] [])) B (lKA (hk_K hK 0 rfl rfl)) wI_ap dX8_tick_35 ?_
  refine z_aload_n B dX8_tick_38 rfl 1 rfl ?_
  refine z_cVv (As := []) (rest := []) B cw_X8_240 cx_9 dX8_tick_39 (ci_X8_passTasks_920 l (σ := (ap b σ [(0, 8, 11), (0, 8, 10), (0, 8, 9), (0, 8, 8), (0, 8, 7), (0, 8, 6), (0, 8, 5), (0, 8, 4), (0, 8, 3), (0, 8, 2), (0, 8, 1)] [] [])) (b := b) (lyA hK) (rI_at 4 2 hI_4_2) (rR_at 0 3 hR_0_3)) (lKA (hk_K hK 0 rfl rfl)) rfl (by decide) rfl (Nat.le_of_ble_eq_true rfl) (by decide) (fun u hu => ?_)
  refine z_eqs (σ' := (ap b σ [(0, 8, 11), (0, 8, 10), (0, 8, 9), (0, 8, 8), (0, 8, 7), (0, 8, 6), (0, 8, 5), (0, 8, 4), (0, 8, 3), (0, 8, 2), (0, 8, 1)] [] [])) hu ?_
  show zx p l e _ s m _ below meth c g 3 0 0 _ _ 42 [(2, .int 10), (0, .ref (b + 0)), (1, .int 35)] _
  refine z_aload_n B dX8_tick_42 rfl 1 rfl ?_
  refine z_cVv (As := []) (rest := []) B cw_X8_243 cx_9 dX8_tick_43 (ci_X8_passTimers_921 l (σ := (ap b σ [(0, 8, 11), (0, 8, 10), (0, 8, 9), (0, 8, 8), (0, 8, 7), (0, 8, 6), (0, 8, 5), (0, 8, 4), (0, 8, 3), (0, 8, 2), (0, 8, 1)] [] [])) (b := b) (lyA hK) (rI_at 0 7 hI_0_7)) (lKA (hk_K hK 0 rfl rfl)) rfl (by decide) rfl (Nat.le_of_ble_eq_true rfl) (by decide) (fun u hu => ?_)
  refine z_eqs (σ' := (ap b σ [(0, 8, 11), (0, 8, 10), (0, 8, 9), (0, 8, 8), (0, 8, 7), (0, 8, 6), (0, 8, 5), (0, 8, 4), (0, 8, 3), (0, 8, 2), (0, 8, 1)] [] [])) hu ?_
  show zx p l e _ s m _ below meth c g 3 0 0 _ _ 46 [(2, .int 10), (0, .ref (b + 0)), (1, .int 35)] _
  refine z_iinc (v := 11) (lv' := [(2, .int 11), (0, .ref (b + 0)), (1, .int 35)]) B dX8_tick_46 0 rfl (by decide) (by decide) rfl ?_
  refine z_goto (tgt := 23) B dX8_tick_49 (by decide) ?_
  refine z_iload_n B dX8_tick_23 rfl 0 rfl ?_
  refine z_iload_n B dX8_tick_24 rfl 2 rfl ?_
  refine z_icmp_ge (tgt := 52) B dX8_tick_25 (by decide) (fun h => absurd h (by decide)) (fun _ => ?_)
  refine z_aload_n B dX8_tick_28 rfl 1 rfl ?_
  refine z_dup B dX8_tick_29 rfl ?_
  refine gf_X8_206 (x := 11) B (lKA (hk_K hK 0 rfl rfl)) (rI_at 0 8 rfl) dX8_tick_30 ?_
  refine z_iconst (v := 1) B dX8_tick_33 (by decide) ?_
  refine z_iadd B dX8_tick_34 ?_
  refine z_seti (y := 12) (by decide) ?_
  refine pf_X8_206 (x := 12) (σ' := (ap b σ [(0, 8, 12), (0, 8, 11), (0, 8, 10), (0, 8, 9), (0, 8, 8), (0, 8, 7), (0, 8, 6), (0, 8, 5), (0, 8, 4), (0, 8, 3), (0, 8, 2), (0, 8, 1)] [] [])) B (lKA (hk_K hK 0 rfl rfl)) wI_ap dX8_tick_35 ?_
  refine z_aload_n B dX8_tick_38 rfl 1 rfl ?_
  refine z_cVv (As := []) (rest := []) B cw_X8_240 cx_9 dX8_tick_39 (ci_X8_passTasks_920 l (σ := (ap b σ [(0, 8, 12), (0, 8, 11), (0, 8, 10), (0, 8, 9), (0, 8, 8), (0, 8, 7), (0, 8, 6), (0, 8, 5), (0, 8, 4), (0, 8, 3), (0, 8, 2), (0, 8, 1)] [] [])) (b := b) (lyA hK) (rI_at 4 2 hI_4_2) (rR_at 0 3 hR_0_3)) (lKA (hk_K hK 0 rfl rfl)) rfl (by decide) rfl (Nat.le_of_ble_eq_true rfl) (by decide) (fun u hu => ?_)
  refine z_eqs (σ' := (ap b σ [(0, 8, 12), (0, 8, 11), (0, 8, 10), (0, 8, 9), (0, 8, 8), (0, 8, 7), (0, 8, 6), (0, 8, 5), (0, 8, 4), (0, 8, 3), (0, 8, 2), (0, 8, 1)] [] [])) hu ?_
  show zx p l e _ s m _ below meth c g 3 0 0 _ _ 42 [(2, .int 11), (0, .ref (b + 0)), (1, .int 35)] _
  refine z_aload_n B dX8_tick_42 rfl 1 rfl ?_
  refine z_cVv (As := []) (rest := []) B cw_X8_243 cx_9 dX8_tick_43 (ci_X8_passTimers_921 l (σ := (ap b σ [(0, 8, 12), (0, 8, 11), (0, 8, 10), (0, 8, 9), (0, 8, 8), (0, 8, 7), (0, 8, 6), (0, 8, 5), (0, 8, 4), (0, 8, 3), (0, 8, 2), (0, 8, 1)] [] [])) (b := b) (lyA hK) (rI_at 0 7 hI_0_7)) (lKA (hk_K hK 0 rfl rfl)) rfl (by decide) rfl (Nat.le_of_ble_eq_true rfl) (by decide) (fun u hu => ?_)
  refine z_eqs (σ' := (ap b σ [(0, 8, 12), (0, 8, 11), (0, 8, 10), (0, 8, 9), (0, 8, 8), (0, 8, 7), (0, 8, 6), (0, 8, 5), (0, 8, 4), (0, 8, 3), (0, 8, 2), (0, 8, 1)] [] [])) hu ?_
  show zx p l e _ s m _ below meth c g 3 0 0 _ _ 46 [(2, .int 11), (0, .ref (b + 0)), (1, .int 35)] _
  refine z_iinc (v := 12) (lv' := [(2, .int 12), (0, .ref (b + 0)), (1, .int 35)]) B dX8_tick_46 0 rfl (by decide) (by decide) rfl ?_
  refine z_goto (tgt := 23) B dX8_tick_49 (by decide) ?_
  refine z_iload_n B dX8_tick_23 rfl 0 rfl ?_
  refine z_iload_n B dX8_tick_24 rfl 2 rfl ?_
  refine z_icmp_ge (tgt := 52) B dX8_tick_25 (by decide) (fun h => absurd h (by decide)) (fun _ => ?_)
  refine z_aload_n B dX8_tick_28 rfl 1 rfl ?_
  refine z_dup B dX8_tick_29 rfl ?_
  refine gf_X8_206 (x := 12) B (lKA (hk_K hK 0 rfl rfl)) (rI_at 0 8 rfl) dX8_tick_30 ?_
  refine z_iconst (v := 1) B dX8_tick_33 (by decide) ?_
  refine z_iadd B dX8_tick_34 ?_
  refine z_seti (y := 13) (by decide) ?_
  refine pf_X8_206 (x := 13) (σ' := (ap b σ [(0, 8, 13), (0, 8, 12), (0, 8, 11), (0, 8, 10), (0, 8, 9), (0, 8, 8), (0, 8, 7), (0, 8, 6), (0, 8, 5), (0, 8, 4), (0, 8, 3), (0, 8, 2), (0, 8, 1)] [] [])) B (lKA (hk_K hK 0 rfl rfl)) wI_ap dX8_tick_35 ?_
  refine z_aload_n B dX8_tick_38 rfl 1 rfl ?_
  refine z_cVv (As := []) (rest := []) B cw_X8_240 cx_9 dX8_tick_39 (ci_X8_passTasks_920 l (σ := (ap b σ [(0, 8, 13), (0, 8, 12), (0, 8, 11), (0, 8, 10), (0, 8, 9), (0, 8, 8), (0, 8, 7), (0, 8, 6), (0, 8, 5), (0, 8, 4), (0, 8, 3), (0, 8, 2), (0, 8, 1)] [] [])) (b := b) (lyA hK) (rI_at 4 2 hI_4_2) (rR_at 0 3 hR_0_3)) (lKA (hk_K hK 0 rfl rfl)) rfl (by decide) rfl (Nat.le_of_ble_eq_true rfl) (by decide) (fun u hu => ?_)
  refine z_eqs (σ' := (ap b σ [(0, 8, 13), (0, 8, 12), (0, 8, 11), (0, 8, 10), (0, 8, 9), (0, 8, 8), (0, 8, 7), (0, 8, 6), (0, 8, 5), (0, 8, 4), (0, 8, 3), (0, 8, 2), (0, 8, 1)] [] [])) hu ?_
  show zx p l e _ s m _ below meth c g 3 0 0 _ _ 42 [(2, .int 12), (0, .ref (b + 0)), (1, .int 35)] _
  refine z_aload_n B dX8_tick_42 rfl 1 rfl ?_
  refine z_cVv (As := []) (rest := []) B cw_X8_243 cx_9 dX8_tick_43 (ci_X8_passTimers_921 l (σ := (ap b σ [(0, 8, 13), (0, 8, 12), (0, 8, 11), (0, 8, 10), (0, 8, 9), (0, 8, 8), (0, 8, 7), (0, 8, 6), (0, 8, 5), (0, 8, 4), (0, 8, 3), (0, 8, 2), (0, 8, 1)] [] [])) (b := b) (lyA hK) (rI_at 0 7 hI_0_7)) (lKA (hk_K hK 0 rfl rfl)) rfl (by decide) rfl (Nat.le_of_ble_eq_true rfl) (by decide) (fun u hu => ?_)
  refine z_eqs (σ' := (ap b σ [(0, 8, 13), (0, 8, 12), (0, 8, 11), (0, 8, 10), (0, 8, 9), (0, 8, 8), (0, 8, 7), (0, 8, 6), (0, 8, 5), (0, 8, 4), (0, 8, 3), (0, 8, 2), (0, 8, 1)] [] [])) hu ?_
  show zx p l e _ s m _ below meth c g 3 0 0 _ _ 46 [(2, .int 12), (0, .ref (b + 0)), (1, .int 35)] _
  refine z_iinc (v := 13) (lv' := [(2, .int 13), (0, .ref (b + 0)), (1, .int 35)]) B dX8_tick_46 0 rfl (by decide) (by decide) rfl ?_
  refine z_goto (tgt := 23) B dX8_tick_49 (by decide) ?_
  refine z_iload_n B dX8_tick_23 rfl 0 rfl ?_
  refine z_iload_n B dX8_tick_24 rfl 2 rfl ?_
  refine z_icmp_ge (tgt := 52) B dX8_tick_25 (by decide) (fun h => absurd h (by decide)) (fun _ => ?_)
  refine z_aload_n B dX8_tick_28 rfl 1 rfl ?_
  refine z_dup B dX8_tick_29 rfl ?_
  refine gf_X8_206 (x := 13) B (lKA (hk_K hK 0 rfl rfl)) (rI_at 0 8 rfl) dX8_tick_30 ?_
  refine z_iconst (v := 1) B dX8_tick_33 (by decide) ?_
  refine z_iadd B dX8_tick_34 ?_
  refine z_seti (y := 14) (by decide) ?_
  refine pf_X8_206 (x := 14) (σ' := (ap b σ [(0, 8, 14), (0, 8, 13), (0, 8, 12), (0, 8, 11), (0, 8, 10), (0, 8, 9), (0, 8, 8), (0, 8, 7), (0, 8, 6), (0, 8, 5), (0, 8, 4), (0, 8, 3), (0, 8, 2), (0, 8, 1)] [] [])) B (lKA (hk_K hK 0 rfl rfl)) wI_ap dX8_tick_35 ?_
  refine z_aload_n B dX8_tick_38 rfl 1 rfl ?_
  refine z_cVv (As := []) (rest := []) B cw_X8_240 cx_9 dX8_tick_39 (ci_X8_passTasks_920 l (σ := (ap b σ [(0, 8, 14), (0, 8, 13), (0, 8, 12), (0, 8, 11), (0, 8, 10), (0, 8, 9), (0, 8, 8), (0, 8, 7), (0, 8, 6), (0, 8, 5), (0, 8, 4), (0, 8, 3), (0, 8, 2), (0, 8, 1)] [] [])) (b := b) (lyA hK) (rI_at 4 2 hI_4_2) (rR_at 0 3 hR_0_3)) (lKA (hk_K hK 0 rfl rfl)) rfl (by decide) rfl (Nat.le_of_ble_eq_true rfl) (by decide) (fun u hu => ?_)
  refine z_eqs (σ' := (ap b σ [(0, 8, 14), (0, 8, 13), (0, 8, 12), (0, 8, 11), (0, 8, 10), (0, 8, 9), (0, 8, 8), (0, 8, 7), (0, 8, 6), (0, 8, 5), (0, 8, 4), (0, 8, 3), (0, 8, 2), (0, 8, 1)] [] [])) hu ?_
  show zx p l e _ s m _ below meth c g 3 0 0 _ _ 42 [(2, .int 13), (0, .ref (b + 0)), (1, .int 35)] _
  refine z_aload_n B dX8_tick_42 rfl 1 rfl ?_
  refine z_cVv (As := []) (rest := []) B cw_X8_243 cx_9 dX8_tick_43 (ci_X8_passTimers_921 l (σ := (ap b σ [(0, 8, 14), (0, 8, 13), (0, 8, 12), (0, 8, 11), (0, 8, 10), (0, 8, 9), (0, 8, 8), (0, 8, 7), (0, 8, 6), (0, 8, 5), (0, 8, 4), (0, 8, 3), (0, 8, 2), (0, 8, 1)] [] [])) (b := b) (lyA hK) (rI_at 0 7 hI_0_7)) (lKA (hk_K hK 0 rfl rfl)) rfl (by decide) rfl (Nat.le_of_ble_eq_true rfl) (by decide) (fun u hu => ?_)
  refine z_eqs (σ' := (ap b σ [(0, 8, 14), (0, 8, 13), (0, 8, 12), (0, 8, 11), (0, 8, 10), (0, 8, 9), (0, 8, 8), (0, 8, 7), (0, 8, 6), (0, 8, 5), (0, 8, 4), (0, 8, 3), (0, 8, 2), (0, 8, 1)] [] [])) hu ?_
  show zx p l e _ s m _ below meth c g 3 0 0 _ _ 46 [(2, .int 13), (0, .ref (b + 0)), (1, .int 35)] _
  refine z_iinc (v := 14) (lv' := [(2, .int 14), (0, .ref (b + 0)), (1, .int 35)]) B dX8_tick_46 0 rfl (by decide) (by decide) rfl ?_
  refine z_goto (tgt := 23) B dX8_tick_49 (by decide) ?_
  refine z_iload_n B dX8_tick_23 rfl 0 rfl ?_
  refine z_iload_n B dX8_tick_24 rfl 2 rfl ?_
  refine z_icmp_ge (tgt := 52) B dX8_tick_25 (by decide) (fun h => absurd h (by decide)) (fun _ => ?_)
  refine z_aload_n B dX8_tick_28 rfl 1 rfl ?_
  refine z_dup B dX8_tick_29 rfl ?_
  refine gf_X8_206 (x := 14) B (lKA (hk_K hK 0 rfl rfl)) (rI_at 0 8 rfl) dX8_tick_30 ?_
  refine z_iconst (v := 1) B dX8_tick_33 (by decide) ?_
  refine z_iadd B dX8_tick_34 ?_
  refine z_seti (y := 15) (by decide) ?_
  refine pf_X8_206 (x := 15) (σ' := (ap b σ [(0, 8, 15), (0, 8, 14), (0, 8, 13), (0, 8, 12), (0, 8, 11), (0, 8, 10), (0, 8, 9), (0, 8, 8), (0, 8, 7), (0, 8, 6), (0, 8, 5), (0, 8, 4), (0, 8, 3), (0, 8, 2), (0, 8, 1)] [] [])) B (lKA (hk_K hK 0 rfl rfl)) wI_ap dX8_tick_35 ?_
  refine z_aload_n B dX8_tick_38 rfl 1 rfl ?_
  refine z_cVv (As := []) (rest := []) B cw_X8_240 cx_9 dX8_tick_39 (ci_X8_passTasks_920 l (σ := (ap b σ [(0, 8, 15), (0, 8, 14), (0, 8, 13), (0, 8, 12), (0, 8, 11), (0, 8, 10), (0, 8, 9), (0, 8, 8), (0, 8, 7), (0, 8, 6), (0, 8, 5), (0, 8, 4), (0, 8, 3), (0, 8, 2), (0, 8, 1)] [] [])) (b := b) (lyA hK) (rI_at 4 2 hI_4_2) (rR_at 0 3 hR_0_3)) (lKA (hk_K hK 0 rfl rfl)) rfl (by decide) rfl (Nat.le_of_ble_eq_true rfl) (by decide) (fun u hu => ?_)
  refine z_eqs (σ' := (ap b σ [(0, 8, 15), (0, 8, 14), (0, 8, 13), (0, 8, 12), (0, 8, 11), (0, 8, 10), (0, 8, 9), (0, 8, 8), (0, 8, 7), (0, 8, 6), (0, 8, 5), (0, 8, 4), (0, 8, 3), (0, 8, 2), (0, 8, 1)] [] [])) hu ?_
  show zx p l e _ s m _ below meth c g 3 0 0 _ _ 42 [(2, .int 14), (0, .ref (b + 0)), (1, .int 35)] _
  refine z_aload_n B dX8_tick_42 rfl 1 rfl ?_
  refine z_cVv (As := []) (rest := []) B cw_X8_243 cx_9 dX8_tick_43 (ci_X8_passTimers_921 l (σ := (ap b σ [(0, 8, 15), (0, 8, 14), (0, 8, 13), (0, 8, 12), (0, 8, 11), (0, 8, 10), (0, 8, 9), (0, 8, 8), (0, 8, 7), (0, 8, 6), (0, 8, 5), (0, 8, 4), (0, 8, 3), (0, 8, 2), (0, 8, 1)] [] [])) (b := b) (lyA hK) (rI_at 0 7 hI_0_7)) (lKA (hk_K hK 0 rfl rfl)) rfl (by decide) rfl (Nat.le_of_ble_eq_true rfl) (by decide) (fun u hu => ?_)
  refine z_eqs (σ' := (ap b σ [(0, 8, 15), (0, 8, 14), (0, 8, 13), (0, 8, 12), (0, 8, 11), (0, 8, 10), (0, 8, 9), (0, 8, 8), (0, 8, 7), (0, 8, 6), (0, 8, 5), (0, 8, 4), (0, 8, 3), (0, 8, 2), (0, 8, 1)] [] [])) hu ?_
  show zx p l e _ s m _ below meth c g 3 0 0 _ _ 46 [(2, .int 14), (0, .ref (b + 0)), (1, .int 35)] _
  refine z_iinc (v := 15) (lv' := [(2, .int 15), (0, .ref (b + 0)), (1, .int 35)]) B dX8_tick_46 0 rfl (by decide) (by decide) rfl ?_
  refine z_goto (tgt := 23) B dX8_tick_49 (by decide) ?_
  refine z_iload_n B dX8_tick_23 rfl 0 rfl ?_
  refine z_iload_n B dX8_tick_24 rfl 2 rfl ?_
  refine z_icmp_ge (tgt := 52) B dX8_tick_25 (by decide) (fun h => absurd h (by decide)) (fun _ => ?_)
  refine z_aload_n B dX8_tick_28 rfl 1 rfl ?_
  refine z_dup B dX8_tick_29 rfl ?_
  refine gf_X8_206 (x := 15) B (lKA (hk_K hK 0 rfl rfl)) (rI_at 0 8 rfl) dX8_tick_30 ?_
  refine z_iconst (v := 1) B dX8_tick_33 (by decide) ?_
  refine z_iadd B dX8_tick_34 ?_
  refine z_seti (y := 16) (by decide) ?_
  refine pf_X8_206 (x := 16) (σ' := (ap b σ [(0, 8, 16), (0, 8, 15), (0, 8, 14), (0, 8, 13), (0, 8, 12), (0, 8, 11), (0, 8, 10), (0, 8, 9), (0, 8, 8), (0, 8, 7), (0, 8, 6), (0, 8, 5), (0, 8, 4), (0, 8, 3), (0, 8, 2), (0, 8, 1)] [] [])) B (lKA (hk_K hK 0 rfl rfl)) wI_ap dX8_tick_35 ?_
  refine z_aload_n B dX8_tick_38 rfl 1 rfl ?_
  refine z_cVv (As := []) (rest := []) B cw_X8_240 cx_9 dX8_tick_39 (ci_X8_passTasks_920 l (σ := (ap b σ [(0, 8, 16), (0, 8, 15), (0, 8, 14), (0, 8, 13), (0, 8, 12), (0, 8, 11), (0, 8, 10), (0, 8, 9), (0, 8, 8), (0, 8, 7), (0, 8, 6), (0, 8, 5), (0, 8, 4), (0, 8, 3), (0, 8, 2), (0, 8, 1)] [] [])) (b := b) (lyA hK) (rI_at 4 2 hI_4_2) (rR_at 0 3 hR_0_3)) (lKA (hk_K hK 0 rfl rfl)) rfl (by decide) rfl (Nat.le_of_ble_eq_true rfl) (by decide) (fun u hu => ?_)
  refine z_eqs (σ' := (ap b σ [(0, 8, 16), (0, 8, 15), (0, 8, 14), (0, 8, 13), (0, 8, 12), (0, 8, 11), (0, 8, 10), (0, 8, 9), (0, 8, 8), (0, 8, 7), (0, 8, 6), (0, 8, 5), (0, 8, 4), (0, 8, 3), (0, 8, 2), (0, 8, 1)] [] [])) hu ?_
  show zx p l e _ s m _ below meth c g 3 0 0 _ _ 42 [(2, .int 15), (0, .ref (b + 0)), (1, .int 35)] _
  refine z_aload_n B dX8_tick_42 rfl 1 rfl ?_
  refine z_cVv (As := []) (rest := []) B cw_X8_243 cx_9 dX8_tick_43 (ci_X8_passTimers_921 l (σ := (ap b σ [(0, 8, 16), (0, 8, 15), (0, 8, 14), (0, 8, 13), (0, 8, 12), (0, 8, 11), (0, 8, 10), (0, 8, 9), (0, 8, 8), (0, 8, 7), (0, 8, 6), (0, 8, 5), (0, 8, 4), (0, 8, 3), (0, 8, 2), (0, 8, 1)] [] [])) (b := b) (lyA hK) (rI_at 0 7 hI_0_7)) (lKA (hk_K hK 0 rfl rfl)) rfl (by decide) rfl (Nat.le_of_ble_eq_true rfl) (by decide) (fun u hu => ?_)
  refine z_eqs (σ' := (ap b σ [(0, 8, 16), (0, 8, 15), (0, 8, 14), (0, 8, 13), (0, 8, 12), (0, 8, 11), (0, 8, 10), (0, 8, 9), (0, 8, 8), (0, 8, 7), (0, 8, 6), (0, 8, 5), (0, 8, 4), (0, 8, 3), (0, 8, 2), (0, 8, 1)] [] [])) hu ?_
  show zx p l e _ s m _ below meth c g 3 0 0 _ _ 46 [(2, .int 15), (0, .ref (b + 0)), (1, .int 35)] _
  refine z_iinc (v := 16) (lv' := [(2, .int 16), (0, .ref (b + 0)), (1, .int 35)]) B dX8_tick_46 0 rfl (by decide) (by decide) rfl ?_
  refine z_goto (tgt := 23) B dX8_tick_49 (by decide) ?_
  refine z_iload_n B dX8_tick_23 rfl 0 rfl ?_
  refine z_iload_n B dX8_tick_24 rfl 2 rfl ?_
  refine z_icmp_ge (tgt := 52) B dX8_tick_25 (by decide) (fun h => absurd h (by decide)) (fun _ => ?_)
  refine z_aload_n B dX8_tick_28 rfl 1 rfl ?_
  refine z_dup B dX8_tick_29 rfl ?_
  refine gf_X8_206 (x := 16) B (lKA (hk_K hK 0 rfl rfl)) (rI_at 0 8 rfl) dX8_tick_30 ?_
  refine z_iconst (v := 1) B dX8_tick_33 (by decide) ?_
  refine z_iadd B dX8_tick_34 ?_
  refine z_seti (y := 17) (by decide) ?_
  refine pf_X8_206 (x := 17) (σ' := (ap b σ [(0, 8, 17), (0, 8, 16), (0, 8, 15), (0, 8, 14), (0, 8, 13), (0, 8, 12), (0, 8, 11), (0, 8, 10), (0, 8, 9), (0, 8, 8), (0, 8, 7), (0, 8, 6), (0, 8, 5), (0, 8, 4), (0, 8, 3), (0, 8, 2), (0, 8, 1)] [] [])) B (lKA (hk_K hK 0 rfl rfl)) wI_ap dX8_tick_35 ?_
  refine z_aload_n B dX8_tick_38 rfl 1 rfl ?_
  refine z_cVv (As := []) (rest := []) B cw_X8_240 cx_9 dX8_tick_39 (ci_X8_passTasks_920 l (σ := (ap b σ [(0, 8, 17), (0, 8, 16), (0, 8, 15), (0, 8, 14), (0, 8, 13), (0, 8, 12), (0, 8, 11), (0, 8, 10), (0, 8, 9), (0, 8, 8), (0, 8, 7), (0, 8, 6), (0, 8, 5), (0, 8, 4), (0, 8, 3), (0, 8, 2), (0, 8, 1)] [] [])) (b := b) (lyA hK) (rI_at 4 2 hI_4_2) (rR_at 0 3 hR_0_3)) (lKA (hk_K hK 0 rfl rfl)) rfl (by decide) rfl (Nat.le_of_ble_eq_true rfl) (by decide) (fun u hu => ?_)
  refine z_eqs (σ' := (ap b σ [(0, 8, 17), (0, 8, 16), (0, 8, 15), (0, 8, 14), (0, 8, 13), (0, 8, 12), (0, 8, 11), (0, 8, 10), (0, 8, 9), (0, 8, 8), (0, 8, 7), (0, 8, 6), (0, 8, 5), (0, 8, 4), (0, 8, 3), (0, 8, 2), (0, 8, 1)] [] [])) hu ?_
  show zx p l e _ s m _ below meth c g 3 0 0 _ _ 42 [(2, .int 16), (0, .ref (b + 0)), (1, .int 35)] _
  refine z_aload_n B dX8_tick_42 rfl 1 rfl ?_
  refine z_cVv (As := []) (rest := []) B cw_X8_243 cx_9 dX8_tick_43 (ci_X8_passTimers_921 l (σ := (ap b σ [(0, 8, 17), (0, 8, 16), (0, 8, 15), (0, 8, 14), (0, 8, 13), (0, 8, 12), (0, 8, 11), (0, 8, 10), (0, 8, 9), (0, 8, 8), (0, 8, 7), (0, 8, 6), (0, 8, 5), (0, 8, 4), (0, 8, 3), (0, 8, 2), (0, 8, 1)] [] [])) (b := b) (lyA hK) (rI_at 0 7 hI_0_7)) (lKA (hk_K hK 0 rfl rfl)) rfl (by decide) rfl (Nat.le_of_ble_eq_true rfl) (by decide) (fun u hu => ?_)
  refine z_eqs (σ' := (ap b σ [(0, 8, 17), (0, 8, 16), (0, 8, 15), (0, 8, 14), (0, 8, 13), (0, 8, 12), (0, 8, 11), (0, 8, 10), (0, 8, 9), (0, 8, 8), (0, 8, 7), (0, 8, 6), (0, 8, 5), (0, 8, 4), (0, 8, 3), (0, 8, 2), (0, 8, 1)] [] [])) hu ?_
  show zx p l e _ s m _ below meth c g 3 0 0 _ _ 46 [(2, .int 16), (0, .ref (b + 0)), (1, .int 35)] _
  refine z_iinc (v := 17) (lv' := [(2, .int 17), (0, .ref (b + 0)), (1, .int 35)]) B dX8_tick_46 0 rfl (by decide) (by decide) rfl ?_
  refine z_goto (tgt := 23) B dX8_tick_49 (by decide) ?_
  refine z_iload_n B dX8_tick_23 rfl 0 rfl ?_
  refine z_iload_n B dX8_tick_24 rfl 2 rfl ?_
  refine z_icmp_ge (tgt := 52) B dX8_tick_25 (by decide) (fun h => absurd h (by decide)) (fun _ => ?_)
  refine z_aload_n B dX8_tick_28 rfl 1 rfl ?_
  refine z_dup B dX8_tick_29 rfl ?_
  refine gf_X8_206 (x := 17) B (lKA (hk_K hK 0 rfl rfl)) (rI_at 0 8 rfl) dX8_tick_30 ?_
  refine z_iconst (v := 1) B dX8_tick_33 (by decide) ?_
  refine z_iadd B dX8_tick_34 ?_
  refine z_seti (y := 18) (by decide) ?_
  refine pf_X8_206 (x := 18) (σ' := (ap b σ [(0, 8, 18), (0, 8, 17), (0, 8, 16), (0, 8, 15), (0, 8, 14), (0, 8, 13), (0, 8, 12), (0, 8, 11), (0, 8, 10), (0, 8, 9), (0, 8, 8), (0, 8, 7), (0, 8, 6), (0, 8, 5), (0, 8, 4), (0, 8, 3), (0, 8, 2), (0, 8, 1)] [] [])) B (lKA (hk_K hK 0 rfl rfl)) wI_ap dX8_tick_35 ?_
  refine z_aload_n B dX8_tick_38 rfl 1 rfl ?_
  refine z_cVv (As := []) (rest := []) B cw_X8_240 cx_9 dX8_tick_39 (ci_X8_passTasks_920 l (σ := (ap b σ [(0, 8, 18), (0, 8, 17), (0, 8, 16), (0, 8, 15), (0, 8, 14), (0, 8, 13), (0, 8, 12), (0, 8, 11), (0, 8, 10), (0, 8, 9), (0, 8, 8), (0, 8, 7), (0, 8, 6), (0, 8, 5), (0, 8, 4), (0, 8, 3), (0, 8, 2), (0, 8, 1)] [] [])) (b := b) (lyA hK) (rI_at 4 2 hI_4_2) (rR_at 0 3 hR_0_3)) (lKA (hk_K hK 0 rfl rfl)) rfl (by decide) rfl (Nat.le_of_ble_eq_true rfl) (by decide) (fun u hu => ?_)
  refine z_eqs (σ' := (ap b σ [(0, 8, 18), (0, 8, 17), (0, 8, 16), (0, 8, 15), (0, 8, 14), (0, 8, 13), (0, 8, 12), (0, 8, 11), (0, 8, 10), (0, 8, 9), (0, 8, 8), (0, 8, 7), (0, 8, 6), (0, 8, 5), (0, 8, 4), (0, 8, 3), (0, 8, 2), (0, 8, 1)] [] [])) hu ?_
  show zx p l e _ s m _ below meth c g 3 0 0 _ _ 42 [(2, .int 17), (0, .ref (b + 0)), (1, .int 35)] _
  refine z_aload_n B dX8_tick_42 rfl 1 rfl ?_
  refine z_cVv (As := []) (rest := []) B cw_X8_243 cx_9 dX8_tick_43 (ci_X8_passTimers_921 l (σ := (ap b σ [(0, 8, 18), (0, 8, 17), (0, 8, 16), (0, 8, 15), (0, 8, 14), (0, 8, 13), (0, 8, 12), (0, 8, 11), (0, 8, 10), (0, 8, 9), (0, 8, 8), (0, 8, 7), (0, 8, 6), (0, 8, 5), (0, 8, 4), (0, 8, 3), (0, 8, 2), (0, 8, 1)] [] [])) (b := b) (lyA hK) (rI_at 0 7 hI_0_7)) (lKA (hk_K hK 0 rfl rfl)) rfl (by decide) rfl (Nat.le_of_ble_eq_true rfl) (by decide) (fun u hu => ?_)
  refine z_eqs (σ' := (ap b σ [(0, 8, 18), (0, 8, 17), (0, 8, 16), (0, 8, 15), (0, 8, 14), (0, 8, 13), (0, 8, 12), (0, 8, 11), (0, 8, 10), (0, 8, 9), (0, 8, 8), (0, 8, 7), (0, 8, 6), (0, 8, 5), (0, 8, 4), (0, 8, 3), (0, 8, 2), (0, 8, 1)] [] [])) hu ?_
  show zx p l e _ s m _ below meth c g 3 0 0 _ _ 46 [(2, .int 17), (0, .ref (b + 0)), (1, .int 35)] _
  refine z_iinc (v := 18) (lv' := [(2, .int 18), (0, .ref (b + 0)), (1, .int 35)]) B dX8_tick_46 0 rfl (by decide) (by decide) rfl ?_
  refine z_goto (tgt := 23) B dX8_tick_49 (by decide) ?_
  refine z_iload_n B dX8_tick_23 rfl 0 rfl ?_
  refine z_iload_n B dX8_tick_24 rfl 2 rfl ?_
  refine z_icmp_ge (tgt := 52) B dX8_tick_25 (by decide) (fun h => absurd h (by decide)) (fun _ => ?_)
  refine z_aload_n B dX8_tick_28 rfl 1 rfl ?_
  refine z_dup B dX8_tick_29 rfl ?_
  refine gf_X8_206 (x := 18) B (lKA (hk_K hK 0 rfl rfl)) (rI_at 0 8 rfl) dX8_tick_30 ?_
  refine z_iconst (v := 1) B dX8_tick_33 (by decide) ?_
  refine z_iadd B dX8_tick_34 ?_
  refine z_seti (y := 19) (by decide) ?_
  refine pf_X8_206 (x := 19) (σ' := (ap b σ [(0, 8, 19), (0, 8, 18), (0, 8, 17), (0, 8, 16), (0, 8, 15), (0, 8, 14), (0, 8, 13), (0, 8, 12), (0, 8, 11), (0, 8, 10), (0, 8, 9), (0, 8, 8), (0, 8, 7), (0, 8, 6), (0, 8, 5), (0, 8, 4), (0, 8, 3), (0, 8, 2), (0, 8, 1)] [] [])) B (lKA (hk_K hK 0 rfl rfl)) wI_ap dX8_tick_35 ?_
  refine z_aload_n B dX8_tick_38 rfl 1 rfl ?_
  refine z_cVv (As := []) (rest := []) B cw_X8_240 cx_9 dX8_tick_39 (ci_X8_passTasks_920 l (σ := (ap b σ [(0, 8, 19), (0, 8, 18), (0, 8, 17), (0, 8, 16), (0, 8, 15), (0, 8, 14), (0, 8, 13), (0, 8, 12), (0, 8, 11), (0, 8, 10), (0, 8, 9), (0, 8, 8), (0, 8, 7), (0, 8, 6), (0, 8, 5), (0, 8, 4), (0, 8, 3), (0, 8, 2), (0, 8, 1)] [] [])) (b := b) (lyA hK) (rI_at 4 2 hI_4_2) (rR_at 0 3 hR_0_3)) (lKA (hk_K hK 0 rfl rfl)) rfl (by decide) rfl (Nat.le_of_ble_eq_true rfl) (by decide) (fun u hu => ?_)
  refine z_eqs (σ' := (ap b σ [(0, 8, 19), (0, 8, 18), (0, 8, 17), (0, 8, 16), (0, 8, 15), (0, 8, 14), (0, 8, 13), (0, 8, 12), (0, 8, 11), (0, 8, 10), (0, 8, 9), (0, 8, 8), (0, 8, 7), (0, 8, 6), (0, 8, 5), (0, 8, 4), (0, 8, 3), (0, 8, 2), (0, 8, 1)] [] [])) hu ?_
  show zx p l e _ s m _ below meth c g 3 0 0 _ _ 42 [(2, .int 18), (0, .ref (b + 0)), (1, .int 35)] _
  refine z_aload_n B dX8_tick_42 rfl 1 rfl ?_
  refine z_cVv (As := []) (rest := []) B cw_X8_243 cx_9 dX8_tick_43 (ci_X8_passTimers_921 l (σ := (ap b σ [(0, 8, 19), (0, 8, 18), (0, 8, 17), (0, 8, 16), (0, 8, 15), (0, 8, 14), (0, 8, 13), (0, 8, 12), (0, 8, 11), (0, 8, 10), (0, 8, 9), (0, 8, 8), (0, 8, 7), (0, 8, 6), (0, 8, 5), (0, 8, 4), (0, 8, 3), (0, 8, 2), (0, 8, 1)] [] [])) (b := b) (lyA hK) (rI_at 0 7 hI_0_7)) (lKA (hk_K hK 0 rfl rfl)) rfl (by decide) rfl (Nat.le_of_ble_eq_true rfl) (by decide) (fun u hu => ?_)
  refine z_eqs (σ' := (ap b σ [(0, 8, 19), (0, 8, 18), (0, 8, 17), (0, 8, 16), (0, 8, 15), (0, 8, 14), (0, 8, 13), (0, 8, 12), (0, 8, 11), (0, 8, 10), (0, 8, 9), (0, 8, 8), (0, 8, 7), (0, 8, 6), (0, 8, 5), (0, 8, 4), (0, 8, 3), (0, 8, 2), (0, 8, 1)] [] [])) hu ?_
  show zx p l e _ s m _ below meth c g 3 0 0 _ _ 46 [(2, .int 18), (0, .ref (b + 0)), (1, .int 35)] _
  refine z_iinc (v := 19) (lv' := [(2, .int 19), (0, .ref (b + 0)), (1, .int 35)]) B dX8_tick_46 0 rfl (by decide) (by decide) rfl ?_
  refine z_goto (tgt := 23) B dX8_tick_49 (by decide) ?_
  refine z_iload_n B dX8_tick_23 rfl 0 rfl ?_
  refine z_iload_n B dX8_tick_24 rfl 2 rfl ?_
  refine z_icmp_ge (tgt := 52) B dX8_tick_25 (by decide) (fun h => absurd h (by decide)) (fun _ => ?_)
  refine z_aload_n B dX8_tick_28 rfl 1 rfl ?_
  refine z_dup B dX8_tick_29 rfl ?_
  refine gf_X8_206 (x := 19) B (lKA (hk_K hK 0 rfl rfl)) (rI_at 0 8 rfl) dX8_tick_30 ?_
  refine z_iconst (v := 1) B dX8_tick_33 (by decide) ?_
  refine z_iadd B dX8_tick_34 ?_
  refine z_seti (y := 20) (by decide) ?_
  refine pf_X8_206 (x := 20) (σ' := (ap b σ [(0, 8, 20), (0, 8, 19), (0, 8, 18), (0, 8, 17), (0, 8, 16), (0, 8, 15), (0, 8, 14), (0, 8, 13), (0, 8, 12), (0, 8, 11), (0, 8, 10), (0, 8, 9), (0, 8, 8), (0, 8, 7), (0, 8, 6), (0, 8, 5), (0, 8, 4), (0, 8, 3), (0, 8, 2), (0, 8, 1)] [] [])) B (lKA (hk_K hK 0 rfl rfl)) wI_ap dX8_tick_35 ?_
  refine z_aload_n B dX8_tick_38 rfl 1 rfl ?_
  refine z_cVv (As := []) (rest := []) B cw_X8_240 cx_9 dX8_tick_39 (ci_X8_passTasks_920 l (σ := (ap b σ [(0, 8, 20), (0, 8, 19), (0, 8, 18), (0, 8, 17), (0, 8, 16), (0, 8, 15), (0, 8, 14), (0, 8, 13), (0, 8, 12), (0, 8, 11), (0, 8, 10), (0, 8, 9), (0, 8, 8), (0, 8, 7), (0, 8, 6), (0, 8, 5), (0, 8, 4), (0, 8, 3), (0, 8, 2), (0, 8, 1)] [] [])) (b := b) (lyA hK) (rI_at 4 2 hI_4_2) (rR_at 0 3 hR_0_3)) (lKA (hk_K hK 0 rfl rfl)) rfl (by decide) rfl (Nat.le_of_ble_eq_true rfl) (by decide) (fun u hu => ?_)
  refine z_eqs (σ' := (ap b σ [(0, 8, 20), (0, 8, 19), (0, 8, 18), (0, 8, 17), (0, 8, 16), (0, 8, 15), (0, 8, 14), (0, 8, 13), (0, 8, 12), (0, 8, 11), (0, 8, 10), (0, 8, 9), (0, 8, 8), (0, 8, 7), (0, 8, 6), (0, 8, 5), (0, 8, 4), (0, 8, 3), (0, 8, 2), (0, 8, 1)] [] [])) hu ?_
  show zx p l e _ s m _ below meth c g 3 0 0 _ _ 42 [(2, .int 19), (0, .ref (b + 0)), (1, .int 35)] _
  refine z_aload_n B dX8_tick_42 rfl 1 rfl ?_
  refine z_cVv (As := []) (rest := []) B cw_X8_243 cx_9 dX8_tick_43 (ci_X8_passTimers_921 l (σ := (ap b σ [(0, 8, 20), (0, 8, 19), (0, 8, 18), (0, 8, 17), (0, 8, 16), (0, 8, 15), (0, 8, 14), (0, 8, 13), (0, 8, 12), (0, 8, 11), (0, 8, 10), (0, 8, 9), (0, 8, 8), (0, 8, 7), (0, 8, 6), (0, 8, 5), (0, 8, 4), (0, 8, 3), (0, 8, 2), (0, 8, 1)] [] [])) (b := b) (lyA hK) (rI_at 0 7 hI_0_7)) (lKA (hk_K hK 0 rfl rfl)) rfl (by decide) rfl (Nat.le_of_ble_eq_true rfl) (by decide) (fun u hu => ?_)
  refine z_eqs (σ' := (ap b σ [(0, 8, 20), (0, 8, 19), (0, 8, 18), (0, 8, 17), (0, 8, 16), (0, 8, 15), (0, 8, 14), (0, 8, 13), (0, 8, 12), (0, 8, 11), (0, 8, 10), (0, 8, 9), (0, 8, 8), (0, 8, 7), (0, 8, 6), (0, 8, 5), (0, 8, 4), (0, 8, 3), (0, 8, 2), (0, 8, 1)] [] [])) hu ?_
  show zx p l e _ s m _ below meth c g 3 0 0 _ _ 46 [(2, .int 19), (0, .ref (b + 0)), (1, .int 35)] _
  refine z_iinc (v := 20) (lv' := [(2, .int 20), (0, .ref (b + 0)), (1, .int 35)]) B dX8_tick_46 0 rfl (by decide) (by decide) rfl ?_
  refine z_goto (tgt := 23) B dX8_tick_49 (by decide) ?_
  refine z_iload_n B dX8_tick_23 rfl 0 rfl ?_
  refine z_iload_n B dX8_tick_24 rfl 2 rfl ?_
  refine z_icmp_ge (tgt := 52) B dX8_tick_25 (by decide) (fun h => absurd h (by decide)) (fun _ => ?_)
  refine z_aload_n B dX8_tick_28 rfl 1 rfl ?_
  refine z_dup B dX8_tick_29 rfl ?_
  refine gf_X8_206 (x := 20) B (lKA (hk_K hK 0 rfl rfl)) (rI_at 0 8 rfl) dX8_tick_30 ?_
  refine z_iconst (v := 1) B dX8_tick_33 (by decide) ?_
  refine z_iadd B dX8_tick_34 ?_
  refine z_seti (y := 21) (by decide) ?_
  refine pf_X8_206 (x := 21) (σ' := (ap b σ [(0, 8, 21), (0, 8, 20), (0, 8, 19), (0, 8, 18), (0, 8, 17), (0, 8, 16), (0, 8, 15), (0, 8, 14), (0, 8, 13), (0, 8, 12), (0, 8, 11), (0, 8, 10), (0, 8, 9), (0, 8, 8), (0, 8, 7), (0, 8, 6), (0, 8, 5), (0, 8, 4), (0, 8, 3), (0, 8, 2), (0, 8, 1)] [] [])) B (lKA (hk_K hK 0 rfl rfl)) wI_ap dX8_tick_35 ?_
  refine z_aload_n B dX8_tick_38 rfl 1 rfl ?_
  refine z_cVv (As := []) (rest := []) B cw_X8_240 cx_9 dX8_tick_39 (ci_X8_passTasks_920 l (σ := (ap b σ [(0, 8, 21), (0, 8, 20), (0, 8, 19), (0, 8, 18), (0, 8, 17), (0, 8, 16), (0, 8, 15), (0, 8, 14), (0, 8, 13), (0, 8, 12), (0, 8, 11), (0, 8, 10), (0, 8, 9), (0, 8, 8), (0, 8, 7), (0, 8, 6), (0, 8, 5), (0, 8, 4), (0, 8, 3), (0, 8, 2), (0, 8, 1)] [] [])) (b := b) (lyA hK) (rI_at 4 2 hI_4_2) (rR_at 0 3 hR_0_3)) (lKA (hk_K hK 0 rfl rfl)) rfl (by decide) rfl (Nat.le_of_ble_eq_true rfl) (by decide) (fun u hu => ?_)
  refine z_eqs (σ' := (ap b σ [(0, 8, 21), (0, 8, 20), (0, 8, 19), (0, 8, 18), (0, 8, 17), (0, 8, 16), (0, 8, 15), (0, 8, 14), (0, 8, 13), (0, 8, 12), (0, 8, 11), (0, 8, 10), (0, 8, 9), (0, 8, 8), (0, 8, 7), (0, 8, 6), (0, 8, 5), (0, 8, 4), (0, 8, 3), (0, 8, 2), (0, 8, 1)] [] [])) hu ?_
  show zx p l e _ s m _ below meth c g 3 0 0 _ _ 42 [(2, .int 20), (0, .ref (b + 0)), (1, .int 35)] _
  refine z_aload_n B dX8_tick_42 rfl 1 rfl ?_
  refine z_cVv (As := []) (rest := []) B cw_X8_243 cx_9 dX8_tick_43 (ci_X8_passTimers_921 l (σ := (ap b σ [(0, 8, 21), (0, 8, 20), (0, 8, 19), (0, 8, 18), (0, 8, 17), (0, 8, 16), (0, 8, 15), (0, 8, 14), (0, 8, 13), (0, 8, 12), (0, 8, 11), (0, 8, 10), (0, 8, 9), (0, 8, 8), (0, 8, 7), (0, 8, 6), (0, 8, 5), (0, 8, 4), (0, 8, 3), (0, 8, 2), (0, 8, 1)] [] [])) (b := b) (lyA hK) (rI_at 0 7 hI_0_7)) (lKA (hk_K hK 0 rfl rfl)) rfl (by decide) rfl (Nat.le_of_ble_eq_true rfl) (by decide) (fun u hu => ?_)
  refine z_eqs (σ' := (ap b σ [(0, 8, 21), (0, 8, 20), (0, 8, 19), (0, 8, 18), (0, 8, 17), (0, 8, 16), (0, 8, 15), (0, 8, 14), (0, 8, 13), (0, 8, 12), (0, 8, 11), (0, 8, 10), (0, 8, 9), (0, 8, 8), (0, 8, 7), (0, 8, 6), (0, 8, 5), (0, 8, 4), (0, 8, 3), (0, 8, 2), (0, 8, 1)] [] [])) hu ?_
  show zx p l e _ s m _ below meth c g 3 0 0 _ _ 46 [(2, .int 20), (0, .ref (b + 0)), (1, .int 35)] _
  refine z_iinc (v := 21) (lv' := [(2, .int 21), (0, .ref (b + 0)), (1, .int 35)]) B dX8_tick_46 0 rfl (by decide) (by decide) rfl ?_
  refine z_goto (tgt := 23) B dX8_tick_49 (by decide) ?_
  refine z_iload_n B dX8_tick_23 rfl 0 rfl ?_
  refine z_iload_n B dX8_tick_24 rfl 2 rfl ?_
  refine z_icmp_ge (tgt := 52) B dX8_tick_25 (by decide) (fun h => absurd h (by decide)) (fun _ => ?_)
  refine z_aload_n B dX8_tick_28 rfl 1 rfl ?_
  refine z_dup B dX8_tick_29 rfl ?_
  refine gf_X8_206 (x := 21) B (lKA (hk_K hK 0 rfl rfl)) (rI_at 0 8 rfl) dX8_tick_30 ?_
  refine z_iconst (v := 1) B dX8_tick_33 (by decide) ?_
  refine z_iadd B dX8_tick_34 ?_
  refine z_seti (y := 22) (by decide) ?_
  refine pf_X8_206 (x := 22) (σ' := (ap b σ [(0, 8, 22), (0, 8, 21), (0, 8, 20), (0, 8, 19), (0, 8, 18), (0, 8, 17), (0, 8, 16), (0, 8, 15), (0, 8, 14), (0, 8, 13), (0, 8, 12), (0, 8, 11), (0, 8, 10), (0, 8, 9), (0, 8, 8), (0, 8, 7), (0, 8, 6), (0, 8, 5), (0, 8, 4), (0, 8, 3), (0, 8, 2), (0, 8, 1)] [] [])) B (lKA (hk_K hK 0 rfl rfl)) wI_ap dX8_tick_35 ?_
  refine z_aload_n B dX8_tick_38 rfl 1 rfl ?_
  refine z_cVv (As := []) (rest := []) B cw_X8_240 cx_9 dX8_tick_39 (ci_X8_passTasks_920 l (σ := (ap b σ [(0, 8, 22), (0, 8, 21), (0, 8, 20), (0, 8, 19), (0, 8, 18), (0, 8, 17), (0, 8, 16), (0, 8, 15), (0, 8, 14), (0, 8, 13), (0, 8, 12), (0, 8, 11), (0, 8, 10), (0, 8, 9), (0, 8, 8), (0, 8, 7), (0, 8, 6), (0, 8, 5), (0, 8, 4), (0, 8, 3), (0, 8, 2), (0, 8, 1)] [] [])) (b := b) (lyA hK) (rI_at 4 2 hI_4_2) (rR_at 0 3 hR_0_3)) (lKA (hk_K hK 0 rfl rfl)) rfl (by decide) rfl (Nat.le_of_ble_eq_true rfl) (by decide) (fun u hu => ?_)
  refine z_eqs (σ' := (ap b σ [(0, 8, 22), (0, 8, 21), (0, 8, 20), (0, 8, 19), (0, 8, 18), (0, 8, 17), (0, 8, 16), (0, 8, 15), (0, 8, 14), (0, 8, 13), (0, 8, 12), (0, 8, 11), (0, 8, 10), (0, 8, 9), (0, 8, 8), (0, 8, 7), (0, 8, 6), (0, 8, 5), (0, 8, 4), (0, 8, 3), (0, 8, 2), (0, 8, 1)] [] [])) hu ?_
  show zx p l e _ s m _ below meth c g 3 0 0 _ _ 42 [(2, .int 21), (0, .ref (b + 0)), (1, .int 35)] _
  refine z_aload_n B dX8_tick_42 rfl 1 rfl ?_
  refine z_cVv (As := []) (rest := []) B cw_X8_243 cx_9 dX8_tick_43 (ci_X8_passTimers_921 l (σ := (ap b σ [(0, 8, 22), (0, 8, 21), (0, 8, 20), (0, 8, 19), (0, 8, 18), (0, 8, 17), (0, 8, 16), (0, 8, 15), (0, 8, 14), (0, 8, 13), (0, 8, 12), (0, 8, 11), (0, 8, 10), (0, 8, 9), (0, 8, 8), (0, 8, 7), (0, 8, 6), (0, 8, 5), (0, 8, 4), (0, 8, 3), (0, 8, 2), (0, 8, 1)] [] [])) (b := b) (lyA hK) (rI_at 0 7 hI_0_7)) (lKA (hk_K hK 0 rfl rfl)) rfl (by decide) rfl (Nat.le_of_ble_eq_true rfl) (by decide) (fun u hu => ?_)
  refine z_eqs (σ' := (ap b σ [(0, 8, 22), (0, 8, 21), (0, 8, 20), (0, 8, 19), (0, 8, 18), (0, 8, 17), (0, 8, 16), (0, 8, 15), (0, 8, 14), (0, 8, 13), (0, 8, 12), (0, 8, 11), (0, 8, 10), (0, 8, 9), (0, 8, 8), (0, 8, 7), (0, 8, 6), (0, 8, 5), (0, 8, 4), (0, 8, 3), (0, 8, 2), (0, 8, 1)] [] [])) hu ?_
  show zx p l e _ s m _ below meth c g 3 0 0 _ _ 46 [(2, .int 21), (0, .ref (b + 0)), (1, .int 35)] _
  refine z_iinc (v := 22) (lv' := [(2, .int 22), (0, .ref (b + 0)), (1, .int 35)]) B dX8_tick_46 0 rfl (by decide) (by decide) rfl ?_
  refine z_goto (tgt := 23) B dX8_tick_49 (by decide) ?_
  refine z_iload_n B dX8_tick_23 rfl 0 rfl ?_
  refine z_iload_n B dX8_tick_24 rfl 2 rfl ?_
  refine z_icmp_ge (tgt := 52) B dX8_tick_25 (by decide) (fun h => absurd h (by decide)) (fun _ => ?_)
  refine z_aload_n B dX8_tick_28 rfl 1 rfl ?_
  refine z_dup B dX8_tick_29 rfl ?_
  refine gf_X8_206 (x := 22) B (lKA (hk_K hK 0 rfl rfl)) (rI_at 0 8 rfl) dX8_tick_30 ?_
  refine z_iconst (v := 1) B dX8_tick_33 (by decide) ?_
  refine z_iadd B dX8_tick_34 ?_
  refine z_seti (y := 23) (by decide) ?_
  refine pf_X8_206 (x := 23) (σ' := (ap b σ [(0, 8, 23), (0, 8, 22), (0, 8, 21), (0, 8, 20), (0, 8, 19), (0, 8, 18), (0, 8, 17), (0, 8, 16), (0, 8, 15), (0, 8, 14), (0, 8, 13), (0, 8, 12), (0, 8, 11), (0, 8, 10), (0, 8, 9), (0, 8, 8), (0, 8, 7), (0, 8, 6), (0, 8, 5), (0, 8, 4), (0, 8, 3), (0, 8, 2), (0, 8, 1)] [] [])) B (lKA (hk_K hK 0 rfl rfl)) wI_ap dX8_tick_35 ?_
  refine z_aload_n B dX8_tick_38 rfl 1 rfl ?_
  refine z_cVv (As := []) (rest := []) B cw_X8_240 cx_9 dX8_tick_39 (ci_X8_passTasks_920 l (σ := (ap b σ [(0, 8, 23), (0, 8, 22), (0, 8, 21), (0, 8, 20), (0, 8, 19), (0, 8, 18), (0, 8, 17), (0, 8, 16), (0, 8, 15), (0, 8, 14), (0, 8, 13), (0, 8, 12), (0, 8, 11), (0, 8, 10), (0, 8, 9), (0, 8, 8), (0, 8, 7), (0, 8, 6), (0, 8, 5), (0, 8, 4), (0, 8, 3), (0, 8, 2), (0, 8, 1)] [] [])) (b := b) (lyA hK) (rI_at 4 2 hI_4_2) (rR_at 0 3 hR_0_3)) (lKA (hk_K hK 0 rfl rfl)) rfl (by decide) rfl (Nat.le_of_ble_eq_true rfl) (by decide) (fun u hu => ?_)
  refine z_eqs (σ' := (ap b σ [(0, 8, 23), (0, 8, 22), (0, 8, 21), (0, 8, 20), (0, 8, 19), (0, 8, 18), (0, 8, 17), (0, 8, 16), (0, 8, 15), (0, 8, 14), (0, 8, 13), (0, 8, 12), (0, 8, 11), (0, 8, 10), (0, 8, 9), (0, 8, 8), (0, 8, 7), (0, 8, 6), (0, 8, 5), (0, 8, 4), (0, 8, 3), (0, 8, 2), (0, 8, 1)] [] [])) hu ?_
  show zx p l e _ s m _ below meth c g 3 0 0 _ _ 42 [(2, .int 22), (0, .ref (b + 0)), (1, .int 35)] _
  refine z_aload_n B dX8_tick_42 rfl 1 rfl ?_
  refine z_cVv (As := []) (rest := []) B cw_X8_243 cx_9 dX8_tick_43 (ci_X8_passTimers_921 l (σ := (ap b σ [(0, 8, 23), (0, 8, 22), (0, 8, 21), (0, 8, 20), (0, 8, 19), (0, 8, 18), (0, 8, 17), (0, 8, 16), (0, 8, 15), (0, 8, 14), (0, 8, 13), (0, 8, 12), (0, 8, 11), (0, 8, 10), (0, 8, 9), (0, 8, 8), (0, 8, 7), (0, 8, 6), (0, 8, 5), (0, 8, 4), (0, 8, 3), (0, 8, 2), (0, 8, 1)] [] [])) (b := b) (lyA hK) (rI_at 0 7 hI_0_7)) (lKA (hk_K hK 0 rfl rfl)) rfl (by decide) rfl (Nat.le_of_ble_eq_true rfl) (by decide) (fun u hu => ?_)
  refine z_eqs (σ' := (ap b σ [(0, 8, 23), (0, 8, 22), (0, 8, 21), (0, 8, 20), (0, 8, 19), (0, 8, 18), (0, 8, 17), (0, 8, 16), (0, 8, 15), (0, 8, 14), (0, 8, 13), (0, 8, 12), (0, 8, 11), (0, 8, 10), (0, 8, 9), (0, 8, 8), (0, 8, 7), (0, 8, 6), (0, 8, 5), (0, 8, 4), (0, 8, 3), (0, 8, 2), (0, 8, 1)] [] [])) hu ?_
  show zx p l e _ s m _ below meth c g 3 0 0 _ _ 46 [(2, .int 22), (0, .ref (b + 0)), (1, .int 35)] _
  refine z_iinc (v := 23) (lv' := [(2, .int 23), (0, .ref (b + 0)), (1, .int 35)]) B dX8_tick_46 0 rfl (by decide) (by decide) rfl ?_
  refine z_goto (tgt := 23) B dX8_tick_49 (by decide) ?_
  refine z_iload_n B dX8_tick_23 rfl 0 rfl ?_
  refine z_iload_n B dX8_tick_24 rfl 2 rfl ?_
  refine z_icmp_ge (tgt := 52) B dX8_tick_25 (by decide) (fun h => absurd h (by decide)) (fun _ => ?_)
  refine z_aload_n B dX8_tick_28 rfl 1 rfl ?_
  refine z_dup B dX8_tick_29 rfl ?_
  refine gf_X8_206 (x := 23) B (lKA (hk_K hK 0 rfl rfl)) (rI_at 0 8 rfl) dX8_tick_30 ?_
  refine z_iconst (v := 1) B dX8_tick_33 (by decide) ?_
  refine z_iadd B dX8_tick_34 ?_
  refine z_seti (y := 24) (by decide) ?_
  refine pf_X8_206 (x := 24) (σ' := (ap b σ [(0, 8, 24), (0, 8, 23), (0, 8, 22), (0, 8, 21), (0, 8, 20), (0, 8, 19), (0, 8, 18), (0, 8, 17), (0, 8, 16), (0, 8, 15), (0, 8, 14), (0, 8, 13), (0, 8, 12), (0, 8, 11), (0, 8, 10), (0, 8, 9), (0, 8, 8), (0, 8, 7), (0, 8, 6), (0, 8, 5), (0, 8, 4), (0, 8, 3), (0, 8, 2), (0, 8, 1)] [] [])) B (lKA (hk_K hK 0 rfl rfl)) wI_ap dX8_tick_35 ?_
  refine z_aload_n B dX8_tick_38 rfl 1 rfl ?_
  refine z_cVv (As := []) (rest := []) B cw_X8_240 cx_9 dX8_tick_39 (ci_X8_passTasks_920 l (σ := (ap b σ [(0, 8, 24), (0, 8, 23), (0, 8, 22), (0, 8, 21), (0, 8, 20), (0, 8, 19), (0, 8, 18), (0, 8, 17), (0, 8, 16), (0, 8, 15), (0, 8, 14), (0, 8, 13), (0, 8, 12), (0, 8, 11), (0, 8, 10), (0, 8, 9), (0, 8, 8), (0, 8, 7), (0, 8, 6), (0, 8, 5), (0, 8, 4), (0, 8, 3), (0, 8, 2), (0, 8, 1)] [] [])) (b := b) (lyA hK) (rI_at 4 2 hI_4_2) (rR_at 0 3 hR_0_3)) (lKA (hk_K hK 0 rfl rfl)) rfl (by decide) rfl (Nat.le_of_ble_eq_true rfl) (by decide) (fun u hu => ?_)
  refine z_eqs (σ' := (ap b σ [(0, 8, 24), (0, 8, 23), (0, 8, 22), (0, 8, 21), (0, 8, 20), (0, 8, 19), (0, 8, 18), (0, 8, 17), (0, 8, 16), (0, 8, 15), (0, 8, 14), (0, 8, 13), (0, 8, 12), (0, 8, 11), (0, 8, 10), (0, 8, 9), (0, 8, 8), (0, 8, 7), (0, 8, 6), (0, 8, 5), (0, 8, 4), (0, 8, 3), (0, 8, 2), (0, 8, 1)] [] [])) hu ?_
  show zx p l e _ s m _ below meth c g 3 0 0 _ _ 42 [(2, .int 23), (0, .ref (b + 0)), (1, .int 35)] _
  refine z_aload_n B dX8_tick_42 rfl 1 rfl ?_
  refine z_cVv (As := []) (rest := []) B cw_X8_243 cx_9 dX8_tick_43 (ci_X8_passTimers_921 l (σ := (ap b σ [(0, 8, 24), (0, 8, 23), (0, 8, 22), (0, 8, 21), (0, 8, 20), (0, 8, 19), (0, 8, 18), (0, 8, 17), (0, 8, 16), (0, 8, 15), (0, 8, 14), (0, 8, 13), (0, 8, 12), (0, 8, 11), (0, 8, 10), (0, 8, 9), (0, 8, 8), (0, 8, 7), (0, 8, 6), (0, 8, 5), (0, 8, 4), (0, 8, 3), (0, 8, 2), (0, 8, 1)] [] [])) (b := b) (lyA hK) (rI_at 0 7 hI_0_7)) (lKA (hk_K hK 0 rfl rfl)) rfl (by decide) rfl (Nat.le_of_ble_eq_true rfl) (by decide) (fun u hu => ?_)
  refine z_eqs (σ' := (ap b σ [(0, 8, 24), (0, 8, 23), (0, 8, 22), (0, 8, 21), (0, 8, 20), (0, 8, 19), (0, 8, 18), (0, 8, 17), (0, 8, 16), (0, 8, 15), (0, 8, 14), (0, 8, 13), (0, 8, 12), (0, 8, 11), (0, 8, 10), (0, 8, 9), (0, 8, 8), (0, 8, 7), (0, 8, 6), (0, 8, 5), (0, 8, 4), (0, 8, 3), (0, 8, 2), (0, 8, 1)] [] [])) hu ?_
  show zx p l e _ s m _ below meth c g 3 0 0 _ _ 46 [(2, .int 23), (0, .ref (b + 0)), (1, .int 35)] _
  refine z_iinc (v := 24) (lv' := [(2, .int 24), (0, .ref (b + 0)), (1, .int 35)]) B dX8_tick_46 0 rfl (by decide) (by decide) rfl ?_
  refine z_goto (tgt := 23) B dX8_tick_49 (by decide) ?_
  refine z_iload_n B dX8_tick_23 rfl 0 rfl ?_
  refine z_iload_n B dX8_tick_24 rfl 2 rfl ?_
  refine z_icmp_ge (tgt := 52) B dX8_tick_25 (by decide) (fun h => absurd h (by decide)) (fun _ => ?_)
  refine z_aload_n B dX8_tick_28 rfl 1 rfl ?_
  refine z_dup B dX8_tick_29 rfl ?_
  refine gf_X8_206 (x := 24) B (lKA (hk_K hK 0 rfl rfl)) (rI_at 0 8 rfl) dX8_tick_30 ?_
  refine z_iconst (v := 1) B dX8_tick_33 (by decide) ?_
  refine z_iadd B dX8_tick_34 ?_
  refine z_seti (y := 25) (by decide) ?_
  refine pf_X8_206 (x := 25) (σ' := (ap b σ [(0, 8, 25), (0, 8, 24), (0, 8, 23), (0, 8, 22), (0, 8, 21), (0, 8, 20), (0, 8, 19), (0, 8, 18), (0, 8, 17), (0, 8, 16), (0, 8, 15), (0, 8, 14), (0, 8, 13), (0, 8, 12), (0, 8, 11), (0, 8, 10), (0, 8, 9), (0, 8, 8), (0, 8, 7), (0, 8, 6), (0, 8, 5), (0, 8, 4), (0, 8, 3), (0, 8, 2), (0, 8, 1)] [] [])) B (lKA (hk_K hK 0 rfl rfl)) wI_ap dX8_tick_35 ?_
  refine z_aload_n B dX8_tick_38 rfl 1 rfl ?_
  refine z_cVv (As := []) (rest := []) B cw_X8_240 cx_9 dX8_tick_39 (ci_X8_passTasks_920 l (σ := (ap b σ [(0, 8, 25), (0, 8, 24), (0, 8, 23), (0, 8, 22), (0, 8, 21), (0, 8, 20), (0, 8, 19), (0, 8, 18), (0, 8, 17), (0, 8, 16), (0, 8, 15), (0, 8, 14), (0, 8, 13), (0, 8, 12), (0, 8, 11), (0, 8, 10), (0, 8, 9), (0, 8, 8), (0, 8, 7), (0, 8, 6), (0, 8, 5), (0, 8, 4), (0, 8, 3), (0, 8, 2), (0, 8, 1)] [] [])) (b := b) (lyA hK) (rI_at 4 2 hI_4_2) (rR_at 0 3 hR_0_3)) (lKA (hk_K hK 0 rfl rfl)) rfl (by decide) rfl (Nat.le_of_ble_eq_true rfl) (by decide) (fun u hu => ?_)
  refine z_eqs (σ' := (ap b σ [(0, 8, 25), (0, 8, 24), (0, 8, 23), (0, 8, 22), (0, 8, 21), (0, 8, 20), (0, 8, 19), (0, 8, 18), (0, 8, 17), (0, 8, 16), (0, 8, 15), (0, 8, 14), (0, 8, 13), (0, 8, 12), (0, 8, 11), (0, 8, 10), (0, 8, 9), (0, 8, 8), (0, 8, 7), (0, 8, 6), (0, 8, 5), (0, 8, 4), (0, 8, 3), (0, 8, 2), (0, 8, 1)] [] [])) hu ?_
  show zx p l e _ s m _ below meth c g 3 0 0 _ _ 42 [(2, .int 24), (0, .ref (b + 0)), (1, .int 35)] _
  refine z_aload_n B dX8_tick_42 rfl 1 rfl ?_
  refine z_cVv (As := []) (rest := []) B cw_X8_243 cx_9 dX8_tick_43 (ci_X8_passTimers_921 l (σ := (ap b σ [(0, 8, 25), (0, 8, 24), (0, 8, 23), (0, 8, 22), (0, 8, 21), (0, 8, 20), (0, 8, 19), (0, 8, 18), (0, 8, 17), (0, 8, 16), (0, 8, 15), (0, 8, 14), (0, 8, 13), (0, 8, 12), (0, 8, 11), (0, 8, 10), (0, 8, 9), (0, 8, 8), (0, 8, 7), (0, 8, 6), (0, 8, 5), (0, 8, 4), (0, 8, 3), (0, 8, 2), (0, 8, 1)] [] [])) (b := b) (lyA hK) (rI_at 0 7 hI_0_7)) (lKA (hk_K hK 0 rfl rfl)) rfl (by decide) rfl (Nat.le_of_ble_eq_true rfl) (by decide) (fun u hu => ?_)
  refine z_eqs (σ' := (ap b σ [(0, 8, 25), (0, 8, 24), (0, 8, 23), (0, 8, 22), (0, 8, 21), (0, 8, 20), (0, 8, 19), (0, 8, 18), (0, 8, 17), (0, 8, 16), (0, 8, 15), (0, 8, 14), (0, 8, 13), (0, 8, 12), (0, 8, 11), (0, 8, 10), (0, 8, 9), (0, 8, 8), (0, 8, 7), (0, 8, 6), (0, 8, 5), (0, 8, 4), (0, 8, 3), (0, 8, 2), (0, 8, 1)] [] [])) hu ?_
  show zx p l e _ s m _ below meth c g 3 0 0 _ _ 46 [(2, .int 24), (0, .ref (b + 0)), (1, .int 35)] _
  refine z_iinc (v := 25) (lv' := [(2, .int 25), (0, .ref (b + 0)), (1, .int 35)]) B dX8_tick_46 0 rfl (by decide) (by decide) rfl ?_
  refine z_goto (tgt := 23) B dX8_tick_49 (by decide) ?_
  refine z_iload_n B dX8_tick_23 rfl 0 rfl ?_
  refine z_iload_n B dX8_tick_24 rfl 2 rfl ?_
  refine z_icmp_ge (tgt := 52) B dX8_tick_25 (by decide) (fun h => absurd h (by decide)) (fun _ => ?_)
  refine z_aload_n B dX8_tick_28 rfl 1 rfl ?_
  refine z_dup B dX8_tick_29 rfl ?_
  refine gf_X8_206 (x := 25) B (lKA (hk_K hK 0 rfl rfl)) (rI_at 0 8 rfl) dX8_tick_30 ?_
  refine z_iconst (v := 1) B dX8_tick_33 (by decide) ?_
  refine z_iadd B dX8_tick_34 ?_
  refine z_seti (y := 26) (by decide) ?_
  refine pf_X8_206 (x := 26) (σ' := (ap b σ [(0, 8, 26), (0, 8, 25), (0, 8, 24), (0, 8, 23), (0, 8, 22), (0, 8, 21), (0, 8, 20), (0, 8, 19), (0, 8, 18), (0, 8, 17), (0, 8, 16), (0, 8, 15), (0, 8, 14), (0, 8, 13), (0, 8, 12), (0, 8, 11), (0, 8, 10), (0, 8, 9), (0, 8, 8), (0, 8, 7), (0, 8, 6), (0, 8, 5), (0, 8, 4), (0, 8, 3), (0, 8, 2), (0, 8, 1)] [] [])) B (lKA (hk_K hK 0 rfl rfl)) wI_ap dX8_tick_35 ?_
  refine z_aload_n B dX8_tick_38 rfl 1 rfl ?_
  refine z_cVv (As := []) (rest := []) B cw_X8_240 cx_9 dX8_tick_39 (ci_X8_passTasks_920 l (σ := (ap b σ [(0, 8, 26), (0, 8, 25), (0, 8, 24), (0, 8, 23), (0, 8, 22), (0, 8, 21), (0, 8, 20), (0, 8, 19), (0, 8, 18), (0, 8, 17), (0, 8, 16), (0, 8, 15), (0, 8, 14), (0, 8, 13), (0, 8, 12), (0, 8, 11), (0, 8, 10), (0, 8, 9), (0, 8, 8), (0, 8, 7), (0, 8, 6), (0, 8, 5), (0, 8, 4), (0, 8, 3), (0, 8, 2), (0, 8, 1)] [] [])) (b := b) (lyA hK) (rI_at 4 2 hI_4_2) (rR_at 0 3 hR_0_3)) (lKA (hk_K hK 0 rfl rfl)) rfl (by decide) rfl (Nat.le_of_ble_eq_true rfl) (by decide) (fun u hu => ?_)
  refine z_eqs (σ' := (ap b σ [(0, 8, 26), (0, 8, 25), (0, 8, 24), (0, 8, 23), (0, 8, 22), (0, 8, 21), (0, 8, 20), (0, 8, 19), (0, 8, 18), (0, 8, 17), (0, 8, 16), (0, 8, 15), (0, 8, 14), (0, 8, 13), (0, 8, 12), (0, 8, 11), (0, 8, 10), (0, 8, 9), (0, 8, 8), (0, 8, 7), (0, 8, 6), (0, 8, 5), (0, 8, 4), (0, 8, 3), (0, 8, 2), (0, 8, 1)] [] [])) hu ?_
  show zx p l e _ s m _ below meth c g 3 0 0 _ _ 42 [(2, .int 25), (0, .ref (b + 0)), (1, .int 35)] _
  refine z_aload_n B dX8_tick_42 rfl 1 rfl ?_
  refine z_cVv (As := []) (rest := []) B cw_X8_243 cx_9 dX8_tick_43 (ci_X8_passTimers_921 l (σ := (ap b σ [(0, 8, 26), (0, 8, 25), (0, 8, 24), (0, 8, 23), (0, 8, 22), (0, 8, 21), (0, 8, 20), (0, 8, 19), (0, 8, 18), (0, 8, 17), (0, 8, 16), (0, 8, 15), (0, 8, 14), (0, 8, 13), (0, 8, 12), (0, 8, 11), (0, 8, 10), (0, 8, 9), (0, 8, 8), (0, 8, 7), (0, 8, 6), (0, 8, 5), (0, 8, 4), (0, 8, 3), (0, 8, 2), (0, 8, 1)] [] [])) (b := b) (lyA hK) (rI_at 0 7 hI_0_7)) (lKA (hk_K hK 0 rfl rfl)) rfl (by decide) rfl (Nat.le_of_ble_eq_true rfl) (by decide) (fun u hu => ?_)
  refine z_eqs (σ' := (ap b σ [(0, 8, 26), (0, 8, 25), (0, 8, 24), (0, 8, 23), (0, 8, 22), (0, 8, 21), (0, 8, 20), (0, 8, 19), (0, 8, 18), (0, 8, 17), (0, 8, 16), (0, 8, 15), (0, 8, 14), (0, 8, 13), (0, 8, 12), (0, 8, 11), (0, 8, 10), (0, 8, 9), (0, 8, 8), (0, 8, 7), (0, 8, 6), (0, 8, 5), (0, 8, 4), (0, 8, 3), (0, 8, 2), (0, 8, 1)] [] [])) hu ?_
  show zx p l e _ s m _ below meth c g 3 0 0 _ _ 46 [(2, .int 25), (0, .ref (b + 0)), (1, .int 35)] _
  refine z_iinc (v := 26) (lv' := [(2, .int 26), (0, .ref (b + 0)), (1, .int 35)]) B dX8_tick_46 0 rfl (by decide) (by decide) rfl ?_
  refine z_goto (tgt := 23) B dX8_tick_49 (by decide) ?_
  refine z_iload_n B dX8_tick_23 rfl 0 rfl ?_
  refine z_iload_n B dX8_tick_24 rfl 2 rfl ?_
  refine z_icmp_ge (tgt := 52) B dX8_tick_25 (by decide) (fun h => absurd h (by decide)) (fun _ => ?_)
  refine z_aload_n B dX8_tick_28 rfl 1 rfl ?_
  refine z_dup B dX8_tick_29 rfl ?_
  refine gf_X8_206 (x := 26) B (lKA (hk_K hK 0 rfl rfl)) (rI_at 0 8 rfl) dX8_tick_30 ?_
  refine z_iconst (v := 1) B dX8_tick_33 (by decide) ?_
  refine z_iadd B dX8_tick_34 ?_
  refine z_seti (y := 27) (by decide) ?_
  refine pf_X8_206 (x := 27) (σ' := (ap b σ [(0, 8, 27), (0, 8, 26), (0, 8, 25), (0, 8, 24), (0, 8, 23), (0, 8, 22), (0, 8, 21), (0, 8, 20), (0, 8, 19), (0, 8, 18), (0, 8, 17), (0, 8, 16), (0, 8, 15), (0, 8, 14), (0, 8, 13), (0, 8, 12), (0, 8, 11), (0, 8, 10), (0, 8, 9), (0, 8, 8), (0, 8, 7), (0, 8, 6), (0, 8, 5), (0, 8, 4), (0, 8, 3), (0, 8, 2), (0, 8, 1)] [] [])) B (lKA (hk_K hK 0 rfl rfl)) wI_ap dX8_tick_35 ?_
  refine z_aload_n B dX8_tick_38 rfl 1 rfl ?_
  refine z_cVv (As := []) (rest := []) B cw_X8_240 cx_9 dX8_tick_39 (ci_X8_passTasks_920 l (σ := (ap b σ [(0, 8, 27), (0, 8, 26), (0, 8, 25), (0, 8, 24), (0, 8, 23), (0, 8, 22), (0, 8, 21), (0, 8, 20), (0, 8, 19), (0, 8, 18), (0, 8, 17), (0, 8, 16), (0, 8, 15), (0, 8, 14), (0, 8, 13), (0, 8, 12), (0, 8, 11), (0, 8, 10), (0, 8, 9), (0, 8, 8), (0, 8, 7), (0, 8, 6), (0, 8, 5), (0, 8, 4), (0, 8, 3), (0, 8, 2), (0, 8, 1)] [] [])) (b := b) (lyA hK) (rI_at 4 2 hI_4_2) (rR_at 0 3 hR_0_3)) (lKA (hk_K hK 0 rfl rfl)) rfl (by decide) rfl (Nat.le_of_ble_eq_true rfl) (by decide) (fun u hu => ?_)
  refine z_eqs (σ' := (ap b σ [(0, 8, 27), (0, 8, 26), (0, 8, 25), (0, 8, 24), (0, 8, 23), (0, 8, 22), (0, 8, 21), (0, 8, 20), (0, 8, 19), (0, 8, 18), (0, 8, 17), (0, 8, 16), (0, 8, 15), (0, 8, 14), (0, 8, 13), (0, 8, 12), (0, 8, 11), (0, 8, 10), (0, 8, 9), (0, 8, 8), (0, 8, 7), (0, 8, 6), (0, 8, 5), (0, 8, 4), (0, 8, 3), (0, 8, 2), (0, 8, 1)] [] [])) hu ?_
  show zx p l e _ s m _ below meth c g 3 0 0 _ _ 42 [(2, .int 26), (0, .ref (b + 0)), (1, .int 35)] _
  refine z_aload_n B dX8_tick_42 rfl 1 rfl ?_
  refine z_cVv (As := []) (rest := []) B cw_X8_243 cx_9 dX8_tick_43 (ci_X8_passTimers_921 l (σ := (ap b σ [(0, 8, 27), (0, 8, 26), (0, 8, 25), (0, 8, 24), (0, 8, 23), (0, 8, 22), (0, 8, 21), (0, 8, 20), (0, 8, 19), (0, 8, 18), (0, 8, 17), (0, 8, 16), (0, 8, 15), (0, 8, 14), (0, 8, 13), (0, 8, 12), (0, 8, 11), (0, 8, 10), (0, 8, 9), (0, 8, 8), (0, 8, 7), (0, 8, 6), (0, 8, 5), (0, 8, 4), (0, 8, 3), (0, 8, 2), (0, 8, 1)] [] [])) (b := b) (lyA hK) (rI_at 0 7 hI_0_7)) (lKA (hk_K hK 0 rfl rfl)) rfl (by decide) rfl (Nat.le_of_ble_eq_true rfl) (by decide) (fun u hu => ?_)
  refine z_eqs (σ' := (ap b σ [(0, 8, 27), (0, 8, 26), (0, 8, 25), (0, 8, 24), (0, 8, 23), (0, 8, 22), (0, 8, 21), (0, 8, 20), (0, 8, 19), (0, 8, 18), (0, 8, 17), (0, 8, 16), (0, 8, 15), (0, 8, 14), (0, 8, 13), (0, 8, 12), (0, 8, 11), (0, 8, 10), (0, 8, 9), (0, 8, 8), (0, 8, 7), (0, 8, 6), (0, 8, 5), (0, 8, 4), (0, 8, 3), (0, 8, 2), (0, 8, 1)] [] [])) hu ?_
  show zx p l e _ s m _ below meth c g 3 0 0 _ _ 46 [(2, .int 26), (0, .ref (b + 0)), (1, .int 35)] _
  refine z_iinc (v := 27) (lv' := [(2, .int 27), (0, .ref (b + 0)), (1, .int 35)]) B dX8_tick_46 0 rfl (by decide) (by decide) rfl ?_
  refine z_goto (tgt := 23) B dX8_tick_49 (by decide) ?_
  refine z_iload_n B dX8_tick_23 rfl 0 rfl ?_
  refine z_iload_n B dX8_tick_24 rfl 2 rfl ?_
  refine z_icmp_ge (tgt := 52) B dX8_tick_25 (by decide) (fun h => absurd h (by decide)) (fun _ => ?_)
  refine z_aload_n B dX8_tick_28 rfl 1 rfl ?_
  refine z_dup B dX8_tick_29 rfl ?_
  refine gf_X8_206 (x := 27) B (lKA (hk_K hK 0 rfl rfl)) (rI_at 0 8 rfl) dX8_tick_30 ?_
  refine z_iconst (v := 1) B dX8_tick_33 (by decide) ?_
  refine z_iadd B dX8_tick_34 ?_
  refine z_seti (y := 28) (by decide) ?_
  refine pf_X8_206 (x := 28) (σ' := (ap b σ [(0, 8, 28), (0, 8, 27), (0, 8, 26), (0, 8, 25), (0, 8, 24), (0, 8, 23), (0, 8, 22), (0, 8, 21), (0, 8, 20), (0, 8, 19), (0, 8, 18), (0, 8, 17), (0, 8, 16), (0, 8, 15), (0, 8, 14), (0, 8, 13), (0, 8, 12), (0, 8, 11), (0, 8, 10), (0, 8, 9), (0, 8, 8), (0, 8, 7), (0, 8, 6), (0, 8, 5), (0, 8, 4), (0, 8, 3), (0, 8, 2), (0, 8, 1)] [] [])) B (lKA (hk_K hK 0 rfl rfl)) wI_ap dX8_tick_35 ?_
  refine z_aload_n B dX8_tick_38 rfl 1 rfl ?_
  refine z_cVv (As := []) (rest := []) B cw_X8_240 cx_9 dX8_tick_39 (ci_X8_passTasks_920 l (σ := (ap b σ [(0, 8, 28), (0, 8, 27), (0, 8, 26), (0, 8, 25), (0, 8, 24), (0, 8, 23), (0, 8, 22), (0, 8, 21), (0, 8, 20), (0, 8, 19), (0, 8, 18), (0, 8, 17), (0, 8, 16), (0, 8, 15), (0, 8, 14), (0, 8, 13), (0, 8, 12), (0, 8, 11), (0, 8, 10), (0, 8, 9), (0, 8, 8), (0, 8, 7), (0, 8, 6), (0, 8, 5), (0, 8, 4), (0, 8, 3), (0, 8, 2), (0, 8, 1)] [] [])) (b := b) (lyA hK) (rI_at 4 2 hI_4_2) (rR_at 0 3 hR_0_3)) (lKA (hk_K hK 0 rfl rfl)) rfl (by decide) rfl (Nat.le_of_ble_eq_true rfl) (by decide) (fun u hu => ?_)
  refine z_eqs (σ' := (ap b σ [(0, 8, 28), (0, 8, 27), (0, 8, 26), (0, 8, 25), (0, 8, 24), (0, 8, 23), (0, 8, 22), (0, 8, 21), (0, 8, 20), (0, 8, 19), (0, 8, 18), (0, 8, 17), (0, 8, 16), (0, 8, 15), (0, 8, 14), (0, 8, 13), (0, 8, 12), (0, 8, 11), (0, 8, 10), (0, 8, 9), (0, 8, 8), (0, 8, 7), (0, 8, 6), (0, 8, 5), (0, 8, 4), (0, 8, 3), (0, 8, 2), (0, 8, 1)] [] [])) hu ?_
  show zx p l e _ s m _ below meth c g 3 0 0 _ _ 42 [(2, .int 27), (0, .ref (b + 0)), (1, .int 35)] _
  refine z_aload_n B dX8_tick_42 rfl 1 rfl ?_
  refine z_cVv (As := []) (rest := []) B cw_X8_243 cx_9 dX8_tick_43 (ci_X8_passTimers_921 l (σ := (ap b σ [(0, 8, 28), (0, 8, 27), (0, 8, 26), (0, 8, 25), (0, 8, 24), (0, 8, 23), (0, 8, 22), (0, 8, 21), (0, 8, 20), (0, 8, 19), (0, 8, 18), (0, 8, 17), (0, 8, 16), (0, 8, 15), (0, 8, 14), (0, 8, 13), (0, 8, 12), (0, 8, 11), (0, 8, 10), (0, 8, 9), (0, 8, 8), (0, 8, 7), (0, 8, 6), (0, 8, 5), (0, 8, 4), (0, 8, 3), (0, 8, 2), (0, 8, 1)] [] [])) (b := b) (lyA hK) (rI_at 0 7 hI_0_7)) (lKA (hk_K hK 0 rfl rfl)) rfl (by decide) rfl (Nat.le_of_ble_eq_true rfl) (by decide) (fun u hu => ?_)
  refine z_eqs (σ' := (ap b σ [(0, 8, 28), (0, 8, 27), (0, 8, 26), (0, 8, 25), (0, 8, 24), (0, 8, 23), (0, 8, 22), (0, 8, 21), (0, 8, 20), (0, 8, 19), (0, 8, 18), (0, 8, 17), (0, 8, 16), (0, 8, 15), (0, 8, 14), (0, 8, 13), (0, 8, 12), (0, 8, 11), (0, 8, 10), (0, 8, 9), (0, 8, 8), (0, 8, 7), (0, 8, 6), (0, 8, 5), (0, 8, 4), (0, 8, 3), (0, 8, 2), (0, 8, 1)] [] [])) hu ?_
  show zx p l e _ s m _ below meth c g 3 0 0 _ _ 46 [(2, .int 27), (0, .ref (b + 0)), (1, .int 35)] _
  refine z_iinc (v := 28) (lv' := [(2, .int 28), (0, .ref (b + 0)), (1, .int 35)]) B dX8_tick_46 0 rfl (by decide) (by decide) rfl ?_
  refine z_goto (tgt := 23) B dX8_tick_49 (by decide) ?_
  refine z_iload_n B dX8_tick_23 rfl 0 rfl ?_
  refine z_iload_n B dX8_tick_24 rfl 2 rfl ?_
  refine z_icmp_ge (tgt := 52) B dX8_tick_25 (by decide) (fun h => absurd h (by decide)) (fun _ => ?_)
  refine z_aload_n B dX8_tick_28 rfl 1 rfl ?_
  refine z_dup B dX8_tick_29 rfl ?_
  refine gf_X8_206 (x := 28) B (lKA (hk_K hK 0 rfl rfl)) (rI_at 0 8 rfl) dX8_tick_30 ?_
  refine z_iconst (v := 1) B dX8_tick_33 (by decide) ?_
  refine z_iadd B dX8_tick_34 ?_
  refine z_seti (y := 29) (by decide) ?_
  refine pf_X8_206 (x := 29) (σ' := (ap b σ [(0, 8, 29), (0, 8, 28), (0, 8, 27), (0, 8, 26), (0, 8, 25), (0, 8, 24), (0, 8, 23), (0, 8, 22), (0, 8, 21), (0, 8, 20), (0, 8, 19), (0, 8, 18), (0, 8, 17), (0, 8, 16), (0, 8, 15), (0, 8, 14), (0, 8, 13), (0, 8, 12), (0, 8, 11), (0, 8, 10), (0, 8, 9), (0, 8, 8), (0, 8, 7), (0, 8, 6), (0, 8, 5), (0, 8, 4), (0, 8, 3), (0, 8, 2), (0, 8, 1)] [] [])) B (lKA (hk_K hK 0 rfl rfl)) wI_ap dX8_tick_35 ?_
  refine z_aload_n B dX8_tick_38 rfl 1 rfl ?_
  refine z_cVv (As := []) (rest := []) B cw_X8_240 cx_9 dX8_tick_39 (ci_X8_passTasks_920 l (σ := (ap b σ [(0, 8, 29), (0, 8, 28), (0, 8, 27), (0, 8, 26), (0, 8, 25), (0, 8, 24), (0, 8, 23), (0, 8, 22), (0, 8, 21), (0, 8, 20), (0, 8, 19), (0, 8, 18), (0, 8, 17), (0, 8, 16), (0, 8, 15), (0, 8, 14), (0, 8, 13), (0, 8, 12), (0, 8, 11), (0, 8, 10), (0, 8, 9), (0, 8, 8), (0, 8, 7), (0, 8, 6), (0, 8, 5), (0, 8, 4), (0, 8, 3), (0, 8, 2), (0, 8, 1)] [] [])) (b := b) (lyA hK) (rI_at 4 2 hI_4_2) (rR_at 0 3 hR_0_3)) (lKA (hk_K hK 0 rfl rfl)) rfl (by decide) rfl (Nat.le_of_ble_eq_true rfl) (by decide) (fun u hu => ?_)
  refine z_eqs (σ' := (ap b σ [(0, 8, 29), (0, 8, 28), (0, 8, 27), (0, 8, 26), (0, 8, 25), (0, 8, 24), (0, 8, 23), (0, 8, 22), (0, 8, 21), (0, 8, 20), (0, 8, 19), (0, 8, 18), (0, 8, 17), (0, 8, 16), (0, 8, 15), (0, 8, 14), (0, 8, 13), (0, 8, 12), (0, 8, 11), (0, 8, 10), (0, 8, 9), (0, 8, 8), (0, 8, 7), (0, 8, 6), (0, 8, 5), (0, 8, 4), (0, 8, 3), (0, 8, 2), (0, 8, 1)] [] [])) hu ?_
  show zx p l e _ s m _ below meth c g 3 0 0 _ _ 42 [(2, .int 28), (0, .ref (b + 0)), (1, .int 35)] _
  refine z_aload_n B dX8_tick_42 rfl 1 rfl ?_
  refine z_cVv (As := []) (rest := []) B cw_X8_243 cx_9 dX8_tick_43 (ci_X8_passTimers_921 l (σ := (ap b σ [(0, 8, 29), (0, 8, 28), (0, 8, 27), (0, 8, 26), (0, 8, 25), (0, 8, 24), (0, 8, 23), (0, 8, 22), (0, 8, 21), (0, 8, 20), (0, 8, 19), (0, 8, 18), (0, 8, 17), (0, 8, 16), (0, 8, 15), (0, 8, 14), (0, 8, 13), (0, 8, 12), (0, 8, 11), (0, 8, 10), (0, 8, 9), (0, 8, 8), (0, 8, 7), (0, 8, 6), (0, 8, 5), (0, 8, 4), (0, 8, 3), (0, 8, 2), (0, 8, 1)] [] [])) (b := b) (lyA hK) (rI_at 0 7 hI_0_7)) (lKA (hk_K hK 0 rfl rfl)) rfl (by decide) rfl (Nat.le_of_ble_eq_true rfl) (by decide) (fun u hu => ?_)
  refine z_eqs (σ' := (ap b σ [(0, 8, 29), (0, 8, 28), (0, 8, 27), (0, 8, 26), (0, 8, 25), (0, 8, 24), (0, 8, 23), (0, 8, 22), (0, 8, 21), (0, 8, 20), (0, 8, 19), (0, 8, 18), (0, 8, 17), (0, 8, 16), (0, 8, 15), (0, 8, 14), (0, 8, 13), (0, 8, 12), (0, 8, 11), (0, 8, 10), (0, 8, 9), (0, 8, 8), (0, 8, 7), (0, 8, 6), (0, 8, 5), (0, 8, 4), (0, 8, 3), (0, 8, 2), (0, 8, 1)] [] [])) hu ?_
  show zx p l e _ s m _ below meth c g 3 0 0 _ _ 46 [(2, .int 28), (0, .ref (b + 0)), (1, .int 35)] _
  refine z_iinc (v := 29) (lv' := [(2, .int 29), (0, .ref (b + 0)), (1, .int 35)]) B dX8_tick_46 0 rfl (by decide) (by decide) rfl ?_
  refine z_goto (tgt := 23) B dX8_tick_49 (by decide) ?_
  refine z_iload_n B dX8_tick_23 rfl 0 rfl ?_
  refine z_iload_n B dX8_tick_24 rfl 2 rfl ?_
  refine z_icmp_ge (tgt := 52) B dX8_tick_25 (by decide) (fun h => absurd h (by decide)) (fun _ => ?_)
  refine z_aload_n B dX8_tick_28 rfl 1 rfl ?_
  refine z_dup B dX8_tick_29 rfl ?_
  refine gf_X8_206 (x := 29) B (lKA (hk_K hK 0 rfl rfl)) (rI_at 0 8 rfl) dX8_tick_30 ?_
  refine z_iconst (v := 1) B dX8_tick_33 (by decide) ?_
  refine z_iadd B dX8_tick_34 ?_
  refine z_seti (y := 30) (by decide) ?_
  refine pf_X8_206 (x := 30) (σ' := (ap b σ [(0, 8, 30), (0, 8, 29), (0, 8, 28), (0, 8, 27), (0, 8, 26), (0, 8, 25), (0, 8, 24), (0, 8, 23), (0, 8, 22), (0, 8, 21), (0, 8, 20), (0, 8, 19), (0, 8, 18), (0, 8, 17), (0, 8, 16), (0, 8, 15), (0, 8, 14), (0, 8, 13), (0, 8, 12), (0, 8, 11), (0, 8, 10), (0, 8, 9), (0, 8, 8), (0, 8, 7), (0, 8, 6), (0, 8, 5), (0, 8, 4), (0, 8, 3), (0, 8, 2), (0, 8, 1)] [] [])) B (lKA (hk_K hK 0 rfl rfl)) wI_ap dX8_tick_35 ?_
  refine z_aload_n B dX8_tick_38 rfl 1 rfl ?_
  refine z_cVv (As := []) (rest := []) B cw_X8_240 cx_9 dX8_tick_39 (ci_X8_passTasks_920 l (σ := (ap b σ [(0, 8, 30), (0, 8, 29), (0, 8, 28), (0, 8, 27), (0, 8, 26), (0, 8, 25), (0, 8, 24), (0, 8, 23), (0, 8, 22), (0, 8, 21), (0, 8, 20), (0, 8, 19), (0, 8, 18), (0, 8, 17), (0, 8, 16), (0, 8, 15), (0, 8, 14), (0, 8, 13), (0, 8, 12), (0, 8, 11), (0, 8, 10), (0, 8, 9), (0, 8, 8), (0, 8, 7), (0, 8, 6), (0, 8, 5), (0, 8, 4), (0, 8, 3), (0, 8, 2), (0, 8, 1)] [] [])) (b := b) (lyA hK) (rI_at 4 2 hI_4_2) (rR_at 0 3 hR_0_3)) (lKA (hk_K hK 0 rfl rfl)) rfl (by decide) rfl (Nat.le_of_ble_eq_true rfl) (by decide) (fun u hu => ?_)
  refine z_eqs (σ' := (ap b σ [(0, 8, 30), (0, 8, 29), (0, 8, 28), (0, 8, 27), (0, 8, 26), (0, 8, 25), (0, 8, 24), (0, 8, 23), (0, 8, 22), (0, 8, 21), (0, 8, 20), (0, 8, 19), (0, 8, 18), (0, 8, 17), (0, 8, 16), (0, 8, 15), (0, 8, 14), (0, 8, 13), (0, 8, 12), (0, 8, 11), (0, 8, 10), (0, 8, 9), (0, 8, 8), (0, 8, 7), (0, 8, 6), (0, 8, 5), (0, 8, 4), (0, 8, 3), (0, 8, 2), (0, 8, 1)] [] [])) hu ?_
  show zx p l e _ s m _ below meth c g 3 0 0 _ _ 42 [(2, .int 29), (0, .ref (b + 0)), (1, .int 35)] _
  refine z_aload_n B dX8_tick_42 rfl 1 rfl ?_
  refine z_cVv (As := []) (rest := []) B cw_X8_243 cx_9 dX8_tick_43 (ci_X8_passTimers_921 l (σ := (ap b σ [(0, 8, 30), (0, 8, 29), (0, 8, 28), (0, 8, 27), (0, 8, 26), (0, 8, 25), (0, 8, 24), (0, 8, 23), (0, 8, 22), (0, 8, 21), (0, 8, 20), (0, 8, 19), (0, 8, 18), (0, 8, 17), (0, 8, 16), (0, 8, 15), (0, 8, 14), (0, 8, 13), (0, 8, 12), (0, 8, 11), (0, 8, 10), (0, 8, 9), (0, 8, 8), (0, 8, 7), (0, 8, 6), (0, 8, 5), (0, 8, 4), (0, 8, 3), (0, 8, 2), (0, 8, 1)] [] [])) (b := b) (lyA hK) (rI_at 0 7 hI_0_7)) (lKA (hk_K hK 0 rfl rfl)) rfl (by decide) rfl (Nat.le_of_ble_eq_true rfl) (by decide) (fun u hu => ?_)
  refine z_eqs (σ' := (ap b σ [(0, 8, 30), (0, 8, 29), (0, 8, 28), (0, 8, 27), (0, 8, 26), (0, 8, 25), (0, 8, 24), (0, 8, 23), (0, 8, 22), (0, 8, 21), (0, 8, 20), (0, 8, 19), (0, 8, 18), (0, 8, 17), (0, 8, 16), (0, 8, 15), (0, 8, 14), (0, 8, 13), (0, 8, 12), (0, 8, 11), (0, 8, 10), (0, 8, 9), (0, 8, 8), (0, 8, 7), (0, 8, 6), (0, 8, 5), (0, 8, 4), (0, 8, 3), (0, 8, 2), (0, 8, 1)] [] [])) hu ?_
  show zx p l e _ s m _ below meth c g 3 0 0 _ _ 46 [(2, .int 29), (0, .ref (b + 0)), (1, .int 35)] _
  refine z_iinc (v := 30) (lv' := [(2, .int 30), (0, .ref (b + 0)), (1, .int 35)]) B dX8_tick_46 0 rfl (by decide) (by decide) rfl ?_
  refine z_goto (tgt := 23) B dX8_tick_49 (by decide) ?_
  refine z_iload_n B dX8_tick_23 rfl 0 rfl ?_
  refine z_iload_n B dX8_tick_24 rfl 2 rfl ?_
  refine z_icmp_ge (tgt := 52) B dX8_tick_25 (by decide) (fun h => absurd h (by decide)) (fun _ => ?_)
  refine z_aload_n B dX8_tick_28 rfl 1 rfl ?_
  refine z_dup B dX8_tick_29 rfl ?_
  refine gf_X8_206 (x := 30) B (lKA (hk_K hK 0 rfl rfl)) (rI_at 0 8 rfl) dX8_tick_30 ?_
  refine z_iconst (v := 1) B dX8_tick_33 (by decide) ?_
  refine z_iadd B dX8_tick_34 ?_
  refine z_seti (y := 31) (by decide) ?_
  refine pf_X8_206 (x := 31) (σ' := (ap b σ [(0, 8, 31), (0, 8, 30), (0, 8, 29), (0, 8, 28), (0, 8, 27), (0, 8, 26), (0, 8, 25), (0, 8, 24), (0, 8, 23), (0, 8, 22), (0, 8, 21), (0, 8, 20), (0, 8, 19), (0, 8, 18), (0, 8, 17), (0, 8, 16), (0, 8, 15), (0, 8, 14), (0, 8, 13), (0, 8, 12), (0, 8, 11), (0, 8, 10), (0, 8, 9), (0, 8, 8), (0, 8, 7), (0, 8, 6), (0, 8, 5), (0, 8, 4), (0, 8, 3), (0, 8, 2), (0, 8, 1)] [] [])) B (lKA (hk_K hK 0 rfl rfl)) wI_ap dX8_tick_35 ?_
  refine z_aload_n B dX8_tick_38 rfl 1 rfl ?_
  refine z_cVv (As := []) (rest := []) B cw_X8_240 cx_9 dX8_tick_39 (ci_X8_passTasks_920 l (σ := (ap b σ [(0, 8, 31), (0, 8, 30), (0, 8, 29), (0, 8, 28), (0, 8, 27), (0, 8, 26), (0, 8, 25), (0, 8, 24), (0, 8, 23), (0, 8, 22), (0, 8, 21), (0, 8, 20), (0, 8, 19), (0, 8, 18), (0, 8, 17), (0, 8, 16), (0, 8, 15), (0, 8, 14), (0, 8, 13), (0, 8, 12), (0, 8, 11), (0, 8, 10), (0, 8, 9), (0, 8, 8), (0, 8, 7), (0, 8, 6), (0, 8, 5), (0, 8, 4), (0, 8, 3), (0, 8, 2), (0, 8, 1)] [] [])) (b := b) (lyA hK) (rI_at 4 2 hI_4_2) (rR_at 0 3 hR_0_3)) (lKA (hk_K hK 0 rfl rfl)) rfl (by decide) rfl (Nat.le_of_ble_eq_true rfl) (by decide) (fun u hu => ?_)
  refine z_eqs (σ' := (ap b σ [(0, 8, 31), (0, 8, 30), (0, 8, 29), (0, 8, 28), (0, 8, 27), (0, 8, 26), (0, 8, 25), (0, 8, 24), (0, 8, 23), (0, 8, 22), (0, 8, 21), (0, 8, 20), (0, 8, 19), (0, 8, 18), (0, 8, 17), (0, 8, 16), (0, 8, 15), (0, 8, 14), (0, 8, 13), (0, 8, 12), (0, 8, 11), (0, 8, 10), (0, 8, 9), (0, 8, 8), (0, 8, 7), (0, 8, 6), (0, 8, 5), (0, 8, 4), (0, 8, 3), (0, 8, 2), (0, 8, 1)] [] [])) hu ?_
  show zx p l e _ s m _ below meth c g 3 0 0 _ _ 42 [(2, .int 30), (0, .ref (b + 0)), (1, .int 35)] _
  refine z_aload_n B dX8_tick_42 rfl 1 rfl ?_
  refine z_cVv (As := []) (rest := []) B cw_X8_243 cx_9 dX8_tick_43 (ci_X8_passTimers_921 l (σ := (ap b σ [(0, 8, 31), (0, 8, 30), (0, 8, 29), (0, 8, 28), (0, 8, 27), (0, 8, 26), (0, 8, 25), (0, 8, 24), (0, 8, 23), (0, 8, 22), (0, 8, 21), (0, 8, 20), (0, 8, 19), (0, 8, 18), (0, 8, 17), (0, 8, 16), (0, 8, 15), (0, 8, 14), (0, 8, 13), (0, 8, 12), (0, 8, 11), (0, 8, 10), (0, 8, 9), (0, 8, 8), (0, 8, 7), (0, 8, 6), (0, 8, 5), (0, 8, 4), (0, 8, 3), (0, 8, 2), (0, 8, 1)] [] [])) (b := b) (lyA hK) (rI_at 0 7 hI_0_7)) (lKA (hk_K hK 0 rfl rfl)) rfl (by decide) rfl (Nat.le_of_ble_eq_true rfl) (by decide) (fun u hu => ?_)
  refine z_eqs (σ' := (ap b σ [(0, 8, 31), (0, 8, 30), (0, 8, 29), (0, 8, 28), (0, 8, 27), (0, 8, 26), (0, 8, 25), (0, 8, 24), (0, 8, 23), (0, 8, 22), (0, 8, 21), (0, 8, 20), (0, 8, 19), (0, 8, 18), (0, 8, 17), (0, 8, 16), (0, 8, 15), (0, 8, 14), (0, 8, 13), (0, 8, 12), (0, 8, 11), (0, 8, 10), (0, 8, 9), (0, 8, 8), (0, 8, 7), (0, 8, 6), (0, 8, 5), (0, 8, 4), (0, 8, 3), (0, 8, 2), (0, 8, 1)] [] [])) hu ?_
  show zx p l e _ s m _ below meth c g 3 0 0 _ _ 46 [(2, .int 30), (0, .ref (b + 0)), (1, .int 35)] _
  refine z_iinc (v := 31) (lv' := [(2, .int 31), (0, .ref (b + 0)), (1, .int 35)]) B dX8_tick_46 0 rfl (by decide) (by decide) rfl ?_
  refine z_goto (tgt := 23) B dX8_tick_49 (by decide) ?_
  refine z_iload_n B dX8_tick_23 rfl 0 rfl ?_
  refine z_iload_n B dX8_tick_24 rfl 2 rfl ?_
  refine z_icmp_ge (tgt := 52) B dX8_tick_25 (by decide) (fun h => absurd h (by decide)) (fun _ => ?_)
  refine z_aload_n B dX8_tick_28 rfl 1 rfl ?_
  refine z_dup B dX8_tick_29 rfl ?_
  refine gf_X8_206 (x := 31) B (lKA (hk_K hK 0 rfl rfl)) (rI_at 0 8 rfl) dX8_tick_30 ?_
  refine z_iconst (v := 1) B dX8_tick_33 (by decide) ?_
  refine z_iadd B dX8_tick_34 ?_
  refine z_seti (y := 32) (by decide) ?_
  refine pf_X8_206 (x := 32) (σ' := (ap b σ [(0, 8, 32), (0, 8, 31), (0, 8, 30), (0, 8, 29), (0, 8, 28), (0, 8, 27), (0, 8, 26), (0, 8, 25), (0, 8, 24), (0, 8, 23), (0, 8, 22), (0, 8, 21), (0, 8, 20), (0, 8, 19), (0, 8, 18), (0, 8, 17), (0, 8, 16), (0, 8, 15), (0, 8, 14), (0, 8, 13), (0, 8, 12), (0, 8, 11), (0, 8, 10), (0, 8, 9), (0, 8, 8), (0, 8, 7), (0, 8, 6), (0, 8, 5), (0, 8, 4), (0, 8, 3), (0, 8, 2), (0, 8, 1)] [] [])) B (lKA (hk_K hK 0 rfl rfl)) wI_ap dX8_tick_35 ?_
  refine z_aload_n B dX8_tick_38 rfl 1 rfl ?_
  refine z_cVv (As := []) (rest := []) B cw_X8_240 cx_9 dX8_tick_39 (ci_X8_passTasks_920 l (σ := (ap b σ [(0, 8, 32), (0, 8, 31), (0, 8, 30), (0, 8, 29), (0, 8, 28), (0, 8, 27), (0, 8, 26), (0, 8, 25), (0, 8, 24), (0, 8, 23), (0, 8, 22), (0, 8, 21), (0, 8, 20), (0, 8, 19), (0, 8, 18), (0, 8, 17), (0, 8, 16), (0, 8, 15), (0, 8, 14), (0, 8, 13), (0, 8, 12), (0, 8, 11), (0, 8, 10), (0, 8, 9), (0, 8, 8), (0, 8, 7), (0, 8, 6), (0, 8, 5), (0, 8, 4), (0, 8, 3), (0, 8, 2), (0, 8, 1)] [] [])) (b := b) (lyA hK) (rI_at 4 2 hI_4_2) (rR_at 0 3 hR_0_3)) (lKA (hk_K hK 0 rfl rfl)) rfl (by decide) rfl (Nat.le_of_ble_eq_true rfl) (by decide) (fun u hu => ?_)
  refine z_eqs (σ' := (ap b σ [(0, 8, 32), (0, 8, 31), (0, 8, 30), (0, 8, 29), (0, 8, 28), (0, 8, 27), (0, 8, 26), (0, 8, 25), (0, 8, 24), (0, 8, 23), (0, 8, 22), (0, 8, 21), (0, 8, 20), (0, 8, 19), (0, 8, 18), (0, 8, 17), (0, 8, 16), (0, 8, 15), (0, 8, 14), (0, 8, 13), (0, 8, 12), (0, 8, 11), (0, 8, 10), (0, 8, 9), (0, 8, 8), (0, 8, 7), (0, 8, 6), (0, 8, 5), (0, 8, 4), (0, 8, 3), (0, 8, 2), (0, 8, 1)] [] [])) hu ?_
  show zx p l e _ s m _ below meth c g 3 0 0 _ _ 42 [(2, .int 31), (0, .ref (b + 0)), (1, .int 35)] _
  refine z_aload_n B dX8_tick_42 rfl 1 rfl ?_
  refine z_cVv (As := []) (rest := []) B cw_X8_243 cx_9 dX8_tick_43 (ci_X8_passTimers_921 l (σ := (ap b σ [(0, 8, 32), (0, 8, 31), (0, 8, 30), (0, 8, 29), (0, 8, 28), (0, 8, 27), (0, 8, 26), (0, 8, 25), (0, 8, 24), (0, 8, 23), (0, 8, 22), (0, 8, 21), (0, 8, 20), (0, 8, 19), (0, 8, 18), (0, 8, 17), (0, 8, 16), (0, 8, 15), (0, 8, 14), (0, 8, 13), (0, 8, 12), (0, 8, 11), (0, 8, 10), (0, 8, 9), (0, 8, 8), (0, 8, 7), (0, 8, 6), (0, 8, 5), (0, 8, 4), (0, 8, 3), (0, 8, 2), (0, 8, 1)] [] [])) (b := b) (lyA hK) (rI_at 0 7 hI_0_7)) (lKA (hk_K hK 0 rfl rfl)) rfl (by decide) rfl (Nat.le_of_ble_eq_true rfl) (by decide) (fun u hu => ?_)
  refine z_eqs (σ' := (ap b σ [(0, 8, 32), (0, 8, 31), (0, 8, 30), (0, 8, 29), (0, 8, 28), (0, 8, 27), (0, 8, 26), (0, 8, 25), (0, 8, 24), (0, 8, 23), (0, 8, 22), (0, 8, 21), (0, 8, 20), (0, 8, 19), (0, 8, 18), (0, 8, 17), (0, 8, 16), (0, 8, 15), (0, 8, 14), (0, 8, 13), (0, 8, 12), (0, 8, 11), (0, 8, 10), (0, 8, 9), (0, 8, 8), (0, 8, 7), (0, 8, 6), (0, 8, 5), (0, 8, 4), (0, 8, 3), (0, 8, 2), (0, 8, 1)] [] [])) hu ?_
  show zx p l e _ s m _ below meth c g 3 0 0 _ _ 46 [(2, .int 31), (0, .ref (b + 0)), (1, .int 35)] _
  refine z_iinc (v := 32) (lv' := [(2, .int 32), (0, .ref (b + 0)), (1, .int 35)]) B dX8_tick_46 0 rfl (by decide) (by decide) rfl ?_
  refine z_goto (tgt := 23) B dX8_tick_49 (by decide) ?_
  refine z_iload_n B dX8_tick_23 rfl 0 rfl ?_
  refine z_iload_n B dX8_tick_24 rfl 2 rfl ?_
  refine z_icmp_ge (tgt := 52) B dX8_tick_25 (by decide) (fun h => absurd h (by decide)) (fun _ => ?_)
  refine z_aload_n B dX8_tick_28 rfl 1 rfl ?_
  refine z_dup B dX8_tick_29 rfl ?_
  refine gf_X8_206 (x := 32) B (lKA (hk_K hK 0 rfl rfl)) (rI_at 0 8 rfl) dX8_tick_30 ?_
  refine z_iconst (v := 1) B dX8_tick_33 (by decide) ?_
  refine z_iadd B dX8_tick_34 ?_
  refine z_seti (y := 33) (by decide) ?_
  refine pf_X8_206 (x := 33) (σ' := (ap b σ [(0, 8, 33), (0, 8, 32), (0, 8, 31), (0, 8, 30), (0, 8, 29), (0, 8, 28), (0, 8, 27), (0, 8, 26), (0, 8, 25), (0, 8, 24), (0, 8, 23), (0, 8, 22), (0, 8, 21), (0, 8, 20), (0, 8, 19), (0, 8, 18), (0, 8, 17), (0, 8, 16), (0, 8, 15), (0, 8, 14), (0, 8, 13), (0, 8, 12), (0, 8, 11), (0, 8, 10), (0, 8, 9), (0, 8, 8), (0, 8, 7), (0, 8, 6), (0, 8, 5), (0, 8, 4), (0, 8, 3), (0, 8, 2), (0, 8, 1)] [] [])) B (lKA (hk_K hK 0 rfl rfl)) wI_ap dX8_tick_35 ?_
  refine z_aload_n B dX8_tick_38 rfl 1 rfl ?_
  refine z_cVv (As := []) (rest := []) B cw_X8_240 cx_9 dX8_tick_39 (ci_X8_passTasks_920 l (σ := (ap b σ [(0, 8, 33), (0, 8, 32), (0, 8, 31), (0, 8, 30), (0, 8, 29), (0, 8, 28), (0, 8, 27), (0, 8, 26), (0, 8, 25), (0, 8, 24), (0, 8, 23), (0, 8, 22), (0, 8, 21), (0, 8, 20), (0, 8, 19), (0, 8, 18), (0, 8, 17), (0, 8, 16), (0, 8, 15), (0, 8, 14), (0, 8, 13), (0, 8, 12), (0, 8, 11), (0, 8, 10), (0, 8, 9), (0, 8, 8), (0, 8, 7), (0, 8, 6), (0, 8, 5), (0, 8, 4), (0, 8, 3), (0, 8, 2), (0, 8, 1)] [] [])) (b := b) (lyA hK) (rI_at 4 2 hI_4_2) (rR_at 0 3 hR_0_3)) (lKA (hk_K hK 0 rfl rfl)) rfl (by decide) rfl (Nat.le_of_ble_eq_true rfl) (by decide) (fun u hu => ?_)
  refine z_eqs (σ' := (ap b σ [(0, 8, 33), (0, 8, 32), (0, 8, 31), (0, 8, 30), (0, 8, 29), (0, 8, 28), (0, 8, 27), (0, 8, 26), (0, 8, 25), (0, 8, 24), (0, 8, 23), (0, 8, 22), (0, 8, 21), (0, 8, 20), (0, 8, 19), (0, 8, 18), (0, 8, 17), (0, 8, 16), (0, 8, 15), (0, 8, 14), (0, 8, 13), (0, 8, 12), (0, 8, 11), (0, 8, 10), (0, 8, 9), (0, 8, 8), (0, 8, 7), (0, 8, 6), (0, 8, 5), (0, 8, 4), (0, 8, 3), (0, 8, 2), (0, 8, 1)] [] [])) hu ?_
  show zx p l e _ s m _ below meth c g 3 0 0 _ _ 42 [(2, .int 32), (0, .ref (b + 0)), (1, .int 35)] _
  refine z_aload_n B dX8_tick_42 rfl 1 rfl ?_
  refine z_cVv (As := []) (rest := []) B cw_X8_243 cx_9 dX8_tick_43 (ci_X8_passTimers_921 l (σ := (ap b σ [(0, 8, 33), (0, 8, 32), (0, 8, 31), (0, 8, 30), (0, 8, 29), (0, 8, 28), (0, 8, 27), (0, 8, 26), (0, 8, 25), (0, 8, 24), (0, 8, 23), (0, 8, 22), (0, 8, 21), (0, 8, 20), (0, 8, 19), (0, 8, 18), (0, 8, 17), (0, 8, 16), (0, 8, 15), (0, 8, 14), (0, 8, 13), (0, 8, 12), (0, 8, 11), (0, 8, 10), (0, 8, 9), (0, 8, 8), (0, 8, 7), (0, 8, 6), (0, 8, 5), (0, 8, 4), (0, 8, 3), (0, 8, 2), (0, 8, 1)] [] [])) (b := b) (lyA hK) (rI_at 0 7 hI_0_7)) (lKA (hk_K hK 0 rfl rfl)) rfl (by decide) rfl (Nat.le_of_ble_eq_true rfl) (by decide) (fun u hu => ?_)
  refine z_eqs (σ' := (ap b σ [(0, 8, 33), (0, 8, 32), (0, 8, 31), (0, 8, 30), (0, 8, 29), (0, 8, 28), (0, 8, 27), (0, 8, 26), (0, 8, 25), (0, 8, 24), (0, 8, 23), (0, 8, 22), (0, 8, 21), (0, 8, 20), (0, 8, 19), (0, 8, 18), (0, 8, 17), (0, 8, 16), (0, 8, 15), (0, 8, 14), (0, 8, 13), (0, 8, 12), (0, 8, 11), (0, 8, 10), (0, 8, 9), (0, 8, 8), (0, 8, 7), (0, 8, 6), (0, 8, 5), (0, 8, 4), (0, 8, 3), (0, 8, 2), (0, 8, 1)] [] [])) hu ?_
  show zx p l e _ s m _ below meth c g 3 0 0 _ _ 46 [(2, .int 32), (0, .ref (b + 0)), (1, .int 35)] _
  refine z_iinc (v := 33) (lv' := [(2, .int 33), (0, .ref (b + 0)), (1, .int 35)]) B dX8_tick_46 0 rfl (by decide) (by decide) rfl ?_
  refine z_goto (tgt := 23) B dX8_tick_49 (by decide) ?_
  refine z_iload_n B dX8_tick_23 rfl 0 rfl ?_
  refine z_iload_n B dX8_tick_24 rfl 2 rfl ?_
  refine z_icmp_ge (tgt := 52) B dX8_tick_25 (by decide) (fun h => absurd h (by decide)) (fun _ => ?_)
  refine z_aload_n B dX8_tick_28 rfl 1 rfl ?_
  refine z_dup B dX8_tick_29 rfl ?_
  refine gf_X8_206 (x := 33) B (lKA (hk_K hK 0 rfl rfl)) (rI_at 0 8 rfl) dX8_tick_30 ?_
  refine z_iconst (v := 1) B dX8_tick_33 (by decide) ?_
  refine z_iadd B dX8_tick_34 ?_
  refine z_seti (y := 34) (by decide) ?_
  refine pf_X8_206 (x := 34) (σ' := (ap b σ [(0, 8, 34), (0, 8, 33), (0, 8, 32), (0, 8, 31), (0, 8, 30), (0, 8, 29), (0, 8, 28), (0, 8, 27), (0, 8, 26), (0, 8, 25), (0, 8, 24), (0, 8, 23), (0, 8, 22), (0, 8, 21), (0, 8, 20), (0, 8, 19), (0, 8, 18), (0, 8, 17), (0, 8, 16), (0, 8, 15), (0, 8, 14), (0, 8, 13), (0, 8, 12), (0, 8, 11), (0, 8, 10), (0, 8, 9), (0, 8, 8), (0, 8, 7), (0, 8, 6), (0, 8, 5), (0, 8, 4), (0, 8, 3), (0, 8, 2), (0, 8, 1)] [] [])) B (lKA (hk_K hK 0 rfl rfl)) wI_ap dX8_tick_35 ?_
  refine z_aload_n B dX8_tick_38 rfl 1 rfl ?_
  refine z_cVv (As := []) (rest := []) B cw_X8_240 cx_9 dX8_tick_39 (ci_X8_passTasks_920 l (σ := (ap b σ [(0, 8, 34), (0, 8, 33), (0, 8, 32), (0, 8, 31), (0, 8, 30), (0, 8, 29), (0, 8, 28), (0, 8, 27), (0, 8, 26), (0, 8, 25), (0, 8, 24), (0, 8, 23), (0, 8, 22), (0, 8, 21), (0, 8, 20), (0, 8, 19), (0, 8, 18), (0, 8, 17), (0, 8, 16), (0, 8, 15), (0, 8, 14), (0, 8, 13), (0, 8, 12), (0, 8, 11), (0, 8, 10), (0, 8, 9), (0, 8, 8), (0, 8, 7), (0, 8, 6), (0, 8, 5), (0, 8, 4), (0, 8, 3), (0, 8, 2), (0, 8, 1)] [] [])) (b := b) (lyA hK) (rI_at 4 2 hI_4_2) (rR_at 0 3 hR_0_3)) (lKA (hk_K hK 0 rfl rfl)) rfl (by decide) rfl (Nat.le_of_ble_eq_true rfl) (by decide) (fun u hu => ?_)
  refine z_eqs (σ' := (ap b σ [(0, 8, 34), (0, 8, 33), (0, 8, 32), (0, 8, 31), (0, 8, 30), (0, 8, 29), (0, 8, 28), (0, 8, 27), (0, 8, 26), (0, 8, 25), (0, 8, 24), (0, 8, 23), (0, 8, 22), (0, 8, 21), (0, 8, 20), (0, 8, 19), (0, 8, 18), (0, 8, 17), (0, 8, 16), (0, 8, 15), (0, 8, 14), (0, 8, 13), (0, 8, 12), (0, 8, 11), (0, 8, 10), (0, 8, 9), (0, 8, 8), (0, 8, 7), (0, 8, 6), (0, 8, 5), (0, 8, 4), (0, 8, 3), (0, 8, 2), (0, 8, 1)] [] [])) hu ?_
  show zx p l e _ s m _ below meth c g 3 0 0 _ _ 42 [(2, .int 33), (0, .ref (b + 0)), (1, .int 35)] _
  refine z_aload_n B dX8_tick_42 rfl 1 rfl ?_
  refine z_cVv (As := []) (rest := []) B cw_X8_243 cx_9 dX8_tick_43 (ci_X8_passTimers_921 l (σ := (ap b σ [(0, 8, 34), (0, 8, 33), (0, 8, 32), (0, 8, 31), (0, 8, 30), (0, 8, 29), (0, 8, 28), (0, 8, 27), (0, 8, 26), (0, 8, 25), (0, 8, 24), (0, 8, 23), (0, 8, 22), (0, 8, 21), (0, 8, 20), (0, 8, 19), (0, 8, 18), (0, 8, 17), (0, 8, 16), (0, 8, 15), (0, 8, 14), (0, 8, 13), (0, 8, 12), (0, 8, 11), (0, 8, 10), (0, 8, 9), (0, 8, 8), (0, 8, 7), (0, 8, 6), (0, 8, 5), (0, 8, 4), (0, 8, 3), (0, 8, 2), (0, 8, 1)] [] [])) (b := b) (lyA hK) (rI_at 0 7 hI_0_7)) (lKA (hk_K hK 0 rfl rfl)) rfl (by decide) rfl (Nat.le_of_ble_eq_true rfl) (by decide) (fun u hu => ?_)
  refine z_eqs (σ' := (ap b σ [(0, 8, 34), (0, 8, 33), (0, 8, 32), (0, 8, 31), (0, 8, 30), (0, 8, 29), (0, 8, 28), (0, 8, 27), (0, 8, 26), (0, 8, 25), (0, 8, 24), (0, 8, 23), (0, 8, 22), (0, 8, 21), (0, 8, 20), (0, 8, 19), (0, 8, 18), (0, 8, 17), (0, 8, 16), (0, 8, 15), (0, 8, 14), (0, 8, 13), (0, 8, 12), (0, 8, 11), (0, 8, 10), (0, 8, 9), (0, 8, 8), (0, 8, 7), (0, 8, 6), (0, 8, 5), (0, 8, 4), (0, 8, 3), (0, 8, 2), (0, 8, 1)] [] [])) hu ?_
  show zx p l e _ s m _ below meth c g 3 0 0 _ _ 46 [(2, .int 33), (0, .ref (b + 0)), (1, .int 35)] _
  refine z_iinc (v := 34) (lv' := [(2, .int 34), (0, .ref (b + 0)), (1, .int 35)]) B dX8_tick_46 0 rfl (by decide) (by decide) rfl ?_
  refine z_goto (tgt := 23) B dX8_tick_49 (by decide) ?_
  refine z_iload_n B dX8_tick_23 rfl 0 rfl ?_
  refine z_iload_n B dX8_tick_24 rfl 2 rfl ?_
  refine z_icmp_ge (tgt := 52) B dX8_tick_25 (by decide) (fun h => absurd h (by decide)) (fun _ => ?_)
  refine z_aload_n B dX8_tick_28 rfl 1 rfl ?_
  refine z_dup B dX8_tick_29 rfl ?_
  refine gf_X8_206 (x := 34) B (lKA (hk_K hK 0 rfl rfl)) (rI_at 0 8 rfl) dX8_tick_30 ?_
  refine z_iconst (v := 1) B dX8_tick_33 (by decide) ?_
  refine z_iadd B dX8_tick_34 ?_
  refine z_seti (y := 35) (by decide) ?_
  refine pf_X8_206 (x := 35) (σ' := (ap b σ [(0, 8, 35), (0, 8, 34), (0, 8, 33), (0, 8, 32), (0, 8, 31), (0, 8, 30), (0, 8, 29), (0, 8, 28), (0, 8, 27), (0, 8, 26), (0, 8, 25), (0, 8, 24), (0, 8, 23), (0, 8, 22), (0, 8, 21), (0, 8, 20), (0, 8, 19), (0, 8, 18), (0, 8, 17), (0, 8, 16), (0, 8, 15), (0, 8, 14), (0, 8, 13), (0, 8, 12), (0, 8, 11), (0, 8, 10), (0, 8, 9), (0, 8, 8), (0, 8, 7), (0, 8, 6), (0, 8, 5), (0, 8, 4), (0, 8, 3), (0, 8, 2), (0, 8, 1)] [] [])) B (lKA (hk_K hK 0 rfl rfl)) wI_ap dX8_tick_35 ?_
  refine z_aload_n B dX8_tick_38 rfl 1 rfl ?_
  refine z_cVv (As := []) (rest := []) B cw_X8_240 cx_9 dX8_tick_39 (ci_X8_passTasks_920 l (σ := (ap b σ [(0, 8, 35), (0, 8, 34), (0, 8, 33), (0, 8, 32), (0, 8, 31), (0, 8, 30), (0, 8, 29), (0, 8, 28), (0, 8, 27), (0, 8, 26), (0, 8, 25), (0, 8, 24), (0, 8, 23), (0, 8, 22), (0, 8, 21), (0, 8, 20), (0, 8, 19), (0, 8, 18), (0, 8, 17), (0, 8, 16), (0, 8, 15), (0, 8, 14), (0, 8, 13), (0, 8, 12), (0, 8, 11), (0, 8, 10), (0, 8, 9), (0, 8, 8), (0, 8, 7), (0, 8, 6), (0, 8, 5), (0, 8, 4), (0, 8, 3), (0, 8, 2), (0, 8, 1)] [] [])) (b := b) (lyA hK) (rI_at 4 2 hI_4_2) (rR_at 0 3 hR_0_3)) (lKA (hk_K hK 0 rfl rfl)) rfl (by decide) rfl (Nat.le_of_ble_eq_true rfl) (by decide) (fun u hu => ?_)
  refine z_eqs (σ' := (ap b σ [(0, 8, 35), (0, 8, 34), (0, 8, 33), (0, 8, 32), (0, 8, 31), (0, 8, 30), (0, 8, 29), (0, 8, 28), (0, 8, 27), (0, 8, 26), (0, 8, 25), (0, 8, 24), (0, 8, 23), (0, 8, 22), (0, 8, 21), (0, 8, 20), (0, 8, 19), (0, 8, 18), (0, 8, 17), (0, 8, 16), (0, 8, 15), (0, 8, 14), (0, 8, 13), (0, 8, 12), (0, 8, 11), (0, 8, 10), (0, 8, 9), (0, 8, 8), (0, 8, 7), (0, 8, 6), (0, 8, 5), (0, 8, 4), (0, 8, 3), (0, 8, 2), (0, 8, 1)] [] [])) hu ?_
  show zx p l e _ s m _ below meth c g 3 0 0 _ _ 42 [(2, .int 34), (0, .ref (b + 0)), (1, .int 35)] _
  refine z_aload_n B dX8_tick_42 rfl 1 rfl ?_
  refine z_cVv (As := []) (rest := []) B cw_X8_243 cx_9 dX8_tick_43 (ci_X8_passTimers_921 l (σ := (ap b σ [(0, 8, 35), (0, 8, 34), (0, 8, 33), (0, 8, 32), (0, 8, 31), (0, 8, 30), (0, 8, 29), (0, 8, 28), (0, 8, 27), (0, 8, 26), (0, 8, 25), (0, 8, 24), (0, 8, 23), (0, 8, 22), (0, 8, 21), (0, 8, 20), (0, 8, 19), (0, 8, 18), (0, 8, 17), (0, 8, 16), (0, 8, 15), (0, 8, 14), (0, 8, 13), (0, 8, 12), (0, 8, 11), (0, 8, 10), (0, 8, 9), (0, 8, 8), (0, 8, 7), (0, 8, 6), (0, 8, 5), (0, 8, 4), (0, 8, 3), (0, 8, 2), (0, 8, 1)] [] [])) (b := b) (lyA hK) (rI_at 0 7 hI_0_7)) (lKA (hk_K hK 0 rfl rfl)) rfl (by decide) rfl (Nat.le_of_ble_eq_true rfl) (by decide) (fun u hu => ?_)
  refine z_eqs (σ' := (ap b σ [(0, 8, 35), (0, 8, 34), (0, 8, 33), (0, 8, 32), (0, 8, 31), (0, 8, 30), (0, 8, 29), (0, 8, 28), (0, 8, 27), (0, 8, 26), (0, 8, 25), (0, 8, 24), (0, 8, 23), (0, 8, 22), (0, 8, 21), (0, 8, 20), (0, 8, 19), (0, 8, 18), (0, 8, 17), (0, 8, 16), (0, 8, 15), (0, 8, 14), (0, 8, 13), (0, 8, 12), (0, 8, 11), (0, 8, 10), (0, 8, 9), (0, 8, 8), (0, 8, 7), (0, 8, 6), (0, 8, 5), (0, 8, 4), (0, 8, 3), (0, 8, 2), (0, 8, 1)] [] [])) hu ?_
  show zx p l e _ s m _ below meth c g 3 0 0 _ _ 46 [(2, .int 34), (0, .ref (b + 0)), (1, .int 35)] _
  refine z_iinc (v := 35) (lv' := [(2, .int 35), (0, .ref (b + 0)), (1, .int 35)]) B dX8_tick_46 0 rfl (by decide) (by decide) rfl ?_
  refine z_goto (tgt := 23) B dX8_tick_49 (by decide) ?_
  refine z_iload_n B dX8_tick_23 rfl 0 rfl ?_
  refine z_iload_n B dX8_tick_24 rfl 2 rfl ?_
  refine z_icmp_ge (tgt := 52) B dX8_tick_25 (by decide) (fun _ => ?_) (fun h => absurd (by decide) h)
  refine z_aload_n B dX8_tick_52 rfl 1 rfl ?_
  refine gf_X8_206 (x := 35) B (lKA (hk_K hK 0 rfl rfl)) (rI_at 0 8 rfl) dX8_tick_53 ?_
  exact z_iret B hr (by decide) (by decide) dX8_tick_56 ⟨rfl, rfl⟩
set_option maxRecDepth 100000 in
set_option maxHeartbeats 4000000 in
theorem ci_L_tick_1093 (l : Launch) {g : gx_T} {σ : sx_T} {b : Nat} (hK : lay b σ)   (hI_0_7 : sx_I σ (b + 0) 7 = 0) (hI_0_8 : sx_I σ (b + 0) 8 = 0) (hI_4_2 : sx_I σ (b + 4) 2 = 0) (hR_0_3 : sx_R σ (b + 0) 3 = (some (b + 4))) : Met l yL_tick (.codeWith yL_tick cL_tick 4 (some .int) [(0, 9, 12, 15)] :: lw_g) { frames := 3, cells := 0, slots := 0, locals := 64 } (va_Pc [.ref (b + 0), .int 35, .ref (b + 431)] (zx_w g σ)) (va_Qi (fun r u => r = 0 ∧ u = (ap b σ [(0, 8, 35), (0, 8, 34), (0, 8, 33), (0, 8, 32), (0, 8, 31), (0, 8, 30), (0, 8, 29), (0, 8, 28), (0, 8, 27), (0, 8, 26), (0, 8, 25), (0, 8, 24), (0, 8, 23), (0, 8, 22), (0, 8, 21), (0, 8, 20), (0, 8, 19), (0, 8, 18), (0, 8, 17), (0, 8, 16), (0, 8, 15), (0, 8, 14), (0, 8, 13), (0, 8, 12), (0, 8, 11), (0, 8, 10), (0, 8, 9), (0, 8, 8), (0, 8, 7), (0, 8, 6), (0, 8, 5), (0, 8, 4), (0, 8, 3), (0, 8, 2), (0, 8, 1)] [(431, 0, 35)] [])) (zx_w g) (gx_Q g)) 0 0 (gx_Q g) := by
  refine z_metW (by decide) (Nat.le_of_ble_eq_true rfl) (fun p e s m below meth c B hr htab => ?_)
  refine z_eqs (σ' := (ap b σ [] [] [])) rfl ?_
  show zx p l e _ s m _ below meth c g 4 0 0 _ _ 0 [(0, .ref (b + 0)), (1, .int 35), (2, .ref (b + 431))] []
  refine z_aload_n B dL_tick_0 rfl 2 rfl ?_
  refine z_iconst (v := 0) B dL_tick_1 (by decide) ?_
  refine z_aload_n B dL_tick_2 rfl 0 rfl ?_
  refine z_iload_n B dL_tick_3 rfl 1 rfl ?_
  refine z_cVi (As := [.int 35]) (rest := [.int 0, .ref (b + 431)]) B cw_L_41 cx_9 dL_tick_4 (ci_X8_tick_1092 l (σ := (ap b σ [] [] [])) (b := b) (lyA hK) (rI_at 0 7 hI_0_7) (rI_at 0 8 hI_0_8) (rI_at 4 2 hI_4_2) (rR_at 0 3 hR_0_3)) (lKA (hk_K hK 0 rfl rfl)) rfl (by decide) rfl (Nat.le_of_ble_eq_true rfl) (by decide) (fun r u hu => ?_)
  refine z_eqs (σ' := (ap b σ [(0, 8, 35), (0, 8, 34), (0, 8, 33), (0, 8, 32), (0, 8, 31), (0, 8, 30), (0, 8, 29), (0, 8, 28), (0, 8, 27), (0, 8, 26), (0, 8, 25), (0, 8, 24), (0, 8, 23), (0, 8, 22), (0, 8, 21), (0, 8, 20), (0, 8, 19), (0, 8, 18), (0, 8, 17), (0, 8, 16), (0, 8, 15), (0, 8, 14), (0, 8, 13), (0, 8, 12), (0, 8, 11), (0, 8, 10), (0, 8, 9), (0, 8, 8), (0, 8, 7), (0, 8, 6), (0, 8, 5), (0, 8, 4), (0, 8, 3), (0, 8, 2), (0, 8, 1)] [] [])) (hu.2.trans ap_ap) ?_
  show zx p l e _ s m _ below meth c g 4 0 0 _ _ 7 [(0, .ref (b + 0)), (1, .int 35), (2, .ref (b + 431))] _
  refine z_seti (y := 35) hu.1 ?_
  refine z_i2l (v := 35) B dL_tick_7 (by decide) ?_
  refine z_last (j := 0) (σ' := (ap b σ [(0, 8, 35), (0, 8, 34), (0, 8, 33), (0, 8, 32), (0, 8, 31), (0, 8, 30), (0, 8, 29), (0, 8, 28), (0, 8, 27), (0, 8, 26), (0, 8, 25), (0, 8, 24), (0, 8, 23), (0, 8, 22), (0, 8, 21), (0, 8, 20), (0, 8, 19), (0, 8, 18), (0, 8, 17), (0, 8, 16), (0, 8, 15), (0, 8, 14), (0, 8, 13), (0, 8, 12), (0, 8, 11), (0, 8, 10), (0, 8, 9), (0, 8, 8), (0, 8, 7), (0, 8, 6), (0, 8, 5), (0, 8, 4), (0, 8, 3), (0, 8, 2), (0, 8, 1)] [(431, 0, 35)] [])) B (lKA (hk_K hK 431 rfl rfl)) (by decide) (in_of (lNA (hk_N hK 431 rfl rfl)) (show ¬ ((0 : Int32) < 0 ∨ 1 ≤ (0 : Int32).toNatClampNeg) by decide)) wJ_ap dL_tick_8 ?_
  refine z_goto (tgt := 15) B dL_tick_9 (by decide) ?_
  refine z_iconst (v := 0) B dL_tick_15 (by decide) ?_
  exact z_iret B hr (by decide) (by decide) dL_tick_16 ⟨rfl, rfl⟩
set_option maxRecDepth 100000 in
set_option maxHeartbeats 4000000 in
theorem ci_X9_in_1094 (l : Launch) {g : gx_T} {σ : sx_T} {b : Nat} (hK : lay b σ)    : Met l yX9_in (.code yX9_in cX9_in 3 (some .boolean) :: lw_g) { frames := 0, cells := 0, slots := 0, locals := 0 } (va_Pc [.int 35, .int 1, .int 50] (zx_w g σ)) (va_Qi (fun r u => r = 1 ∧ u = σ) (zx_w g) (gx_Q g)) 0 0 (gx_Q g) := by
  refine z_met (by decide) (Nat.le_of_ble_eq_true rfl) (fun p e s m below meth c B hr hin => ?_)
  refine z_eqs (σ' := (ap b σ [] [] [])) rfl ?_
  show zx p l e _ s m _ below meth c g 3 0 0 _ _ 0 [(0, .int 35), (1, .int 1), (2, .int 50)] []
  refine z_iload_n B dX9_in_0 rfl 0 rfl ?_
  refine z_iload_n B dX9_in_1 rfl 1 rfl ?_
  refine z_icmp_lt (tgt := 14) B dX9_in_2 (by decide) (fun h => absurd h (by decide)) (fun _ => ?_)
  refine z_iload_n B dX9_in_5 rfl 0 rfl ?_
  refine z_iload_n B dX9_in_6 rfl 2 rfl ?_
  refine z_icmp_gt (tgt := 14) B dX9_in_7 (by decide) (fun h => absurd h (by decide)) (fun _ => ?_)
  refine z_iconst (v := 1) B dX9_in_10 (by decide) ?_
  refine z_goto (tgt := 15) B dX9_in_11 (by decide) ?_
  exact z_zret B hr (by decide) (by decide) (by decide) dX9_in_15 ⟨rfl, rfl⟩
set_option maxRecDepth 100000 in
set_option maxHeartbeats 4000000 in
theorem ci_X9_ticks_1095 (l : Launch) {g : gx_T} {σ : sx_T} {b : Nat} (hK : lay b σ)   (hI_405_1 : sx_I σ (b + 405) 1 = 34) (hI_405_6 : sx_I σ (b + 405) 6 = 0) (hI_405_16 : sx_I σ (b + 405) 16 = 0) : Met l yX9_ticks (.code yX9_ticks cX9_ticks 2 none :: lw_g) { frames := 0, cells := 0, slots := 0, locals := 0 } (va_Pc [.ref (b + 405)] (zx_w g σ)) (va_Qv (fun u => u = (ap b σ [(405, 1, 35)] [] [])) (zx_w g) (gx_Q g)) 0 0 (gx_Q g) := by
  refine z_met (by decide) (Nat.le_of_ble_eq_true rfl) (fun p e s m below meth c B hr hin => ?_)
  refine z_eqs (σ' := (ap b σ [] [] [])) rfl ?_
  show zx p l e _ s m _ below meth c g 2 0 0 _ _ 0 [(0, .ref (b + 405))] []
  refine z_aload_n B dX9_ticks_0 rfl 0 rfl ?_
  refine z_dup B dX9_ticks_1 rfl ?_
  refine gf_X9_197 (x := 34) B (lKA (hk_K hK 405 rfl rfl)) (rI_at 405 1 hI_405_1) dX9_ticks_2 ?_
  refine z_iconst (v := 1) B dX9_ticks_5 (by decide) ?_
  refine z_iadd B dX9_ticks_6 ?_
  refine z_seti (y := 35) (by decide) ?_
  refine pf_X9_197 (x := 35) (σ' := (ap b σ [(405, 1, 35)] [] [])) B (lKA (hk_K hK 405 rfl rfl)) wI_ap dX9_ticks_7 ?_
  refine z_iconst (v := 0) B dX9_ticks_10 (by decide) ?_
  refine z_istore_n (lv' := [(1, .int 0), (0, .ref (b + 405))]) B dX9_ticks_11 rfl (by decide) rfl ?_
  refine z_iload_n B dX9_ticks_12 rfl 0 rfl ?_
  refine z_aload_n B dX9_ticks_13 rfl 1 rfl ?_
  refine gf_X9_100 (x := 0) B (lKA (hk_K hK 405 rfl rfl)) (rI_at 405 16 hI_405_16) dX9_ticks_14 ?_
  refine z_icmp_ge (tgt := 104) B dX9_ticks_17 (by decide) (fun _ => ?_) (fun h => absurd (by decide) h)
  refine z_iconst (v := 0) B dX9_ticks_104 (by decide) ?_
  refine z_istore_n (lv' := [(1, .int 0), (0, .ref (b + 405))]) B dX9_ticks_105 rfl (by decide) rfl ?_
  refine z_iload_n B dX9_ticks_106 rfl 0 rfl ?_
  refine z_aload_n B dX9_ticks_107 rfl 1 rfl ?_
  refine gf_X9_93 (x := 0) B (lKA (hk_K hK 405 rfl rfl)) (rI_at 405 6 hI_405_6) dX9_ticks_108 ?_
  refine z_icmp_ge (tgt := 176) B dX9_ticks_111 (by decide) (fun _ => ?_) (fun h => absurd (by decide) h)
  exact z_vret B hr (by decide) (by decide) dX9_ticks_176 rfl
set_option maxRecDepth 100000 in
set_option maxHeartbeats 4000000 in
theorem ci_X9_tick_1096 (l : Launch) {g : gx_T} {σ : sx_T} {b : Nat} (hK : lay b σ)   (hI_405_1 : sx_I σ (b + 405) 1 = 0) (hI_405_6 : sx_I σ (b + 405) 6 = 0) (hI_405_16 : sx_I σ (b + 405) 16 = 0) : Met l yX9_tick (.code yX9_tick cX9_tick 3 (some .int) :: lw_g) { frames := 1, cells := 0, slots := 0, locals := 22 } (va_Pc [.ref (b + 405), .int 35] (zx_w g σ)) (va_Qi (fun r u => r = 35 ∧ u = (ap b σ [(405, 1, 35), (405, 1, 34), (405, 1, 33), (405, 1, 32), (405, 1, 31), (405, 1, 30), (405, 1, 29), (405, 1, 28), (405, 1, 27), (405, 1, 26), (405, 1, 25), (405, 1, 24), (405, 1, 23), (405, 1, 22), (405, 1, 21), (405, 1, 20), (405, 1, 19), (405, 1, 18), (405, 1, 17), (405, 1, 16), (405, 1, 15), (405, 1, 14), (405, 1, 13), (405, 1, 12), (405, 1, 11), (405, 1, 10), (405, 1, 9), (405, 1, 8), (405, 1, 7), (405, 1, 6), (405, 1, 5), (405, 1, 4), (405, 1, 3), (405, 1, 2), (405, 1, 1), (405, 0, 0)] [] [])) (zx_w g) (gx_Q g)) 0 0 (gx_Q g) := by
  refine z_met (by decide) (Nat.le_of_ble_eq_true rfl) (fun p e s m below meth c B hr hin => ?_)
  refine z_eqs (σ' := (ap b σ [] [] [])) rfl ?_
  show zx p l e _ s m _ below meth c g 3 0 0 _ _ 0 [(0, .ref (b + 405)), (1, .int 35)] []
  refine z_aload_n B dX9_tick_0 rfl 0 rfl ?_
  refine z_iload_n B dX9_tick_1 rfl 1 rfl ?_
  refine z_iconst (v := 1) B dX9_tick_2 (by decide) ?_
  refine z_bipush (v := 50) B dX9_tick_3 (by decide) ?_
  refine z_cSi (As := [.int 35, .int 1, .int 50]) (rest := [.ref (b + 405)]) B cw_X9_96 dX9_tick_5 (ci_X9_in_1094 l (σ := (ap b σ [] [] [])) (b := b) (lyA hK) ) rfl (by decide) rfl (Nat.le_of_ble_eq_true rfl) (by decide) (fun r u hu => ?_)
  refine z_eqs (σ' := (ap b σ [] [] [])) hu.2 ?_
  show zx p l e _ s m _ below meth c g 3 0 0 _ _ 8 [(0, .ref (b + 405)), (1, .int 35)] _
  refine z_seti (y := 1) hu.1 ?_
  refine z_cVi (As := [.int 1]) (rest := []) B cw_X9_269 cx_10 dX9_tick_8 (ci_X9_needs_905 l (σ := (ap b σ [] [] [])) (b := b) (lyA hK) ) (lKA (hk_K hK 405 rfl rfl)) rfl (by decide) rfl (Nat.le_of_ble_eq_true rfl) (by decide) (fun r u hu => ?_)
  refine z_eqs (σ' := (ap b σ [(405, 0, 0)] [] [])) (hu.2.trans ap_ap) ?_
  show zx p l e _ s m _ below meth c g 3 0 0 _ _ 11 [(0, .ref (b + 405)), (1, .int 35)] _
  refine z_seti (y := 1) hu.1 ?_
  refine z_if_ne (tgt := 16) B dX9_tick_11 (by decide) (fun _ => ?_) (fun h => absurd h (by decide))
  refine z_iconst (v := 0) B dX9_tick_16 (by decide) ?_
  refine z_istore_n (lv' := [(2, .int 0), (0, .ref (b + 405)), (1, .int 35)]) B dX9_tick_17 rfl (by decide) rfl ?_
  refine z_iload_n B dX9_tick_18 rfl 0 rfl ?_
  refine z_iload_n B dX9_tick_19 rfl 2 rfl ?_
  refine z_icmp_ge (tgt := 33) B dX9_tick_20 (by decide) (fun h => absurd h (by decide)) (fun _ => ?_)
  refine z_aload_n B dX9_tick_23 rfl 1 rfl ?_
  refine z_cVv (As := []) (rest := []) B cw_X9_294 cx_10 dX9_tick_24 (ci_X9_ticks_925 l (σ := (ap b σ [(405, 0, 0)] [] [])) (b := b) (lyA hK) (rI_at 405 1 hI_405_1) (rI_at 405 6 hI_405_6) (rI_at 405 16 hI_405_16)) (lKA (hk_K hK 405 rfl rfl)) rfl (by decide) rfl (Nat.le_of_ble_eq_true rfl) (by decide) (fun u hu => ?_)
  refine z_eqs (σ' := (ap b σ [(405, 1, 1), (405, 0, 0)] [] [])) (hu.trans ap_ap) ?_
  show zx p l e _ s m _ below meth c g 3 0 0 _ _ 27 [(2, .int 0), (0, .ref (b + 405)), (1, .int 35)] _
  refine z_iinc (v := 1) (lv' := [(2, .int 1), (0, .ref (b + 405)), (1, .int 35)]) B dX9_tick_27 0 rfl (by decide) (by decide) rfl ?_
  refine z_goto (tgt := 18) B dX9_tick_30 (by decide) ?_
  refine z_iload_n B dX9_tick_18 rfl 0 rfl ?_
  refine z_iload_n B dX9_tick_19 rfl 2 rfl ?_
  refine z_icmp_ge (tgt := 33) B dX9_tick_20 (by decide) (fun h => absurd h (by decide)) (fun _ => ?_)
  refine z_aload_n B dX9_tick_23 rfl 1 rfl ?_
  refine z_cVv (As := []) (rest := []) B cw_X9_294 cx_10 dX9_tick_24 (ci_X9_ticks_930 l (σ := (ap b σ [(405, 1, 1), (405, 0, 0)] [] [])) (b := b) (lyA hK) (rI_at 405 1 rfl) (rI_at 405 6 hI_405_6) (rI_at 405 16 hI_405_16)) (lKA (hk_K hK 405 rfl rfl)) rfl (by decide) rfl (Nat.le_of_ble_eq_true rfl) (by decide) (fun u hu => ?_)
  refine z_eqs (σ' := (ap b σ [(405, 1, 2), (405, 1, 1), (405, 0, 0)] [] [])) (hu.trans ap_ap) ?_
  show zx p l e _ s m _ below meth c g 3 0 0 _ _ 27 [(2, .int 1), (0, .ref (b + 405)), (1, .int 35)] _
  refine z_iinc (v := 2) (lv' := [(2, .int 2), (0, .ref (b + 405)), (1, .int 35)]) B dX9_tick_27 0 rfl (by decide) (by decide) rfl ?_
  refine z_goto (tgt := 18) B dX9_tick_30 (by decide) ?_
  refine z_iload_n B dX9_tick_18 rfl 0 rfl ?_
  refine z_iload_n B dX9_tick_19 rfl 2 rfl ?_
  refine z_icmp_ge (tgt := 33) B dX9_tick_20 (by decide) (fun h => absurd h (by decide)) (fun _ => ?_)
  refine z_aload_n B dX9_tick_23 rfl 1 rfl ?_
  refine z_cVv (As := []) (rest := []) B cw_X9_294 cx_10 dX9_tick_24 (ci_X9_ticks_935 l (σ := (ap b σ [(405, 1, 2), (405, 1, 1), (405, 0, 0)] [] [])) (b := b) (lyA hK) (rI_at 405 1 rfl) (rI_at 405 6 hI_405_6) (rI_at 405 16 hI_405_16)) (lKA (hk_K hK 405 rfl rfl)) rfl (by decide) rfl (Nat.le_of_ble_eq_true rfl) (by decide) (fun u hu => ?_)
  refine z_eqs (σ' := (ap b σ [(405, 1, 3), (405, 1, 2), (405, 1, 1), (405, 0, 0)] [] [])) (hu.trans ap_ap) ?_
  show zx p l e _ s m _ below meth c g 3 0 0 _ _ 27 [(2, .int 2), (0, .ref (b + 405)), (1, .int 35)] _
  refine z_iinc (v := 3) (lv' := [(2, .int 3), (0, .ref (b + 405)), (1, .int 35)]) B dX9_tick_27 0 rfl (by decide) (by decide) rfl ?_
  refine z_goto (tgt := 18) B dX9_tick_30 (by decide) ?_
  refine z_iload_n B dX9_tick_18 rfl 0 rfl ?_
  refine z_iload_n B dX9_tick_19 rfl 2 rfl ?_
  refine z_icmp_ge (tgt := 33) B dX9_tick_20 (by decide) (fun h => absurd h (by decide)) (fun _ => ?_)
  refine z_aload_n B dX9_tick_23 rfl 1 rfl ?_
  refine z_cVv (As := []) (rest := []) B cw_X9_294 cx_10 dX9_tick_24 (ci_X9_ticks_940 l (σ := (ap b σ [(405, 1, 3), (405, 1, 2), (405, 1, 1), (405, 0, 0)] [] [])) (b := b) (lyA hK) (rI_at 405 1 rfl) (rI_at 405 6 hI_405_6) (rI_at 405 16 hI_405_16)) (lKA (hk_K hK 405 rfl rfl)) rfl (by decide) rfl (Nat.le_of_ble_eq_true rfl) (by decide) (fun u hu => ?_)
  refine z_eqs (σ' := (ap b σ [(405, 1, 4), (405, 1, 3), (405, 1, 2), (405, 1, 1), (405, 0, 0)] [] [])) (hu.trans ap_ap) ?_
  show zx p l e _ s m _ below meth c g 3 0 0 _ _ 27 [(2, .int 3), (0, .ref (b + 405)), (1, .int 35)] _
  refine z_iinc (v := 4) (lv' := [(2, .int 4), (0, .ref (b + 405)), (1, .int 35)]) B dX9_tick_27 0 rfl (by decide) (by decide) rfl ?_
  refine z_goto (tgt := 18) B dX9_tick_30 (by decide) ?_
  refine z_iload_n B dX9_tick_18 rfl 0 rfl ?_
  refine z_iload_n B dX9_tick_19 rfl 2 rfl ?_
  refine z_icmp_ge (tgt := 33) B dX9_tick_20 (by decide) (fun h => absurd h (by decide)) (fun _ => ?_)
  refine z_aload_n B dX9_tick_23 rfl 1 rfl ?_
  refine z_cVv (As := []) (rest := []) B cw_X9_294 cx_10 dX9_tick_24 (ci_X9_ticks_945 l (σ := (ap b σ [(405, 1, 4), (405, 1, 3), (405, 1, 2), (405, 1, 1), (405, 0, 0)] [] [])) (b := b) (lyA hK) (rI_at 405 1 rfl) (rI_at 405 6 hI_405_6) (rI_at 405 16 hI_405_16)) (lKA (hk_K hK 405 rfl rfl)) rfl (by decide) rfl (Nat.le_of_ble_eq_true rfl) (by decide) (fun u hu => ?_)
  refine z_eqs (σ' := (ap b σ [(405, 1, 5), (405, 1, 4), (405, 1, 3), (405, 1, 2), (405, 1, 1), (405, 0, 0)] [] [])) (hu.trans ap_ap) ?_
  show zx p l e _ s m _ below meth c g 3 0 0 _ _ 27 [(2, .int 4), (0, .ref (b + 405)), (1, .int 35)] _
  refine z_iinc (v := 5) (lv' := [(2, .int 5), (0, .ref (b + 405)), (1, .int 35)]) B dX9_tick_27 0 rfl (by decide) (by decide) rfl ?_
  refine z_goto (tgt := 18) B dX9_tick_30 (by decide) ?_
  refine z_iload_n B dX9_tick_18 rfl 0 rfl ?_
  refine z_iload_n B dX9_tick_19 rfl 2 rfl ?_
  refine z_icmp_ge (tgt := 33) B dX9_tick_20 (by decide) (fun h => absurd h (by decide)) (fun _ => ?_)
  refine z_aload_n B dX9_tick_23 rfl 1 rfl ?_
  refine z_cVv (As := []) (rest := []) B cw_X9_294 cx_10 dX9_tick_24 (ci_X9_ticks_950 l (σ := (ap b σ [(405, 1, 5), (405, 1, 4), (405, 1, 3), (405, 1, 2), (405, 1, 1), (405, 0, 0)] [] [])) (b := b) (lyA hK) (rI_at 405 1 rfl) (rI_at 405 6 hI_405_6) (rI_at 405 16 hI_405_16)) (lKA (hk_K hK 405 rfl rfl)) rfl (by decide) rfl (Nat.le_of_ble_eq_true rfl) (by decide) (fun u hu => ?_)
  refine z_eqs (σ' := (ap b σ [(405, 1, 6), (405, 1, 5), (405, 1, 4), (405, 1, 3), (405, 1, 2), (405, 1, 1), (405, 0, 0)] [] [])) (hu.trans ap_ap) ?_
  show zx p l e _ s m _ below meth c g 3 0 0 _ _ 27 [(2, .int 5), (0, .ref (b + 405)), (1, .int 35)] _
  refine z_iinc (v := 6) (lv' := [(2, .int 6), (0, .ref (b + 405)), (1, .int 35)]) B dX9_tick_27 0 rfl (by decide) (by decide) rfl ?_
  refine z_goto (tgt := 18) B dX9_tick_30 (by decide) ?_
  refine z_iload_n B dX9_tick_18 rfl 0 rfl ?_
  refine z_iload_n B dX9_tick_19 rfl 2 rfl ?_
  refine z_icmp_ge (tgt := 33) B dX9_tick_20 (by decide) (fun h => absurd h (by decide)) (fun _ => ?_)
  refine z_aload_n B dX9_tick_23 rfl 1 rfl ?_
  refine z_cVv (As := []) (rest := []) B cw_X9_294 cx_10 dX9_tick_24 (ci_X9_ticks_955 l (σ := (ap b σ [(405, 1, 6), (405, 1, 5), (405, 1, 4), (405, 1, 3), (405, 1, 2), (405, 1, 1), (405, 0, 0)] [] [])) (b := b) (lyA hK) (rI_at 405 1 rfl) (rI_at 405 6 hI_405_6) (rI_at 405 16 hI_405_16)) (lKA (hk_K hK 405 rfl rfl)) rfl (by decide) rfl (Nat.le_of_ble_eq_true rfl) (by decide) (fun u hu => ?_)
  refine z_eqs (σ' := (ap b σ [(405, 1, 7), (405, 1, 6), (405, 1, 5), (405, 1, 4), (405, 1, 3), (405, 1, 2), (405, 1, 1), (405, 0, 0)] [] [])) (hu.trans ap_ap) ?_
  show zx p l e _ s m _ below meth c g 3 0 0 _ _ 27 [(2, .int 6), (0, .ref (b + 405)), (1, .int 35)] _
  refine z_iinc (v := 7) (lv' := [(2, .int 7), (0, .ref (b + 405)), (1, .int 35)]) B dX9_tick_27 0 rfl (by decide) (by decide) rfl ?_
  refine z_goto (tgt := 18) B dX9_tick_30 (by decide) ?_
  refine z_iload_n B dX9_tick_18 rfl 0 rfl ?_
  refine z_iload_n B dX9_tick_19 rfl 2 rfl ?_
  refine z_icmp_ge (tgt := 33) B dX9_tick_20 (by decide) (fun h => absurd h (by decide)) (fun _ => ?_)
  refine z_aload_n B dX9_tick_23 rfl 1 rfl ?_
  refine z_cVv (As := []) (rest := []) B cw_X9_294 cx_10 dX9_tick_24 (ci_X9_ticks_960 l (σ := (ap b σ [(405, 1, 7), (405, 1, 6), (405, 1, 5), (405, 1, 4), (405, 1, 3), (405, 1, 2), (405, 1, 1), (405, 0, 0)] [] [])) (b := b) (lyA hK) (rI_at 405 1 rfl) (rI_at 405 6 hI_405_6) (rI_at 405 16 hI_405_16)) (lKA (hk_K hK 405 rfl rfl)) rfl (by decide) rfl (Nat.le_of_ble_eq_true rfl) (by decide) (fun u hu => ?_)
  refine z_eqs (σ' := (ap b σ [(405, 1, 8), (405, 1, 7), (405, 1, 6), (405, 1, 5), (405, 1, 4), (405, 1, 3), (405, 1, 2), (405, 1, 1), (405, 0, 0)] [] [])) (hu.trans ap_ap) ?_
  show zx p l e _ s m _ below meth c g 3 0 0 _ _ 27 [(2, .int 7), (0, .ref (b + 405)), (1, .int 35)] _
  refine z_iinc (v := 8) (lv' := [(2, .int 8), (0, .ref (b + 405)), (1, .int 35)]) B dX9_tick_27 0 rfl (by decide) (by decide) rfl ?_
  refine z_goto (tgt := 18) B dX9_tick_30 (by decide) ?_
  refine z_iload_n B dX9_tick_18 rfl 0 rfl ?_
  refine z_iload_n B dX9_tick_19 rfl 2 rfl ?_
  refine z_icmp_ge (tgt := 33) B dX9_tick_20 (by decide) (fun h => absurd h (by decide)) (fun _ => ?_)
  refine z_aload_n B dX9_tick_23 rfl 1 rfl ?_
  refine z_cVv (As := []) (rest := []) B cw_X9_294 cx_10 dX9_tick_24 (ci_X9_ticks_965 l (σ := (ap b σ [(405, 1, 8), (405, 1, 7), (405, 1, 6), (405, 1, 5), (405, 1, 4), (405, 1, 3), (405, 1, 2), (405, 1, 1), (405, 0, 0)] [] [])) (b := b) (lyA hK) (rI_at 405 1 rfl) (rI_at 405 6 hI_405_6) (rI_at 405 16 hI_405_16)) (lKA (hk_K hK 405 rfl rfl)) rfl (by decide) rfl (Nat.le_of_ble_eq_true rfl) (by decide) (fun u hu => ?_)
  refine z_eqs (σ' := (ap b σ [(405, 1, 9), (405, 1, 8), (405, 1, 7), (405, 1, 6), (405, 1, 5), (405, 1, 4), (405, 1, 3), (405, 1, 2), (405, 1, 1), (405, 0, 0)] [] [])) (hu.trans ap_ap) ?_
  show zx p l e _ s m _ below meth c g 3 0 0 _ _ 27 [(2, .int 8), (0, .ref (b + 405)), (1, .int 35)] _
  refine z_iinc (v := 9) (lv' := [(2, .int 9), (0, .ref (b + 405)), (1, .int 35)]) B dX9_tick_27 0 rfl (by decide) (by decide) rfl ?_
  refine z_goto (tgt := 18) B dX9_tick_30 (by decide) ?_
  refine z_iload_n B dX9_tick_18 rfl 0 rfl ?_
  refine z_iload_n B dX9_tick_19 rfl 2 rfl ?_
  refine z_icmp_ge (tgt := 33) B dX9_tick_20 (by decide) (fun h => absurd h (by decide)) (fun _ => ?_)
  refine z_aload_n B dX9_tick_23 rfl 1 rfl ?_
  refine z_cVv (As := []) (rest := []) B cw_X9_294 cx_10 dX9_tick_24 (ci_X9_ticks_970 l (σ := (ap b σ [(405, 1, 9), (405, 1, 8), (405, 1, 7), (405, 1, 6), (405, 1, 5), (405, 1, 4), (405, 1, 3), (405, 1, 2), (405, 1, 1), (405, 0, 0)] [] [])) (b := b) (lyA hK) (rI_at 405 1 rfl) (rI_at 405 6 hI_405_6) (rI_at 405 16 hI_405_16)) (lKA (hk_K hK 405 rfl rfl)) rfl (by decide) rfl (Nat.le_of_ble_eq_true rfl) (by decide) (fun u hu => ?_)
  refine z_eqs (σ' := (ap b σ [(405, 1, 10), (405, 1, 9), (405, 1, 8), (405, 1, 7), (405, 1, 6), (405, 1, 5), (405, 1, 4), (405, 1, 3), (405, 1, 2), (405, 1, 1), (405, 0, 0)] [] [])) (hu.trans ap_ap) ?_
  show zx p l e _ s m _ below meth c g 3 0 0 _ _ 27 [(2, .int 9), (0, .ref (b + 405)), (1, .int 35)] _
  refine z_iinc (v := 10) (lv' := [(2, .int 10), (0, .ref (b + 405)), (1, .int 35)]) B dX9_tick_27 0 rfl (by decide) (by decide) rfl ?_
  refine z_goto (tgt := 18) B dX9_tick_30 (by decide) ?_
  refine z_iload_n B dX9_tick_18 rfl 0 rfl ?_
  refine z_iload_n B dX9_tick_19 rfl 2 rfl ?_
  refine z_icmp_ge (tgt := 33) B dX9_tick_20 (by decide) (fun h => absurd h (by decide)) (fun _ => ?_)
  refine z_aload_n B dX9_tick_23 rfl 1 rfl ?_
  refine z_cVv (As := []) (rest := []) B cw_X9_294 cx_10 dX9_tick_24 (ci_X9_ticks_975 l (σ := (ap b σ [(405, 1, 10), (405, 1, 9), (405, 1, 8), (405, 1, 7), (405, 1, 6), (405, 1, 5), (405, 1, 4), (405, 1, 3), (405, 1, 2), (405, 1, 1), (405, 0, 0)] [] [])) (b := b) (lyA hK) (rI_at 405 1 rfl) (rI_at 405 6 hI_405_6) (rI_at 405 16 hI_405_16)) (lKA (hk_K hK 405 rfl rfl)) rfl (by decide) rfl (Nat.le_of_ble_eq_true rfl) (by decide) (fun u hu => ?_)
  refine z_eqs (σ' := (ap b σ [(405, 1, 11), (405, 1, 10), (405, 1, 9), (405, 1, 8), (405, 1, 7), (405, 1, 6), (405, 1, 5), (405, 1, 4), (405, 1, 3), (405, 1, 2), (405, 1, 1), (405, 0, 0)] [] [])) (hu.trans ap_ap) ?_
  show zx p l e _ s m _ below meth c g 3 0 0 _ _ 27 [(2, .int 10), (0, .ref (b + 405)), (1, .int 35)] _
  refine z_iinc (v := 11) (lv' := [(2, .int 11), (0, .ref (b + 405)), (1, .int 35)]) B dX9_tick_27 0 rfl (by decide) (by decide) rfl ?_
  refine z_goto (tgt := 18) B dX9_tick_30 (by decide) ?_
  refine z_iload_n B dX9_tick_18 rfl 0 rfl ?_
  refine z_iload_n B dX9_tick_19 rfl 2 rfl ?_
  refine z_icmp_ge (tgt := 33) B dX9_tick_20 (by decide) (fun h => absurd h (by decide)) (fun _ => ?_)
  refine z_aload_n B dX9_tick_23 rfl 1 rfl ?_
  refine z_cVv (As := []) (rest := []) B cw_X9_294 cx_10 dX9_tick_24 (ci_X9_ticks_980 l (σ := (ap b σ [(405, 1, 11), (405, 1, 10), (405, 1, 9), (405, 1, 8), (405, 1, 7), (405, 1, 6), (405, 1, 5), (405, 1, 4), (405, 1, 3), (405, 1, 2), (405, 1, 1), (405, 0, 0)] [] [])) (b := b) (lyA hK) (rI_at 405 1 rfl) (rI_at 405 6 hI_405_6) (rI_at 405 16 hI_405_16)) (lKA (hk_K hK 405 rfl rfl)) rfl (by decide) rfl (Nat.le_of_ble_eq_true rfl) (by decide) (fun u hu => ?_)
  refine z_eqs (σ' := (ap b σ [(405, 1, 12), (405, 1, 11), (405, 1, 10), (405, 1, 9), (405, 1, 8), (405, 1, 7), (405, 1, 6), (405, 1, 5), (405, 1, 4), (405, 1, 3), (405, 1, 2), (405, 1, 1), (405, 0, 0)] [] [])) (hu.trans ap_ap) ?_
  show zx p l e _ s m _ below meth c g 3 0 0 _ _ 27 [(2, .int 11), (0, .ref (b + 405)), (1, .int 35)] _
  refine z_iinc (v := 12) (lv' := [(2, .int 12), (0, .ref (b + 405)), (1, .int 35)]) B dX9_tick_27 0 rfl (by decide) (by decide) rfl ?_
  refine z_goto (tgt := 18) B dX9_tick_30 (by decide) ?_
  refine z_iload_n B dX9_tick_18 rfl 0 rfl ?_
  refine z_iload_n B dX9_tick_19 rfl 2 rfl ?_
  refine z_icmp_ge (tgt := 33) B dX9_tick_20 (by decide) (fun h => absurd h (by decide)) (fun _ => ?_)
  refine z_aload_n B dX9_tick_23 rfl 1 rfl ?_
  refine z_cVv (As := []) (rest := []) B cw_X9_294 cx_10 dX9_tick_24 (ci_X9_ticks_985 l (σ := (ap b σ [(405, 1, 12), (405, 1, 11), (405, 1, 10), (405, 1, 9), (405, 1, 8), (405, 1, 7), (405, 1, 6), (405, 1, 5), (405, 1, 4), (405, 1, 3), (405, 1, 2), (405, 1, 1), (405, 0, 0)] [] [])) (b := b) (lyA hK) (rI_at 405 1 rfl) (rI_at 405 6 hI_405_6) (rI_at 405 16 hI_405_16)) (lKA (hk_K hK 405 rfl rfl)) rfl (by decide) rfl (Nat.le_of_ble_eq_true rfl) (by decide) (fun u hu => ?_)
  refine z_eqs (σ' := (ap b σ [(405, 1, 13), (405, 1, 12), (405, 1, 11), (405, 1, 10), (405, 1, 9), (405, 1, 8), (405, 1, 7), (405, 1, 6), (405, 1, 5), (405, 1, 4), (405, 1, 3), (405, 1, 2), (405, 1, 1), (405, 0, 0)] [] [])) (hu.trans ap_ap) ?_
  show zx p l e _ s m _ below meth c g 3 0 0 _ _ 27 [(2, .int 12), (0, .ref (b + 405)), (1, .int 35)] _
  refine z_iinc (v := 13) (lv' := [(2, .int 13), (0, .ref (b + 405)), (1, .int 35)]) B dX9_tick_27 0 rfl (by decide) (by decide) rfl ?_
  refine z_goto (tgt := 18) B dX9_tick_30 (by decide) ?_
  refine z_iload_n B dX9_tick_18 rfl 0 rfl ?_
  refine z_iload_n B dX9_tick_19 rfl 2 rfl ?_
  refine z_icmp_ge (tgt := 33) B dX9_tick_20 (by decide) (fun h => absurd h (by decide)) (fun _ => ?_)
  refine z_aload_n B dX9_tick_23 rfl 1 rfl ?_
  refine z_cVv (As := []) (rest := []) B cw_X9_294 cx_10 dX9_tick_24 (ci_X9_ticks_990 l (σ := (ap b σ [(405, 1, 13), (405, 1, 12), (405, 1, 11), (405, 1, 10), (405, 1, 9), (405, 1, 8), (405, 1, 7), (405, 1, 6), (405, 1, 5), (405, 1, 4), (405, 1, 3), (405, 1, 2), (405, 1, 1), (405, 0, 0)] [] [])) (b := b) (lyA hK) (rI_at 405 1 rfl) (rI_at 405 6 hI_405_6) (rI_at 405 16 hI_405_16)) (lKA (hk_K hK 405 rfl rfl)) rfl (by decide) rfl (Nat.le_of_ble_eq_true rfl) (by decide) (fun u hu => ?_)
  refine z_eqs (σ' := (ap b σ [(405, 1, 14), (405, 1, 13), (405, 1, 12), (405, 1, 11), (405, 1, 10), (405, 1, 9), (405, 1, 8), (405, 1, 7), (405, 1, 6), (405, 1, 5), (405, 1, 4), (405, 1, 3), (405, 1, 2), (405, 1, 1), (405, 0, 0)] [] [])) (hu.trans ap_ap) ?_
  show zx p l e _ s m _ below meth c g 3 0 0 _ _ 27 [(2, .int 13), (0, .ref (b + 405)), (1, .int 35)] _
  refine z_iinc (v := 14) (lv' := [(2, .int 14), (0, .ref (b + 405)), (1, .int 35)]) B dX9_tick_27 0 rfl (by decide) (by decide) rfl ?_
  refine z_goto (tgt := 18) B dX9_tick_30 (by decide) ?_
  refine z_iload_n B dX9_tick_18 rfl 0 rfl ?_
  refine z_iload_n B dX9_tick_19 rfl 2 rfl ?_
  refine z_icmp_ge (tgt := 33) B dX9_tick_20 (by decide) (fun h => absurd h (by decide)) (fun _ => ?_)
  refine z_aload_n B dX9_tick_23 rfl 1 rfl ?_
  refine z_cVv (As := []) (rest := []) B cw_X9_294 cx_10 dX9_tick_24 (ci_X9_ticks_995 l (σ := (ap b σ [(405, 1, 14), (405, 1, 13), (405, 1, 12), (405, 1, 11), (405, 1, 10), (405, 1, 9), (405, 1, 8), (405, 1, 7), (405, 1, 6), (405, 1, 5), (405, 1, 4), (405, 1, 3), (405, 1, 2), (405, 1, 1), (405, 0, 0)] [] [])) (b := b) (lyA hK) (rI_at 405 1 rfl) (rI_at 405 6 hI_405_6) (rI_at 405 16 hI_405_16)) (lKA (hk_K hK 405 rfl rfl)) rfl (by decide) rfl (Nat.le_of_ble_eq_true rfl) (by decide) (fun u hu => ?_)
  refine z_eqs (σ' := (ap b σ [(405, 1, 15), (405, 1, 14), (405, 1, 13), (405, 1, 12), (405, 1, 11), (405, 1, 10), (405, 1, 9), (405, 1, 8), (405, 1, 7), (405, 1, 6), (405, 1, 5), (405, 1, 4), (405, 1, 3), (405, 1, 2), (405, 1, 1), (405, 0, 0)] [] [])) (hu.trans ap_ap) ?_
  show zx p l e _ s m _ below meth c g 3 0 0 _ _ 27 [(2, .int 14), (0, .ref (b + 405)), (1, .int 35)] _
  refine z_iinc (v := 15) (lv' := [(2, .int 15), (0, .ref (b + 405)), (1, .int 35)]) B dX9_tick_27 0 rfl (by decide) (by decide) rfl ?_
  refine z_goto (tgt := 18) B dX9_tick_30 (by decide) ?_
  refine z_iload_n B dX9_tick_18 rfl 0 rfl ?_
  refine z_iload_n B dX9_tick_19 rfl 2 rfl ?_
  refine z_icmp_ge (tgt := 33) B dX9_tick_20 (by decide) (fun h => absurd h (by decide)) (fun _ => ?_)
  refine z_aload_n B dX9_tick_23 rfl 1 rfl ?_
  refine z_cVv (As := []) (rest := []) B cw_X9_294 cx_10 dX9_tick_24 (ci_X9_ticks_1000 l (σ := (ap b σ [(405, 1, 15), (405, 1, 14), (405, 1, 13), (405, 1, 12), (405, 1, 11), (405, 1, 10), (405, 1, 9), (405, 1, 8), (405, 1, 7), (405, 1, 6), (405, 1, 5), (405, 1, 4), (405, 1, 3), (405, 1, 2), (405, 1, 1), (405, 0, 0)] [] [])) (b := b) (lyA hK) (rI_at 405 1 rfl) (rI_at 405 6 hI_405_6) (rI_at 405 16 hI_405_16)) (lKA (hk_K hK 405 rfl rfl)) rfl (by decide) rfl (Nat.le_of_ble_eq_true rfl) (by decide) (fun u hu => ?_)
  refine z_eqs (σ' := (ap b σ [(405, 1, 16), (405, 1, 15), (405, 1, 14), (405, 1, 13), (405, 1, 12), (405, 1, 11), (405, 1, 10), (405, 1, 9), (405, 1, 8), (405, 1, 7), (405, 1, 6), (405, 1, 5), (405, 1, 4), (405, 1, 3), (405, 1, 2), (405, 1, 1), (405, 0, 0)] [] [])) (hu.trans ap_ap) ?_
  show zx p l e _ s m _ below meth c g 3 0 0 _ _ 27 [(2, .int 15), (0, .ref (b + 405)), (1, .int 35)] _
  refine z_iinc (v := 16) (lv' := [(2, .int 16), (0, .ref (b + 405)), (1, .int 35)]) B dX9_tick_27 0 rfl (by decide) (by decide) rfl ?_
  refine z_goto (tgt := 18) B dX9_tick_30 (by decide) ?_
  refine z_iload_n B dX9_tick_18 rfl 0 rfl ?_
  refine z_iload_n B dX9_tick_19 rfl 2 rfl ?_
  refine z_icmp_ge (tgt := 33) B dX9_tick_20 (by decide) (fun h => absurd h (by decide)) (fun _ => ?_)
  refine z_aload_n B dX9_tick_23 rfl 1 rfl ?_
  refine z_cVv (As := []) (rest := []) B cw_X9_294 cx_10 dX9_tick_24 (ci_X9_ticks_1005 l (σ := (ap b σ [(405, 1, 16), (405, 1, 15), (405, 1, 14), (405, 1, 13), (405, 1, 12), (405, 1, 11), (405, 1, 10), (405, 1, 9), (405, 1, 8), (405, 1, 7), (405, 1, 6), (405, 1, 5), (405, 1, 4), (405, 1, 3), (405, 1, 2), (405, 1, 1), (405, 0, 0)] [] [])) (b := b) (lyA hK) (rI_at 405 1 rfl) (rI_at 405 6 hI_405_6) (rI_at 405 16 hI_405_16)) (lKA (hk_K hK 405 rfl rfl)) rfl (by decide) rfl (Nat.le_of_ble_eq_true rfl) (by decide) (fun u hu => ?_)
  refine z_eqs (σ' := (ap b σ [(405, 1, 17), (405, 1, 16), (405, 1, 15), (405, 1, 14), (405, 1, 13), (405, 1, 12), (405, 1, 11), (405, 1, 10), (405, 1, 9), (405, 1, 8), (405, 1, 7), (405, 1, 6), (405, 1, 5), (405, 1, 4), (405, 1, 3), (405, 1, 2), (405, 1, 1), (405, 0, 0)] [] [])) (hu.trans ap_ap) ?_
  show zx p l e _ s m _ below meth c g 3 0 0 _ _ 27 [(2, .int 16), (0, .ref (b + 405)), (1, .int 35)] _
  refine z_iinc (v := 17) (lv' := [(2, .int 17), (0, .ref (b + 405)), (1, .int 35)]) B dX9_tick_27 0 rfl (by decide) (by decide) rfl ?_
  refine z_goto (tgt := 18) B dX9_tick_30 (by decide) ?_
  refine z_iload_n B dX9_tick_18 rfl 0 rfl ?_
  refine z_iload_n B dX9_tick_19 rfl 2 rfl ?_
  refine z_icmp_ge (tgt := 33) B dX9_tick_20 (by decide) (fun h => absurd h (by decide)) (fun _ => ?_)
  refine z_aload_n B dX9_tick_23 rfl 1 rfl ?_
  refine z_cVv (As := []) (rest := []) B cw_X9_294 cx_10 dX9_tick_24 (ci_X9_ticks_1010 l (σ := (ap b σ [(405, 1, 17), (405, 1, 16), (405, 1, 15), (405, 1, 14), (405, 1, 13), (405, 1, 12), (405, 1, 11), (405, 1, 10), (405, 1, 9), (405, 1, 8), (405, 1, 7), (405, 1, 6), (405, 1, 5), (405, 1, 4), (405, 1, 3), (405, 1, 2), (405, 1, 1), (405, 0, 0)] [] [])) (b := b) (lyA hK) (rI_at 405 1 rfl) (rI_at 405 6 hI_405_6) (rI_at 405 16 hI_405_16)) (lKA (hk_K hK 405 rfl rfl)) rfl (by decide) rfl (Nat.le_of_ble_eq_true rfl) (by decide) (fun u hu => ?_)
  refine z_eqs (σ' := (ap b σ [(405, 1, 18), (405, 1, 17), (405, 1, 16), (405, 1, 15), (405, 1, 14), (405, 1, 13), (405, 1, 12), (405, 1, 11), (405, 1, 10), (405, 1, 9), (405, 1, 8), (405, 1, 7), (405, 1, 6), (405, 1, 5), (405, 1, 4), (405, 1, 3), (405, 1, 2), (405, 1, 1), (405, 0, 0)] [] [])) (hu.trans ap_ap) ?_
  show zx p l e _ s m _ below meth c g 3 0 0 _ _ 27 [(2, .int 17), (0, .ref (b + 405)), (1, .int 35)] _
  refine z_iinc (v := 18) (lv' := [(2, .int 18), (0, .ref (b + 405)), (1, .int 35)]) B dX9_tick_27 0 rfl (by decide) (by decide) rfl ?_
  refine z_goto (tgt := 18) B dX9_tick_30 (by decide) ?_
  refine z_iload_n B dX9_tick_18 rfl 0 rfl ?_
  refine z_iload_n B dX9_tick_19 rfl 2 rfl ?_
  refine z_icmp_ge (tgt := 33) B dX9_tick_20 (by decide) (fun h => absurd h (by decide)) (fun _ => ?_)
  refine z_aload_n B dX9_tick_23 rfl 1 rfl ?_
  refine z_cVv (As := []) (rest := []) B cw_X9_294 cx_10 dX9_tick_24 (ci_X9_ticks_1015 l (σ := (ap b σ [(405, 1, 18), (405, 1, 17), (405, 1, 16), (405, 1, 15), (405, 1, 14), (405, 1, 13), (405, 1, 12), (405, 1, 11), (405, 1, 10), (405, 1, 9), (405, 1, 8), (405, 1, 7), (405, 1, 6), (405, 1, 5), (405, 1, 4), (405, 1, 3), (405, 1, 2), (405, 1, 1), (405, 0, 0)] [] [])) (b := b) (lyA hK) (rI_at 405 1 rfl) (rI_at 405 6 hI_405_6) (rI_at 405 16 hI_405_16)) (lKA (hk_K hK 405 rfl rfl)) rfl (by decide) rfl (Nat.le_of_ble_eq_true rfl) (by decide) (fun u hu => ?_)
  refine z_eqs (σ' := (ap b σ [(405, 1, 19), (405, 1, 18), (405, 1, 17), (405, 1, 16), (405, 1, 15), (405, 1, 14), (405, 1, 13), (405, 1, 12), (405, 1, 11), (405, 1, 10), (405, 1, 9), (405, 1, 8), (405, 1, 7), (405, 1, 6), (405, 1, 5), (405, 1, 4), (405, 1, 3), (405, 1, 2), (405, 1, 1), (405, 0, 0)] [] [])) (hu.trans ap_ap) ?_
  show zx p l e _ s m _ below meth c g 3 0 0 _ _ 27 [(2, .int 18), (0, .ref (b + 405)), (1, .int 35)] _
  refine z_iinc (v := 19) (lv' := [(2, .int 19), (0, .ref (b + 405)), (1, .int 35)]) B dX9_tick_27 0 rfl (by decide) (by decide) rfl ?_
  refine z_goto (tgt := 18) B dX9_tick_30 (by decide) ?_
  refine z_iload_n B dX9_tick_18 rfl 0 rfl ?_
  refine z_iload_n B dX9_tick_19 rfl 2 rfl ?_
  refine z_icmp_ge (tgt := 33) B dX9_tick_20 (by decide) (fun h => absurd h (by decide)) (fun _ => ?_)
  refine z_aload_n B dX9_tick_23 rfl 1 rfl ?_
  refine z_cVv (As := []) (rest := []) B cw_X9_294 cx_10 dX9_tick_24 (ci_X9_ticks_1020 l (σ := (ap b σ [(405, 1, 19), (405, 1, 18), (405, 1, 17), (405, 1, 16), (405, 1, 15), (405, 1, 14), (405, 1, 13), (405, 1, 12), (405, 1, 11), (405, 1, 10), (405, 1, 9), (405, 1, 8), (405, 1, 7), (405, 1, 6), (405, 1, 5), (405, 1, 4), (405, 1, 3), (405, 1, 2), (405, 1, 1), (405, 0, 0)] [] [])) (b := b) (lyA hK) (rI_at 405 1 rfl) (rI_at 405 6 hI_405_6) (rI_at 405 16 hI_405_16)) (lKA (hk_K hK 405 rfl rfl)) rfl (by decide) rfl (Nat.le_of_ble_eq_true rfl) (by decide) (fun u hu => ?_)
  refine z_eqs (σ' := (ap b σ [(405, 1, 20), (405, 1, 19), (405, 1, 18), (405, 1, 17), (405, 1, 16), (405, 1, 15), (405, 1, 14), (405, 1, 13), (405, 1, 12), (405, 1, 11), (405, 1, 10), (405, 1, 9), (405, 1, 8), (405, 1, 7), (405, 1, 6), (405, 1, 5), (405, 1, 4), (405, 1, 3), (405, 1, 2), (405, 1, 1), (405, 0, 0)] [] [])) (hu.trans ap_ap) ?_
  show zx p l e _ s m _ below meth c g 3 0 0 _ _ 27 [(2, .int 19), (0, .ref (b + 405)), (1, .int 35)] _
  refine z_iinc (v := 20) (lv' := [(2, .int 20), (0, .ref (b + 405)), (1, .int 35)]) B dX9_tick_27 0 rfl (by decide) (by decide) rfl ?_
  refine z_goto (tgt := 18) B dX9_tick_30 (by decide) ?_
  refine z_iload_n B dX9_tick_18 rfl 0 rfl ?_
  refine z_iload_n B dX9_tick_19 rfl 2 rfl ?_
  refine z_icmp_ge (tgt := 33) B dX9_tick_20 (by decide) (fun h => absurd h (by decide)) (fun _ => ?_)
  refine z_aload_n B dX9_tick_23 rfl 1 rfl ?_
  refine z_cVv (As := []) (rest := []) B cw_X9_294 cx_10 dX9_tick_24 (ci_X9_ticks_1025 l (σ := (ap b σ [(405, 1, 20), (405, 1, 19), (405, 1, 18), (405, 1, 17), (405, 1, 16), (405, 1, 15), (405, 1, 14), (405, 1, 13), (405, 1, 12), (405, 1, 11), (405, 1, 10), (405, 1, 9), (405, 1, 8), (405, 1, 7), (405, 1, 6), (405, 1, 5), (405, 1, 4), (405, 1, 3), (405, 1, 2), (405, 1, 1), (405, 0, 0)] [] [])) (b := b) (lyA hK) (rI_at 405 1 rfl) (rI_at 405 6 hI_405_6) (rI_at 405 16 hI_405_16)) (lKA (hk_K hK 405 rfl rfl)) rfl (by decide) rfl (Nat.le_of_ble_eq_true rfl) (by decide) (fun u hu => ?_)
  refine z_eqs (σ' := (ap b σ [(405, 1, 21), (405, 1, 20), (405, 1, 19), (405, 1, 18), (405, 1, 17), (405, 1, 16), (405, 1, 15), (405, 1, 14), (405, 1, 13), (405, 1, 12), (405, 1, 11), (405, 1, 10), (405, 1, 9), (405, 1, 8), (405, 1, 7), (405, 1, 6), (405, 1, 5), (405, 1, 4), (405, 1, 3), (405, 1, 2), (405, 1, 1), (405, 0, 0)] [] [])) (hu.trans ap_ap) ?_
  show zx p l e _ s m _ below meth c g 3 0 0 _ _ 27 [(2, .int 20), (0, .ref (b + 405)), (1, .int 35)] _
  refine z_iinc (v := 21) (lv' := [(2, .int 21), (0, .ref (b + 405)), (1, .int 35)]) B dX9_tick_27 0 rfl (by decide) (by decide) rfl ?_
  refine z_goto (tgt := 18) B dX9_tick_30 (by decide) ?_
  refine z_iload_n B dX9_tick_18 rfl 0 rfl ?_
  refine z_iload_n B dX9_tick_19 rfl 2 rfl ?_
  refine z_icmp_ge (tgt := 33) B dX9_tick_20 (by decide) (fun h => absurd h (by decide)) (fun _ => ?_)
  refine z_aload_n B dX9_tick_23 rfl 1 rfl ?_
  refine z_cVv (As := []) (rest := []) B cw_X9_294 cx_10 dX9_tick_24 (ci_X9_ticks_1030 l (σ := (ap b σ [(405, 1, 21), (405, 1, 20), (405, 1, 19), (405, 1, 18), (405, 1, 17), (405, 1, 16), (405, 1, 15), (405, 1, 14), (405, 1, 13), (405, 1, 12), (405, 1, 11), (405, 1, 10), (405, 1, 9), (405, 1, 8), (405, 1, 7), (405, 1, 6), (405, 1, 5), (405, 1, 4), (405, 1, 3), (405, 1, 2), (405, 1, 1), (405, 0, 0)] [] [])) (b := b) (lyA hK) (rI_at 405 1 rfl) (rI_at 405 6 hI_405_6) (rI_at 405 16 hI_405_16)) (lKA (hk_K hK 405 rfl rfl)) rfl (by decide) rfl (Nat.le_of_ble_eq_true rfl) (by decide) (fun u hu => ?_)
  refine z_eqs (σ' := (ap b σ [(405, 1, 22), (405, 1, 21), (405, 1, 20), (405, 1, 19), (405, 1, 18), (405, 1, 17), (405, 1, 16), (405, 1, 15), (405, 1, 14), (405, 1, 13), (405, 1, 12), (405, 1, 11), (405, 1, 10), (405, 1, 9), (405, 1, 8), (405, 1, 7), (405, 1, 6), (405, 1, 5), (405, 1, 4), (405, 1, 3), (405, 1, 2), (405, 1, 1), (405, 0, 0)] [] [])) (hu.trans ap_ap) ?_
  show zx p l e _ s m _ below meth c g 3 0 0 _ _ 27 [(2, .int 21), (0, .ref (b + 405)), (1, .int 35)] _
  refine z_iinc (v := 22) (lv' := [(2, .int 22), (0, .ref (b + 405)), (1, .int 35)]) B dX9_tick_27 0 rfl (by decide) (by decide) rfl ?_
  refine z_goto (tgt := 18) B dX9_tick_30 (by decide) ?_
  refine z_iload_n B dX9_tick_18 rfl 0 rfl ?_
  refine z_iload_n B dX9_tick_19 rfl 2 rfl ?_
  refine z_icmp_ge (tgt := 33) B dX9_tick_20 (by decide) (fun h => absurd h (by decide)) (fun _ => ?_)
  refine z_aload_n B dX9_tick_23 rfl 1 rfl ?_
  refine z_cVv (As := []) (rest := []) B cw_X9_294 cx_10 dX9_tick_24 (ci_X9_ticks_1035 l (σ := (ap b σ [(405, 1, 22), (405, 1, 21), (405, 1, 20), (405, 1, 19), (405, 1, 18), (405, 1, 17), (405, 1, 16), (405, 1, 15), (405, 1, 14), (405, 1, 13), (405, 1, 12), (405, 1, 11), (405, 1, 10), (405, 1, 9), (405, 1, 8), (405, 1, 7), (405, 1, 6), (405, 1, 5), (405, 1, 4), (405, 1, 3), (405, 1, 2), (405, 1, 1), (405, 0, 0)] [] [])) (b := b) (lyA hK) (rI_at 405 1 rfl) (rI_at 405 6 hI_405_6) (rI_at 405 16 hI_405_16)) (lKA (hk_K hK 405 rfl rfl)) rfl (by decide) rfl (Nat.le_of_ble_eq_true rfl) (by decide) (fun u hu => ?_)
  refine z_eqs (σ' := (ap b σ [(405, 1, 23), (405, 1, 22), (405, 1, 21), (405, 1, 20), (405, 1, 19), (405, 1, 18), (405, 1, 17), (405, 1, 16), (405, 1, 15), (405, 1, 14), (405, 1, 13), (405, 1, 12), (405, 1, 11), (405, 1, 10), (405, 1, 9), (405, 1, 8), (405, 1, 7), (405, 1, 6), (405, 1, 5), (405, 1, 4), (405, 1, 3), (405, 1, 2), (405, 1, 1), (405, 0, 0)] [] [])) (hu.trans ap_ap) ?_
  show zx p l e _ s m _ below meth c g 3 0 0 _ _ 27 [(2, .int 22), (0, .ref (b + 405)), (1, .int 35)] _
  refine z_iinc (v := 23) (lv' := [(2, .int 23), (0, .ref (b + 405)), (1, .int 35)]) B dX9_tick_27 0 rfl (by decide) (by decide) rfl ?_
  refine z_goto (tgt := 18) B dX9_tick_30 (by decide) ?_
  refine z_iload_n B dX9_tick_18 rfl 0 rfl ?_
  refine z_iload_n B dX9_tick_19 rfl 2 rfl ?_
  refine z_icmp_ge (tgt := 33) B dX9_tick_20 (by decide) (fun h => absurd h (by decide)) (fun _ => ?_)
  refine z_aload_n B dX9_tick_23 rfl 1 rfl ?_
  refine z_cVv (As := []) (rest := []) B cw_X9_294 cx_10 dX9_tick_24 (ci_X9_ticks_1040 l (σ := (ap b σ [(405, 1, 23), (405, 1, 22), (405, 1, 21), (405, 1, 20), (405, 1, 19), (405, 1, 18), (405, 1, 17), (405, 1, 16), (405, 1, 15), (405, 1, 14), (405, 1, 13), (405, 1, 12), (405, 1, 11), (405, 1, 10), (405, 1, 9), (405, 1, 8), (405, 1, 7), (405, 1, 6), (405, 1, 5), (405, 1, 4), (405, 1, 3), (405, 1, 2), (405, 1, 1), (405, 0, 0)] [] [])) (b := b) (lyA hK) (rI_at 405 1 rfl) (rI_at 405 6 hI_405_6) (rI_at 405 16 hI_405_16)) (lKA (hk_K hK 405 rfl rfl)) rfl (by decide) rfl (Nat.le_of_ble_eq_true rfl) (by decide) (fun u hu => ?_)
  refine z_eqs (σ' := (ap b σ [(405, 1, 24), (405, 1, 23), (405, 1, 22), (405, 1, 21), (405, 1, 20), (405, 1, 19), (405, 1, 18), (405, 1, 17), (405, 1, 16), (405, 1, 15), (405, 1, 14), (405, 1, 13), (405, 1, 12), (405, 1, 11), (405, 1, 10), (405, 1, 9), (405, 1, 8), (405, 1, 7), (405, 1, 6), (405, 1, 5), (405, 1, 4), (405, 1, 3), (405, 1, 2), (405, 1, 1), (405, 0, 0)] [] [])) (hu.trans ap_ap) ?_
  show zx p l e _ s m _ below meth c g 3 0 0 _ _ 27 [(2, .int 23), (0, .ref (b + 405)), (1, .int 35)] _
  refine z_iinc (v := 24) (lv' := [(2, .int 24), (0, .ref (b + 405)), (1, .int 35)]) B dX9_tick_27 0 rfl (by decide) (by decide) rfl ?_
  refine z_goto (tgt := 18) B dX9_tick_30 (by decide) ?_
  refine z_iload_n B dX9_tick_18 rfl 0 rfl ?_
  refine z_iload_n B dX9_tick_19 rfl 2 rfl ?_
  refine z_icmp_ge (tgt := 33) B dX9_tick_20 (by decide) (fun h => absurd h (by decide)) (fun _ => ?_)
  refine z_aload_n B dX9_tick_23 rfl 1 rfl ?_
  refine z_cVv (As := []) (rest := []) B cw_X9_294 cx_10 dX9_tick_24 (ci_X9_ticks_1045 l (σ := (ap b σ [(405, 1, 24), (405, 1, 23), (405, 1, 22), (405, 1, 21), (405, 1, 20), (405, 1, 19), (405, 1, 18), (405, 1, 17), (405, 1, 16), (405, 1, 15), (405, 1, 14), (405, 1, 13), (405, 1, 12), (405, 1, 11), (405, 1, 10), (405, 1, 9), (405, 1, 8), (405, 1, 7), (405, 1, 6), (405, 1, 5), (405, 1, 4), (405, 1, 3), (405, 1, 2), (405, 1, 1), (405, 0, 0)] [] [])) (b := b) (lyA hK) (rI_at 405 1 rfl) (rI_at 405 6 hI_405_6) (rI_at 405 16 hI_405_16)) (lKA (hk_K hK 405 rfl rfl)) rfl (by decide) rfl (Nat.le_of_ble_eq_true rfl) (by decide) (fun u hu => ?_)
  refine z_eqs (σ' := (ap b σ [(405, 1, 25), (405, 1, 24), (405, 1, 23), (405, 1, 22), (405, 1, 21), (405, 1, 20), (405, 1, 19), (405, 1, 18), (405, 1, 17), (405, 1, 16), (405, 1, 15), (405, 1, 14), (405, 1, 13), (405, 1, 12), (405, 1, 11), (405, 1, 10), (405, 1, 9), (405, 1, 8), (405, 1, 7), (405, 1, 6), (405, 1, 5), (405, 1, 4), (405, 1, 3), (405, 1, 2), (405, 1, 1), (405, 0, 0)] [] [])) (hu.trans ap_ap) ?_
  show zx p l e _ s m _ below meth c g 3 0 0 _ _ 27 [(2, .int 24), (0, .ref (b + 405)), (1, .int 35)] _
  refine z_iinc (v := 25) (lv' := [(2, .int 25), (0, .ref (b + 405)), (1, .int 35)]) B dX9_tick_27 0 rfl (by decide) (by decide) rfl ?_
  refine z_goto (tgt := 18) B dX9_tick_30 (by decide) ?_
  refine z_iload_n B dX9_tick_18 rfl 0 rfl ?_
  refine z_iload_n B dX9_tick_19 rfl 2 rfl ?_
  refine z_icmp_ge (tgt := 33) B dX9_tick_20 (by decide) (fun h => absurd h (by decide)) (fun _ => ?_)
  refine z_aload_n B dX9_tick_23 rfl 1 rfl ?_
  refine z_cVv (As := []) (rest := []) B cw_X9_294 cx_10 dX9_tick_24 (ci_X9_ticks_1050 l (σ := (ap b σ [(405, 1, 25), (405, 1, 24), (405, 1, 23), (405, 1, 22), (405, 1, 21), (405, 1, 20), (405, 1, 19), (405, 1, 18), (405, 1, 17), (405, 1, 16), (405, 1, 15), (405, 1, 14), (405, 1, 13), (405, 1, 12), (405, 1, 11), (405, 1, 10), (405, 1, 9), (405, 1, 8), (405, 1, 7), (405, 1, 6), (405, 1, 5), (405, 1, 4), (405, 1, 3), (405, 1, 2), (405, 1, 1), (405, 0, 0)] [] [])) (b := b) (lyA hK) (rI_at 405 1 rfl) (rI_at 405 6 hI_405_6) (rI_at 405 16 hI_405_16)) (lKA (hk_K hK 405 rfl rfl)) rfl (by decide) rfl (Nat.le_of_ble_eq_true rfl) (by decide) (fun u hu => ?_)
  refine z_eqs (σ' := (ap b σ [(405, 1, 26), (405, 1, 25), (405, 1, 24), (405, 1, 23), (405, 1, 22), (405, 1, 21), (405, 1, 20), (405, 1, 19), (405, 1, 18), (405, 1, 17), (405, 1, 16), (405, 1, 15), (405, 1, 14), (405, 1, 13), (405, 1, 12), (405, 1, 11), (405, 1, 10), (405, 1, 9), (405, 1, 8), (405, 1, 7), (405, 1, 6), (405, 1, 5), (405, 1, 4), (405, 1, 3), (405, 1, 2), (405, 1, 1), (405, 0, 0)] [] [])) (hu.trans ap_ap) ?_
  show zx p l e _ s m _ below meth c g 3 0 0 _ _ 27 [(2, .int 25), (0, .ref (b + 405)), (1, .int 35)] _
  refine z_iinc (v := 26) (lv' := [(2, .int 26), (0, .ref (b + 405)), (1, .int 35)]) B dX9_tick_27 0 rfl (by decide) (by decide) rfl ?_
  refine z_goto (tgt := 18) B dX9_tick_30 (by decide) ?_
  refine z_iload_n B dX9_tick_18 rfl 0 rfl ?_
  refine z_iload_n B dX9_tick_19 rfl 2 rfl ?_
  refine z_icmp_ge (tgt := 33) B dX9_tick_20 (by decide) (fun h => absurd h (by decide)) (fun _ => ?_)
  refine z_aload_n B dX9_tick_23 rfl 1 rfl ?_
  refine z_cVv (As := []) (rest := []) B cw_X9_294 cx_10 dX9_tick_24 (ci_X9_ticks_1055 l (σ := (ap b σ [(405, 1, 26), (405, 1, 25), (405, 1, 24), (405, 1, 23), (405, 1, 22), (405, 1, 21), (405, 1, 20), (405, 1, 19), (405, 1, 18), (405, 1, 17), (405, 1, 16), (405, 1, 15), (405, 1, 14), (405, 1, 13), (405, 1, 12), (405, 1, 11), (405, 1, 10), (405, 1, 9), (405, 1, 8), (405, 1, 7), (405, 1, 6), (405, 1, 5), (405, 1, 4), (405, 1, 3), (405, 1, 2), (405, 1, 1), (405, 0, 0)] [] [])) (b := b) (lyA hK) (rI_at 405 1 rfl) (rI_at 405 6 hI_405_6) (rI_at 405 16 hI_405_16)) (lKA (hk_K hK 405 rfl rfl)) rfl (by decide) rfl (Nat.le_of_ble_eq_true rfl) (by decide) (fun u hu => ?_)
  refine z_eqs (σ' := (ap b σ [(405, 1, 27), (405, 1, 26), (405, 1, 25), (405, 1, 24), (405, 1, 23), (405, 1, 22), (405, 1, 21), (405, 1, 20), (405, 1, 19), (405, 1, 18), (405, 1, 17), (405, 1, 16), (405, 1, 15), (405, 1, 14), (405, 1, 13), (405, 1, 12), (405, 1, 11), (405, 1, 10), (405, 1, 9), (405, 1, 8), (405, 1, 7), (405, 1, 6), (405, 1, 5), (405, 1, 4), (405, 1, 3), (405, 1, 2), (405, 1, 1), (405, 0, 0)] [] [])) (hu.trans ap_ap) ?_
  show zx p l e _ s m _ below meth c g 3 0 0 _ _ 27 [(2, .int 26), (0, .ref (b + 405)), (1, .int 35)] _
  refine z_iinc (v := 27) (lv' := [(2, .int 27), (0, .ref (b + 405)), (1, .int 35)]) B dX9_tick_27 0 rfl (by decide) (by decide) rfl ?_
  refine z_goto (tgt := 18) B dX9_tick_30 (by decide) ?_
  refine z_iload_n B dX9_tick_18 rfl 0 rfl ?_
  refine z_iload_n B dX9_tick_19 rfl 2 rfl ?_
  refine z_icmp_ge (tgt := 33) B dX9_tick_20 (by decide) (fun h => absurd h (by decide)) (fun _ => ?_)
  refine z_aload_n B dX9_tick_23 rfl 1 rfl ?_
  refine z_cVv (As := []) (rest := []) B cw_X9_294 cx_10 dX9_tick_24 (ci_X9_ticks_1060 l (σ := (ap b σ [(405, 1, 27), (405, 1, 26), (405, 1, 25), (405, 1, 24), (405, 1, 23), (405, 1, 22), (405, 1, 21), (405, 1, 20), (405, 1, 19), (405, 1, 18), (405, 1, 17), (405, 1, 16), (405, 1, 15), (405, 1, 14), (405, 1, 13), (405, 1, 12), (405, 1, 11), (405, 1, 10), (405, 1, 9), (405, 1, 8), (405, 1, 7), (405, 1, 6), (405, 1, 5), (405, 1, 4), (405, 1, 3), (405, 1, 2), (405, 1, 1), (405, 0, 0)] [] [])) (b := b) (lyA hK) (rI_at 405 1 rfl) (rI_at 405 6 hI_405_6) (rI_at 405 16 hI_405_16)) (lKA (hk_K hK 405 rfl rfl)) rfl (by decide) rfl (Nat.le_of_ble_eq_true rfl) (by decide) (fun u hu => ?_)
  refine z_eqs (σ' := (ap b σ [(405, 1, 28), (405, 1, 27), (405, 1, 26), (405, 1, 25), (405, 1, 24), (405, 1, 23), (405, 1, 22), (405, 1, 21), (405, 1, 20), (405, 1, 19), (405, 1, 18), (405, 1, 17), (405, 1, 16), (405, 1, 15), (405, 1, 14), (405, 1, 13), (405, 1, 12), (405, 1, 11), (405, 1, 10), (405, 1, 9), (405, 1, 8), (405, 1, 7), (405, 1, 6), (405, 1, 5), (405, 1, 4), (405, 1, 3), (405, 1, 2), (405, 1, 1), (405, 0, 0)] [] [])) (hu.trans ap_ap) ?_
  show zx p l e _ s m _ below meth c g 3 0 0 _ _ 27 [(2, .int 27), (0, .ref (b + 405)), (1, .int 35)] _
  refine z_iinc (v := 28) (lv' := [(2, .int 28), (0, .ref (b + 405)), (1, .int 35)]) B dX9_tick_27 0 rfl (by decide) (by decide) rfl ?_
  refine z_goto (tgt := 18) B dX9_tick_30 (by decide) ?_
  refine z_iload_n B dX9_tick_18 rfl 0 rfl ?_
  refine z_iload_n B dX9_tick_19 rfl 2 rfl ?_
  refine z_icmp_ge (tgt := 33) B dX9_tick_20 (by decide) (fun h => absurd h (by decide)) (fun _ => ?_)
  refine z_aload_n B dX9_tick_23 rfl 1 rfl ?_
  refine z_cVv (As := []) (rest := []) B cw_X9_294 cx_10 dX9_tick_24 (ci_X9_ticks_1065 l (σ := (ap b σ [(405, 1, 28), (405, 1, 27), (405, 1, 26), (405, 1, 25), (405, 1, 24), (405, 1, 23), (405, 1, 22), (405, 1, 21), (405, 1, 20), (405, 1, 19), (405, 1, 18), (405, 1, 17), (405, 1, 16), (405, 1, 15), (405, 1, 14), (405, 1, 13), (405, 1, 12), (405, 1, 11), (405, 1, 10), (405, 1, 9), (405, 1, 8), (405, 1, 7), (405, 1, 6), (405, 1, 5), (405, 1, 4), (405, 1, 3), (405, 1, 2), (405, 1, 1), (405, 0, 0)] [] [])) (b := b) (lyA hK) (rI_at 405 1 rfl) (rI_at 405 6 hI_405_6) (rI_at 405 16 hI_405_16)) (lKA (hk_K hK 405 rfl rfl)) rfl (by decide) rfl (Nat.le_of_ble_eq_true rfl) (by decide) (fun u hu => ?_)
  refine z_eqs (σ' := (ap b σ [(405, 1, 29), (405, 1, 28), (405, 1, 27), (405, 1, 26), (405, 1, 25), (405, 1, 24), (405, 1, 23), (405, 1, 22), (405, 1, 21), (405, 1, 20), (405, 1, 19), (405, 1, 18), (405, 1, 17), (405, 1, 16), (405, 1, 15), (405, 1, 14), (405, 1, 13), (405, 1, 12), (405, 1, 11), (405, 1, 10), (405, 1, 9), (405, 1, 8), (405, 1, 7), (405, 1, 6), (405, 1, 5), (405, 1, 4), (405, 1, 3), (405, 1, 2), (405, 1, 1), (405, 0, 0)] [] [])) (hu.trans ap_ap) ?_
  show zx p l e _ s m _ below meth c g 3 0 0 _ _ 27 [(2, .int 28), (0, .ref (b + 405)), (1, .int 35)] _
  refine z_iinc (v := 29) (lv' := [(2, .int 29), (0, .ref (b + 405)), (1, .int 35)]) B dX9_tick_27 0 rfl (by decide) (by decide) rfl ?_
  refine z_goto (tgt := 18) B dX9_tick_30 (by decide) ?_
  refine z_iload_n B dX9_tick_18 rfl 0 rfl ?_
  refine z_iload_n B dX9_tick_19 rfl 2 rfl ?_
  refine z_icmp_ge (tgt := 33) B dX9_tick_20 (by decide) (fun h => absurd h (by decide)) (fun _ => ?_)
  refine z_aload_n B dX9_tick_23 rfl 1 rfl ?_
  refine z_cVv (As := []) (rest := []) B cw_X9_294 cx_10 dX9_tick_24 (ci_X9_ticks_1070 l (σ := (ap b σ [(405, 1, 29), (405, 1, 28), (405, 1, 27), (405, 1, 26), (405, 1, 25), (405, 1, 24), (405, 1, 23), (405, 1, 22), (405, 1, 21), (405, 1, 20), (405, 1, 19), (405, 1, 18), (405, 1, 17), (405, 1, 16), (405, 1, 15), (405, 1, 14), (405, 1, 13), (405, 1, 12), (405, 1, 11), (405, 1, 10), (405, 1, 9), (405, 1, 8), (405, 1, 7), (405, 1, 6), (405, 1, 5), (405, 1, 4), (405, 1, 3), (405, 1, 2), (405, 1, 1), (405, 0, 0)] [] [])) (b := b) (lyA hK) (rI_at 405 1 rfl) (rI_at 405 6 hI_405_6) (rI_at 405 16 hI_405_16)) (lKA (hk_K hK 405 rfl rfl)) rfl (by decide) rfl (Nat.le_of_ble_eq_true rfl) (by decide) (fun u hu => ?_)
  refine z_eqs (σ' := (ap b σ [(405, 1, 30), (405, 1, 29), (405, 1, 28), (405, 1, 27), (405, 1, 26), (405, 1, 25), (405, 1, 24), (405, 1, 23), (405, 1, 22), (405, 1, 21), (405, 1, 20), (405, 1, 19), (405, 1, 18), (405, 1, 17), (405, 1, 16), (405, 1, 15), (405, 1, 14), (405, 1, 13), (405, 1, 12), (405, 1, 11), (405, 1, 10), (405, 1, 9), (405, 1, 8), (405, 1, 7), (405, 1, 6), (405, 1, 5), (405, 1, 4), (405, 1, 3), (405, 1, 2), (405, 1, 1), (405, 0, 0)] [] [])) (hu.trans ap_ap) ?_
  show zx p l e _ s m _ below meth c g 3 0 0 _ _ 27 [(2, .int 29), (0, .ref (b + 405)), (1, .int 35)] _
  refine z_iinc (v := 30) (lv' := [(2, .int 30), (0, .ref (b + 405)), (1, .int 35)]) B dX9_tick_27 0 rfl (by decide) (by decide) rfl ?_
  refine z_goto (tgt := 18) B dX9_tick_30 (by decide) ?_
  refine z_iload_n B dX9_tick_18 rfl 0 rfl ?_
  refine z_iload_n B dX9_tick_19 rfl 2 rfl ?_
  refine z_icmp_ge (tgt := 33) B dX9_tick_20 (by decide) (fun h => absurd h (by decide)) (fun _ => ?_)
  refine z_aload_n B dX9_tick_23 rfl 1 rfl ?_
  refine z_cVv (As := []) (rest := []) B cw_X9_294 cx_10 dX9_tick_24 (ci_X9_ticks_1075 l (σ := (ap b σ [(405, 1, 30), (405, 1, 29), (405, 1, 28), (405, 1, 27), (405, 1, 26), (405, 1, 25), (405, 1, 24), (405, 1, 23), (405, 1, 22), (405, 1, 21), (405, 1, 20), (405, 1, 19), (405, 1, 18), (405, 1, 17), (405, 1, 16), (405, 1, 15), (405, 1, 14), (405, 1, 13), (405, 1, 12), (405, 1, 11), (405, 1, 10), (405, 1, 9), (405, 1, 8), (405, 1, 7), (405, 1, 6), (405, 1, 5), (405, 1, 4), (405, 1, 3), (405, 1, 2), (405, 1, 1), (405, 0, 0)] [] [])) (b := b) (lyA hK) (rI_at 405 1 rfl) (rI_at 405 6 hI_405_6) (rI_at 405 16 hI_405_16)) (lKA (hk_K hK 405 rfl rfl)) rfl (by decide) rfl (Nat.le_of_ble_eq_true rfl) (by decide) (fun u hu => ?_)
  refine z_eqs (σ' := (ap b σ [(405, 1, 31), (405, 1, 30), (405, 1, 29), (405, 1, 28), (405, 1, 27), (405, 1, 26), (405, 1, 25), (405, 1, 24), (405, 1, 23), (405, 1, 22), (405, 1, 21), (405, 1, 20), (405, 1, 19), (405, 1, 18), (405, 1, 17), (405, 1, 16), (405, 1, 15), (405, 1, 14), (405, 1, 13), (405, 1, 12), (405, 1, 11), (405, 1, 10), (405, 1, 9), (405, 1, 8), (405, 1, 7), (405, 1, 6), (405, 1, 5), (405, 1, 4), (405, 1, 3), (405, 1, 2), (405, 1, 1), (405, 0, 0)] [] [])) (hu.trans ap_ap) ?_
  show zx p l e _ s m _ below meth c g 3 0 0 _ _ 27 [(2, .int 30), (0, .ref (b + 405)), (1, .int 35)] _
  refine z_iinc (v := 31) (lv' := [(2, .int 31), (0, .ref (b + 405)), (1, .int 35)]) B dX9_tick_27 0 rfl (by decide) (by decide) rfl ?_
  refine z_goto (tgt := 18) B dX9_tick_30 (by decide) ?_
  refine z_iload_n B dX9_tick_18 rfl 0 rfl ?_
  refine z_iload_n B dX9_tick_19 rfl 2 rfl ?_
  refine z_icmp_ge (tgt := 33) B dX9_tick_20 (by decide) (fun h => absurd h (by decide)) (fun _ => ?_)
  refine z_aload_n B dX9_tick_23 rfl 1 rfl ?_
  refine z_cVv (As := []) (rest := []) B cw_X9_294 cx_10 dX9_tick_24 (ci_X9_ticks_1080 l (σ := (ap b σ [(405, 1, 31), (405, 1, 30), (405, 1, 29), (405, 1, 28), (405, 1, 27), (405, 1, 26), (405, 1, 25), (405, 1, 24), (405, 1, 23), (405, 1, 22), (405, 1, 21), (405, 1, 20), (405, 1, 19), (405, 1, 18), (405, 1, 17), (405, 1, 16), (405, 1, 15), (405, 1, 14), (405, 1, 13), (405, 1, 12), (405, 1, 11), (405, 1, 10), (405, 1, 9), (405, 1, 8), (405, 1, 7), (405, 1, 6), (405, 1, 5), (405, 1, 4), (405, 1, 3), (405, 1, 2), (405, 1, 1), (405, 0, 0)] [] [])) (b := b) (lyA hK) (rI_at 405 1 rfl) (rI_at 405 6 hI_405_6) (rI_at 405 16 hI_405_16)) (lKA (hk_K hK 405 rfl rfl)) rfl (by decide) rfl (Nat.le_of_ble_eq_true rfl) (by decide) (fun u hu => ?_)
  refine z_eqs (σ' := (ap b σ [(405, 1, 32), (405, 1, 31), (405, 1, 30), (405, 1, 29), (405, 1, 28), (405, 1, 27), (405, 1, 26), (405, 1, 25), (405, 1, 24), (405, 1, 23), (405, 1, 22), (405, 1, 21), (405, 1, 20), (405, 1, 19), (405, 1, 18), (405, 1, 17), (405, 1, 16), (405, 1, 15), (405, 1, 14), (405, 1, 13), (405, 1, 12), (405, 1, 11), (405, 1, 10), (405, 1, 9), (405, 1, 8), (405, 1, 7), (405, 1, 6), (405, 1, 5), (405, 1, 4), (405, 1, 3), (405, 1, 2), (405, 1, 1), (405, 0, 0)] [] [])) (hu.trans ap_ap) ?_
  show zx p l e _ s m _ below meth c g 3 0 0 _ _ 27 [(2, .int 31), (0, .ref (b + 405)), (1, .int 35)] _
  refine z_iinc (v := 32) (lv' := [(2, .int 32), (0, .ref (b + 405)), (1, .int 35)]) B dX9_tick_27 0 rfl (by decide) (by decide) rfl ?_
  refine z_goto (tgt := 18) B dX9_tick_30 (by decide) ?_
  refine z_iload_n B dX9_tick_18 rfl 0 rfl ?_
  refine z_iload_n B dX9_tick_19 rfl 2 rfl ?_
  refine z_icmp_ge (tgt := 33) B dX9_tick_20 (by decide) (fun h => absurd h (by decide)) (fun _ => ?_)
  refine z_aload_n B dX9_tick_23 rfl 1 rfl ?_
  refine z_cVv (As := []) (rest := []) B cw_X9_294 cx_10 dX9_tick_24 (ci_X9_ticks_1085 l (σ := (ap b σ [(405, 1, 32), (405, 1, 31), (405, 1, 30), (405, 1, 29), (405, 1, 28), (405, 1, 27), (405, 1, 26), (405, 1, 25), (405, 1, 24), (405, 1, 23), (405, 1, 22), (405, 1, 21), (405, 1, 20), (405, 1, 19), (405, 1, 18), (405, 1, 17), (405, 1, 16), (405, 1, 15), (405, 1, 14), (405, 1, 13), (405, 1, 12), (405, 1, 11), (405, 1, 10), (405, 1, 9), (405, 1, 8), (405, 1, 7), (405, 1, 6), (405, 1, 5), (405, 1, 4), (405, 1, 3), (405, 1, 2), (405, 1, 1), (405, 0, 0)] [] [])) (b := b) (lyA hK) (rI_at 405 1 rfl) (rI_at 405 6 hI_405_6) (rI_at 405 16 hI_405_16)) (lKA (hk_K hK 405 rfl rfl)) rfl (by decide) rfl (Nat.le_of_ble_eq_true rfl) (by decide) (fun u hu => ?_)
  refine z_eqs (σ' := (ap b σ [(405, 1, 33), (405, 1, 32), (405, 1, 31), (405, 1, 30), (405, 1, 29), (405, 1, 28), (405, 1, 27), (405, 1, 26), (405, 1, 25), (405, 1, 24), (405, 1, 23), (405, 1, 22), (405, 1, 21), (405, 1, 20), (405, 1, 19), (405, 1, 18), (405, 1, 17), (405, 1, 16), (405, 1, 15), (405, 1, 14), (405, 1, 13), (405, 1, 12), (405, 1, 11), (405, 1, 10), (405, 1, 9), (405, 1, 8), (405, 1, 7), (405, 1, 6), (405, 1, 5), (405, 1, 4), (405, 1, 3), (405, 1, 2), (405, 1, 1), (405, 0, 0)] [] [])) (hu.trans ap_ap) ?_
  show zx p l e _ s m _ below meth c g 3 0 0 _ _ 27 [(2, .int 32), (0, .ref (b + 405)), (1, .int 35)] _
  refine z_iinc (v := 33) (lv' := [(2, .int 33), (0, .ref (b + 405)), (1, .int 35)]) B dX9_tick_27 0 rfl (by decide) (by decide) rfl ?_
  refine z_goto (tgt := 18) B dX9_tick_30 (by decide) ?_
  refine z_iload_n B dX9_tick_18 rfl 0 rfl ?_
  refine z_iload_n B dX9_tick_19 rfl 2 rfl ?_
  refine z_icmp_ge (tgt := 33) B dX9_tick_20 (by decide) (fun h => absurd h (by decide)) (fun _ => ?_)
  refine z_aload_n B dX9_tick_23 rfl 1 rfl ?_
  refine z_cVv (As := []) (rest := []) B cw_X9_294 cx_10 dX9_tick_24 (ci_X9_ticks_1090 l (σ := (ap b σ [(405, 1, 33), (405, 1, 32), (405, 1, 31), (405, 1, 30), (405, 1, 29), (405, 1, 28), (405, 1, 27), (405, 1, 26), (405, 1, 25), (405, 1, 24), (405, 1, 23), (405, 1, 22), (405, 1, 21), (405, 1, 20), (405, 1, 19), (405, 1, 18), (405, 1, 17), (405, 1, 16), (405, 1, 15), (405, 1, 14), (405, 1, 13), (405, 1, 12), (405, 1, 11), (405, 1, 10), (405, 1, 9), (405, 1, 8), (405, 1, 7), (405, 1, 6), (405, 1, 5), (405, 1, 4), (405, 1, 3), (405, 1, 2), (405, 1, 1), (405, 0, 0)] [] [])) (b := b) (lyA hK) (rI_at 405 1 rfl) (rI_at 405 6 hI_405_6) (rI_at 405 16 hI_405_16)) (lKA (hk_K hK 405 rfl rfl)) rfl (by decide) rfl (Nat.le_of_ble_eq_true rfl) (by decide) (fun u hu => ?_)
  refine z_eqs (σ' := (ap b σ [(405, 1, 34), (405, 1, 33), (405, 1, 32), (405, 1, 31), (405, 1, 30), (405, 1, 29), (405, 1, 28), (405, 1, 27), (405, 1, 26), (405, 1, 25), (405, 1, 24), (405, 1, 23), (405, 1, 22), (405, 1, 21), (405, 1, 20), (405, 1, 19), (405, 1, 18), (405, 1, 17), (405, 1, 16), (405, 1, 15), (405, 1, 14), (405, 1, 13), (405, 1, 12), (405, 1, 11), (405, 1, 10), (405, 1, 9), (405, 1, 8), (405, 1, 7), (405, 1, 6), (405, 1, 5), (405, 1, 4), (405, 1, 3), (405, 1, 2), (405, 1, 1), (405, 0, 0)] [] [])) (hu.trans ap_ap) ?_
  show zx p l e _ s m _ below meth c g 3 0 0 _ _ 27 [(2, .int 33), (0, .ref (b + 405)), (1, .int 35)] _
  refine z_iinc (v := 34) (lv' := [(2, .int 34), (0, .ref (b + 405)), (1, .int 35)]) B dX9_tick_27 0 rfl (by decide) (by decide) rfl ?_
  refine z_goto (tgt := 18) B dX9_tick_30 (by decide) ?_
  refine z_iload_n B dX9_tick_18 rfl 0 rfl ?_
  refine z_iload_n B dX9_tick_19 rfl 2 rfl ?_
  refine z_icmp_ge (tgt := 33) B dX9_tick_20 (by decide) (fun h => absurd h (by decide)) (fun _ => ?_)
  refine z_aload_n B dX9_tick_23 rfl 1 rfl ?_
  refine z_cVv (As := []) (rest := []) B cw_X9_294 cx_10 dX9_tick_24 (ci_X9_ticks_1095 l (σ := (ap b σ [(405, 1, 34), (405, 1, 33), (405, 1, 32), (405, 1, 31), (405, 1, 30), (405, 1, 29), (405, 1, 28), (405, 1, 27), (405, 1, 26), (405, 1, 25), (405, 1, 24), (405, 1, 23), (405, 1, 22), (405, 1, 21), (405, 1, 20), (405, 1, 19), (405, 1, 18), (405, 1, 17), (405, 1, 16), (405, 1, 15), (405, 1, 14), (405, 1, 13), (405, 1, 12), (405, 1, 11), (405, 1, 10), (405, 1, 9), (405, 1, 8), (405, 1, 7), (405, 1, 6), (405, 1, 5), (405, 1, 4), (405, 1, 3), (405, 1, 2), (405, 1, 1), (405, 0, 0)] [] [])) (b := b) (lyA hK) (rI_at 405 1 rfl) (rI_at 405 6 hI_405_6) (rI_at 405 16 hI_405_16)) (lKA (hk_K hK 405 rfl rfl)) rfl (by decide) rfl (Nat.le_of_ble_eq_true rfl) (by decide) (fun u hu => ?_)
  refine z_eqs (σ' := (ap b σ [(405, 1, 35), (405, 1, 34), (405, 1, 33), (405, 1, 32), (405, 1, 31), (405, 1, 30), (405, 1, 29), (405, 1, 28), (405, 1, 27), (405, 1, 26), (405, 1, 25), (405, 1, 24), (405, 1, 23), (405, 1, 22), (405, 1, 21), (405, 1, 20), (405, 1, 19), (405, 1, 18), (405, 1, 17), (405, 1, 16), (405, 1, 15), (405, 1, 14), (405, 1, 13), (405, 1, 12), (405, 1, 11), (405, 1, 10), (405, 1, 9), (405, 1, 8), (405, 1, 7), (405, 1, 6), (405, 1, 5), (405, 1, 4), (405, 1, 3), (405, 1, 2), (405, 1, 1), (405, 0, 0)] [] [])) (hu.trans ap_ap) ?_
  show zx p l e _ s m _ below meth c g 3 0 0 _ _ 27 [(2, .int 34), (0, .ref (b + 405)), (1, .int 35)] _
  refine z_iinc (v := 35) (lv' := [(2, .int 35), (0, .ref (b + 405)), (1, .int 35)]) B dX9_tick_27 0 rfl (by decide) (by decide) rfl ?_
  refine z_goto (tgt := 18) B dX9_tick_30 (by decide) ?_
  refine z_iload_n B dX9_tick_18 rfl 0 rfl ?_
  refine z_iload_n B dX9_tick_19 rfl 2 rfl ?_
  refine z_icmp_ge (tgt := 33) B dX9_tick_20 (by decide) (fun _ => ?_) (fun h => absurd (by decide) h)
  refine z_aload_n B dX9_tick_33 rfl 1 rfl ?_
  refine gf_X9_197 (x := 35) B (lKA (hk_K hK 405 rfl rfl)) (rI_at 405 1 rfl) dX9_tick_34 ?_
  exact z_iret B hr (by decide) (by decide) dX9_tick_37 ⟨rfl, rfl⟩
set_option maxRecDepth 100000 in
set_option maxHeartbeats 4000000 in
theorem ci_X8_tick_1097 (l : Launch) {g : gx_T} {σ : sx_T} {b : Nat} (hK : lay b σ)   (hI_0_7 : sx_I σ (b + 0) 7 = 0) (hI_0_8 : sx_I σ (b + 0) 8 = 0) (hI_4_2 : sx_I σ (b + 4) 2 = 0) (hR_0_3 : sx_R σ (b + 0) 3 = (some (b + 4))) : Met l yX8_tick (.code yX8_tick cX8_tick 3 (some .int) :: lw_g) { frames := 2, cells := 0, slots := 0, locals := 42 } (va_Pc [.ref (b + 0), .int 36] (zx_w g σ)) (va_Qi (fun r u => r = 36 ∧ u = (ap b σ [(0, 8, 36), (0, 8, 35), (0, 8, 34), (0, 8, 33), (0, 8, 32), (0, 8, 31), (0, 8, 30), (0, 8, 29), (0, 8, 28), (0, 8, 27), (0, 8, 26), (0, 8, 25), (0, 8, 24), (0, 8, 23), (0, 8, 22), (0, 8, 21), (0, 8, 20), (0, 8, 19), (0, 8, 18), (0, 8, 17), (0, 8, 16), (0, 8, 15), (0, 8, 14), (0, 8, 13), (0, 8, 12), (0, 8, 11), (0, 8, 10), (0, 8, 9), (0, 8, 8), (0, 8, 7), (0, 8, 6), (0, 8, 5), (0, 8, 4), (0, 8, 3), (0, 8, 2), (0, 8, 1)] [] [])) (zx_w g) (gx_Q g)) 0 0 (gx_Q g) := by
  refine z_met (by decide) (Nat.le_of_ble_eq_true rfl) (fun p e s m below meth c B hr hin => ?_)
  refine z_eqs (σ' := (ap b σ [] [] [])) rfl ?_
  show zx p l e _ s m _ below meth c g 3 0 0 _ _ 0 [(0, .ref (b + 0)), (1, .int 36)] []
  refine z_iload_n B dX8_tick_0 rfl 1 rfl ?_
  refine z_iconst (v := 1) B dX8_tick_1 (by decide) ?_
  refine z_icmp_lt (tgt := 11) B dX8_tick_2 (by decide) (fun h => absurd h (by decide)) (fun _ => ?_)
  refine z_iload_n B dX8_tick_5 rfl 1 rfl ?_
  refine z_bipush (v := 50) B dX8_tick_6 (by decide) ?_
  refine z_icmp_le (tgt := 21) B dX8_tick_8 (by decide) (fun _ => ?_) (fun h => absurd (by decide) h)
  refine z_iconst (v := 0) B dX8_tick_21 (by decide) ?_
  refine z_istore_n (lv' := [(2, .int 0), (0, .ref (b + 0)), (1, .int 36)]) B dX8_tick_22 rfl (by decide) rfl ?_
  refine z_iload_n B dX8_tick_23 rfl 0 rfl ?_
  refine z_iload_n B dX8_tick_24 rfl 2 rfl ?_
  refine z_icmp_ge (tgt := 52) B dX8_tick_25 (by decide) (fun h => absurd h (by decide)) (fun _ => ?_)
  refine z_aload_n B dX8_tick_28 rfl 1 rfl ?_
  refine z_dup B dX8_tick_29 rfl ?_
  refine gf_X8_206 (x := 0) B (lKA (hk_K hK 0 rfl rfl)) (rI_at 0 8 hI_0_8) dX8_tick_30 ?_
  refine z_iconst (v := 1) B dX8_tick_33 (by decide) ?_
  refine z_iadd B dX8_tick_34 ?_
  refine z_seti (y := 1) (by decide) ?_
  refine pf_X8_206 (x := 1) (σ' := (ap b σ [(0, 8, 1)] [] [])) B (lKA (hk_K hK 0 rfl rfl)) wI_ap dX8_tick_35 ?_
  refine z_aload_n B dX8_tick_38 rfl 1 rfl ?_
  refine z_cVv (As := []) (rest := []) B cw_X8_240 cx_9 dX8_tick_39 (ci_X8_passTasks_920 l (σ := (ap b σ [(0, 8, 1)] [] [])) (b := b) (lyA hK) (rI_at 4 2 hI_4_2) (rR_at 0 3 hR_0_3)) (lKA (hk_K hK 0 rfl rfl)) rfl (by decide) rfl (Nat.le_of_ble_eq_true rfl) (by decide) (fun u hu => ?_)
  refine z_eqs (σ' := (ap b σ [(0, 8, 1)] [] [])) hu ?_
  show zx p l e _ s m _ below meth c g 3 0 0 _ _ 42 [(2, .int 0), (0, .ref (b + 0)), (1, .int 36)] _
  refine z_aload_n B dX8_tick_42 rfl 1 rfl ?_
  refine z_cVv (As := []) (rest := []) B cw_X8_243 cx_9 dX8_tick_43 (ci_X8_passTimers_921 l (σ := (ap b σ [(0, 8, 1)] [] [])) (b := b) (lyA hK) (rI_at 0 7 hI_0_7)) (lKA (hk_K hK 0 rfl rfl)) rfl (by decide) rfl (Nat.le_of_ble_eq_true rfl) (by decide) (fun u hu => ?_)
  refine z_eqs (σ' := (ap b σ [(0, 8, 1)] [] [])) hu ?_
  show zx p l e _ s m _ below meth c g 3 0 0 _ _ 46 [(2, .int 0), (0, .ref (b + 0)), (1, .int 36)] _
  refine z_iinc (v := 1) (lv' := [(2, .int 1), (0, .ref (b + 0)), (1, .int 36)]) B dX8_tick_46 0 rfl (by decide) (by decide) rfl ?_
  refine z_goto (tgt := 23) B dX8_tick_49 (by decide) ?_
  refine z_iload_n B dX8_tick_23 rfl 0 rfl ?_
  refine z_iload_n B dX8_tick_24 rfl 2 rfl ?_
  refine z_icmp_ge (tgt := 52) B dX8_tick_25 (by decide) (fun h => absurd h (by decide)) (fun _ => ?_)
  refine z_aload_n B dX8_tick_28 rfl 1 rfl ?_
  refine z_dup B dX8_tick_29 rfl ?_
  refine gf_X8_206 (x := 1) B (lKA (hk_K hK 0 rfl rfl)) (rI_at 0 8 rfl) dX8_tick_30 ?_
  refine z_iconst (v := 1) B dX8_tick_33 (by decide) ?_
  refine z_iadd B dX8_tick_34 ?_
  refine z_seti (y := 2) (by decide) ?_
  refine pf_X8_206 (x := 2) (σ' := (ap b σ [(0, 8, 2), (0, 8, 1)] [] [])) B (lKA (hk_K hK 0 rfl rfl)) wI_ap dX8_tick_35 ?_
  refine z_aload_n B dX8_tick_38 rfl 1 rfl ?_
  refine z_cVv (As := []) (rest := []) B cw_X8_240 cx_9 dX8_tick_39 (ci_X8_passTasks_920 l (σ := (ap b σ [(0, 8, 2), (0, 8, 1)] [] [])) (b := b) (lyA hK) (rI_at 4 2 hI_4_2) (rR_at 0 3 hR_0_3)) (lKA (hk_K hK 0 rfl rfl)) rfl (by decide) rfl (Nat.le_of_ble_eq_true rfl) (by decide) (fun u hu => ?_)
  refine z_eqs (σ' := (ap b σ [(0, 8, 2), (0, 8, 1)] [] [])) hu ?_
  show zx p l e _ s m _ below meth c g 3 0 0 _ _ 42 [(2, .int 1), (0, .ref (b + 0)), (1, .int 36)] _
  refine z_aload_n B dX8_tick_42 rfl 1 rfl ?_
  refine z_cVv (As := []) (rest := []) B cw_X8_243 cx_9 dX8_tick_43 (ci_X8_passTimers_921 l (σ := (ap b σ [(0, 8, 2), (0, 8, 1)] [] [])) (b := b) (lyA hK) (rI_at 0 7 hI_0_7)) (lKA (hk_K hK 0 rfl rfl)) rfl (by decide) rfl (Nat.le_of_ble_eq_true rfl) (by decide) (fun u hu => ?_)
  refine z_eqs (σ' := (ap b σ [(0, 8, 2), (0, 8, 1)] [] [])) hu ?_
  show zx p l e _ s m _ below meth c g 3 0 0 _ _ 46 [(2, .int 1), (0, .ref (b + 0)), (1, .int 36)] _
  refine z_iinc (v := 2) (lv' := [(2, .int 2), (0, .ref (b + 0)), (1, .int 36)]) B dX8_tick_46 0 rfl (by decide) (by decide) rfl ?_
  refine z_goto (tgt := 23) B dX8_tick_49 (by decide) ?_
  refine z_iload_n B dX8_tick_23 rfl 0 rfl ?_
  refine z_iload_n B dX8_tick_24 rfl 2 rfl ?_
  refine z_icmp_ge (tgt := 52) B dX8_tick_25 (by decide) (fun h => absurd h (by decide)) (fun _ => ?_)
  refine z_aload_n B dX8_tick_28 rfl 1 rfl ?_
  refine z_dup B dX8_tick_29 rfl ?_
  refine gf_X8_206 (x := 2) B (lKA (hk_K hK 0 rfl rfl)) (rI_at 0 8 rfl) dX8_tick_30 ?_
  refine z_iconst (v := 1) B dX8_tick_33 (by decide) ?_
  refine z_iadd B dX8_tick_34 ?_
  refine z_seti (y := 3) (by decide) ?_
  refine pf_X8_206 (x := 3) (σ' := (ap b σ [(0, 8, 3), (0, 8, 2), (0, 8, 1)] [] [])) B (lKA (hk_K hK 0 rfl rfl)) wI_ap dX8_tick_35 ?_
  refine z_aload_n B dX8_tick_38 rfl 1 rfl ?_
  refine z_cVv (As := []) (rest := []) B cw_X8_240 cx_9 dX8_tick_39 (ci_X8_passTasks_920 l (σ := (ap b σ [(0, 8, 3), (0, 8, 2), (0, 8, 1)] [] [])) (b := b) (lyA hK) (rI_at 4 2 hI_4_2) (rR_at 0 3 hR_0_3)) (lKA (hk_K hK 0 rfl rfl)) rfl (by decide) rfl (Nat.le_of_ble_eq_true rfl) (by decide) (fun u hu => ?_)
  refine z_eqs (σ' := (ap b σ [(0, 8, 3), (0, 8, 2), (0, 8, 1)] [] [])) hu ?_
  show zx p l e _ s m _ below meth c g 3 0 0 _ _ 42 [(2, .int 2), (0, .ref (b + 0)), (1, .int 36)] _
  refine z_aload_n B dX8_tick_42 rfl 1 rfl ?_
  refine z_cVv (As := []) (rest := []) B cw_X8_243 cx_9 dX8_tick_43 (ci_X8_passTimers_921 l (σ := (ap b σ [(0, 8, 3), (0, 8, 2), (0, 8, 1)] [] [])) (b := b) (lyA hK) (rI_at 0 7 hI_0_7)) (lKA (hk_K hK 0 rfl rfl)) rfl (by decide) rfl (Nat.le_of_ble_eq_true rfl) (by decide) (fun u hu => ?_)
  refine z_eqs (σ' := (ap b σ [(0, 8, 3), (0, 8, 2), (0, 8, 1)] [] [])) hu ?_
  show zx p l e _ s m _ below meth c g 3 0 0 _ _ 46 [(2, .int 2), (0, .ref (b + 0)), (1, .int 36)] _
  refine z_iinc (v := 3) (lv' := [(2, .int 3), (0, .ref (b + 0)), (1, .int 36)]) B dX8_tick_46 0 rfl (by decide) (by decide) rfl ?_
  refine z_goto (tgt := 23) B dX8_tick_49 (by decide) ?_
  refine z_iload_n B dX8_tick_23 rfl 0 rfl ?_
  refine z_iload_n B dX8_tick_24 rfl 2 rfl ?_
  refine z_icmp_ge (tgt := 52) B dX8_tick_25 (by decide) (fun h => absurd h (by decide)) (fun _ => ?_)
  refine z_aload_n B dX8_tick_28 rfl 1 rfl ?_
  refine z_dup B dX8_tick_29 rfl ?_
  refine gf_X8_206 (x := 3) B (lKA (hk_K hK 0 rfl rfl)) (rI_at 0 8 rfl) dX8_tick_30 ?_
  refine z_iconst (v := 1) B dX8_tick_33 (by decide) ?_
  refine z_iadd B dX8_tick_34 ?_
  refine z_seti (y := 4) (by decide) ?_
  refine pf_X8_206 (x := 4) (σ' := (ap b σ [(0, 8, 4), (0, 8, 3), (0, 8, 2), (0, 8, 1)] [] [])) B (lKA (hk_K hK 0 rfl rfl)) wI_ap dX8_tick_35 ?_
  refine z_aload_n B dX8_tick_38 rfl 1 rfl ?_
  refine z_cVv (As := []) (rest := []) B cw_X8_240 cx_9 dX8_tick_39 (ci_X8_passTasks_920 l (σ := (ap b σ [(0, 8, 4), (0, 8, 3), (0, 8, 2), (0, 8, 1)] [] [])) (b := b) (lyA hK) (rI_at 4 2 hI_4_2) (rR_at 0 3 hR_0_3)) (lKA (hk_K hK 0 rfl rfl)) rfl (by decide) rfl (Nat.le_of_ble_eq_true rfl) (by decide) (fun u hu => ?_)
  refine z_eqs (σ' := (ap b σ [(0, 8, 4), (0, 8, 3), (0, 8, 2), (0, 8, 1)] [] [])) hu ?_
  show zx p l e _ s m _ below meth c g 3 0 0 _ _ 42 [(2, .int 3), (0, .ref (b + 0)), (1, .int 36)] _
  refine z_aload_n B dX8_tick_42 rfl 1 rfl ?_
  refine z_cVv (As := []) (rest := []) B cw_X8_243 cx_9 dX8_tick_43 (ci_X8_passTimers_921 l (σ := (ap b σ [(0, 8, 4), (0, 8, 3), (0, 8, 2), (0, 8, 1)] [] [])) (b := b) (lyA hK) (rI_at 0 7 hI_0_7)) (lKA (hk_K hK 0 rfl rfl)) rfl (by decide) rfl (Nat.le_of_ble_eq_true rfl) (by decide) (fun u hu => ?_)
  refine z_eqs (σ' := (ap b σ [(0, 8, 4), (0, 8, 3), (0, 8, 2), (0, 8, 1)] [] [])) hu ?_
  show zx p l e _ s m _ below meth c g 3 0 0 _ _ 46 [(2, .int 3), (0, .ref (b + 0)), (1, .int 36)] _
  refine z_iinc (v := 4) (lv' := [(2, .int 4), (0, .ref (b + 0)), (1, .int 36)]) B dX8_tick_46 0 rfl (by decide) (by decide) rfl ?_
  refine z_goto (tgt := 23) B dX8_tick_49 (by decide) ?_
  refine z_iload_n B dX8_tick_23 rfl 0 rfl ?_
  refine z_iload_n B dX8_tick_24 rfl 2 rfl ?_
  refine z_icmp_ge (tgt := 52) B dX8_tick_25 (by decide) (fun h => absurd h (by decide)) (fun _ => ?_)
  refine z_aload_n B dX8_tick_28 rfl 1 rfl ?_
  refine z_dup B dX8_tick_29 rfl ?_
  refine gf_X8_206 (x := 4) B (lKA (hk_K hK 0 rfl rfl)) (rI_at 0 8 rfl) dX8_tick_30 ?_
  refine z_iconst (v := 1) B dX8_tick_33 (by decide) ?_
  refine z_iadd B dX8_tick_34 ?_
  refine z_seti (y := 5) (by decide) ?_
  refine pf_X8_206 (x := 5) (σ' := (ap b σ [(0, 8, 5), (0, 8, 4), (0, 8, 3), (0, 8, 2), (0, 8, 1)] [] [])) B (lKA (hk_K hK 0 rfl rfl)) wI_ap dX8_tick_35 ?_
  refine z_aload_n B dX8_tick_38 rfl 1 rfl ?_
  refine z_cVv (As := []) (rest := []) B cw_X8_240 cx_9 dX8_tick_39 (ci_X8_passTasks_920 l (σ := (ap b σ [(0, 8, 5), (0, 8, 4), (0, 8, 3), (0, 8, 2), (0, 8, 1)] [] [])) (b := b) (lyA hK) (rI_at 4 2 hI_4_2) (rR_at 0 3 hR_0_3)) (lKA (hk_K hK 0 rfl rfl)) rfl (by decide) rfl (Nat.le_of_ble_eq_true rfl) (by decide) (fun u hu => ?_)
  refine z_eqs (σ' := (ap b σ [(0, 8, 5), (0, 8, 4), (0, 8, 3), (0, 8, 2), (0, 8, 1)] [] [])) hu ?_
  show zx p l e _ s m _ below meth c g 3 0 0 _ _ 42 [(2, .int 4), (0, .ref (b + 0)), (1, .int 36)] _
  refine z_aload_n B dX8_tick_42 rfl 1 rfl ?_
  refine z_cVv (As := []) (rest := []) B cw_X8_243 cx_9 dX8_tick_43 (ci_X8_passTimers_921 l (σ := (ap b σ [(0, 8, 5), (0, 8, 4), (0, 8, 3), (0, 8, 2), (0, 8, 1)] [] [])) (b := b) (lyA hK) (rI_at 0 7 hI_0_7)) (lKA (hk_K hK 0 rfl rfl)) rfl (by decide) rfl (Nat.le_of_ble_eq_true rfl) (by decide) (fun u hu => ?_)
  refine z_eqs (σ' := (ap b σ [(0, 8, 5), (0, 8, 4), (0, 8, 3), (0, 8, 2), (0, 8, 1)] [] [])) hu ?_
  show zx p l e _ s m _ below meth c g 3 0 0 _ _ 46 [(2, .int 4), (0, .ref (b + 0)), (1, .int 36)] _
  refine z_iinc (v := 5) (lv' := [(2, .int 5), (0, .ref (b + 0)), (1, .int 36)]) B dX8_tick_46 0 rfl (by decide) (by decide) rfl ?_
  refine z_goto (tgt := 23) B dX8_tick_49 (by decide) ?_
  refine z_iload_n B dX8_tick_23 rfl 0 rfl ?_
  refine z_iload_n B dX8_tick_24 rfl 2 rfl ?_
  refine z_icmp_ge (tgt := 52) B dX8_tick_25 (by decide) (fun h => absurd h (by decide)) (fun _ => ?_)
  refine z_aload_n B dX8_tick_28 rfl 1 rfl ?_
  refine z_dup B dX8_tick_29 rfl ?_
  refine gf_X8_206 (x := 5) B (lKA (hk_K hK 0 rfl rfl)) (rI_at 0 8 rfl) dX8_tick_30 ?_
  refine z_iconst (v := 1) B dX8_tick_33 (by decide) ?_
  refine z_iadd B dX8_tick_34 ?_
  refine z_seti (y := 6) (by decide) ?_
  refine pf_X8_206 (x := 6) (σ' := (ap b σ [(0, 8, 6), (0, 8, 5), (0, 8, 4), (0, 8, 3), (0, 8, 2), (0, 8, 1)] [] [])) B (lKA (hk_K hK 0 rfl rfl)) wI_ap dX8_tick_35 ?_
  refine z_aload_n B dX8_tick_38 rfl 1 rfl ?_
  refine z_cVv (As := []) (rest := []) B cw_X8_240 cx_9 dX8_tick_39 (ci_X8_passTasks_920 l (σ := (ap b σ [(0, 8, 6), (0, 8, 5), (0, 8, 4), (0, 8, 3), (0, 8, 2), (0, 8, 1)] [] [])) (b := b) (lyA hK) (rI_at 4 2 hI_4_2) (rR_at 0 3 hR_0_3)) (lKA (hk_K hK 0 rfl rfl)) rfl (by decide) rfl (Nat.le_of_ble_eq_true rfl) (by decide) (fun u hu => ?_)
  refine z_eqs (σ' := (ap b σ [(0, 8, 6), (0, 8, 5), (0, 8, 4), (0, 8, 3), (0, 8, 2), (0, 8, 1)] [] [])) hu ?_
  show zx p l e _ s m _ below meth c g 3 0 0 _ _ 42 [(2, .int 5), (0, .ref (b + 0)), (1, .int 36)] _
  refine z_aload_n B dX8_tick_42 rfl 1 rfl ?_
  refine z_cVv (As := []) (rest := []) B cw_X8_243 cx_9 dX8_tick_43 (ci_X8_passTimers_921 l (σ := (ap b σ [(0, 8, 6), (0, 8, 5), (0, 8, 4), (0, 8, 3), (0, 8, 2), (0, 8, 1)] [] [])) (b := b) (lyA hK) (rI_at 0 7 hI_0_7)) (lKA (hk_K hK 0 rfl rfl)) rfl (by decide) rfl (Nat.le_of_ble_eq_true rfl) (by decide) (fun u hu => ?_)
  refine z_eqs (σ' := (ap b σ [(0, 8, 6), (0, 8, 5), (0, 8, 4), (0, 8, 3), (0, 8, 2), (0, 8, 1)] [] [])) hu ?_
  show zx p l e _ s m _ below meth c g 3 0 0 _ _ 46 [(2, .int 5), (0, .ref (b + 0)), (1, .int 36)] _
  refine z_iinc (v := 6) (lv' := [(2, .int 6), (0, .ref (b + 0)), (1, .int 36)]) B dX8_tick_46 0 rfl (by decide) (by decide) rfl ?_
  refine z_goto (tgt := 23) B dX8_tick_49 (by decide) ?_
  refine z_iload_n B dX8_tick_23 rfl 0 rfl ?_
  refine z_iload_n B dX8_tick_24 rfl 2 rfl ?_
  refine z_icmp_ge (tgt := 52) B dX8_tick_25 (by decide) (fun h => absurd h (by decide)) (fun _ => ?_)
  refine z_aload_n B dX8_tick_28 rfl 1 rfl ?_
  refine z_dup B dX8_tick_29 rfl ?_
  refine gf_X8_206 (x := 6) B (lKA (hk_K hK 0 rfl rfl)) (rI_at 0 8 rfl) dX8_tick_30 ?_
  refine z_iconst (v := 1) B dX8_tick_33 (by decide) ?_
  refine z_iadd B dX8_tick_34 ?_
  refine z_seti (y := 7) (by decide) ?_
  refine pf_X8_206 (x := 7) (σ' := (ap b σ [(0, 8, 7), (0, 8, 6), (0, 8, 5), (0, 8, 4), (0, 8, 3), (0, 8, 2), (0, 8, 1)] [] [])) B (lKA (hk_K hK 0 rfl rfl)) wI_ap dX8_tick_35 ?_
  refine z_aload_n B dX8_tick_38 rfl 1 rfl ?_
  refine z_cVv (As := []) (rest := []) B cw_X8_240 cx_9 dX8_tick_39 (ci_X8_passTasks_920 l (σ := (ap b σ [(0, 8, 7), (0, 8, 6), (0, 8, 5), (0, 8, 4), (0, 8, 3), (0, 8, 2), (0, 8, 1)] [] [])) (b := b) (lyA hK) (rI_at 4 2 hI_4_2) (rR_at 0 3 hR_0_3)) (lKA (hk_K hK 0 rfl rfl)) rfl (by decide) rfl (Nat.le_of_ble_eq_true rfl) (by decide) (fun u hu => ?_)
  refine z_eqs (σ' := (ap b σ [(0, 8, 7), (0, 8, 6), (0, 8, 5), (0, 8, 4), (0, 8, 3), (0, 8, 2), (0, 8, 1)] [] [])) hu ?_
  show zx p l e _ s m _ below meth c g 3 0 0 _ _ 42 [(2, .int 6), (0, .ref (b + 0)), (1, .int 36)] _
  refine z_aload_n B dX8_tick_42 rfl 1 rfl ?_
  refine z_cVv (As := []) (rest := []) B cw_X8_243 cx_9 dX8_tick_43 (ci_X8_passTimers_921 l (σ := (ap b σ [(0, 8, 7), (0, 8, 6), (0, 8, 5), (0, 8, 4), (0, 8, 3), (0, 8, 2), (0, 8, 1)] [] [])) (b := b) (lyA hK) (rI_at 0 7 hI_0_7)) (lKA (hk_K hK 0 rfl rfl)) rfl (by decide) rfl (Nat.le_of_ble_eq_true rfl) (by decide) (fun u hu => ?_)
  refine z_eqs (σ' := (ap b σ [(0, 8, 7), (0, 8, 6), (0, 8, 5), (0, 8, 4), (0, 8, 3), (0, 8, 2), (0, 8, 1)] [] [])) hu ?_
  show zx p l e _ s m _ below meth c g 3 0 0 _ _ 46 [(2, .int 6), (0, .ref (b + 0)), (1, .int 36)] _
  refine z_iinc (v := 7) (lv' := [(2, .int 7), (0, .ref (b + 0)), (1, .int 36)]) B dX8_tick_46 0 rfl (by decide) (by decide) rfl ?_
  refine z_goto (tgt := 23) B dX8_tick_49 (by decide) ?_
  refine z_iload_n B dX8_tick_23 rfl 0 rfl ?_
  refine z_iload_n B dX8_tick_24 rfl 2 rfl ?_
  refine z_icmp_ge (tgt := 52) B dX8_tick_25 (by decide) (fun h => absurd h (by decide)) (fun _ => ?_)
  refine z_aload_n B dX8_tick_28 rfl 1 rfl ?_
  refine z_dup B dX8_tick_29 rfl ?_
  refine gf_X8_206 (x := 7) B (lKA (hk_K hK 0 rfl rfl)) (rI_at 0 8 rfl) dX8_tick_30 ?_
  refine z_iconst (v := 1) B dX8_tick_33 (by decide) ?_
  refine z_iadd B dX8_tick_34 ?_
  refine z_seti (y := 8) (by decide) ?_
  refine pf_X8_206 (x := 8) (σ' := (ap b σ [(0, 8, 8), (0, 8, 7), (0, 8, 6), (0, 8, 5), (0, 8, 4), (0, 8, 3), (0, 8, 2), (0, 8, 1)] [] [])) B (lKA (hk_K hK 0 rfl rfl)) wI_ap dX8_tick_35 ?_
  refine z_aload_n B dX8_tick_38 rfl 1 rfl ?_
  refine z_cVv (As := []) (rest := []) B cw_X8_240 cx_9 dX8_tick_39 (ci_X8_passTasks_920 l (σ := (ap b σ [(0, 8, 8), (0, 8, 7), (0, 8, 6), (0, 8, 5), (0, 8, 4), (0, 8, 3), (0, 8, 2), (0, 8, 1)] [] [])) (b := b) (lyA hK) (rI_at 4 2 hI_4_2) (rR_at 0 3 hR_0_3)) (lKA (hk_K hK 0 rfl rfl)) rfl (by decide) rfl (Nat.le_of_ble_eq_true rfl) (by decide) (fun u hu => ?_)
  refine z_eqs (σ' := (ap b σ [(0, 8, 8), (0, 8, 7), (0, 8, 6), (0, 8, 5), (0, 8, 4), (0, 8, 3), (0, 8, 2), (0, 8, 1)] [] [])) hu ?_
  show zx p l e _ s m _ below meth c g 3 0 0 _ _ 42 [(2, .int 7), (0, .ref (b + 0)), (1, .int 36)] _
  refine z_aload_n B dX8_tick_42 rfl 1 rfl ?_
  refine z_cVv (As := []) (rest := []) B cw_X8_243 cx_9 dX8_tick_43 (ci_X8_passTimers_921 l (σ := (ap b σ [(0, 8, 8), (0, 8, 7), (0, 8, 6), (0, 8, 5), (0, 8, 4), (0, 8, 3), (0, 8, 2), (0, 8, 1)] [] [])) (b := b) (lyA hK) (rI_at 0 7 hI_0_7)) (lKA (hk_K hK 0 rfl rfl)) rfl (by decide) rfl (Nat.le_of_ble_eq_true rfl) (by decide) (fun u hu => ?_)
  refine z_eqs (σ' := (ap b σ [(0, 8, 8), (0, 8, 7), (0, 8, 6), (0, 8, 5), (0, 8, 4), (0, 8, 3), (0, 8, 2), (0, 8, 1)] [] [])) hu ?_
  show zx p l e _ s m _ below meth c g 3 0 0 _ _ 46 [(2, .int 7), (0, .ref (b + 0)), (1, .int 36)] _
  refine z_iinc (v := 8) (lv' := [(2, .int 8), (0, .ref (b + 0)), (1, .int 36)]) B dX8_tick_46 0 rfl (by decide) (by decide) rfl ?_
  refine z_goto (tgt := 23) B dX8_tick_49 (by decide) ?_
  refine z_iload_n B dX8_tick_23 rfl 0 rfl ?_
  refine z_iload_n B dX8_tick_24 rfl 2 rfl ?_
  refine z_icmp_ge (tgt := 52) B dX8_tick_25 (by decide) (fun h => absurd h (by decide)) (fun _ => ?_)
  refine z_aload_n B dX8_tick_28 rfl 1 rfl ?_
  refine z_dup B dX8_tick_29 rfl ?_
  refine gf_X8_206 (x := 8) B (lKA (hk_K hK 0 rfl rfl)) (rI_at 0 8 rfl) dX8_tick_30 ?_
  refine z_iconst (v := 1) B dX8_tick_33 (by decide) ?_
  refine z_iadd B dX8_tick_34 ?_
  refine z_seti (y := 9) (by decide) ?_
  refine pf_X8_206 (x := 9) (σ' := (ap b σ [(0, 8, 9), (0, 8, 8), (0, 8, 7), (0, 8, 6), (0, 8, 5), (0, 8, 4), (0, 8, 3), (0, 8, 2), (0, 8, 1)] [] [])) B (lKA (hk_K hK 0 rfl rfl)) wI_ap dX8_tick_35 ?_
  refine z_aload_n B dX8_tick_38 rfl 1 rfl ?_
  refine z_cVv (As := []) (rest := []) B cw_X8_240 cx_9 dX8_tick_39 (ci_X8_passTasks_920 l (σ := (ap b σ [(0, 8, 9), (0, 8, 8), (0, 8, 7), (0, 8, 6), (0, 8, 5), (0, 8, 4), (0, 8, 3), (0, 8, 2), (0, 8, 1)] [] [])) (b := b) (lyA hK) (rI_at 4 2 hI_4_2) (rR_at 0 3 hR_0_3)) (lKA (hk_K hK 0 rfl rfl)) rfl (by decide) rfl (Nat.le_of_ble_eq_true rfl) (by decide) (fun u hu => ?_)
  refine z_eqs (σ' := (ap b σ [(0, 8, 9), (0, 8, 8), (0, 8, 7), (0, 8, 6), (0, 8, 5), (0, 8, 4), (0, 8, 3), (0, 8, 2), (0, 8, 1)] [] [])) hu ?_
  show zx p l e _ s m _ below meth c g 3 0 0 _ _ 42 [(2, .int 8), (0, .ref (b + 0)), (1, .int 36)] _
  refine z_aload_n B dX8_tick_42 rfl 1 rfl ?_
  refine z_cVv (As := []) (rest := []) B cw_X8_243 cx_9 dX8_tick_43 (ci_X8_passTimers_921 l (σ := (ap b σ [(0, 8, 9), (0, 8, 8), (0, 8, 7), (0, 8, 6), (0, 8, 5), (0, 8, 4), (0, 8, 3), (0, 8, 2), (0, 8, 1)] [] [])) (b := b) (lyA hK) (rI_at 0 7 hI_0_7)) (lKA (hk_K hK 0 rfl rfl)) rfl (by decide) rfl (Nat.le_of_ble_eq_true rfl) (by decide) (fun u hu => ?_)
  refine z_eqs (σ' := (ap b σ [(0, 8, 9), (0, 8, 8), (0, 8, 7), (0, 8, 6), (0, 8, 5), (0, 8, 4), (0, 8, 3), (0, 8, 2), (0, 8, 1)] [] [])) hu ?_
  show zx p l e _ s m _ below meth c g 3 0 0 _ _ 46 [(2, .int 8), (0, .ref (b + 0)), (1, .int 36)] _
  refine z_iinc (v := 9) (lv' := [(2, .int 9), (0, .ref (b + 0)), (1, .int 36)]) B dX8_tick_46 0 rfl (by decide) (by decide) rfl ?_
  refine z_goto (tgt := 23) B dX8_tick_49 (by decide) ?_
  refine z_iload_n B dX8_tick_23 rfl 0 rfl ?_
  refine z_iload_n B dX8_tick_24 rfl 2 rfl ?_
  refine z_icmp_ge (tgt := 52) B dX8_tick_25 (by decide) (fun h => absurd h (by decide)) (fun _ => ?_)
  refine z_aload_n B dX8_tick_28 rfl 1 rfl ?_
  refine z_dup B dX8_tick_29 rfl ?_
  refine gf_X8_206 (x := 9) B (lKA (hk_K hK 0 rfl rfl)) (rI_at 0 8 rfl) dX8_tick_30 ?_
  refine z_iconst (v := 1) B dX8_tick_33 (by decide) ?_
  refine z_iadd B dX8_tick_34 ?_
  refine z_seti (y := 10) (by decide) ?_
  refine pf_X8_206 (x := 10) (σ' := (ap b σ [(0, 8, 10), (0, 8, 9), (0, 8, 8), (0, 8, 7), (0, 8, 6), (0, 8, 5), (0, 8, 4), (0, 8, 3), (0, 8, 2), (0, 8, 1)] [] [])) B (lKA (hk_K hK 0 rfl rfl)) wI_ap dX8_tick_35 ?_
  refine z_aload_n B dX8_tick_38 rfl 1 rfl ?_
  refine z_cVv (As := []) (rest := []) B cw_X8_240 cx_9 dX8_tick_39 (ci_X8_passTasks_920 l (σ := (ap b σ [(0, 8, 10), (0, 8, 9), (0, 8, 8), (0, 8, 7), (0, 8, 6), (0, 8, 5), (0, 8, 4), (0, 8, 3), (0, 8, 2), (0, 8, 1)] [] [])) (b := b) (lyA hK) (rI_at 4 2 hI_4_2) (rR_at 0 3 hR_0_3)) (lKA (hk_K hK 0 rfl rfl)) rfl (by decide) rfl (Nat.le_of_ble_eq_true rfl) (by decide) (fun u hu => ?_)
  refine z_eqs (σ' := (ap b σ [(0, 8, 10), (0, 8, 9), (0, 8, 8), (0, 8, 7), (0, 8, 6), (0, 8, 5), (0, 8, 4), (0, 8, 3), (0, 8, 2), (0, 8, 1)] [] [])) hu ?_
  show zx p l e _ s m _ below meth c g 3 0 0 _ _ 42 [(2, .int 9), (0, .ref (b + 0)), (1, .int 36)] _
  refine z_aload_n B dX8_tick_42 rfl 1 rfl ?_
  refine z_cVv (As := []) (rest := []) B cw_X8_243 cx_9 dX8_tick_43 (ci_X8_passTimers_921 l (σ := (ap b σ [(0, 8, 10), (0, 8, 9), (0, 8, 8), (0, 8, 7), (0, 8, 6), (0, 8, 5), (0, 8, 4), (0, 8, 3), (0, 8, 2), (0, 8, 1)] [] [])) (b := b) (lyA hK) (rI_at 0 7 hI_0_7)) (lKA (hk_K hK 0 rfl rfl)) rfl (by decide) rfl (Nat.le_of_ble_eq_true rfl) (by decide) (fun u hu => ?_)
  refine z_eqs (σ' := (ap b σ [(0, 8, 10), (0, 8, 9), (0, 8, 8), (0, 8, 7), (0, 8, 6), (0, 8, 5), (0, 8, 4), (0, 8, 3), (0, 8, 2), (0, 8, 1)] [] [])) hu ?_
  show zx p l e _ s m _ below meth c g 3 0 0 _ _ 46 [(2, .int 9), (0, .ref (b + 0)), (1, .int 36)] _
  refine z_iinc (v := 10) (lv' := [(2, .int 10), (0, .ref (b + 0)), (1, .int 36)]) B dX8_tick_46 0 rfl (by decide) (by decide) rfl ?_
  refine z_goto (tgt := 23) B dX8_tick_49 (by decide) ?_
  refine z_iload_n B dX8_tick_23 rfl 0 rfl ?_
  refine z_iload_n B dX8_tick_24 rfl 2 rfl ?_
  refine z_icmp_ge (tgt := 52) B dX8_tick_25 (by decide) (fun h => absurd h (by decide)) (fun _ => ?_)
  refine z_aload_n B dX8_tick_28 rfl 1 rfl ?_
  refine z_dup B dX8_tick_29 rfl ?_
  refine gf_X8_206 (x := 10) B (lKA (hk_K hK 0 rfl rfl)) (rI_at 0 8 rfl) dX8_tick_30 ?_
  refine z_iconst (v := 1) B dX8_tick_33 (by decide) ?_
  refine z_iadd B dX8_tick_34 ?_
  refine z_seti (y := 11) (by decide) ?_
  refine pf_X8_206 (x := 11) (σ' := (ap b σ [(0, 8, 11), (0, 8, 10), (0, 8, 9), (0, 8, 8), (0, 8, 7), (0, 8, 6), (0, 8, 5), (0, 8, 4), (0, 8, 3), (0, 8, 2), (0, 8, 1)] [] [])) B (lKA (hk_K hK 0 rfl rfl)) wI_ap dX8_tick_35 ?_
  refine z_aload_n B dX8_tick_38 rfl 1 rfl ?_
  refine z_cVv (As := []) (rest := []) B cw_X8_240 cx_9 dX8_tick_39 (ci_X8_passTasks_920 l (σ := (ap b σ [(0, 8, 11), (0, 8, 10), (0, 8, 9), (0, 8, 8), (0, 8, 7), (0, 8, 6), (0, 8, 5), (0, 8, 4), (0, 8, 3), (0, 8, 2), (0, 8, 1)] [] [])) (b := b) (lyA hK) (rI_at 4 2 hI_4_2) (rR_at 0 3 hR_0_3)) (lKA (hk_K hK 0 rfl rfl)) rfl (by decide) rfl (Nat.le_of_ble_eq_true rfl) (by decide) (fun u hu => ?_)
  refine z_eqs (σ' := (ap b σ [(0, 8, 11), (0, 8, 10), (0, 8, 9), (0, 8, 8), (0, 8, 7), (0, 8, 6), (0, 8, 5), (0, 8, 4), (0, 8, 3), (0, 8, 2), (0, 8, 1)] [] [])) hu ?_
  show zx p l e _ s m _ below meth c g 3 0 0 _ _ 42 [(2, .int 10), (0, .ref (b + 0)), (1, .int 36)] _
  refine z_aload_n B dX8_tick_42 rfl 1 rfl ?_
  refine z_cVv (As := []) (rest := []) B cw_X8_243 cx_9 dX8_tick_43 (ci_X8_passTimers_921 l (σ := (ap b σ [(0, 8, 11), (0, 8, 10), (0, 8, 9), (0, 8, 8), (0, 8, 7), (0, 8, 6), (0, 8, 5), (0, 8, 4), (0, 8, 3), (0, 8, 2), (0, 8, 1)] [] [])) (b := b) (lyA hK) (rI_at 0 7 hI_0_7)) (lKA (hk_K hK 0 rfl rfl)) rfl (by decide) rfl (Nat.le_of_ble_eq_true rfl) (by decide) (fun u hu => ?_)
  refine z_eqs (σ' := (ap b σ [(0, 8, 11), (0, 8, 10), (0, 8, 9), (0, 8, 8), (0, 8, 7), (0, 8, 6), (0, 8, 5), (0, 8, 4), (0, 8, 3), (0, 8, 2), (0, 8, 1)] [] [])) hu ?_
  show zx p l e _ s m _ below meth c g 3 0 0 _ _ 46 [(2, .int 10), (0, .ref (b + 0)), (1, .int 36)] _
  refine z_iinc (v := 11) (lv' := [(2, .int 11), (0, .ref (b + 0)), (1, .int 36)]) B dX8_tick_46 0 rfl (by decide) (by decide) rfl ?_
  refine z_goto (tgt := 23) B dX8_tick_49 (by decide) ?_
  refine z_iload_n B dX8_tick_23 rfl 0 rfl ?_
  refine z_iload_n B dX8_tick_24 rfl 2 rfl ?_
  refine z_icmp_ge (tgt := 52) B dX8_tick_25 (by decide) (fun h => absurd h (by decide)) (fun _ => ?_)
  refine z_aload_n B dX8_tick_28 rfl 1 rfl ?_
  refine z_dup B dX8_tick_29 rfl ?_
  refine gf_X8_206 (x := 11) B (lKA (hk_K hK 0 rfl rfl)) (rI_at 0 8 rfl) dX8_tick_30 ?_
  refine z_iconst (v := 1) B dX8_tick_33 (by decide) ?_
  refine z_iadd B dX8_tick_34 ?_
  refine z_seti (y := 12) (by decide) ?_
  refine pf_X8_206 (x := 12) (σ' := (ap b σ [(0, 8, 12), (0, 8, 11), (0, 8, 10), (0, 8, 9), (0, 8, 8), (0, 8, 7), (0, 8, 6), (0, 8, 5), (0, 8, 4), (0, 8, 3), (0, 8, 2), (0, 8, 1)] [] [])) B (lKA (hk_K hK 0 rfl rfl)) wI_ap dX8_tick_35 ?_
  refine z_aload_n B dX8_tick_38 rfl 1 rfl ?_
  refine z_cVv (As := []) (rest := []) B cw_X8_240 cx_9 dX8_tick_39 (ci_X8_passTasks_920 l (σ := (ap b σ [(0, 8, 12), (0, 8, 11), (0, 8, 10), (0, 8, 9), (0, 8, 8), (0, 8, 7), (0, 8, 6), (0, 8, 5), (0, 8, 4), (0, 8, 3), (0, 8, 2), (0, 8, 1)] [] [])) (b := b) (lyA hK) (rI_at 4 2 hI_4_2) (rR_at 0 3 hR_0_3)) (lKA (hk_K hK 0 rfl rfl)) rfl (by decide) rfl (Nat.le_of_ble_eq_true rfl) (by decide) (fun u hu => ?_)
  refine z_eqs (σ' := (ap b σ [(0, 8, 12), (0, 8, 11), (0, 8, 10), (0, 8, 9), (0, 8, 8), (0, 8, 7), (0, 8, 6), (0, 8, 5), (0, 8, 4), (0, 8, 3), (0, 8, 2), (0, 8, 1)] [] [])) hu ?_
  show zx p l e _ s m _ below meth c g 3 0 0 _ _ 42 [(2, .int 11), (0, .ref (b + 0)), (1, .int 36)] _
  refine z_aload_n B dX8_tick_42 rfl 1 rfl ?_
  refine z_cVv (As := []) (rest := []) B cw_X8_243 cx_9 dX8_tick_43 (ci_X8_passTimers_921 l (σ := (ap b σ [(0, 8, 12), (0, 8, 11), (0, 8, 10), (0, 8, 9), (0, 8, 8), (0, 8, 7), (0, 8, 6), (0, 8, 5), (0, 8, 4), (0, 8, 3), (0, 8, 2), (0, 8, 1)] [] [])) (b := b) (lyA hK) (rI_at 0 7 hI_0_7)) (lKA (hk_K hK 0 rfl rfl)) rfl (by decide) rfl (Nat.le_of_ble_eq_true rfl) (by decide) (fun u hu => ?_)
  refine z_eqs (σ' := (ap b σ [(0, 8, 12), (0, 8, 11), (0, 8, 10), (0, 8, 9), (0, 8, 8), (0, 8, 7), (0, 8, 6), (0, 8, 5), (0, 8, 4), (0, 8, 3), (0, 8, 2), (0, 8, 1)] [] [])) hu ?_
  show zx p l e _ s m _ below meth c g 3 0 0 _ _ 46 [(2, .int 11), (0, .ref (b + 0)), (1, .int 36)] _
  refine z_iinc (v := 12) (lv' := [(2, .int 12), (0, .ref (b + 0)), (1, .int 36)]) B dX8_tick_46 0 rfl (by decide) (by decide) rfl ?_
  refine z_goto (tgt := 23) B dX8_tick_49 (by decide) ?_
  refine z_iload_n B dX8_tick_23 rfl 0 rfl ?_
  refine z_iload_n B dX8_tick_24 rfl 2 rfl ?_
  refine z_icmp_ge (tgt := 52) B dX8_tick_25 (by decide) (fun h => absurd h (by decide)) (fun _ => ?_)
  refine z_aload_n B dX8_tick_28 rfl 1 rfl ?_
  refine z_dup B dX8_tick_29 rfl ?_
  refine gf_X8_206 (x := 12) B (lKA (hk_K hK 0 rfl rfl)) (rI_at 0 8 rfl) dX8_tick_30 ?_
  refine z_iconst (v := 1) B dX8_tick_33 (by decide) ?_
  refine z_iadd B dX8_tick_34 ?_
  refine z_seti (y := 13) (by decide) ?_
  refine pf_X8_206 (x := 13) (σ' := (ap b σ [(0, 8, 13), (0, 8, 12), (0, 8, 11), (0, 8, 10), (0, 8, 9), (0, 8, 8), (0, 8, 7), (0, 8, 6), (0, 8, 5), (0, 8, 4), (0, 8, 3), (0, 8, 2), (0, 8, 1)] [] [])) B (lKA (hk_K hK 0 rfl rfl)) wI_ap dX8_tick_35 ?_
  refine z_aload_n B dX8_tick_38 rfl 1 rfl ?_
  refine z_cVv (As := []) (rest := []) B cw_X8_240 cx_9 dX8_tick_39 (ci_X8_passTasks_920 l (σ := (ap b σ [(0, 8, 13), (0, 8, 12), (0, 8, 11), (0, 8, 10), (0, 8, 9), (0, 8, 8), (0, 8, 7), (0, 8, 6), (0, 8, 5), (0, 8, 4), (0, 8, 3), (0, 8, 2), (0, 8, 1)] [] [])) (b := b) (lyA hK) (rI_at 4 2 hI_4_2) (rR_at 0 3 hR_0_3)) (lKA (hk_K hK 0 rfl rfl)) rfl (by decide) rfl (Nat.le_of_ble_eq_true rfl) (by decide) (fun u hu => ?_)
  refine z_eqs (σ' := (ap b σ [(0, 8, 13), (0, 8, 12), (0, 8, 11), (0, 8, 10), (0, 8, 9), (0, 8, 8), (0, 8, 7), (0, 8, 6), (0, 8, 5), (0, 8, 4), (0, 8, 3), (0, 8, 2), (0, 8, 1)] [] [])) hu ?_
  show zx p l e _ s m _ below meth c g 3 0 0 _ _ 42 [(2, .int 12), (0, .ref (b + 0)), (1, .int 36)] _
  refine z_aload_n B dX8_tick_42 rfl 1 rfl ?_
  refine z_cVv (As := []) (rest := []) B cw_X8_243 cx_9 dX8_tick_43 (ci_X8_passTimers_921 l (σ := (ap b σ [(0, 8, 13), (0, 8, 12), (0, 8, 11), (0, 8, 10), (0, 8, 9), (0, 8, 8), (0, 8, 7), (0, 8, 6), (0, 8, 5), (0, 8, 4), (0, 8, 3), (0, 8, 2), (0, 8, 1)] [] [])) (b := b) (lyA hK) (rI_at 0 7 hI_0_7)) (lKA (hk_K hK 0 rfl rfl)) rfl (by decide) rfl (Nat.le_of_ble_eq_true rfl) (by decide) (fun u hu => ?_)
  refine z_eqs (σ' := (ap b σ [(0, 8, 13), (0, 8, 12), (0, 8, 11), (0, 8, 10), (0, 8, 9), (0, 8, 8), (0, 8, 7), (0, 8, 6), (0, 8, 5), (0, 8, 4), (0, 8, 3), (0, 8, 2), (0, 8, 1)] [] [])) hu ?_
  show zx p l e _ s m _ below meth c g 3 0 0 _ _ 46 [(2, .int 12), (0, .ref (b + 0)), (1, .int 36)] _
  refine z_iinc (v := 13) (lv' := [(2, .int 13), (0, .ref (b + 0)), (1, .int 36)]) B dX8_tick_46 0 rfl (by decide) (by decide) rfl ?_
  refine z_goto (tgt := 23) B dX8_tick_49 (by decide) ?_
  refine z_iload_n B dX8_tick_23 rfl 0 rfl ?_
  refine z_iload_n B dX8_tick_24 rfl 2 rfl ?_
  refine z_icmp_ge (tgt := 52) B dX8_tick_25 (by decide) (fun h => absurd h (by decide)) (fun _ => ?_)
  refine z_aload_n B dX8_tick_28 rfl 1 rfl ?_
  refine z_dup B dX8_tick_29 rfl ?_
  refine gf_X8_206 (x := 13) B (lKA (hk_K hK 0 rfl rfl)) (rI_at 0 8 rfl) dX8_tick_30 ?_
  refine z_iconst (v := 1) B dX8_tick_33 (by decide) ?_
  refine z_iadd B dX8_tick_34 ?_
  refine z_seti (y := 14) (by decide) ?_
  refine pf_X8_206 (x := 14) (σ' := (ap b σ [(0, 8, 14), (0, 8, 13), (0, 8, 12), (0, 8, 11), (0, 8, 10), (0, 8, 9), (0, 8, 8), (0, 8, 7), (0, 8, 6), (0, 8, 5), (0, 8, 4), (0, 8, 3), (0, 8, 2), (0, 8, 1)] [] [])) B (lKA (hk_K hK 0 rfl rfl)) wI_ap dX8_tick_35 ?_
  refine z_aload_n B dX8_tick_38 rfl 1 rfl ?_
  refine z_cVv (As := []) (rest := []) B cw_X8_240 cx_9 dX8_tick_39 (ci_X8_passTasks_920 l (σ := (ap b σ [(0, 8, 14), (0, 8, 13), (0, 8, 12), (0, 8, 11), (0, 8, 10), (0, 8, 9), (0, 8, 8), (0, 8, 7), (0, 8, 6), (0, 8, 5), (0, 8, 4), (0, 8, 3), (0, 8, 2), (0, 8, 1)] [] [])) (b := b) (lyA hK) (rI_at 4 2 hI_4_2) (rR_at 0 3 hR_0_3)) (lKA (hk_K hK 0 rfl rfl)) rfl (by decide) rfl (Nat.le_of_ble_eq_true rfl) (by decide) (fun u hu => ?_)
  refine z_eqs (σ' := (ap b σ [(0, 8, 14), (0, 8, 13), (0, 8, 12), (0, 8, 11), (0, 8, 10), (0, 8, 9), (0, 8, 8), (0, 8, 7), (0, 8, 6), (0, 8, 5), (0, 8, 4), (0, 8, 3), (0, 8, 2), (0, 8, 1)] [] [])) hu ?_
  show zx p l e _ s m _ below meth c g 3 0 0 _ _ 42 [(2, .int 13), (0, .ref (b + 0)), (1, .int 36)] _
  refine z_aload_n B dX8_tick_42 rfl 1 rfl ?_
  refine z_cVv (As := []) (rest := []) B cw_X8_243 cx_9 dX8_tick_43 (ci_X8_passTimers_921 l (σ := (ap b σ [(0, 8, 14), (0, 8, 13), (0, 8, 12), (0, 8, 11), (0, 8, 10), (0, 8, 9), (0, 8, 8), (0, 8, 7), (0, 8, 6), (0, 8, 5), (0, 8, 4), (0, 8, 3), (0, 8, 2), (0, 8, 1)] [] [])) (b := b) (lyA hK) (rI_at 0 7 hI_0_7)) (lKA (hk_K hK 0 rfl rfl)) rfl (by decide) rfl (Nat.le_of_ble_eq_true rfl) (by decide) (fun u hu => ?_)
  refine z_eqs (σ' := (ap b σ [(0, 8, 14), (0, 8, 13), (0, 8, 12), (0, 8, 11), (0, 8, 10), (0, 8, 9), (0, 8, 8), (0, 8, 7), (0, 8, 6), (0, 8, 5), (0, 8, 4), (0, 8, 3), (0, 8, 2), (0, 8, 1)] [] [])) hu ?_
  show zx p l e _ s m _ below meth c g 3 0 0 _ _ 46 [(2, .int 13), (0, .ref (b + 0)), (1, .int 36)] _
  refine z_iinc (v := 14) (lv' := [(2, .int 14), (0, .ref (b + 0)), (1, .int 36)]) B dX8_tick_46 0 rfl (by decide) (by decide) rfl ?_
  refine z_goto (tgt := 23) B dX8_tick_49 (by decide) ?_
  refine z_iload_n B dX8_tick_23 rfl 0 rfl ?_
  refine z_iload_n B dX8_tick_24 rfl 2 rfl ?_
  refine z_icmp_ge (tgt := 52) B dX8_tick_25 (by decide) (fun h => absurd h (by decide)) (fun _ => ?_)
  refine z_aload_n B dX8_tick_28 rfl 1 rfl ?_
  refine z_dup B dX8_tick_29 rfl ?_
  refine gf_X8_206 (x := 14) B (lKA (hk_K hK 0 rfl rfl)) (rI_at 0 8 rfl) dX8_tick_30 ?_
  refine z_iconst (v := 1) B dX8_tick_33 (by decide) ?_
  refine z_iadd B dX8_tick_34 ?_
  refine z_seti (y := 15) (by decide) ?_
  refine pf_X8_206 (x := 15) (σ' := (ap b σ [(0, 8, 15), (0, 8, 14), (0, 8, 13), (0, 8, 12), (0, 8, 11), (0, 8, 10), (0, 8, 9), (0, 8, 8), (0, 8, 7), (0, 8, 6), (0, 8, 5), (0, 8, 4), (0, 8, 3), (0, 8, 2), (0, 8, 1)] [] [])) B (lKA (hk_K hK 0 rfl rfl)) wI_ap dX8_tick_35 ?_
  refine z_aload_n B dX8_tick_38 rfl 1 rfl ?_
  refine z_cVv (As := []) (rest := []) B cw_X8_240 cx_9 dX8_tick_39 (ci_X8_passTasks_920 l (σ := (ap b σ [(0, 8, 15), (0, 8, 14), (0, 8, 13), (0, 8, 12), (0, 8, 11), (0, 8, 10), (0, 8, 9), (0, 8, 8), (0, 8, 7), (0, 8, 6), (0, 8, 5), (0, 8, 4), (0, 8, 3), (0, 8, 2), (0, 8, 1)] [] [])) (b := b) (lyA hK) (rI_at 4 2 hI_4_2) (rR_at 0 3 hR_0_3)) (lKA (hk_K hK 0 rfl rfl)) rfl (by decide) rfl (Nat.le_of_ble_eq_true rfl) (by decide) (fun u hu => ?_)
  refine z_eqs (σ' := (ap b σ [(0, 8, 15), (0, 8, 14), (0, 8, 13), (0, 8, 12), (0, 8, 11), (0, 8, 10), (0, 8, 9), (0, 8, 8), (0, 8, 7), (0, 8, 6), (0, 8, 5), (0, 8, 4), (0, 8, 3), (0, 8, 2), (0, 8, 1)] [] [])) hu ?_
  show zx p l e _ s m _ below meth c g 3 0 0 _ _ 42 [(2, .int 14), (0, .ref (b + 0)), (1, .int 36)] _
  refine z_aload_n B dX8_tick_42 rfl 1 rfl ?_
  refine z_cVv (As := []) (rest := []) B cw_X8_243 cx_9 dX8_tick_43 (ci_X8_passTimers_921 l (σ := (ap b σ [(0, 8, 15), (0, 8, 14), (0, 8, 13), (0, 8, 12), (0, 8, 11), (0, 8, 10), (0, 8, 9), (0, 8, 8), (0, 8, 7), (0, 8, 6), (0, 8, 5), (0, 8, 4), (0, 8, 3), (0, 8, 2), (0, 8, 1)] [] [])) (b := b) (lyA hK) (rI_at 0 7 hI_0_7)) (lKA (hk_K hK 0 rfl rfl)) rfl (by decide) rfl (Nat.le_of_ble_eq_true rfl) (by decide) (fun u hu => ?_)
  refine z_eqs (σ' := (ap b σ [(0, 8, 15), (0, 8, 14), (0, 8, 13), (0, 8, 12), (0, 8, 11), (0, 8, 10), (0, 8, 9), (0, 8, 8), (0, 8, 7), (0, 8, 6), (0, 8, 5), (0, 8, 4), (0, 8, 3), (0, 8, 2), (0, 8, 1)] [] [])) hu ?_
  show zx p l e _ s m _ below meth c g 3 0 0 _ _ 46 [(2, .int 14), (0, .ref (b + 0)), (1, .int 36)] _
  refine z_iinc (v := 15) (lv' := [(2, .int 15), (0, .ref (b + 0)), (1, .int 36)]) B dX8_tick_46 0 rfl (by decide) (by decide) rfl ?_
  refine z_goto (tgt := 23) B dX8_tick_49 (by decide) ?_
  refine z_iload_n B dX8_tick_23 rfl 0 rfl ?_
  refine z_iload_n B dX8_tick_24 rfl 2 rfl ?_
  refine z_icmp_ge (tgt := 52) B dX8_tick_25 (by decide) (fun h => absurd h (by decide)) (fun _ => ?_)
  refine z_aload_n B dX8_tick_28 rfl 1 rfl ?_
  refine z_dup B dX8_tick_29 rfl ?_
  refine gf_X8_206 (x := 15) B (lKA (hk_K hK 0 rfl rfl)) (rI_at 0 8 rfl) dX8_tick_30 ?_
  refine z_iconst (v := 1) B dX8_tick_33 (by decide) ?_
  refine z_iadd B dX8_tick_34 ?_
  refine z_seti (y := 16) (by decide) ?_
  refine pf_X8_206 (x := 16) (σ' := (ap b σ [(0, 8, 16), (0, 8, 15), (0, 8, 14), (0, 8, 13), (0, 8, 12), (0, 8, 11), (0, 8, 10), (0, 8, 9), (0, 8, 8), (0, 8, 7), (0, 8, 6), (0, 8, 5), (0, 8, 4), (0, 8, 3), (0, 8, 2), (0, 8, 1)] [] [])) B (lKA (hk_K hK 0 rfl rfl)) wI_ap dX8_tick_35 ?_
  refine z_aload_n B dX8_tick_38 rfl 1 rfl ?_
  refine z_cVv (As := []) (rest := []) B cw_X8_240 cx_9 dX8_tick_39 (ci_X8_passTasks_920 l (σ := (ap b σ [(0, 8, 16), (0, 8, 15), (0, 8, 14), (0, 8, 13), (0, 8, 12), (0, 8, 11), (0, 8, 10), (0, 8, 9), (0, 8, 8), (0, 8, 7), (0, 8, 6), (0, 8, 5), (0, 8, 4), (0, 8, 3), (0, 8, 2), (0, 8, 1)] [] [])) (b := b) (lyA hK) (rI_at 4 2 hI_4_2) (rR_at 0 3 hR_0_3)) (lKA (hk_K hK 0 rfl rfl)) rfl (by decide) rfl (Nat.le_of_ble_eq_true rfl) (by decide) (fun u hu => ?_)
  refine z_eqs (σ' := (ap b σ [(0, 8, 16), (0, 8, 15), (0, 8, 14), (0, 8, 13), (0, 8, 12), (0, 8, 11), (0, 8, 10), (0, 8, 9), (0, 8, 8), (0, 8, 7), (0, 8, 6), (0, 8, 5), (0, 8, 4), (0, 8, 3), (0, 8, 2), (0, 8, 1)] [] [])) hu ?_
  show zx p l e _ s m _ below meth c g 3 0 0 _ _ 42 [(2, .int 15), (0, .ref (b + 0)), (1, .int 36)] _
  refine z_aload_n B dX8_tick_42 rfl 1 rfl ?_
  refine z_cVv (As := []) (rest := []) B cw_X8_243 cx_9 dX8_tick_43 (ci_X8_passTimers_921 l (σ := (ap b σ [(0, 8, 16), (0, 8, 15), (0, 8, 14), (0, 8, 13), (0, 8, 12), (0, 8, 11), (0, 8, 10), (0, 8, 9), (0, 8, 8), (0, 8, 7), (0, 8, 6), (0, 8, 5), (0, 8, 4), (0, 8, 3), (0, 8, 2), (0, 8, 1)] [] [])) (b := b) (lyA hK) (rI_at 0 7 hI_0_7)) (lKA (hk_K hK 0 rfl rfl)) rfl (by decide) rfl (Nat.le_of_ble_eq_true rfl) (by decide) (fun u hu => ?_)
  refine z_eqs (σ' := (ap b σ [(0, 8, 16), (0, 8, 15), (0, 8, 14), (0, 8, 13), (0, 8, 12), (0, 8, 11), (0, 8, 10), (0, 8, 9), (0, 8, 8), (0, 8, 7), (0, 8, 6), (0, 8, 5), (0, 8, 4), (0, 8, 3), (0, 8, 2), (0, 8, 1)] [] [])) hu ?_
  show zx p l e _ s m _ below meth c g 3 0 0 _ _ 46 [(2, .int 15), (0, .ref (b + 0)), (1, .int 36)] _
  refine z_iinc (v := 16) (lv' := [(2, .int 16), (0, .ref (b + 0)), (1, .int 36)]) B dX8_tick_46 0 rfl (by decide) (by decide) rfl ?_
  refine z_goto (tgt := 23) B dX8_tick_49 (by decide) ?_
  refine z_iload_n B dX8_tick_23 rfl 0 rfl ?_
  refine z_iload_n B dX8_tick_24 rfl 2 rfl ?_
  refine z_icmp_ge (tgt := 52) B dX8_tick_25 (by decide) (fun h => absurd h (by decide)) (fun _ => ?_)
  refine z_aload_n B dX8_tick_28 rfl 1 rfl ?_
  refine z_dup B dX8_tick_29 rfl ?_
  refine gf_X8_206 (x := 16) B (lKA (hk_K hK 0 rfl rfl)) (rI_at 0 8 rfl) dX8_tick_30 ?_
  refine z_iconst (v := 1) B dX8_tick_33 (by decide) ?_
  refine z_iadd B dX8_tick_34 ?_
  refine z_seti (y := 17) (by decide) ?_
  refine pf_X8_206 (x := 17) (σ' := (ap b σ [(0, 8, 17), (0, 8, 16), (0, 8, 15), (0, 8, 14), (0, 8, 13), (0, 8, 12), (0, 8, 11), (0, 8, 10), (0, 8, 9), (0, 8, 8), (0, 8, 7), (0, 8, 6), (0, 8, 5), (0, 8, 4), (0, 8, 3), (0, 8, 2), (0, 8, 1)] [] [])) B (lKA (hk_K hK 0 rfl rfl)) wI_ap dX8_tick_35 ?_
  refine z_aload_n B dX8_tick_38 rfl 1 rfl ?_
  refine z_cVv (As := []) (rest := []) B cw_X8_240 cx_9 dX8_tick_39 (ci_X8_passTasks_920 l (σ := (ap b σ [(0, 8, 17), (0, 8, 16), (0, 8, 15), (0, 8, 14), (0, 8, 13), (0, 8, 12), (0, 8, 11), (0, 8, 10), (0, 8, 9), (0, 8, 8), (0, 8, 7), (0, 8, 6), (0, 8, 5), (0, 8, 4), (0, 8, 3), (0, 8, 2), (0, 8, 1)] [] [])) (b := b) (lyA hK) (rI_at 4 2 hI_4_2) (rR_at 0 3 hR_0_3)) (lKA (hk_K hK 0 rfl rfl)) rfl (by decide) rfl (Nat.le_of_ble_eq_true rfl) (by decide) (fun u hu => ?_)
  refine z_eqs (σ' := (ap b σ [(0, 8, 17), (0, 8, 16), (0, 8, 15), (0, 8, 14), (0, 8, 13), (0, 8, 12), (0, 8, 11), (0, 8, 10), (0, 8, 9), (0, 8, 8), (0, 8, 7), (0, 8, 6), (0, 8, 5), (0, 8, 4), (0, 8, 3), (0, 8, 2), (0, 8, 1)] [] [])) hu ?_
  show zx p l e _ s m _ below meth c g 3 0 0 _ _ 42 [(2, .int 16), (0, .ref (b + 0)), (1, .int 36)] _
  refine z_aload_n B dX8_tick_42 rfl 1 rfl ?_
  refine z_cVv (As := []) (rest := []) B cw_X8_243 cx_9 dX8_tick_43 (ci_X8_passTimers_921 l (σ := (ap b σ [(0, 8, 17), (0, 8, 16), (0, 8, 15), (0, 8, 14), (0, 8, 13), (0, 8, 12), (0, 8, 11), (0, 8, 10), (0, 8, 9), (0, 8, 8), (0, 8, 7), (0, 8, 6), (0, 8, 5), (0, 8, 4), (0, 8, 3), (0, 8, 2), (0, 8, 1)] [] [])) (b := b) (lyA hK) (rI_at 0 7 hI_0_7)) (lKA (hk_K hK 0 rfl rfl)) rfl (by decide) rfl (Nat.le_of_ble_eq_true rfl) (by decide) (fun u hu => ?_)
  refine z_eqs (σ' := (ap b σ [(0, 8, 17), (0, 8, 16), (0, 8, 15), (0, 8, 14), (0, 8, 13), (0, 8, 12), (0, 8, 11), (0, 8, 10), (0, 8, 9), (0, 8, 8), (0, 8, 7), (0, 8, 6), (0, 8, 5), (0, 8, 4), (0, 8, 3), (0, 8, 2), (0, 8, 1)] [] [])) hu ?_
  show zx p l e _ s m _ below meth c g 3 0 0 _ _ 46 [(2, .int 16), (0, .ref (b + 0)), (1, .int 36)] _
  refine z_iinc (v := 17) (lv' := [(2, .int 17), (0, .ref (b + 0)), (1, .int 36)]) B dX8_tick_46 0 rfl (by decide) (by decide) rfl ?_
  refine z_goto (tgt := 23) B dX8_tick_49 (by decide) ?_
  refine z_iload_n B dX8_tick_23 rfl 0 rfl ?_
  refine z_iload_n B dX8_tick_24 rfl 2 rfl ?_
  refine z_icmp_ge (tgt := 52) B dX8_tick_25 (by decide) (fun h => absurd h (by decide)) (fun _ => ?_)
  refine z_aload_n B dX8_tick_28 rfl 1 rfl ?_
  refine z_dup B dX8_tick_29 rfl ?_
  refine gf_X8_206 (x := 17) B (lKA (hk_K hK 0 rfl rfl)) (rI_at 0 8 rfl) dX8_tick_30 ?_
  refine z_iconst (v := 1) B dX8_tick_33 (by decide) ?_
  refine z_iadd B dX8_tick_34 ?_
  refine z_seti (y := 18) (by decide) ?_
  refine pf_X8_206 (x := 18) (σ' := (ap b σ [(0, 8, 18), (0, 8, 17), (0, 8, 16), (0, 8, 15), (0, 8, 14), (0, 8, 13), (0, 8, 12), (0, 8, 11), (0, 8, 10), (0, 8, 9), (0, 8, 8), (0, 8, 7), (0, 8, 6), (0, 8, 5), (0, 8, 4), (0, 8, 3), (0, 8, 2), (0, 8, 1)] [] [])) B (lKA (hk_K hK 0 rfl rfl)) wI_ap dX8_tick_35 ?_
  refine z_aload_n B dX8_tick_38 rfl 1 rfl ?_
  refine z_cVv (As := []) (rest := []) B cw_X8_240 cx_9 dX8_tick_39 (ci_X8_passTasks_920 l (σ := (ap b σ [(0, 8, 18), (0, 8, 17), (0, 8, 16), (0, 8, 15), (0, 8, 14), (0, 8, 13), (0, 8, 12), (0, 8, 11), (0, 8, 10), (0, 8, 9), (0, 8, 8), (0, 8, 7), (0, 8, 6), (0, 8, 5), (0, 8, 4), (0, 8, 3), (0, 8, 2), (0, 8, 1)] [] [])) (b := b) (lyA hK) (rI_at 4 2 hI_4_2) (rR_at 0 3 hR_0_3)) (lKA (hk_K hK 0 rfl rfl)) rfl (by decide) rfl (Nat.le_of_ble_eq_true rfl) (by decide) (fun u hu => ?_)
  refine z_eqs (σ' := (ap b σ [(0, 8, 18), (0, 8, 17), (0, 8, 16), (0, 8, 15), (0, 8, 14), (0, 8, 13), (0, 8, 12), (0, 8, 11), (0, 8, 10), (0, 8, 9), (0, 8, 8), (0, 8, 7), (0, 8, 6), (0, 8, 5), (0, 8, 4), (0, 8, 3), (0, 8, 2), (0, 8, 1)] [] [])) hu ?_
  show zx p l e _ s m _ below meth c g 3 0 0 _ _ 42 [(2, .int 17), (0, .ref (b + 0)), (1, .int 36)] _
  refine z_aload_n B dX8_tick_42 rfl 1 rfl ?_
  refine z_cVv (As := []) (rest := []) B cw_X8_243 cx_9 dX8_tick_43 (ci_X8_passTimers_921 l (σ := (ap b σ [(0, 8, 18), (0, 8, 17), (0, 8, 16), (0, 8, 15), (0, 8, 14), (0, 8, 13), (0, 8, 12), (0, 8, 11), (0, 8, 10), (0, 8, 9), (0, 8, 8), (0, 8, 7), (0, 8, 6), (0, 8, 5), (0, 8, 4), (0, 8, 3), (0, 8, 2), (0, 8, 1)] [] [])) (b := b) (lyA hK) (rI_at 0 7 hI_0_7)) (lKA (hk_K hK 0 rfl rfl)) rfl (by decide) rfl (Nat.le_of_ble_eq_true rfl) (by decide) (fun u hu => ?_)
  refine z_eqs (σ' := (ap b σ [(0, 8, 18), (0, 8, 17), (0, 8, 16), (0, 8, 15), (0, 8, 14), (0, 8, 13), (0, 8, 12), (0, 8, 11), (0, 8, 10), (0, 8, 9), (0, 8, 8), (0, 8, 7), (0, 8, 6), (0, 8, 5), (0, 8, 4), (0, 8, 3), (0, 8, 2), (0, 8, 1)] [] [])) hu ?_
  show zx p l e _ s m _ below meth c g 3 0 0 _ _ 46 [(2, .int 17), (0, .ref (b + 0)), (1, .int 36)] _
  refine z_iinc (v := 18) (lv' := [(2, .int 18), (0, .ref (b + 0)), (1, .int 36)]) B dX8_tick_46 0 rfl (by decide) (by decide) rfl ?_
  refine z_goto (tgt := 23) B dX8_tick_49 (by decide) ?_
  refine z_iload_n B dX8_tick_23 rfl 0 rfl ?_
  refine z_iload_n B dX8_tick_24 rfl 2 rfl ?_
  refine z_icmp_ge (tgt := 52) B dX8_tick_25 (by decide) (fun h => absurd h (by decide)) (fun _ => ?_)
  refine z_aload_n B dX8_tick_28 rfl 1 rfl ?_
  refine z_dup B dX8_tick_29 rfl ?_
  refine gf_X8_206 (x := 18) B (lKA (hk_K hK 0 rfl rfl)) (rI_at 0 8 rfl) dX8_tick_30 ?_
  refine z_iconst (v := 1) B dX8_tick_33 (by decide) ?_
  refine z_iadd B dX8_tick_34 ?_
  refine z_seti (y := 19) (by decide) ?_
  refine pf_X8_206 (x := 19) (σ' := (ap b σ [(0, 8, 19), (0, 8, 18), (0, 8, 17), (0, 8, 16), (0, 8, 15), (0, 8, 14), (0, 8, 13), (0, 8, 12), (0, 8, 11), (0, 8, 10), (0, 8, 9), (0, 8, 8), (0, 8, 7), (0, 8, 6), (0, 8, 5), (0, 8, 4), (0, 8, 3), (0, 8, 2), (0, 8, 1)] [] [])) B (lKA (hk_K hK 0 rfl rfl)) wI_ap dX8_tick_35 ?_
  refine z_aload_n B dX8_tick_38 rfl 1 rfl ?_
  refine z_cVv (As := []) (rest := []) B cw_X8_240 cx_9 dX8_tick_39 (ci_X8_passTasks_920 l (σ := (ap b σ [(0, 8, 19), (0, 8, 18), (0, 8, 17), (0, 8, 16), (0, 8, 15), (0, 8, 14), (0, 8, 13), (0, 8, 12), (0, 8, 11), (0, 8, 10), (0, 8, 9), (0, 8, 8), (0, 8, 7), (0, 8, 6), (0, 8, 5), (0, 8, 4), (0, 8, 3), (0, 8, 2), (0, 8, 1)] [] [])) (b := b) (lyA hK) (rI_at 4 2 hI_4_2) (rR_at 0 3 hR_0_3)) (lKA (hk_K hK 0 rfl rfl)) rfl (by decide) rfl (Nat.le_of_ble_eq_true rfl) (by decide) (fun u hu => ?_)
  refine z_eqs (σ' := (ap b σ [(0, 8, 19), (0, 8, 18), (0, 8, 17), (0, 8, 16), (0, 8, 15), (0, 8, 14), (0, 8, 13), (0, 8, 12), (0, 8, 11), (0, 8, 10), (0, 8, 9), (0, 8, 8), (0, 8, 7), (0, 8, 6), (0, 8, 5), (0, 8, 4), (0, 8, 3), (0, 8, 2), (0, 8, 1)] [] [])) hu ?_
  show zx p l e _ s m _ below meth c g 3 0 0 _ _ 42 [(2, .int 18), (0, .ref (b + 0)), (1, .int 36)] _
  refine z_aload_n B dX8_tick_42 rfl 1 rfl ?_
  refine z_cVv (As := []) (rest := []) B cw_X8_243 cx_9 dX8_tick_43 (ci_X8_passTimers_921 l (σ := (ap b σ [(0, 8, 19), (0, 8, 18), (0, 8, 17), (0, 8, 16), (0, 8, 15), (0, 8, 14), (0, 8, 13), (0, 8, 12), (0, 8, 11), (0, 8, 10), (0, 8, 9), (0, 8, 8), (0, 8, 7), (0, 8, 6), (0, 8, 5), (0, 8, 4), (0, 8, 3), (0, 8, 2), (0, 8, 1)] [] [])) (b := b) (lyA hK) (rI_at 0 7 hI_0_7)) (lKA (hk_K hK 0 rfl rfl)) rfl (by decide) rfl (Nat.le_of_ble_eq_true rfl) (by decide) (fun u hu => ?_)
  refine z_eqs (σ' := (ap b σ [(0, 8, 19), (0, 8, 18), (0, 8, 17), (0, 8, 16), (0, 8, 15), (0, 8, 14), (0, 8, 13), (0, 8, 12), (0, 8, 11), (0, 8, 10), (0, 8, 9), (0, 8, 8), (0, 8, 7), (0, 8, 6), (0, 8, 5), (0, 8, 4), (0, 8, 3), (0, 8, 2), (0, 8, 1)] [] [])) hu ?_
  show zx p l e _ s m _ below meth c g 3 0 0 _ _ 46 [(2, .int 18), (0, .ref (b + 0)), (1, .int 36)] _
  refine z_iinc (v := 19) (lv' := [(2, .int 19), (0, .ref (b + 0)), (1, .int 36)]) B dX8_tick_46 0 rfl (by decide) (by decide) rfl ?_
  refine z_goto (tgt := 23) B dX8_tick_49 (by decide) ?_
  refine z_iload_n B dX8_tick_23 rfl 0 rfl ?_
  refine z_iload_n B dX8_tick_24 rfl 2 rfl ?_
  refine z_icmp_ge (tgt := 52) B dX8_tick_25 (by decide) (fun h => absurd h (by decide)) (fun _ => ?_)
  refine z_aload_n B dX8_tick_28 rfl 1 rfl ?_
  refine z_dup B dX8_tick_29 rfl ?_
  refine gf_X8_206 (x := 19) B (lKA (hk_K hK 0 rfl rfl)) (rI_at 0 8 rfl) dX8_tick_30 ?_
  refine z_iconst (v := 1) B dX8_tick_33 (by decide) ?_
  refine z_iadd B dX8_tick_34 ?_
  refine z_seti (y := 20) (by decide) ?_
  refine pf_X8_206 (x := 20) (σ' := (ap b σ [(0, 8, 20), (0, 8, 19), (0, 8, 18), (0, 8, 17), (0, 8, 16), (0, 8, 15), (0, 8, 14), (0, 8, 13), (0, 8, 12), (0, 8, 11), (0, 8, 10), (0, 8, 9), (0, 8, 8), (0, 8, 7), (0, 8, 6), (0, 8, 5), (0, 8, 4), (0, 8, 3), (0, 8, 2), (0, 8, 1)] [] [])) B (lKA (hk_K hK 0 rfl rfl)) wI_ap dX8_tick_35 ?_
  refine z_aload_n B dX8_tick_38 rfl 1 rfl ?_
  refine z_cVv (As := []) (rest := []) B cw_X8_240 cx_9 dX8_tick_39 (ci_X8_passTasks_920 l (σ := (ap b σ [(0, 8, 20), (0, 8, 19), (0, 8, 18), (0, 8, 17), (0, 8, 16), (0, 8, 15), (0, 8, 14), (0, 8, 13), (0, 8, 12), (0, 8, 11), (0, 8, 10), (0, 8, 9), (0, 8, 8), (0, 8, 7), (0, 8, 6), (0, 8, 5), (0, 8, 4), (0, 8, 3), (0, 8, 2), (0, 8, 1)] [] [])) (b := b) (lyA hK) (rI_at 4 2 hI_4_2) (rR_at 0 3 hR_0_3)) (lKA (hk_K hK 0 rfl rfl)) rfl (by decide) rfl (Nat.le_of_ble_eq_true rfl) (by decide) (fun u hu => ?_)
  refine z_eqs (σ' := (ap b σ [(0, 8, 20), (0, 8, 19), (0, 8, 18), (0, 8, 17), (0, 8, 16), (0, 8, 15), (0, 8, 14), (0, 8, 13), (0, 8, 12), (0, 8, 11), (0, 8, 10), (0, 8, 9), (0, 8, 8), (0, 8, 7), (0, 8, 6), (0, 8, 5), (0, 8, 4), (0, 8, 3), (0, 8, 2), (0, 8, 1)] [] [])) hu ?_
  show zx p l e _ s m _ below meth c g 3 0 0 _ _ 42 [(2, .int 19), (0, .ref (b + 0)), (1, .int 36)] _
  refine z_aload_n B dX8_tick_42 rfl 1 rfl ?_
  refine z_cVv (As := []) (rest := []) B cw_X8_243 cx_9 dX8_tick_43 (ci_X8_passTimers_921 l (σ := (ap b σ [(0, 8, 20), (0, 8, 19), (0, 8, 18), (0, 8, 17), (0, 8, 16), (0, 8, 15), (0, 8, 14), (0, 8, 13), (0, 8, 12), (0, 8, 11), (0, 8, 10), (0, 8, 9), (0, 8, 8), (0, 8, 7), (0, 8, 6), (0, 8, 5), (0, 8, 4), (0, 8, 3), (0, 8, 2), (0, 8, 1)] [] [])) (b := b) (lyA hK) (rI_at 0 7 hI_0_7)) (lKA (hk_K hK 0 rfl rfl)) rfl (by decide) rfl (Nat.le_of_ble_eq_true rfl) (by decide) (fun u hu => ?_)
  refine z_eqs (σ' := (ap b σ [(0, 8, 20), (0, 8, 19), (0, 8, 18), (0, 8, 17), (0, 8, 16), (0, 8, 15), (0, 8, 14), (0, 8, 13), (0, 8, 12), (0, 8, 11), (0, 8, 10), (0, 8, 9), (0, 8, 8), (0, 8, 7), (0, 8, 6), (0, 8, 5), (0, 8, 4), (0, 8, 3), (0, 8, 2), (0, 8, 1)] [] [])) hu ?_
  show zx p l e _ s m _ below meth c g 3 0 0 _ _ 46 [(2, .int 19), (0, .ref (b + 0)), (1, .int 36)] _
  refine z_iinc (v := 20) (lv' := [(2, .int 20), (0, .ref (b + 0)), (1, .int 36)]) B dX8_tick_46 0 rfl (by decide) (by decide) rfl ?_
  refine z_goto (tgt := 23) B dX8_tick_49 (by decide) ?_
  refine z_iload_n B dX8_tick_23 rfl 0 rfl ?_
  refine z_iload_n B dX8_tick_24 rfl 2 rfl ?_
  refine z_icmp_ge (tgt := 52) B dX8_tick_25 (by decide) (fun h => absurd h (by decide)) (fun _ => ?_)
  refine z_aload_n B dX8_tick_28 rfl 1 rfl ?_
  refine z_dup B dX8_tick_29 rfl ?_
  refine gf_X8_206 (x := 20) B (lKA (hk_K hK 0 rfl rfl)) (rI_at 0 8 rfl) dX8_tick_30 ?_
  refine z_iconst (v := 1) B dX8_tick_33 (by decide) ?_
  refine z_iadd B dX8_tick_34 ?_
  refine z_seti (y := 21) (by decide) ?_
  refine pf_X8_206 (x := 21) (σ' := (ap b σ [(0, 8, 21), (0, 8, 20), (0, 8, 19), (0, 8, 18), (0, 8, 17), (0, 8, 16), (0, 8, 15), (0, 8, 14), (0, 8, 13), (0, 8, 12), (0, 8, 11), (0, 8, 10), (0, 8, 9), (0, 8, 8), (0, 8, 7), (0, 8, 6), (0, 8, 5), (0, 8, 4), (0, 8, 3), (0, 8, 2), (0, 8, 1)] [] [])) B (lKA (hk_K hK 0 rfl rfl)) wI_ap dX8_tick_35 ?_
  refine z_aload_n B dX8_tick_38 rfl 1 rfl ?_
  refine z_cVv (As := []) (rest := []) B cw_X8_240 cx_9 dX8_tick_39 (ci_X8_passTasks_920 l (σ := (ap b σ [(0, 8, 21), (0, 8, 20), (0, 8, 19), (0, 8, 18), (0, 8, 17), (0, 8, 16), (0, 8, 15), (0, 8, 14), (0, 8, 13), (0, 8, 12), (0, 8, 11), (0, 8, 10), (0, 8, 9), (0, 8, 8), (0, 8, 7), (0, 8, 6), (0, 8, 5), (0, 8, 4), (0, 8, 3), (0, 8, 2), (0, 8, 1)] [] [])) (b := b) (lyA hK) (rI_at 4 2 hI_4_2) (rR_at 0 3 hR_0_3)) (lKA (hk_K hK 0 rfl rfl)) rfl (by decide) rfl (Nat.le_of_ble_eq_true rfl) (by decide) (fun u hu => ?_)
  refine z_eqs (σ' := (ap b σ [(0, 8, 21), (0, 8, 20), (0, 8, 19), (0, 8, 18), (0, 8, 17), (0, 8, 16), (0, 8, 15), (0, 8, 14), (0, 8, 13), (0, 8, 12), (0, 8, 11), (0, 8, 10), (0, 8, 9), (0, 8, 8), (0, 8, 7), (0, 8, 6), (0, 8, 5), (0, 8, 4), (0, 8, 3), (0, 8, 2), (0, 8, 1)] [] [])) hu ?_
  show zx p l e _ s m _ below meth c g 3 0 0 _ _ 42 [(2, .int 20), (0, .ref (b + 0)), (1, .int 36)] _
  refine z_aload_n B dX8_tick_42 rfl 1 rfl ?_
  refine z_cVv (As := []) (rest := []) B cw_X8_243 cx_9 dX8_tick_43 (ci_X8_passTimers_921 l (σ := (ap b σ [(0, 8, 21), (0, 8, 20), (0, 8, 19), (0, 8, 18), (0, 8, 17), (0, 8, 16), (0, 8, 15), (0, 8, 14), (0, 8, 13), (0, 8, 12), (0, 8, 11), (0, 8, 10), (0, 8, 9), (0, 8, 8), (0, 8, 7), (0, 8, 6), (0, 8, 5), (0, 8, 4), (0, 8, 3), (0, 8, 2), (0, 8, 1)] [] [])) (b := b) (lyA hK) (rI_at 0 7 hI_0_7)) (lKA (hk_K hK 0 rfl rfl)) rfl (by decide) rfl (Nat.le_of_ble_eq_true rfl) (by decide) (fun u hu => ?_)
  refine z_eqs (σ' := (ap b σ [(0, 8, 21), (0, 8, 20), (0, 8, 19), (0, 8, 18), (0, 8, 17), (0, 8, 16), (0, 8, 15), (0, 8, 14), (0, 8, 13), (0, 8, 12), (0, 8, 11), (0, 8, 10), (0, 8, 9), (0, 8, 8), (0, 8, 7), (0, 8, 6), (0, 8, 5), (0, 8, 4), (0, 8, 3), (0, 8, 2), (0, 8, 1)] [] [])) hu ?_
  show zx p l e _ s m _ below meth c g 3 0 0 _ _ 46 [(2, .int 20), (0, .ref (b + 0)), (1, .int 36)] _
  refine z_iinc (v := 21) (lv' := [(2, .int 21), (0, .ref (b + 0)), (1, .int 36)]) B dX8_tick_46 0 rfl (by decide) (by decide) rfl ?_
  refine z_goto (tgt := 23) B dX8_tick_49 (by decide) ?_
  refine z_iload_n B dX8_tick_23 rfl 0 rfl ?_
  refine z_iload_n B dX8_tick_24 rfl 2 rfl ?_
  refine z_icmp_ge (tgt := 52) B dX8_tick_25 (by decide) (fun h => absurd h (by decide)) (fun _ => ?_)
  refine z_aload_n B dX8_tick_28 rfl 1 rfl ?_
  refine z_dup B dX8_tick_29 rfl ?_
  refine gf_X8_206 (x := 21) B (lKA (hk_K hK 0 rfl rfl)) (rI_at 0 8 rfl) dX8_tick_30 ?_
  refine z_iconst (v := 1) B dX8_tick_33 (by decide) ?_
  refine z_iadd B dX8_tick_34 ?_
  refine z_seti (y := 22) (by decide) ?_
  refine pf_X8_206 (x := 22) (σ' := (ap b σ [(0, 8, 22), (0, 8, 21), (0, 8, 20), (0, 8, 19), (0, 8, 18), (0, 8, 17), (0, 8, 16), (0, 8, 15), (0, 8, 14), (0, 8, 13), (0, 8, 12), (0, 8, 11), (0, 8, 10), (0, 8, 9), (0, 8, 8), (0, 8, 7), (0, 8, 6), (0, 8, 5), (0, 8, 4), (0, 8, 3), (0, 8, 2), (0, 8, 1)] [] [])) B (lKA (hk_K hK 0 rfl rfl)) wI_ap dX8_tick_35 ?_
  refine z_aload_n B dX8_tick_38 rfl 1 rfl ?_
  refine z_cVv (As := []) (rest := []) B cw_X8_240 cx_9 dX8_tick_39 (ci_X8_passTasks_920 l (σ := (ap b σ [(0, 8, 22), (0, 8, 21), (0, 8, 20), (0, 8, 19), (0, 8, 18), (0, 8, 17), (0, 8, 16), (0, 8, 15), (0, 8, 14), (0, 8, 13), (0, 8, 12), (0, 8, 11), (0, 8, 10), (0, 8, 9), (0, 8, 8), (0, 8, 7), (0, 8, 6), (0, 8, 5), (0, 8, 4), (0, 8, 3), (0, 8, 2), (0, 8, 1)] [] [])) (b := b) (lyA hK) (rI_at 4 2 hI_4_2) (rR_at 0 3 hR_0_3)) (lKA (hk_K hK 0 rfl rfl)) rfl (by decide) rfl (Nat.le_of_ble_eq_true rfl) (by decide) (fun u hu => ?_)
  refine z_eqs (σ' := (ap b σ [(0, 8, 22), (0, 8, 21), (0, 8, 20), (0, 8, 19), (0, 8, 18), (0, 8, 17), (0, 8, 16), (0, 8, 15), (0, 8, 14), (0, 8, 13), (0, 8, 12), (0, 8, 11), (0, 8, 10), (0, 8, 9), (0, 8, 8), (0, 8, 7), (0, 8, 6), (0, 8, 5), (0, 8, 4), (0, 8, 3), (0, 8, 2), (0, 8, 1)] [] [])) hu ?_
  show zx p l e _ s m _ below meth c g 3 0 0 _ _ 42 [(2, .int 21), (0, .ref (b + 0)), (1, .int 36)] _
  refine z_aload_n B dX8_tick_42 rfl 1 rfl ?_
  refine z_cVv (As := []) (rest := []) B cw_X8_243 cx_9 dX8_tick_43 (ci_X8_passTimers_921 l (σ := (ap b σ [(0, 8, 22), (0, 8, 21), (0, 8, 20), (0, 8, 19), (0, 8, 18), (0, 8, 17), (0, 8, 16), (0, 8, 15), (0, 8, 14), (0, 8, 13), (0, 8, 12), (0, 8, 11), (0, 8, 10), (0, 8, 9), (0, 8, 8), (0, 8, 7), (0, 8, 6), (0, 8, 5), (0, 8, 4), (0, 8, 3), (0, 8, 2), (0, 8, 1)] [] [])) (b := b) (lyA hK) (rI_at 0 7 hI_0_7)) (lKA (hk_K hK 0 rfl rfl)) rfl (by decide) rfl (Nat.le_of_ble_eq_true rfl) (by decide) (fun u hu => ?_)
  refine z_eqs (σ' := (ap b σ [(0, 8, 22), (0, 8, 21), (0, 8, 20), (0, 8, 19), (0, 8, 18), (0, 8, 17), (0, 8, 16), (0, 8, 15), (0, 8, 14), (0, 8, 13), (0, 8, 12), (0, 8, 11), (0, 8, 10), (0, 8, 9), (0, 8, 8), (0, 8, 7), (0, 8, 6), (0, 8, 5), (0, 8, 4), (0, 8, 3), (0, 8, 2), (0, 8, 1)] [] [])) hu ?_
  show zx p l e _ s m _ below meth c g 3 0 0 _ _ 46 [(2, .int 21), (0, .ref (b + 0)), (1, .int 36)] _
  refine z_iinc (v := 22) (lv' := [(2, .int 22), (0, .ref (b + 0)), (1, .int 36)]) B dX8_tick_46 0 rfl (by decide) (by decide) rfl ?_
  refine z_goto (tgt := 23) B dX8_tick_49 (by decide) ?_
  refine z_iload_n B dX8_tick_23 rfl 0 rfl ?_
  refine z_iload_n B dX8_tick_24 rfl 2 rfl ?_
  refine z_icmp_ge (tgt := 52) B dX8_tick_25 (by decide) (fun h => absurd h (by decide)) (fun _ => ?_)
  refine z_aload_n B dX8_tick_28 rfl 1 rfl ?_
  refine z_dup B dX8_tick_29 rfl ?_
  refine gf_X8_206 (x := 22) B (lKA (hk_K hK 0 rfl rfl)) (rI_at 0 8 rfl) dX8_tick_30 ?_
  refine z_iconst (v := 1) B dX8_tick_33 (by decide) ?_
  refine z_iadd B dX8_tick_34 ?_
  refine z_seti (y := 23) (by decide) ?_
  refine pf_X8_206 (x := 23) (σ' := (ap b σ [(0, 8, 23), (0, 8, 22), (0, 8, 21), (0, 8, 20), (0, 8, 19), (0, 8, 18), (0, 8, 17), (0, 8, 16), (0, 8, 15), (0, 8, 14), (0, 8, 13), (0, 8, 12), (0, 8, 11), (0, 8, 10), (0, 8, 9), (0, 8, 8), (0, 8, 7), (0, 8, 6), (0, 8, 5), (0, 8, 4), (0, 8, 3), (0, 8, 2), (0, 8, 1)] [] [])) B (lKA (hk_K hK 0 rfl rfl)) wI_ap dX8_tick_35 ?_
  refine z_aload_n B dX8_tick_38 rfl 1 rfl ?_
  refine z_cVv (As := []) (rest := []) B cw_X8_240 cx_9 dX8_tick_39 (ci_X8_passTasks_920 l (σ := (ap b σ [(0, 8, 23), (0, 8, 22), (0, 8, 21), (0, 8, 20), (0, 8, 19), (0, 8, 18), (0, 8, 17), (0, 8, 16), (0, 8, 15), (0, 8, 14), (0, 8, 13), (0, 8, 12), (0, 8, 11), (0, 8, 10), (0, 8, 9), (0, 8, 8), (0, 8, 7), (0, 8, 6), (0, 8, 5), (0, 8, 4), (0, 8, 3), (0, 8, 2), (0, 8, 1)] [] [])) (b := b) (lyA hK) (rI_at 4 2 hI_4_2) (rR_at 0 3 hR_0_3)) (lKA (hk_K hK 0 rfl rfl)) rfl (by decide) rfl (Nat.le_of_ble_eq_true rfl) (by decide) (fun u hu => ?_)
  refine z_eqs (σ' := (ap b σ [(0, 8, 23), (0, 8, 22), (0, 8, 21), (0, 8, 20), (0, 8, 19), (0, 8, 18), (0, 8, 17), (0, 8, 16), (0, 8, 15), (0, 8, 14), (0, 8, 13), (0, 8, 12), (0, 8, 11), (0, 8, 10), (0, 8, 9), (0, 8, 8), (0, 8, 7), (0, 8, 6), (0, 8, 5), (0, 8, 4), (0, 8, 3), (0, 8, 2), (0, 8, 1)] [] [])) hu ?_
  show zx p l e _ s m _ below meth c g 3 0 0 _ _ 42 [(2, .int 22), (0, .ref (b + 0)), (1, .int 36)] _
  refine z_aload_n B dX8_tick_42 rfl 1 rfl ?_
  refine z_cVv (As := []) (rest := []) B cw_X8_243 cx_9 dX8_tick_43 (ci_X8_passTimers_921 l (σ := (ap b σ [(0, 8, 23), (0, 8, 22), (0, 8, 21), (0, 8, 20), (0, 8, 19), (0, 8, 18), (0, 8, 17), (0, 8, 16), (0, 8, 15), (0, 8, 14), (0, 8, 13), (0, 8, 12), (0, 8, 11), (0, 8, 10), (0, 8, 9), (0, 8, 8), (0, 8, 7), (0, 8, 6), (0, 8, 5), (0, 8, 4), (0, 8, 3), (0, 8, 2), (0, 8, 1)] [] [])) (b := b) (lyA hK) (rI_at 0 7 hI_0_7)) (lKA (hk_K hK 0 rfl rfl)) rfl (by decide) rfl (Nat.le_of_ble_eq_true rfl) (by decide) (fun u hu => ?_)
  refine z_eqs (σ' := (ap b σ [(0, 8, 23), (0, 8, 22), (0, 8, 21), (0, 8, 20), (0, 8, 19), (0, 8, 18), (0, 8, 17), (0, 8, 16), (0, 8, 15), (0, 8, 14), (0, 8, 13), (0, 8, 12), (0, 8, 11), (0, 8, 10), (0, 8, 9), (0, 8, 8), (0, 8, 7), (0, 8, 6), (0, 8, 5), (0, 8, 4), (0, 8, 3), (0, 8, 2), (0, 8, 1)] [] [])) hu ?_
  show zx p l e _ s m _ below meth c g 3 0 0 _ _ 46 [(2, .int 22), (0, .ref (b + 0)), (1, .int 36)] _
  refine z_iinc (v := 23) (lv' := [(2, .int 23), (0, .ref (b + 0)), (1, .int 36)]) B dX8_tick_46 0 rfl (by decide) (by decide) rfl ?_
  refine z_goto (tgt := 23) B dX8_tick_49 (by decide) ?_
  refine z_iload_n B dX8_tick_23 rfl 0 rfl ?_
  refine z_iload_n B dX8_tick_24 rfl 2 rfl ?_
  refine z_icmp_ge (tgt := 52) B dX8_tick_25 (by decide) (fun h => absurd h (by decide)) (fun _ => ?_)
  refine z_aload_n B dX8_tick_28 rfl 1 rfl ?_
  refine z_dup B dX8_tick_29 rfl ?_
  refine gf_X8_206 (x := 23) B (lKA (hk_K hK 0 rfl rfl)) (rI_at 0 8 rfl) dX8_tick_30 ?_
  refine z_iconst (v := 1) B dX8_tick_33 (by decide) ?_
  refine z_iadd B dX8_tick_34 ?_
  refine z_seti (y := 24) (by decide) ?_
  refine pf_X8_206 (x := 24) (σ' := (ap b σ [(0, 8, 24), (0, 8, 23), (0, 8, 22), (0, 8, 21), (0, 8, 20), (0, 8, 19), (0, 8, 18), (0, 8, 17), (0, 8, 16), (0, 8, 15), (0, 8, 14), (0, 8, 13), (0, 8, 12), (0, 8, 11), (0, 8, 10), (0, 8, 9), (0, 8, 8), (0, 8, 7), (0, 8, 6), (0, 8, 5), (0, 8, 4), (0, 8, 3), (0, 8, 2), (0, 8, 1)] [] [])) B (lKA (hk_K hK 0 rfl rfl)) wI_ap dX8_tick_35 ?_
  refine z_aload_n B dX8_tick_38 rfl 1 rfl ?_
  refine z_cVv (As := []) (rest := []) B cw_X8_240 cx_9 dX8_tick_39 (ci_X8_passTasks_920 l (σ := (ap b σ [(0, 8, 24), (0, 8, 23), (0, 8, 22), (0, 8, 21), (0, 8, 20), (0, 8, 19), (0, 8, 18), (0, 8, 17), (0, 8, 16), (0, 8, 15), (0, 8, 14), (0, 8, 13), (0, 8, 12), (0, 8, 11), (0, 8, 10), (0, 8, 9), (0, 8, 8), (0, 8, 7), (0, 8, 6), (0, 8, 5), (0, 8, 4), (0, 8, 3), (0, 8, 2), (0, 8, 1)] [] [])) (b := b) (lyA hK) (rI_at 4 2 hI_4_2) (rR_at 0 3 hR_0_3)) (lKA (hk_K hK 0 rfl rfl)) rfl (by decide) rfl (Nat.le_of_ble_eq_true rfl) (by decide) (fun u hu => ?_)
  refine z_eqs (σ' := (ap b σ [(0, 8, 24), (0, 8, 23), (0, 8, 22), (0, 8, 21), (0, 8, 20), (0, 8, 19), (0, 8, 18), (0, 8, 17), (0, 8, 16), (0, 8, 15), (0, 8, 14), (0, 8, 13), (0, 8, 12), (0, 8, 11), (0, 8, 10), (0, 8, 9), (0, 8, 8), (0, 8, 7), (0, 8, 6), (0, 8, 5), (0, 8, 4), (0, 8, 3), (0, 8, 2), (0, 8, 1)] [] [])) hu ?_
  show zx p l e _ s m _ below meth c g 3 0 0 _ _ 42 [(2, .int 23), (0, .ref (b + 0)), (1, .int 36)] _
  refine z_aload_n B dX8_tick_42 rfl 1 rfl ?_
  refine z_cVv (As := []) (rest := []) B cw_X8_243 cx_9 dX8_tick_43 (ci_X8_passTimers_921 l (σ := (ap b σ [(0, 8, 24), (0, 8, 23), (0, 8, 22), (0, 8, 21), (0, 8, 20), (0, 8, 19), (0, 8, 18), (0, 8, 17), (0, 8, 16), (0, 8, 15), (0, 8, 14), (0, 8, 13), (0, 8, 12), (0, 8, 11), (0, 8, 10), (0, 8, 9), (0, 8, 8), (0, 8, 7), (0, 8, 6), (0, 8, 5), (0, 8, 4), (0, 8, 3), (0, 8, 2), (0, 8, 1)] [] [])) (b := b) (lyA hK) (rI_at 0 7 hI_0_7)) (lKA (hk_K hK 0 rfl rfl)) rfl (by decide) rfl (Nat.le_of_ble_eq_true rfl) (by decide) (fun u hu => ?_)
  refine z_eqs (σ' := (ap b σ [(0, 8, 24), (0, 8, 23), (0, 8, 22), (0, 8, 21), (0, 8, 20), (0, 8, 19), (0, 8, 18), (0, 8, 17), (0, 8, 16), (0, 8, 15), (0, 8, 14), (0, 8, 13), (0, 8, 12), (0, 8, 11), (0, 8, 10), (0, 8, 9), (0, 8, 8), (0, 8, 7), (0, 8, 6), (0, 8, 5), (0, 8, 4), (0, 8, 3), (0, 8, 2), (0, 8, 1)] [] [])) hu ?_
  show zx p l e _ s m _ below meth c g 3 0 0 _ _ 46 [(2, .int 23), (0, .ref (b + 0)), (1, .int 36)] _
  refine z_iinc (v := 24) (lv' := [(2, .int 24), (0, .ref (b + 0)), (1, .int 36)]) B dX8_tick_46 0 rfl (by decide) (by decide) rfl ?_
  refine z_goto (tgt := 23) B dX8_tick_49 (by decide) ?_
  refine z_iload_n B dX8_tick_23 rfl 0 rfl ?_
  refine z_iload_n B dX8_tick_24 rfl 2 rfl ?_
  refine z_icmp_ge (tgt := 52) B dX8_tick_25 (by decide) (fun h => absurd h (by decide)) (fun _ => ?_)
  refine z_aload_n B dX8_tick_28 rfl 1 rfl ?_
  refine z_dup B dX8_tick_29 rfl ?_
  refine gf_X8_206 (x := 24) B (lKA (hk_K hK 0 rfl rfl)) (rI_at 0 8 rfl) dX8_tick_30 ?_
  refine z_iconst (v := 1) B dX8_tick_33 (by decide) ?_
  refine z_iadd B dX8_tick_34 ?_
  refine z_seti (y := 25) (by decide) ?_
  refine pf_X8_206 (x := 25) (σ' := (ap b σ [(0, 8, 25), (0, 8, 24), (0, 8, 23), (0, 8, 22), (0, 8, 21), (0, 8, 20), (0, 8, 19), (0, 8, 18), (0, 8, 17), (0, 8, 16), (0, 8, 15), (0, 8, 14), (0, 8, 13), (0, 8, 12), (0, 8, 11), (0, 8, 10), (0, 8, 9), (0, 8, 8), (0, 8, 7), (0, 8, 6), (0, 8, 5), (0, 8, 4), (0, 8, 3), (0, 8, 2), (0, 8, 1)] [] [])) B (lKA (hk_K hK 0 rfl rfl)) wI_ap dX8_tick_35 ?_
  refine z_aload_n B dX8_tick_38 rfl 1 rfl ?_
  refine z_cVv (As := []) (rest := []) B cw_X8_240 cx_9 dX8_tick_39 (ci_X8_passTasks_920 l (σ := (ap b σ [(0, 8, 25), (0, 8, 24), (0, 8, 23), (0, 8, 22), (0, 8, 21), (0, 8, 20), (0, 8, 19), (0, 8, 18), (0, 8, 17), (0, 8, 16), (0, 8, 15), (0, 8, 14), (0, 8, 13), (0, 8, 12), (0, 8, 11), (0, 8, 10), (0, 8, 9), (0, 8, 8), (0, 8, 7), (0, 8, 6), (0, 8, 5), (0, 8, 4), (0, 8, 3), (0, 8, 2), (0, 8, 1)] [] [])) (b := b) (lyA hK) (rI_at 4 2 hI_4_2) (rR_at 0 3 hR_0_3)) (lKA (hk_K hK 0 rfl rfl)) rfl (by decide) rfl (Nat.le_of_ble_eq_true rfl) (by decide) (fun u hu => ?_)
  refine z_eqs (σ' := (ap b σ [(0, 8, 25), (0, 8, 24), (0, 8, 23), (0, 8, 22), (0, 8, 21), (0, 8, 20), (0, 8, 19), (0, 8, 18), (0, 8, 17), (0, 8, 16), (0, 8, 15), (0, 8, 14), (0, 8, 13), (0, 8, 12), (0, 8, 11), (0, 8, 10), (0, 8, 9), (0, 8, 8), (0, 8, 7), (0, 8, 6), (0, 8, 5), (0, 8, 4), (0, 8, 3), (0, 8, 2), (0, 8, 1)] [] [])) hu ?_
  show zx p l e _ s m _ below meth c g 3 0 0 _ _ 42 [(2, .int 24), (0, .ref (b + 0)), (1, .int 36)] _
  refine z_aload_n B dX8_tick_42 rfl 1 rfl ?_
  refine z_cVv (As := []) (rest := []) B cw_X8_243 cx_9 dX8_tick_43 (ci_X8_passTimers_921 l (σ := (ap b σ [(0, 8, 25), (0, 8, 24), (0, 8, 23), (0, 8, 22), (0, 8, 21), (0, 8, 20), (0, 8, 19), (0, 8, 18), (0, 8, 17), (0, 8, 16), (0, 8, 15), (0, 8, 14), (0, 8, 13), (0, 8, 12), (0, 8, 11), (0, 8, 10), (0, 8, 9), (0, 8, 8), (0, 8, 7), (0, 8, 6), (0, 8, 5), (0, 8, 4), (0, 8, 3), (0, 8, 2), (0, 8, 1)] [] [])) (b := b) (lyA hK) (rI_at 0 7 hI_0_7)) (lKA (hk_K hK 0 rfl rfl)) rfl (by decide) rfl (Nat.le_of_ble_eq_true rfl) (by decide) (fun u hu => ?_)
  refine z_eqs (σ' := (ap b σ [(0, 8, 25), (0, 8, 24), (0, 8, 23), (0, 8, 22), (0, 8, 21), (0, 8, 20), (0, 8, 19), (0, 8, 18), (0, 8, 17), (0, 8, 16), (0, 8, 15), (0, 8, 14), (0, 8, 13), (0, 8, 12), (0, 8, 11), (0, 8, 10), (0, 8, 9), (0, 8, 8), (0, 8, 7), (0, 8, 6), (0, 8, 5), (0, 8, 4), (0, 8, 3), (0, 8, 2), (0, 8, 1)] [] [])) hu ?_
  show zx p l e _ s m _ below meth c g 3 0 0 _ _ 46 [(2, .int 24), (0, .ref (b + 0)), (1, .int 36)] _
  refine z_iinc (v := 25) (lv' := [(2, .int 25), (0, .ref (b + 0)), (1, .int 36)]) B dX8_tick_46 0 rfl (by decide) (by decide) rfl ?_
  refine z_goto (tgt := 23) B dX8_tick_49 (by decide) ?_
  refine z_iload_n B dX8_tick_23 rfl 0 rfl ?_
  refine z_iload_n B dX8_tick_24 rfl 2 rfl ?_
  refine z_icmp_ge (tgt := 52) B dX8_tick_25 (by decide) (fun h => absurd h (by decide)) (fun _ => ?_)
  refine z_aload_n B dX8_tick_28 rfl 1 rfl ?_
  refine z_dup B dX8_tick_29 rfl ?_
  refine gf_X8_206 (x := 25) B (lKA (hk_K hK 0 rfl rfl)) (rI_at 0 8 rfl) dX8_tick_30 ?_
  refine z_iconst (v := 1) B dX8_tick_33 (by decide) ?_
  refine z_iadd B dX8_tick_34 ?_
  refine z_seti (y := 26) (by decide) ?_
  refine pf_X8_206 (x := 26) (σ' := (ap b σ [(0, 8, 26), (0, 8, 25), (0, 8, 24), (0, 8, 23), (0, 8, 22), (0, 8, 21), (0, 8, 20), (0, 8, 19), (0, 8, 18), (0, 8, 17), (0, 8, 16), (0, 8, 15), (0, 8, 14), (0, 8, 13), (0, 8, 12), (0, 8, 11), (0, 8, 10), (0, 8, 9), (0, 8, 8), (0, 8, 7), (0, 8, 6), (0, 8, 5), (0, 8, 4), (0, 8, 3), (0, 8, 2), (0, 8, 1)] [] [])) B (lKA (hk_K hK 0 rfl rfl)) wI_ap dX8_tick_35 ?_
  refine z_aload_n B dX8_tick_38 rfl 1 rfl ?_
  refine z_cVv (As := []) (rest := []) B cw_X8_240 cx_9 dX8_tick_39 (ci_X8_passTasks_920 l (σ := (ap b σ [(0, 8, 26), (0, 8, 25), (0, 8, 24), (0, 8, 23), (0, 8, 22), (0, 8, 21), (0, 8, 20), (0, 8, 19), (0, 8, 18), (0, 8, 17), (0, 8, 16), (0, 8, 15), (0, 8, 14), (0, 8, 13), (0, 8, 12), (0, 8, 11), (0, 8, 10), (0, 8, 9), (0, 8, 8), (0, 8, 7), (0, 8, 6), (0, 8, 5), (0, 8, 4), (0, 8, 3), (0, 8, 2), (0, 8, 1)] [] [])) (b := b) (lyA hK) (rI_at 4 2 hI_4_2) (rR_at 0 3 hR_0_3)) (lKA (hk_K hK 0 rfl rfl)) rfl (by decide) rfl (Nat.le_of_ble_eq_true rfl) (by decide) (fun u hu => ?_)
  refine z_eqs (σ' := (ap b σ [(0, 8, 26), (0, 8, 25), (0, 8, 24), (0, 8, 23), (0, 8, 22), (0, 8, 21), (0, 8, 20), (0, 8, 19), (0, 8, 18), (0, 8, 17), (0, 8, 16), (0, 8, 15), (0, 8, 14), (0, 8, 13), (0, 8, 12), (0, 8, 11), (0, 8, 10), (0, 8, 9), (0, 8, 8), (0, 8, 7), (0, 8, 6), (0, 8, 5), (0, 8, 4), (0, 8, 3), (0, 8, 2), (0, 8, 1)] [] [])) hu ?_
  show zx p l e _ s m _ below meth c g 3 0 0 _ _ 42 [(2, .int 25), (0, .ref (b + 0)), (1, .int 36)] _
  refine z_aload_n B dX8_tick_42 rfl 1 rfl ?_
  refine z_cVv (As := []) (rest := []) B cw_X8_243 cx_9 dX8_tick_43 (ci_X8_passTimers_921 l (σ := (ap b σ [(0, 8, 26), (0, 8, 25), (0, 8, 24), (0, 8, 23), (0, 8, 22), (0, 8, 21), (0, 8, 20), (0, 8, 19), (0, 8, 18), (0, 8, 17), (0, 8, 16), (0, 8, 15), (0, 8, 14), (0, 8, 13), (0, 8, 12), (0, 8, 11), (0, 8, 10), (0, 8, 9), (0, 8, 8), (0, 8, 7), (0, 8, 6), (0, 8, 5), (0, 8, 4), (0, 8, 3), (0, 8, 2), (0, 8, 1)] [] [])) (b := b) (lyA hK) (rI_at 0 7 hI_0_7)) (lKA (hk_K hK 0 rfl rfl)) rfl (by decide) rfl (Nat.le_of_ble_eq_true rfl) (by decide) (fun u hu => ?_)
  refine z_eqs (σ' := (ap b σ [(0, 8, 26), (0, 8, 25), (0, 8, 24), (0, 8, 23), (0, 8, 22), (0, 8, 21), (0, 8, 20), (0, 8, 19), (0, 8, 18), (0, 8, 17), (0, 8, 16), (0, 8, 15), (0, 8, 14), (0, 8, 13), (0, 8, 12), (0, 8, 11), (0, 8, 10), (0, 8, 9), (0, 8, 8), (0, 8, 7), (0, 8, 6), (0, 8, 5), (0, 8, 4), (0, 8, 3), (0, 8, 2), (0, 8, 1)] [] [])) hu ?_
  show zx p l e _ s m _ below meth c g 3 0 0 _ _ 46 [(2, .int 25), (0, .ref (b + 0)), (1, .int 36)] _
  refine z_iinc (v := 26) (lv' := [(2, .int 26), (0, .ref (b + 0)), (1, .int 36)]) B dX8_tick_46 0 rfl (by decide) (by decide) rfl ?_
  refine z_goto (tgt := 23) B dX8_tick_49 (by decide) ?_
  refine z_iload_n B dX8_tick_23 rfl 0 rfl ?_
  refine z_iload_n B dX8_tick_24 rfl 2 rfl ?_
  refine z_icmp_ge (tgt := 52) B dX8_tick_25 (by decide) (fun h => absurd h (by decide)) (fun _ => ?_)
  refine z_aload_n B dX8_tick_28 rfl 1 rfl ?_
  refine z_dup B dX8_tick_29 rfl ?_
  refine gf_X8_206 (x := 26) B (lKA (hk_K hK 0 rfl rfl)) (rI_at 0 8 rfl) dX8_tick_30 ?_
  refine z_iconst (v := 1) B dX8_tick_33 (by decide) ?_
  refine z_iadd B dX8_tick_34 ?_
  refine z_seti (y := 27) (by decide) ?_
  refine pf_X8_206 (x := 27) (σ' := (ap b σ [(0, 8, 27), (0, 8, 26), (0, 8, 25), (0, 8, 24), (0, 8, 23), (0, 8, 22), (0, 8, 21), (0, 8, 20), (0, 8, 19), (0, 8, 18), (0, 8, 17), (0, 8, 16), (0, 8, 15), (0, 8, 14), (0, 8, 13), (0, 8, 12), (0, 8, 11), (0, 8, 10), (0, 8, 9), (0, 8, 8), (0, 8, 7), (0, 8, 6), (0, 8, 5), (0, 8, 4), (0, 8, 3), (0, 8, 2), (0, 8, 1)] [] [])) B (lKA (hk_K hK 0 rfl rfl)) wI_ap dX8_tick_35 ?_
  refine z_aload_n B dX8_tick_38 rfl 1 rfl ?_
  refine z_cVv (As := []) (rest := []) B cw_X8_240 cx_9 dX8_tick_39 (ci_X8_passTasks_920 l (σ := (ap b σ [(0, 8, 27), (0, 8, 26), (0, 8, 25), (0, 8, 24), (0, 8, 23), (0, 8, 22), (0, 8, 21), (0, 8, 20), (0, 8, 19), (0, 8, 18), (0, 8, 17), (0, 8, 16), (0, 8, 15), (0, 8, 14), (0, 8, 13), (0, 8, 12), (0, 8, 11), (0, 8, 10), (0, 8, 9), (0, 8, 8), (0, 8, 7), (0, 8, 6), (0, 8, 5), (0, 8, 4), (0, 8, 3), (0, 8, 2), (0, 8, 1)] [] [])) (b := b) (lyA hK) (rI_at 4 2 hI_4_2) (rR_at 0 3 hR_0_3)) (lKA (hk_K hK 0 rfl rfl)) rfl (by decide) rfl (Nat.le_of_ble_eq_true rfl) (by decide) (fun u hu => ?_)
  refine z_eqs (σ' := (ap b σ [(0, 8, 27), (0, 8, 26), (0, 8, 25), (0, 8, 24), (0, 8, 23), (0, 8, 22), (0, 8, 21), (0, 8, 20), (0, 8, 19), (0, 8, 18), (0, 8, 17), (0, 8, 16), (0, 8, 15), (0, 8, 14), (0, 8, 13), (0, 8, 12), (0, 8, 11), (0, 8, 10), (0, 8, 9), (0, 8, 8), (0, 8, 7), (0, 8, 6), (0, 8, 5), (0, 8, 4), (0, 8, 3), (0, 8, 2), (0, 8, 1)] [] [])) hu ?_
  show zx p l e _ s m _ below meth c g 3 0 0 _ _ 42 [(2, .int 26), (0, .ref (b + 0)), (1, .int 36)] _
  refine z_aload_n B dX8_tick_42 rfl 1 rfl ?_
  refine z_cVv (As := []) (rest := []) B cw_X8_243 cx_9 dX8_tick_43 (ci_X8_passTimers_921 l (σ := (ap b σ [(0, 8, 27), (0, 8, 26), (0, 8, 25), (0, 8, 24), (0, 8, 23), (0, 8, 22), (0, 8, 21), (0, 8, 20), (0, 8, 19), (0, 8, 18), (0, 8, 17), (0, 8, 16), (0, 8, 15), (0, 8, 14), (0, 8, 13), (0, 8, 12), (0, 8, 11), (0, 8, 10), (0, 8, 9), (0, 8, 8), (0, 8, 7), (0, 8, 6), (0, 8, 5), (0, 8, 4), (0, 8, 3), (0, 8, 2), (0, 8, 1)] [] [])) (b := b) (lyA hK) (rI_at 0 7 hI_0_7)) (lKA (hk_K hK 0 rfl rfl)) rfl (by decide) rfl (Nat.le_of_ble_eq_true rfl) (by decide) (fun u hu => ?_)
  refine z_eqs (σ' := (ap b σ [(0, 8, 27), (0, 8, 26), (0, 8, 25), (0, 8, 24), (0, 8, 23), (0, 8, 22), (0, 8, 21), (0, 8, 20), (0, 8, 19), (0, 8, 18), (0, 8, 17), (0, 8, 16), (0, 8, 15), (0, 8, 14), (0, 8, 13), (0, 8, 12), (0, 8, 11), (0, 8, 10), (0, 8, 9), (0, 8, 8), (0, 8, 7), (0, 8, 6), (0, 8, 5), (0, 8, 4), (0, 8, 3), (0, 8, 2), (0, 8, 1)] [] [])) hu ?_
  show zx p l e _ s m _ below meth c g 3 0 0 _ _ 46 [(2, .int 26), (0, .ref (b + 0)), (1, .int 36)] _
  refine z_iinc (v := 27) (lv' := [(2, .int 27), (0, .ref (b + 0)), (1, .int 36)]) B dX8_tick_46 0 rfl (by decide) (by decide) rfl ?_
  refine z_goto (tgt := 23) B dX8_tick_49 (by decide) ?_
  refine z_iload_n B dX8_tick_23 rfl 0 rfl ?_
  refine z_iload_n B dX8_tick_24 rfl 2 rfl ?_
  refine z_icmp_ge (tgt := 52) B dX8_tick_25 (by decide) (fun h => absurd h (by decide)) (fun _ => ?_)
  refine z_aload_n B dX8_tick_28 rfl 1 rfl ?_
  refine z_dup B dX8_tick_29 rfl ?_
  refine gf_X8_206 (x := 27) B (lKA (hk_K hK 0 rfl rfl)) (rI_at 0 8 rfl) dX8_tick_30 ?_
  refine z_iconst (v := 1) B dX8_tick_33 (by decide) ?_
  refine z_iadd B dX8_tick_34 ?_
  refine z_seti (y := 28) (by decide) ?_
  refine pf_X8_206 (x := 28) (σ' := (ap b σ [(0, 8, 28), (0, 8, 27), (0, 8, 26), (0, 8, 25), (0, 8, 24), (0, 8, 23), (0, 8, 22), (0, 8, 21), (0, 8, 20), (0, 8, 19), (0, 8, 18), (0, 8, 17), (0, 8, 16), (0, 8, 15), (0, 8, 14), (0, 8, 13), (0, 8, 12), (0, 8, 11), (0, 8, 10), (0, 8, 9), (0, 8, 8), (0, 8, 7), (0, 8, 6), (0, 8, 5), (0, 8, 4), (0, 8, 3), (0, 8, 2), (0, 8, 1)] [] [])) B (lKA (hk_K hK 0 rfl rfl)) wI_ap dX8_tick_35 ?_
  refine z_aload_n B dX8_tick_38 rfl 1 rfl ?_
  refine z_cVv (As := []) (rest := []) B cw_X8_240 cx_9 dX8_tick_39 (ci_X8_passTasks_920 l (σ := (ap b σ [(0, 8, 28), (0, 8, 27), (0, 8, 26), (0, 8, 25), (0, 8, 24), (0, 8, 23), (0, 8, 22), (0, 8, 21), (0, 8, 20), (0, 8, 19), (0, 8, 18), (0, 8, 17), (0, 8, 16), (0, 8, 15), (0, 8, 14), (0, 8, 13), (0, 8, 12), (0, 8, 11), (0, 8, 10), (0, 8, 9), (0, 8, 8), (0, 8, 7), (0, 8, 6), (0, 8, 5), (0, 8, 4), (0, 8, 3), (0, 8, 2), (0, 8, 1)] [] [])) (b := b) (lyA hK) (rI_at 4 2 hI_4_2) (rR_at 0 3 hR_0_3)) (lKA (hk_K hK 0 rfl rfl)) rfl (by decide) rfl (Nat.le_of_ble_eq_true rfl) (by decide) (fun u hu => ?_)
  refine z_eqs (σ' := (ap b σ [(0, 8, 28), (0, 8, 27), (0, 8, 26), (0, 8, 25), (0, 8, 24), (0, 8, 23), (0, 8, 22), (0, 8, 21), (0, 8, 20), (0, 8, 19), (0, 8, 18), (0, 8, 17), (0, 8, 16), (0, 8, 15), (0, 8, 14), (0, 8, 13), (0, 8, 12), (0, 8, 11), (0, 8, 10), (0, 8, 9), (0, 8, 8), (0, 8, 7), (0, 8, 6), (0, 8, 5), (0, 8, 4), (0, 8, 3), (0, 8, 2), (0, 8, 1)] [] [])) hu ?_
  show zx p l e _ s m _ below meth c g 3 0 0 _ _ 42 [(2, .int 27), (0, .ref (b + 0)), (1, .int 36)] _
  refine z_aload_n B dX8_tick_42 rfl 1 rfl ?_
  refine z_cVv (As := []) (rest := []) B cw_X8_243 cx_9 dX8_tick_43 (ci_X8_passTimers_921 l (σ := (ap b σ [(0, 8, 28), (0, 8, 27), (0, 8, 26), (0, 8, 25), (0, 8, 24), (0, 8, 23), (0, 8, 22), (0, 8, 21), (0, 8, 20), (0, 8, 19), (0, 8, 18), (0, 8, 17), (0, 8, 16), (0, 8, 15), (0, 8, 14), (0, 8, 13), (0, 8, 12), (0, 8, 11), (0, 8, 10), (0, 8, 9), (0, 8, 8), (0, 8, 7), (0, 8, 6), (0, 8, 5), (0, 8, 4), (0, 8, 3), (0, 8, 2), (0, 8, 1)] [] [])) (b := b) (lyA hK) (rI_at 0 7 hI_0_7)) (lKA (hk_K hK 0 rfl rfl)) rfl (by decide) rfl (Nat.le_of_ble_eq_true rfl) (by decide) (fun u hu => ?_)
  refine z_eqs (σ' := (ap b σ [(0, 8, 28), (0, 8, 27), (0, 8, 26), (0, 8, 25), (0, 8, 24), (0, 8, 23), (0, 8, 22), (0, 8, 21), (0, 8, 20), (0, 8, 19), (0, 8, 18), (0, 8, 17), (0, 8, 16), (0, 8, 15), (0, 8, 14), (0, 8, 13), (0, 8, 12), (0, 8, 11), (0, 8, 10), (0, 8, 9), (0, 8, 8), (0, 8, 7), (0, 8, 6), (0, 8, 5), (0, 8, 4), (0, 8, 3), (0, 8, 2), (0, 8, 1)] [] [])) hu ?_
  show zx p l e _ s m _ below meth c g 3 0 0 _ _ 46 [(2, .int 27), (0, .ref (b + 0)), (1, .int 36)] _
  refine z_iinc (v := 28) (lv' := [(2, .int 28), (0, .ref (b + 0)), (1, .int 36)]) B dX8_tick_46 0 rfl (by decide) (by decide) rfl ?_
  refine z_goto (tgt := 23) B dX8_tick_49 (by decide) ?_
  refine z_iload_n B dX8_tick_23 rfl 0 rfl ?_
  refine z_iload_n B dX8_tick_24 rfl 2 rfl ?_
  refine z_icmp_ge (tgt := 52) B dX8_tick_25 (by decide) (fun h => absurd h (by decide)) (fun _ => ?_)
  refine z_aload_n B dX8_tick_28 rfl 1 rfl ?_
  refine z_dup B dX8_tick_29 rfl ?_
  refine gf_X8_206 (x := 28) B (lKA (hk_K hK 0 rfl rfl)) (rI_at 0 8 rfl) dX8_tick_30 ?_
  refine z_iconst (v := 1) B dX8_tick_33 (by decide) ?_
  refine z_iadd B dX8_tick_34 ?_
  refine z_seti (y := 29) (by decide) ?_
  refine pf_X8_206 (x := 29) (σ' := (ap b σ [(0, 8, 29), (0, 8, 28), (0, 8, 27), (0, 8, 26), (0, 8, 25), (0, 8, 24), (0, 8, 23), (0, 8, 22), (0, 8, 21), (0, 8, 20), (0, 8, 19), (0, 8, 18), (0, 8, 17), (0, 8, 16), (0, 8, 15), (0, 8, 14), (0, 8, 13), (0, 8, 12), (0, 8, 11), (0, 8, 10), (0, 8, 9), (0, 8, 8), (0, 8, 7), (0, 8, 6), (0, 8, 5), (0, 8, 4), (0, 8, 3), (0, 8, 2), (0, 8, 1)] [] [])) B (lKA (hk_K hK 0 rfl rfl)) wI_ap dX8_tick_35 ?_
  refine z_aload_n B dX8_tick_38 rfl 1 rfl ?_
  refine z_cVv (As := []) (rest := []) B cw_X8_240 cx_9 dX8_tick_39 (ci_X8_passTasks_920 l (σ := (ap b σ [(0, 8, 29), (0, 8, 28), (0, 8, 27), (0, 8, 26), (0, 8, 25), (0, 8, 24), (0, 8, 23), (0, 8, 22), (0, 8, 21), (0, 8, 20), (0, 8, 19), (0, 8, 18), (0, 8, 17), (0, 8, 16), (0, 8, 15), (0, 8, 14), (0, 8, 13), (0, 8, 12), (0, 8, 11), (0, 8, 10), (0, 8, 9), (0, 8, 8), (0, 8, 7), (0, 8, 6), (0, 8, 5), (0, 8, 4), (0, 8, 3), (0, 8, 2), (0, 8, 1)] [] [])) (b := b) (lyA hK) (rI_at 4 2 hI_4_2) (rR_at 0 3 hR_0_3)) (lKA (hk_K hK 0 rfl rfl)) rfl (by decide) rfl (Nat.le_of_ble_eq_true rfl) (by decide) (fun u hu => ?_)
  refine z_eqs (σ' := (ap b σ [(0, 8, 29), (0, 8, 28), (0, 8, 27), (0, 8, 26), (0, 8, 25), (0, 8, 24), (0, 8, 23), (0, 8, 22), (0, 8, 21), (0, 8, 20), (0, 8, 19), (0, 8, 18), (0, 8, 17), (0, 8, 16), (0, 8, 15), (0, 8, 14), (0, 8, 13), (0, 8, 12), (0, 8, 11), (0, 8, 10), (0, 8, 9), (0, 8, 8), (0, 8, 7), (0, 8, 6), (0, 8, 5), (0, 8, 4), (0, 8, 3), (0, 8, 2), (0, 8, 1)] [] [])) hu ?_
  show zx p l e _ s m _ below meth c g 3 0 0 _ _ 42 [(2, .int 28), (0, .ref (b + 0)), (1, .int 36)] _
  refine z_aload_n B dX8_tick_42 rfl 1 rfl ?_
  refine z_cVv (As := []) (rest := []) B cw_X8_243 cx_9 dX8_tick_43 (ci_X8_passTimers_921 l (σ := (ap b σ [(0, 8, 29), (0, 8, 28), (0, 8, 27), (0, 8, 26), (0, 8, 25), (0, 8, 24), (0, 8, 23), (0, 8, 22), (0, 8, 21), (0, 8, 20), (0, 8, 19), (0, 8, 18), (0, 8, 17), (0, 8, 16), (0, 8, 15), (0, 8, 14), (0, 8, 13), (0, 8, 12), (0, 8, 11), (0, 8, 10), (0, 8, 9), (0, 8, 8), (0, 8, 7), (0, 8, 6), (0, 8, 5), (0, 8, 4), (0, 8, 3), (0, 8, 2), (0, 8, 1)] [] [])) (b := b) (lyA hK) (rI_at 0 7 hI_0_7)) (lKA (hk_K hK 0 rfl rfl)) rfl (by decide) rfl (Nat.le_of_ble_eq_true rfl) (by decide) (fun u hu => ?_)
  refine z_eqs (σ' := (ap b σ [(0, 8, 29), (0, 8, 28), (0, 8, 27), (0, 8, 26), (0, 8, 25), (0, 8, 24), (0, 8, 23), (0, 8, 22), (0, 8, 21), (0, 8, 20), (0, 8, 19), (0, 8, 18), (0, 8, 17), (0, 8, 16), (0, 8, 15), (0, 8, 14), (0, 8, 13), (0, 8, 12), (0, 8, 11), (0, 8, 10), (0, 8, 9), (0, 8, 8), (0, 8, 7), (0, 8, 6), (0, 8, 5), (0, 8, 4), (0, 8, 3), (0, 8, 2), (0, 8, 1)] [] [])) hu ?_
  show zx p l e _ s m _ below meth c g 3 0 0 _ _ 46 [(2, .int 28), (0, .ref (b + 0)), (1, .int 36)] _
  refine z_iinc (v := 29) (lv' := [(2, .int 29), (0, .ref (b + 0)), (1, .int 36)]) B dX8_tick_46 0 rfl (by decide) (by decide) rfl ?_
  refine z_goto (tgt := 23) B dX8_tick_49 (by decide) ?_
  refine z_iload_n B dX8_tick_23 rfl 0 rfl ?_
  refine z_iload_n B dX8_tick_24 rfl 2 rfl ?_
  refine z_icmp_ge (tgt := 52) B dX8_tick_25 (by decide) (fun h => absurd h (by decide)) (fun _ => ?_)
  refine z_aload_n B dX8_tick_28 rfl 1 rfl ?_
  refine z_dup B dX8_tick_29 rfl ?_
  refine gf_X8_206 (x := 29) B (lKA (hk_K hK 0 rfl rfl)) (rI_at 0 8 rfl) dX8_tick_30 ?_
  refine z_iconst (v := 1) B dX8_tick_33 (by decide) ?_
  refine z_iadd B dX8_tick_34 ?_
  refine z_seti (y := 30) (by decide) ?_
  refine pf_X8_206 (x := 30) (σ' := (ap b σ [(0, 8, 30), (0, 8, 29), (0, 8, 28), (0, 8, 27), (0, 8, 26), (0, 8, 25), (0, 8, 24), (0, 8, 23), (0, 8, 22), (0, 8, 21), (0, 8, 20), (0, 8, 19), (0, 8, 18), (0, 8, 17), (0, 8, 16), (0, 8, 15), (0, 8, 14), (0, 8, 13), (0, 8, 12), (0, 8, 11), (0, 8, 10), (0, 8, 9), (0, 8, 8), (0, 8, 7), (0, 8, 6), (0, 8, 5), (0, 8, 4), (0, 8, 3), (0, 8, 2), (0, 8, 1)] [] [])) B (lKA (hk_K hK 0 rfl rfl)) wI_ap dX8_tick_35 ?_
  refine z_aload_n B dX8_tick_38 rfl 1 rfl ?_
  refine z_cVv (As := []) (rest := []) B cw_X8_240 cx_9 dX8_tick_39 (ci_X8_passTasks_920 l (σ := (ap b σ [(0, 8, 30), (0, 8, 29), (0, 8, 28), (0, 8, 27), (0, 8, 26), (0, 8, 25), (0, 8, 24), (0, 8, 23), (0, 8, 22), (0, 8, 21), (0, 8, 20), (0, 8, 19), (0, 8, 18), (0, 8, 17), (0, 8, 16), (0, 8, 15), (0, 8, 14), (0, 8, 13), (0, 8, 12), (0, 8, 11), (0, 8, 10), (0, 8, 9), (0, 8, 8), (0, 8, 7), (0, 8, 6), (0, 8, 5), (0, 8, 4), (0, 8, 3), (0, 8, 2), (0, 8, 1)] [] [])) (b := b) (lyA hK) (rI_at 4 2 hI_4_2) (rR_at 0 3 hR_0_3)) (lKA (hk_K hK 0 rfl rfl)) rfl (by decide) rfl (Nat.le_of_ble_eq_true rfl) (by decide) (fun u hu => ?_)
  refine z_eqs (σ' := (ap b σ [(0, 8, 30), (0, 8, 29), (0, 8, 28), (0, 8, 27), (0, 8, 26), (0, 8, 25), (0, 8, 24), (0, 8, 23), (0, 8, 22), (0, 8, 21), (0, 8, 20), (0, 8, 19), (0, 8, 18), (0, 8, 17), (0, 8, 16), (0, 8, 15), (0, 8, 14), (0, 8, 13), (0, 8, 12), (0, 8, 11), (0, 8, 10), (0, 8, 9), (0, 8, 8), (0, 8, 7), (0, 8, 6), (0, 8, 5), (0, 8, 4), (0, 8, 3), (0, 8, 2), (0, 8, 1)] [] [])) hu ?_
  show zx p l e _ s m _ below meth c g 3 0 0 _ _ 42 [(2, .int 29), (0, .ref (b + 0)), (1, .int 36)] _
  refine z_aload_n B dX8_tick_42 rfl 1 rfl ?_
  refine z_cVv (As := []) (rest := []) B cw_X8_243 cx_9 dX8_tick_43 (ci_X8_passTimers_921 l (σ := (ap b σ [(0, 8, 30), (0, 8, 29), (0, 8, 28), (0, 8, 27), (0, 8, 26), (0, 8, 25), (0, 8, 24), (0, 8, 23), (0, 8, 22), (0, 8, 21), (0, 8, 20), (0, 8, 19), (0, 8, 18), (0, 8, 17), (0, 8, 16), (0, 8, 15), (0, 8, 14), (0, 8, 13), (0, 8, 12), (0, 8, 11), (0, 8, 10), (0, 8, 9), (0, 8, 8), (0, 8, 7), (0, 8, 6), (0, 8, 5), (0, 8, 4), (0, 8, 3), (0, 8, 2), (0, 8, 1)] [] [])) (b := b) (lyA hK) (rI_at 0 7 hI_0_7)) (lKA (hk_K hK 0 rfl rfl)) rfl (by decide) rfl (Nat.le_of_ble_eq_true rfl) (by decide) (fun u hu => ?_)
  refine z_eqs (σ' := (ap b σ [(0, 8, 30), (0, 8, 29), (0, 8, 28), (0, 8, 27), (0, 8, 26), (0, 8, 25), (0, 8, 24), (0, 8, 23), (0, 8, 22), (0, 8, 21), (0, 8, 20), (0, 8, 19), (0, 8, 18), (0, 8, 17), (0, 8, 16), (0, 8, 15), (0, 8, 14), (0, 8, 13), (0, 8, 12), (0, 8, 11), (0, 8, 10), (0, 8, 9), (0, 8, 8), (0, 8, 7), (0, 8, 6), (0, 8, 5), (0, 8, 4), (0, 8, 3), (0, 8, 2), (0, 8, 1)] [] [])) hu ?_
  show zx p l e _ s m _ below meth c g 3 0 0 _ _ 46 [(2, .int 29), (0, .ref (b + 0)), (1, .int 36)] _
  refine z_iinc (v := 30) (lv' := [(2, .int 30), (0, .ref (b + 0)), (1, .int 36)]) B dX8_tick_46 0 rfl (by decide) (by decide) rfl ?_
  refine z_goto (tgt := 23) B dX8_tick_49 (by decide) ?_
  refine z_iload_n B dX8_tick_23 rfl 0 rfl ?_
  refine z_iload_n B dX8_tick_24 rfl 2 rfl ?_
  refine z_icmp_ge (tgt := 52) B dX8_tick_25 (by decide) (fun h => absurd h (by decide)) (fun _ => ?_)
  refine z_aload_n B dX8_tick_28 rfl 1 rfl ?_
  refine z_dup B dX8_tick_29 rfl ?_
  refine gf_X8_206 (x := 30) B (lKA (hk_K hK 0 rfl rfl)) (rI_at 0 8 rfl) dX8_tick_30 ?_
  refine z_iconst (v := 1) B dX8_tick_33 (by decide) ?_
  refine z_iadd B dX8_tick_34 ?_
  refine z_seti (y := 31) (by decide) ?_
  refine pf_X8_206 (x := 31) (σ' := (ap b σ [(0, 8, 31), (0, 8, 30), (0, 8, 29), (0, 8, 28), (0, 8, 27), (0, 8, 26), (0, 8, 25), (0, 8, 24), (0, 8, 23), (0, 8, 22), (0, 8, 21), (0, 8, 20), (0, 8, 19), (0, 8, 18), (0, 8, 17), (0, 8, 16), (0, 8, 15), (0, 8, 14), (0, 8, 13), (0, 8, 12), (0, 8, 11), (0, 8, 10), (0, 8, 9), (0, 8, 8), (0, 8, 7), (0, 8, 6), (0, 8, 5), (0, 8, 4), (0, 8, 3), (0, 8, 2), (0, 8, 1)] [] [])) B (lKA (hk_K hK 0 rfl rfl)) wI_ap dX8_tick_35 ?_
  refine z_aload_n B dX8_tick_38 rfl 1 rfl ?_
  refine z_cVv (As := []) (rest := []) B cw_X8_240 cx_9 dX8_tick_39 (ci_X8_passTasks_920 l (σ := (ap b σ [(0, 8, 31), (0, 8, 30), (0, 8, 29), (0, 8, 28), (0, 8, 27), (0, 8, 26), (0, 8, 25), (0, 8, 24), (0, 8, 23), (0, 8, 22), (0, 8, 21), (0, 8, 20), (0, 8, 19), (0, 8, 18), (0, 8, 17), (0, 8, 16), (0, 8, 15), (0, 8, 14), (0, 8, 13), (0, 8, 12), (0, 8, 11), (0, 8, 10), (0, 8, 9), (0, 8, 8), (0, 8, 7), (0, 8, 6), (0, 8, 5), (0, 8, 4), (0, 8, 3), (0, 8, 2), (0, 8, 1)] [] [])) (b := b) (lyA hK) (rI_at 4 2 hI_4_2) (rR_at 0 3 hR_0_3)) (lKA (hk_K hK 0 rfl rfl)) rfl (by decide) rfl (Nat.le_of_ble_eq_true rfl) (by decide) (fun u hu => ?_)
  refine z_eqs (σ' := (ap b σ [(0, 8, 31), (0, 8, 30), (0, 8, 29), (0, 8, 28), (0, 8, 27), (0, 8, 26), (0, 8, 25), (0, 8, 24), (0, 8, 23), (0, 8, 22), (0, 8, 21), (0, 8, 20), (0, 8, 19), (0, 8, 18), (0, 8, 17), (0, 8, 16), (0, 8, 15), (0, 8, 14), (0, 8, 13), (0, 8, 12), (0, 8, 11), (0, 8, 10), (0, 8, 9), (0, 8, 8), (0, 8, 7), (0, 8, 6), (0, 8, 5), (0, 8, 4), (0, 8, 3), (0, 8, 2), (0, 8, 1)] [] [])) hu ?_
  show zx p l e _ s m _ below meth c g 3 0 0 _ _ 42 [(2, .int 30), (0, .ref (b + 0)), (1, .int 36)] _
  refine z_aload_n B dX8_tick_42 rfl 1 rfl ?_
  refine z_cVv (As := []) (rest := []) B cw_X8_243 cx_9 dX8_tick_43 (ci_X8_passTimers_921 l (σ := (ap b σ [(0, 8, 31), (0, 8, 30), (0, 8, 29), (0, 8, 28), (0, 8, 27), (0, 8, 26), (0, 8, 25), (0, 8, 24), (0, 8, 23), (0, 8, 22), (0, 8, 21), (0, 8, 20), (0, 8, 19), (0, 8, 18), (0, 8, 17), (0, 8, 16), (0, 8, 15), (0, 8, 14), (0, 8, 13), (0, 8, 12), (0, 8, 11), (0, 8, 10), (0, 8, 9), (0, 8, 8), (0, 8, 7), (0, 8, 6), (0, 8, 5), (0, 8, 4), (0, 8, 3), (0, 8, 2), (0, 8, 1)] [] [])) (b := b) (lyA hK) (rI_at 0 7 hI_0_7)) (lKA (hk_K hK 0 rfl rfl)) rfl (by decide) rfl (Nat.le_of_ble_eq_true rfl) (by decide) (fun u hu => ?_)
  refine z_eqs (σ' := (ap b σ [(0, 8, 31), (0, 8, 30), (0, 8, 29), (0, 8, 28), (0, 8, 27), (0, 8, 26), (0, 8, 25), (0, 8, 24), (0, 8, 23), (0, 8, 22), (0, 8, 21), (0, 8, 20), (0, 8, 19), (0, 8, 18), (0, 8, 17), (0, 8, 16), (0, 8, 15), (0, 8, 14), (0, 8, 13), (0, 8, 12), (0, 8, 11), (0, 8, 10), (0, 8, 9), (0, 8, 8), (0, 8, 7), (0, 8, 6), (0, 8, 5), (0, 8, 4), (0, 8, 3), (0, 8, 2), (0, 8, 1)] [] [])) hu ?_
  show zx p l e _ s m _ below meth c g 3 0 0 _ _ 46 [(2, .int 30), (0, .ref (b + 0)), (1, .int 36)] _
  refine z_iinc (v := 31) (lv' := [(2, .int 31), (0, .ref (b + 0)), (1, .int 36)]) B dX8_tick_46 0 rfl (by decide) (by decide) rfl ?_
  refine z_goto (tgt := 23) B dX8_tick_49 (by decide) ?_
  refine z_iload_n B dX8_tick_23 rfl 0 rfl ?_
  refine z_iload_n B dX8_tick_24 rfl 2 rfl ?_
  refine z_icmp_ge (tgt := 52) B dX8_tick_25 (by decide) (fun h => absurd h (by decide)) (fun _ => ?_)
  refine z_aload_n B dX8_tick_28 rfl 1 rfl ?_
  refine z_dup B dX8_tick_29 rfl ?_
  refine gf_X8_206 (x := 31) B (lKA (hk_K hK 0 rfl rfl)) (rI_at 0 8 rfl) dX8_tick_30 ?_
  refine z_iconst (v := 1) B dX8_tick_33 (by decide) ?_
  refine z_iadd B dX8_tick_34 ?_
  refine z_seti (y := 32) (by decide) ?_
  refine pf_X8_206 (x := 32) (σ' := (ap b σ [(0, 8, 32), (0, 8, 31), (0, 8, 30), (0, 8, 29), (0, 8, 28), (0, 8, 27), (0, 8, 26), (0, 8, 25), (0, 8, 24), (0, 8, 23), (0, 8, 22), (0, 8, 21), (0, 8, 20), (0, 8, 19), (0, 8, 18), (0, 8, 17), (0, 8, 16), (0, 8, 15), (0, 8, 14), (0, 8, 13), (0, 8, 12), (0, 8, 11), (0, 8, 10), (0, 8, 9), (0, 8, 8), (0, 8, 7), (0, 8, 6), (0, 8, 5), (0, 8, 4), (0, 8, 3), (0, 8, 2), (0, 8, 1)] [] [])) B (lKA (hk_K hK 0 rfl rfl)) wI_ap dX8_tick_35 ?_
  refine z_aload_n B dX8_tick_38 rfl 1 rfl ?_
  refine z_cVv (As := []) (rest := []) B cw_X8_240 cx_9 dX8_tick_39 (ci_X8_passTasks_920 l (σ := (ap b σ [(0, 8, 32), (0, 8, 31), (0, 8, 30), (0, 8, 29), (0, 8, 28), (0, 8, 27), (0, 8, 26), (0, 8, 25), (0, 8, 24), (0, 8, 23), (0, 8, 22), (0, 8, 21), (0, 8, 20), (0, 8, 19), (0, 8, 18), (0, 8, 17), (0, 8, 16), (0, 8, 15), (0, 8, 14), (0, 8, 13), (0, 8, 12), (0, 8, 11), (0, 8, 10), (0, 8, 9), (0, 8, 8), (0, 8, 7), (0, 8, 6), (0, 8, 5), (0, 8, 4), (0, 8, 3), (0, 8, 2), (0, 8, 1)] [] [])) (b := b) (lyA hK) (rI_at 4 2 hI_4_2) (rR_at 0 3 hR_0_3)) (lKA (hk_K hK 0 rfl rfl)) rfl (by decide) rfl (Nat.le_of_ble_eq_true rfl) (by decide) (fun u hu => ?_)
  refine z_eqs (σ' := (ap b σ [(0, 8, 32), (0, 8, 31), (0, 8, 30), (0, 8, 29), (0, 8, 28), (0, 8, 27), (0, 8, 26), (0, 8, 25), (0, 8, 24), (0, 8, 23), (0, 8, 22), (0, 8, 21), (0, 8, 20), (0, 8, 19), (0, 8, 18), (0, 8, 17), (0, 8, 16), (0, 8, 15), (0, 8, 14), (0, 8, 13), (0, 8, 12), (0, 8, 11), (0, 8, 10), (0, 8, 9), (0, 8, 8), (0, 8, 7), (0, 8, 6), (0, 8, 5), (0, 8, 4), (0, 8, 3), (0, 8, 2), (0, 8, 1)] [] [])) hu ?_
  show zx p l e _ s m _ below meth c g 3 0 0 _ _ 42 [(2, .int 31), (0, .ref (b + 0)), (1, .int 36)] _
  refine z_aload_n B dX8_tick_42 rfl 1 rfl ?_
  refine z_cVv (As := []) (rest := []) B cw_X8_243 cx_9 dX8_tick_43 (ci_X8_passTimers_921 l (σ := (ap b σ [(0, 8, 32), (0, 8, 31), (0, 8, 30), (0, 8, 29), (0, 8, 28), (0, 8, 27), (0, 8, 26), (0, 8, 25), (0, 8, 24), (0, 8, 23), (0, 8, 22), (0, 8, 21), (0, 8, 20), (0, 8, 19), (0, 8, 18), (0, 8, 17), (0, 8, 16), (0, 8, 15), (0, 8, 14), (0, 8, 13), (0, 8, 12), (0, 8, 11), (0, 8, 10), (0, 8, 9), (0, 8, 8), (0, 8, 7), (0, 8, 6), (0, 8, 5), (0, 8, 4), (0, 8, 3), (0, 8, 2), (0, 8, 1)] [] [])) (b := b) (lyA hK) (rI_at 0 7 hI_0_7)) (lKA (hk_K hK 0 rfl rfl)) rfl (by decide) rfl (Nat.le_of_ble_eq_true rfl) (by decide) (fun u hu => ?_)
  refine z_eqs (σ' := (ap b σ [(0, 8, 32), (0, 8, 31), (0, 8, 30), (0, 8, 29), (0, 8, 28), (0, 8, 27), (0, 8, 26), (0, 8, 25), (0, 8, 24), (0, 8, 23), (0, 8, 22), (0, 8, 21), (0, 8, 20), (0, 8, 19), (0, 8, 18), (0, 8, 17), (0, 8, 16), (0, 8, 15), (0, 8, 14), (0, 8, 13), (0, 8, 12), (0, 8, 11), (0, 8, 10), (0, 8, 9), (0, 8, 8), (0, 8, 7), (0, 8, 6), (0, 8, 5), (0, 8, 4), (0, 8, 3), (0, 8, 2), (0, 8, 1)] [] [])) hu ?_
  show zx p l e _ s m _ below meth c g 3 0 0 _ _ 46 [(2, .int 31), (0, .ref (b + 0)), (1, .int 36)] _
  refine z_iinc (v := 32) (lv' := [(2, .int 32), (0, .ref (b + 0)), (1, .int 36)]) B dX8_tick_46 0 rfl (by decide) (by decide) rfl ?_
  refine z_goto (tgt := 23) B dX8_tick_49 (by decide) ?_
  refine z_iload_n B dX8_tick_23 rfl 0 rfl ?_
  refine z_iload_n B dX8_tick_24 rfl 2 rfl ?_
  refine z_icmp_ge (tgt := 52) B dX8_tick_25 (by decide) (fun h => absurd h (by decide)) (fun _ => ?_)
  refine z_aload_n B dX8_tick_28 rfl 1 rfl ?_
  refine z_dup B dX8_tick_29 rfl ?_
  refine gf_X8_206 (x := 32) B (lKA (hk_K hK 0 rfl rfl)) (rI_at 0 8 rfl) dX8_tick_30 ?_
  refine z_iconst (v := 1) B dX8_tick_33 (by decide) ?_
  refine z_iadd B dX8_tick_34 ?_
  refine z_seti (y := 33) (by decide) ?_
  refine pf_X8_206 (x := 33) (σ' := (ap b σ [(0, 8, 33), (0, 8, 32), (0, 8, 31), (0, 8, 30), (0, 8, 29), (0, 8, 28), (0, 8, 27), (0, 8, 26), (0, 8, 25), (0, 8, 24), (0, 8, 23), (0, 8, 22), (0, 8, 21), (0, 8, 20), (0, 8, 19), (0, 8, 18), (0, 8, 17), (0, 8, 16), (0, 8, 15), (0, 8, 14), (0, 8, 13), (0, 8, 12), (0, 8, 11), (0, 8, 10), (0, 8, 9), (0, 8, 8), (0, 8, 7), (0, 8, 6), (0, 8, 5), (0, 8, 4), (0, 8, 3), (0, 8, 2), (0, 8, 1)] [] [])) B (lKA (hk_K hK 0 rfl rfl)) wI_ap dX8_tick_35 ?_
  refine z_aload_n B dX8_tick_38 rfl 1 rfl ?_
  refine z_cVv (As := []) (rest := []) B cw_X8_240 cx_9 dX8_tick_39 (ci_X8_passTasks_920 l (σ := (ap b σ [(0, 8, 33), (0, 8, 32), (0, 8, 31), (0, 8, 30), (0, 8, 29), (0, 8, 28), (0, 8, 27), (0, 8, 26), (0, 8, 25), (0, 8, 24), (0, 8, 23), (0, 8, 22), (0, 8, 21), (0, 8, 20), (0, 8, 19), (0, 8, 18), (0, 8, 17), (0, 8, 16), (0, 8, 15), (0, 8, 14), (0, 8, 13), (0, 8, 12), (0, 8, 11), (0, 8, 10), (0, 8, 9), (0, 8, 8), (0, 8, 7), (0, 8, 6), (0, 8, 5), (0, 8, 4), (0, 8, 3), (0, 8, 2), (0, 8, 1)] [] [])) (b := b) (lyA hK) (rI_at 4 2 hI_4_2) (rR_at 0 3 hR_0_3)) (lKA (hk_K hK 0 rfl rfl)) rfl (by decide) rfl (Nat.le_of_ble_eq_true rfl) (by decide) (fun u hu => ?_)
  refine z_eqs (σ' := (ap b σ [(0, 8, 33), (0, 8, 32), (0, 8, 31), (0, 8, 30), (0, 8, 29), (0, 8, 28), (0, 8, 27), (0, 8, 26), (0, 8, 25), (0, 8, 24), (0, 8, 23), (0, 8, 22), (0, 8, 21), (0, 8, 20), (0, 8, 19), (0, 8, 18), (0, 8, 17), (0, 8, 16), (0, 8, 15), (0, 8, 14), (0, 8, 13), (0, 8, 12), (0, 8, 11), (0, 8, 10), (0, 8, 9), (0, 8, 8), (0, 8, 7), (0, 8, 6), (0, 8, 5), (0, 8, 4), (0, 8, 3), (0, 8, 2), (0, 8, 1)] [] [])) hu ?_
  show zx p l e _ s m _ below meth c g 3 0 0 _ _ 42 [(2, .int 32), (0, .ref (b + 0)), (1, .int 36)] _
  refine z_aload_n B dX8_tick_42 rfl 1 rfl ?_
  refine z_cVv (As := []) (rest := []) B cw_X8_243 cx_9 dX8_tick_43 (ci_X8_passTimers_921 l (σ := (ap b σ [(0, 8, 33), (0, 8, 32), (0, 8, 31), (0, 8, 30), (0, 8, 29), (0, 8, 28), (0, 8, 27), (0, 8, 26), (0, 8, 25), (0, 8, 24), (0, 8, 23), (0, 8, 22), (0, 8, 21), (0, 8, 20), (0, 8, 19), (0, 8, 18), (0, 8, 17), (0, 8, 16), (0, 8, 15), (0, 8, 14), (0, 8, 13), (0, 8, 12), (0, 8, 11), (0, 8, 10), (0, 8, 9), (0, 8, 8), (0, 8, 7), (0, 8, 6), (0, 8, 5), (0, 8, 4), (0, 8, 3), (0, 8, 2), (0, 8, 1)] [] [])) (b := b) (lyA hK) (rI_at 0 7 hI_0_7)) (lKA (hk_K hK 0 rfl rfl)) rfl (by decide) rfl (Nat.le_of_ble_eq_true rfl) (by decide) (fun u hu => ?_)
  refine z_eqs (σ' := (ap b σ [(0, 8, 33), (0, 8, 32), (0, 8, 31), (0, 8, 30), (0, 8, 29), (0, 8, 28), (0, 8, 27), (0, 8, 26), (0, 8, 25), (0, 8, 24), (0, 8, 23), (0, 8, 22), (0, 8, 21), (0, 8, 20), (0, 8, 19), (0, 8, 18), (0, 8, 17), (0, 8, 16), (0, 8, 15), (0, 8, 14), (0, 8, 13), (0, 8, 12), (0, 8, 11), (0, 8, 10), (0, 8, 9), (0, 8, 8), (0, 8, 7), (0, 8, 6), (0, 8, 5), (0, 8, 4), (0, 8, 3), (0, 8, 2), (0, 8, 1)] [] [])) hu ?_
  show zx p l e _ s m _ below meth c g 3 0 0 _ _ 46 [(2, .int 32), (0, .ref (b + 0)), (1, .int 36)] _
  refine z_iinc (v := 33) (lv' := [(2, .int 33), (0, .ref (b + 0)), (1, .int 36)]) B dX8_tick_46 0 rfl (by decide) (by decide) rfl ?_
  refine z_goto (tgt := 23) B dX8_tick_49 (by decide) ?_
  refine z_iload_n B dX8_tick_23 rfl 0 rfl ?_
  refine z_iload_n B dX8_tick_24 rfl 2 rfl ?_
  refine z_icmp_ge (tgt := 52) B dX8_tick_25 (by decide) (fun h => absurd h (by decide)) (fun _ => ?_)
  refine z_aload_n B dX8_tick_28 rfl 1 rfl ?_
  refine z_dup B dX8_tick_29 rfl ?_
  refine gf_X8_206 (x := 33) B (lKA (hk_K hK 0 rfl rfl)) (rI_at 0 8 rfl) dX8_tick_30 ?_
  refine z_iconst (v := 1) B dX8_tick_33 (by decide) ?_
  refine z_iadd B dX8_tick_34 ?_
  refine z_seti (y := 34) (by decide) ?_
  refine pf_X8_206 (x := 34) (σ' := (ap b σ [(0, 8, 34), (0, 8, 33), (0, 8, 32), (0, 8, 31), (0, 8, 30), (0, 8, 29), (0, 8, 28), (0, 8, 27), (0, 8, 26), (0, 8, 25), (0, 8, 24), (0, 8, 23), (0, 8, 22), (0, 8, 21), (0, 8, 20), (0, 8, 19), (0, 8, 18), (0, 8, 17), (0, 8, 16), (0, 8, 15), (0, 8, 14), (0, 8, 13), (0, 8, 12), (0, 8, 11), (0, 8, 10), (0, 8, 9), (0, 8, 8), (0, 8, 7), (0, 8, 6), (0, 8, 5), (0, 8, 4), (0, 8, 3), (0, 8, 2), (0, 8, 1)] [] [])) B (lKA (hk_K hK 0 rfl rfl)) wI_ap dX8_tick_35 ?_
  refine z_aload_n B dX8_tick_38 rfl 1 rfl ?_
  refine z_cVv (As := []) (rest := []) B cw_X8_240 cx_9 dX8_tick_39 (ci_X8_passTasks_920 l (σ := (ap b σ [(0, 8, 34), (0, 8, 33), (0, 8, 32), (0, 8, 31), (0, 8, 30), (0, 8, 29), (0, 8, 28), (0, 8, 27), (0, 8, 26), (0, 8, 25), (0, 8, 24), (0, 8, 23), (0, 8, 22), (0, 8, 21), (0, 8, 20), (0, 8, 19), (0, 8, 18), (0, 8, 17), (0, 8, 16), (0, 8, 15), (0, 8, 14), (0, 8, 13), (0, 8, 12), (0, 8, 11), (0, 8, 10), (0, 8, 9), (0, 8, 8), (0, 8, 7), (0, 8, 6), (0, 8, 5), (0, 8, 4), (0, 8, 3), (0, 8, 2), (0, 8, 1)] [] [])) (b := b) (lyA hK) (rI_at 4 2 hI_4_2) (rR_at 0 3 hR_0_3)) (lKA (hk_K hK 0 rfl rfl)) rfl (by decide) rfl (Nat.le_of_ble_eq_true rfl) (by decide) (fun u hu => ?_)
  refine z_eqs (σ' := (ap b σ [(0, 8, 34), (0, 8, 33), (0, 8, 32), (0, 8, 31), (0, 8, 30), (0, 8, 29), (0, 8, 28), (0, 8, 27), (0, 8, 26), (0, 8, 25), (0, 8, 24), (0, 8, 23), (0, 8, 22), (0, 8, 21), (0, 8, 20), (0, 8, 19), (0, 8, 18), (0, 8, 17), (0, 8, 16), (0, 8, 15), (0, 8, 14), (0, 8, 13), (0, 8, 12), (0, 8, 11), (0, 8, 10), (0, 8, 9), (0, 8, 8), (0, 8, 7), (0, 8, 6), (0, 8, 5), (0, 8, 4), (0, 8, 3), (0, 8, 2), (0, 8, 1)] [] [])) hu ?_
  show zx p l e _ s m _ below meth c g 3 0 0 _ _ 42 [(2, .int 33), (0, .ref (b + 0)), (1, .int 36)] _
  refine z_aload_n B dX8_tick_42 rfl 1 rfl ?_
  refine z_cVv (As := []) (rest := []) B cw_X8_243 cx_9 dX8_tick_43 (ci_X8_passTimers_921 l (σ := (ap b σ [(0, 8, 34), (0, 8, 33), (0, 8, 32), (0, 8, 31), (0, 8, 30), (0, 8, 29), (0, 8, 28), (0, 8, 27), (0, 8, 26), (0, 8, 25), (0, 8, 24), (0, 8, 23), (0, 8, 22), (0, 8, 21), (0, 8, 20), (0, 8, 19), (0, 8, 18), (0, 8, 17), (0, 8, 16), (0, 8, 15), (0, 8, 14), (0, 8, 13), (0, 8, 12), (0, 8, 11), (0, 8, 10), (0, 8, 9), (0, 8, 8), (0, 8, 7), (0, 8, 6), (0, 8, 5), (0, 8, 4), (0, 8, 3), (0, 8, 2), (0, 8, 1)] [] [])) (b := b) (lyA hK) (rI_at 0 7 hI_0_7)) (lKA (hk_K hK 0 rfl rfl)) rfl (by decide) rfl (Nat.le_of_ble_eq_true rfl) (by decide) (fun u hu => ?_)
  refine z_eqs (σ' := (ap b σ [(0, 8, 34), (0, 8, 33), (0, 8, 32), (0, 8, 31), (0, 8, 30), (0, 8, 29), (0, 8, 28), (0, 8, 27), (0, 8, 26), (0, 8, 25), (0, 8, 24), (0, 8, 23), (0, 8, 22), (0, 8, 21), (0, 8, 20), (0, 8, 19), (0, 8, 18), (0, 8, 17), (0, 8, 16), (0, 8, 15), (0, 8, 14), (0, 8, 13), (0, 8, 12), (0, 8, 11), (0, 8, 10), (0, 8, 9), (0, 8, 8), (0, 8, 7), (0, 8, 6), (0, 8, 5), (0, 8, 4), (0, 8, 3), (0, 8, 2), (0, 8, 1)] [] [])) hu ?_
  show zx p l e _ s m _ below meth c g 3 0 0 _ _ 46 [(2, .int 33), (0, .ref (b + 0)), (1, .int 36)] _
  refine z_iinc (v := 34) (lv' := [(2, .int 34), (0, .ref (b + 0)), (1, .int 36)]) B dX8_tick_46 0 rfl (by decide) (by decide) rfl ?_
  refine z_goto (tgt := 23) B dX8_tick_49 (by decide) ?_
  refine z_iload_n B dX8_tick_23 rfl 0 rfl ?_
  refine z_iload_n B dX8_tick_24 rfl 2 rfl ?_
  refine z_icmp_ge (tgt := 52) B dX8_tick_25 (by decide) (fun h => absurd h (by decide)) (fun _ => ?_)
  refine z_aload_n B dX8_tick_28 rfl 1 rfl ?_
  refine z_dup B dX8_tick_29 rfl ?_
  refine gf_X8_206 (x := 34) B (lKA (hk_K hK 0 rfl rfl)) (rI_at 0 8 rfl) dX8_tick_30 ?_
  refine z_iconst (v := 1) B dX8_tick_33 (by decide) ?_
  refine z_iadd B dX8_tick_34 ?_
  refine z_seti (y := 35) (by decide) ?_
  refine pf_X8_206 (x := 35) (σ' := (ap b σ [(0, 8, 35), (0, 8, 34), (0, 8, 33), (0, 8, 32), (0, 8, 31), (0, 8, 30), (0, 8, 29), (0, 8, 28), (0, 8, 27), (0, 8, 26), (0, 8, 25), (0, 8, 24), (0, 8, 23), (0, 8, 22), (0, 8, 21), (0, 8, 20), (0, 8, 19), (0, 8, 18), (0, 8, 17), (0, 8, 16), (0, 8, 15), (0, 8, 14), (0, 8, 13), (0, 8, 12), (0, 8, 11), (0, 8, 10), (0, 8, 9), (0, 8, 8), (0, 8, 7), (0, 8, 6), (0, 8, 5), (0, 8, 4), (0, 8, 3), (0, 8, 2), (0, 8, 1)] [] [])) B (lKA (hk_K hK 0 rfl rfl)) wI_ap dX8_tick_35 ?_
  refine z_aload_n B dX8_tick_38 rfl 1 rfl ?_
  refine z_cVv (As := []) (rest := []) B cw_X8_240 cx_9 dX8_tick_39 (ci_X8_passTasks_920 l (σ := (ap b σ [(0, 8, 35), (0, 8, 34), (0, 8, 33), (0, 8, 32), (0, 8, 31), (0, 8, 30), (0, 8, 29), (0, 8, 28), (0, 8, 27), (0, 8, 26), (0, 8, 25), (0, 8, 24), (0, 8, 23), (0, 8, 22), (0, 8, 21), (0, 8, 20), (0, 8, 19), (0, 8, 18), (0, 8, 17), (0, 8, 16), (0, 8, 15), (0, 8, 14), (0, 8, 13), (0, 8, 12), (0, 8, 11), (0, 8, 10), (0, 8, 9), (0, 8, 8), (0, 8, 7), (0, 8, 6), (0, 8, 5), (0, 8, 4), (0, 8, 3), (0, 8, 2), (0, 8, 1)] [] [])) (b := b) (lyA hK) (rI_at 4 2 hI_4_2) (rR_at 0 3 hR_0_3)) (lKA (hk_K hK 0 rfl rfl)) rfl (by decide) rfl (Nat.le_of_ble_eq_true rfl) (by decide) (fun u hu => ?_)
  refine z_eqs (σ' := (ap b σ [(0, 8, 35), (0, 8, 34), (0, 8, 33), (0, 8, 32), (0, 8, 31), (0, 8, 30), (0, 8, 29), (0, 8, 28), (0, 8, 27), (0, 8, 26), (0, 8, 25), (0, 8, 24), (0, 8, 23), (0, 8, 22), (0, 8, 21), (0, 8, 20), (0, 8, 19), (0, 8, 18), (0, 8, 17), (0, 8, 16), (0, 8, 15), (0, 8, 14), (0, 8, 13), (0, 8, 12), (0, 8, 11), (0, 8, 10), (0, 8, 9), (0, 8, 8), (0, 8, 7), (0, 8, 6), (0, 8, 5), (0, 8, 4), (0, 8, 3), (0, 8, 2), (0, 8, 1)] [] [])) hu ?_
  show zx p l e _ s m _ below meth c g 3 0 0 _ _ 42 [(2, .int 34), (0, .ref (b + 0)), (1, .int 36)] _
  refine z_aload_n B dX8_tick_42 rfl 1 rfl ?_
  refine z_cVv (As := []) (rest := []) B cw_X8_243 cx_9 dX8_tick_43 (ci_X8_passTimers_921 l (σ := (ap b σ [(0, 8, 35), (0, 8, 34), (0, 8, 33), (0, 8, 32), (0, 8, 31), (0, 8, 30), (0, 8, 29), (0, 8, 28), (0, 8, 27), (0, 8, 26), (0, 8, 25), (0, 8, 24), (0, 8, 23), (0, 8, 22), (0, 8, 21), (0, 8, 20), (0, 8, 19), (0, 8, 18), (0, 8, 17), (0, 8, 16), (0, 8, 15), (0, 8, 14), (0, 8, 13), (0, 8, 12), (0, 8, 11), (0, 8, 10), (0, 8, 9), (0, 8, 8), (0, 8, 7), (0, 8, 6), (0, 8, 5), (0, 8, 4), (0, 8, 3), (0, 8, 2), (0, 8, 1)] [] [])) (b := b) (lyA hK) (rI_at 0 7 hI_0_7)) (lKA (hk_K hK 0 rfl rfl)) rfl (by decide) rfl (Nat.le_of_ble_eq_true rfl) (by decide) (fun u hu => ?_)
  refine z_eqs (σ' := (ap b σ [(0, 8, 35), (0, 8, 34), (0, 8, 33), (0, 8, 32), (0, 8, 31), (0, 8, 30), (0, 8, 29), (0, 8, 28), (0, 8, 27), (0, 8, 26), (0, 8, 25), (0, 8, 24), (0, 8, 23), (0, 8, 22), (0, 8, 21), (0, 8, 20), (0, 8, 19), (0, 8, 18), (0, 8, 17), (0, 8, 16), (0, 8, 15), (0, 8, 14), (0, 8, 13), (0, 8, 12), (0, 8, 11), (0, 8, 10), (0, 8, 9), (0, 8, 8), (0, 8, 7), (0, 8, 6), (0, 8, 5), (0, 8, 4), (0, 8, 3), (0, 8, 2), (0, 8, 1)] [] [])) hu ?_
  show zx p l e _ s m _ below meth c g 3 0 0 _ _ 46 [(2, .int 34), (0, .ref (b + 0)), (1, .int 36)] _
  refine z_iinc (v := 35) (lv' := [(2, .int 35), (0, .ref (b + 0)), (1, .int 36)]) B dX8_tick_46 0 rfl (by decide) (by decide) rfl ?_
  refine z_goto (tgt := 23) B dX8_tick_49 (by decide) ?_
  refine z_iload_n B dX8_tick_23 rfl 0 rfl ?_
  refine z_iload_n B dX8_tick_24 rfl 2 rfl ?_
  refine z_icmp_ge (tgt := 52) B dX8_tick_25 (by decide) (fun h => absurd h (by decide)) (fun _ => ?_)
  refine z_aload_n B dX8_tick_28 rfl 1 rfl ?_
  refine z_dup B dX8_tick_29 rfl ?_
  refine gf_X8_206 (x := 35) B (lKA (hk_K hK 0 rfl rfl)) (rI_at 0 8 rfl) dX8_tick_30 ?_
  refine z_iconst (v := 1) B dX8_tick_33 (by decide) ?_
  refine z_iadd B dX8_tick_34 ?_
  refine z_seti (y := 36) (by decide) ?_
  refine pf_X8_206 (x := 36) (σ' := (ap b σ [(0, 8, 36), (0, 8, 35), (0, 8, 34), (0, 8, 33), (0, 8, 32), (0, 8, 31), (0, 8, 30), (0, 8, 29), (0, 8, 28), (0, 8, 27), (0, 8, 26), (0, 8, 25), (0, 8, 24), (0, 8, 23), (0, 8, 22), (0, 8, 21), (0, 8, 20), (0, 8, 19), (0, 8, 18), (0, 8, 17), (0, 8, 16), (0, 8, 15), (0, 8, 14), (0, 8, 13), (0, 8, 12), (0, 8, 11), (0, 8, 10), (0, 8, 9), (0, 8, 8), (0, 8, 7), (0, 8, 6), (0, 8, 5), (0, 8, 4), (0, 8, 3), (0, 8, 2), (0, 8, 1)] [] [])) B (lKA (hk_K hK 0 rfl rfl)) wI_ap dX8_tick_35 ?_
  refine z_aload_n B dX8_tick_38 rfl 1 rfl ?_
  refine z_cVv (As := []) (rest := []) B cw_X8_240 cx_9 dX8_tick_39 (ci_X8_passTasks_920 l (σ := (ap b σ [(0, 8, 36), (0, 8, 35), (0, 8, 34), (0, 8, 33), (0, 8, 32), (0, 8, 31), (0, 8, 30), (0, 8, 29), (0, 8, 28), (0, 8, 27), (0, 8, 26), (0, 8, 25), (0, 8, 24), (0, 8, 23), (0, 8, 22), (0, 8, 21), (0, 8, 20), (0, 8, 19), (0, 8, 18), (0, 8, 17), (0, 8, 16), (0, 8, 15), (0, 8, 14), (0, 8, 13), (0, 8, 12), (0, 8, 11), (0, 8, 10), (0, 8, 9), (0, 8, 8), (0, 8, 7), (0, 8, 6), (0, 8, 5), (0, 8, 4), (0, 8, 3), (0, 8, 2), (0, 8, 1)] [] [])) (b := b) (lyA hK) (rI_at 4 2 hI_4_2) (rR_at 0 3 hR_0_3)) (lKA (hk_K hK 0 rfl rfl)) rfl (by decide) rfl (Nat.le_of_ble_eq_true rfl) (by decide) (fun u hu => ?_)
  refine z_eqs (σ' := (ap b σ [(0, 8, 36), (0, 8, 35), (0, 8, 34), (0, 8, 33), (0, 8, 32), (0, 8, 31), (0, 8, 30), (0, 8, 29), (0, 8, 28), (0, 8, 27), (0, 8, 26), (0, 8, 25), (0, 8, 24), (0, 8, 23), (0, 8, 22), (0, 8, 21), (0, 8, 20), (0, 8, 19), (0, 8, 18), (0, 8, 17), (0, 8, 16), (0, 8, 15), (0, 8, 14), (0, 8, 13), (0, 8, 12), (0, 8, 11), (0, 8, 10), (0, 8, 9), (0, 8, 8), (0, 8, 7), (0, 8, 6), (0, 8, 5), (0, 8, 4), (0, 8, 3), (0, 8, 2), (0, 8, 1)] [] [])) hu ?_
  show zx p l e _ s m _ below meth c g 3 0 0 _ _ 42 [(2, .int 35), (0, .ref (b + 0)), (1, .int 36)] _
  refine z_aload_n B dX8_tick_42 rfl 1 rfl ?_
  refine z_cVv (As := []) (rest := []) B cw_X8_243 cx_9 dX8_tick_43 (ci_X8_passTimers_921 l (σ := (ap b σ [(0, 8, 36), (0, 8, 35), (0, 8, 34), (0, 8, 33), (0, 8, 32), (0, 8, 31), (0, 8, 30), (0, 8, 29), (0, 8, 28), (0, 8, 27), (0, 8, 26), (0, 8, 25), (0, 8, 24), (0, 8, 23), (0, 8, 22), (0, 8, 21), (0, 8, 20), (0, 8, 19), (0, 8, 18), (0, 8, 17), (0, 8, 16), (0, 8, 15), (0, 8, 14), (0, 8, 13), (0, 8, 12), (0, 8, 11), (0, 8, 10), (0, 8, 9), (0, 8, 8), (0, 8, 7), (0, 8, 6), (0, 8, 5), (0, 8, 4), (0, 8, 3), (0, 8, 2), (0, 8, 1)] [] [])) (b := b) (lyA hK) (rI_at 0 7 hI_0_7)) (lKA (hk_K hK 0 rfl rfl)) rfl (by decide) rfl (Nat.le_of_ble_eq_true rfl) (by decide) (fun u hu => ?_)
  refine z_eqs (σ' := (ap b σ [(0, 8, 36), (0, 8, 35), (0, 8, 34), (0, 8, 33), (0, 8, 32), (0, 8, 31), (0, 8, 30), (0, 8, 29), (0, 8, 28), (0, 8, 27), (0, 8, 26), (0, 8, 25), (0, 8, 24), (0, 8, 23), (0, 8, 22), (0, 8, 21), (0, 8, 20), (0, 8, 19), (0, 8, 18), (0, 8, 17), (0, 8, 16), (0, 8, 15), (0, 8, 14), (0, 8, 13), (0, 8, 12), (0, 8, 11), (0, 8, 10), (0, 8, 9), (0, 8, 8), (0, 8, 7), (0, 8, 6), (0, 8, 5), (0, 8, 4), (0, 8, 3), (0, 8, 2), (0, 8, 1)] [] [])) hu ?_
  show zx p l e _ s m _ below meth c g 3 0 0 _ _ 46 [(2, .int 35), (0, .ref (b + 0)), (1, .int 36)] _
  refine z_iinc (v := 36) (lv' := [(2, .int 36), (0, .ref (b + 0)), (1, .int 36)]) B dX8_tick_46 0 rfl (by decide) (by decide) rfl ?_
  refine z_goto (tgt := 23) B dX8_tick_49 (by decide) ?_
  refine z_iload_n B dX8_tick_23 rfl 0 rfl ?_
  refine z_iload_n B dX8_tick_24 rfl 2 rfl ?_
  refine z_icmp_ge (tgt := 52) B dX8_tick_25 (by decide) (fun _ => ?_) (fun h => absurd (by decide) h)
  refine z_aload_n B dX8_tick_52 rfl 1 rfl ?_
  refine gf_X8_206 (x := 36) B (lKA (hk_K hK 0 rfl rfl)) (rI_at 0 8 rfl) dX8_tick_53 ?_
  exact z_iret B hr (by decide) (by decide) dX8_tick_56 ⟨rfl, rfl⟩
set_option maxRecDepth 100000 in
set_option maxHeartbeats 4000000 in
theorem ci_L_tick_1098 (l : Launch) {g : gx_T} {σ : sx_T} {b : Nat} (hK : lay b σ)   (hI_0_7 : sx_I σ (b + 0) 7 = 0) (hI_0_8 : sx_I σ (b + 0) 8 = 0) (hI_4_2 : sx_I σ (b + 4) 2 = 0) (hR_0_3 : sx_R σ (b + 0) 3 = (some (b + 4))) : Met l yL_tick (.codeWith yL_tick cL_tick 4 (some .int) [(0, 9, 12, 15)] :: lw_g) { frames := 3, cells := 0, slots := 0, locals := 64 } (va_Pc [.ref (b + 0), .int 36, .ref (b + 431)] (zx_w g σ)) (va_Qi (fun r u => r = 0 ∧ u = (ap b σ [(0, 8, 36), (0, 8, 35), (0, 8, 34), (0, 8, 33), (0, 8, 32), (0, 8, 31), (0, 8, 30), (0, 8, 29), (0, 8, 28), (0, 8, 27), (0, 8, 26), (0, 8, 25), (0, 8, 24), (0, 8, 23), (0, 8, 22), (0, 8, 21), (0, 8, 20), (0, 8, 19), (0, 8, 18), (0, 8, 17), (0, 8, 16), (0, 8, 15), (0, 8, 14), (0, 8, 13), (0, 8, 12), (0, 8, 11), (0, 8, 10), (0, 8, 9), (0, 8, 8), (0, 8, 7), (0, 8, 6), (0, 8, 5), (0, 8, 4), (0, 8, 3), (0, 8, 2), (0, 8, 1)] [(431, 0, 36)] [])) (zx_w g) (gx_Q g)) 0 0 (gx_Q g) := by
  refine z_metW (by decide) (Nat.le_of_ble_eq_true rfl) (fun p e s m below meth c B hr htab => ?_)
  refine z_eqs (σ' := (ap b σ [] [] [])) rfl ?_
  show zx p l e _ s m _ below meth c g 4 0 0 _ _ 0 [(0, .ref (b + 0)), (1, .int 36), (2, .ref (b + 431))] []
  refine z_aload_n B dL_tick_0 rfl 2 rfl ?_
  refine z_iconst (v := 0) B dL_tick_1 (by decide) ?_
  refine z_aload_n B dL_tick_2 rfl 0 rfl ?_
  refine z_iload_n B dL_tick_3 rfl 1 rfl ?_
  refine z_cVi (As := [.int 36]) (rest := [.int 0, .ref (b + 431)]) B cw_L_41 cx_9 dL_tick_4 (ci_X8_tick_1097 l (σ := (ap b σ [] [] [])) (b := b) (lyA hK) (rI_at 0 7 hI_0_7) (rI_at 0 8 hI_0_8) (rI_at 4 2 hI_4_2) (rR_at 0 3 hR_0_3)) (lKA (hk_K hK 0 rfl rfl)) rfl (by decide) rfl (Nat.le_of_ble_eq_true rfl) (by decide) (fun r u hu => ?_)
  refine z_eqs (σ' := (ap b σ [(0, 8, 36), (0, 8, 35), (0, 8, 34), (0, 8, 33), (0, 8, 32), (0, 8, 31), (0, 8, 30), (0, 8, 29), (0, 8, 28), (0, 8, 27), (0, 8, 26), (0, 8, 25), (0, 8, 24), (0, 8, 23), (0, 8, 22), (0, 8, 21), (0, 8, 20), (0, 8, 19), (0, 8, 18), (0, 8, 17), (0, 8, 16), (0, 8, 15), (0, 8, 14), (0, 8, 13), (0, 8, 12), (0, 8, 11), (0, 8, 10), (0, 8, 9), (0, 8, 8), (0, 8, 7), (0, 8, 6), (0, 8, 5), (0, 8, 4), (0, 8, 3), (0, 8, 2), (0, 8, 1)] [] [])) (hu.2.trans ap_ap) ?_
  show zx p l e _ s m _ below meth c g 4 0 0 _ _ 7 [(0, .ref (b + 0)), (1, .int 36), (2, .ref (b + 431))] _
  refine z_seti (y := 36) hu.1 ?_
  refine z_i2l (v := 36) B dL_tick_7 (by decide) ?_
  refine z_last (j := 0) (σ' := (ap b σ [(0, 8, 36), (0, 8, 35), (0, 8, 34), (0, 8, 33), (0, 8, 32), (0, 8, 31), (0, 8, 30), (0, 8, 29), (0, 8, 28), (0, 8, 27), (0, 8, 26), (0, 8, 25), (0, 8, 24), (0, 8, 23), (0, 8, 22), (0, 8, 21), (0, 8, 20), (0, 8, 19), (0, 8, 18), (0, 8, 17), (0, 8, 16), (0, 8, 15), (0, 8, 14), (0, 8, 13), (0, 8, 12), (0, 8, 11), (0, 8, 10), (0, 8, 9), (0, 8, 8), (0, 8, 7), (0, 8, 6), (0, 8, 5), (0, 8, 4), (0, 8, 3), (0, 8, 2), (0, 8, 1)] [(431, 0, 36)] [])) B (lKA (hk_K hK 431 rfl rfl)) (by decide) (in_of (lNA (hk_N hK 431 rfl rfl)) (show ¬ ((0 : Int32) < 0 ∨ 1 ≤ (0 : Int32).toNatClampNeg) by decide)) wJ_ap dL_tick_8 ?_
  refine z_goto (tgt := 15) B dL_tick_9 (by decide) ?_
  refine z_iconst (v := 0) B dL_tick_15 (by decide) ?_
  exact z_iret B hr (by decide) (by decide) dL_tick_16 ⟨rfl, rfl⟩
set_option maxRecDepth 100000 in
set_option maxHeartbeats 4000000 in
theorem ci_X9_in_1099 (l : Launch) {g : gx_T} {σ : sx_T} {b : Nat} (hK : lay b σ)    : Met l yX9_in (.code yX9_in cX9_in 3 (some .boolean) :: lw_g) { frames := 0, cells := 0, slots := 0, locals := 0 } (va_Pc [.int 36, .int 1, .int 50] (zx_w g σ)) (va_Qi (fun r u => r = 1 ∧ u = σ) (zx_w g) (gx_Q g)) 0 0 (gx_Q g) := by
  refine z_met (by decide) (Nat.le_of_ble_eq_true rfl) (fun p e s m below meth c B hr hin => ?_)
  refine z_eqs (σ' := (ap b σ [] [] [])) rfl ?_
  show zx p l e _ s m _ below meth c g 3 0 0 _ _ 0 [(0, .int 36), (1, .int 1), (2, .int 50)] []
  refine z_iload_n B dX9_in_0 rfl 0 rfl ?_
  refine z_iload_n B dX9_in_1 rfl 1 rfl ?_
  refine z_icmp_lt (tgt := 14) B dX9_in_2 (by decide) (fun h => absurd h (by decide)) (fun _ => ?_)
  refine z_iload_n B dX9_in_5 rfl 0 rfl ?_
  refine z_iload_n B dX9_in_6 rfl 2 rfl ?_
  refine z_icmp_gt (tgt := 14) B dX9_in_7 (by decide) (fun h => absurd h (by decide)) (fun _ => ?_)
  refine z_iconst (v := 1) B dX9_in_10 (by decide) ?_
  refine z_goto (tgt := 15) B dX9_in_11 (by decide) ?_
  exact z_zret B hr (by decide) (by decide) (by decide) dX9_in_15 ⟨rfl, rfl⟩
set_option maxRecDepth 100000 in
set_option maxHeartbeats 4000000 in
theorem ci_X9_ticks_1100 (l : Launch) {g : gx_T} {σ : sx_T} {b : Nat} (hK : lay b σ)   (hI_405_1 : sx_I σ (b + 405) 1 = 35) (hI_405_6 : sx_I σ (b + 405) 6 = 0) (hI_405_16 : sx_I σ (b + 405) 16 = 0) : Met l yX9_ticks (.code yX9_ticks cX9_ticks 2 none :: lw_g) { frames := 0, cells := 0, slots := 0, locals := 0 } (va_Pc [.ref (b + 405)] (zx_w g σ)) (va_Qv (fun u => u = (ap b σ [(405, 1, 36)] [] [])) (zx_w g) (gx_Q g)) 0 0 (gx_Q g) := by
  refine z_met (by decide) (Nat.le_of_ble_eq_true rfl) (fun p e s m below meth c B hr hin => ?_)
  refine z_eqs (σ' := (ap b σ [] [] [])) rfl ?_
  show zx p l e _ s m _ below meth c g 2 0 0 _ _ 0 [(0, .ref (b + 405))] []
  refine z_aload_n B dX9_ticks_0 rfl 0 rfl ?_
  refine z_dup B dX9_ticks_1 rfl ?_
  refine gf_X9_197 (x := 35) B (lKA (hk_K hK 405 rfl rfl)) (rI_at 405 1 hI_405_1) dX9_ticks_2 ?_
  refine z_iconst (v := 1) B dX9_ticks_5 (by decide) ?_
  refine z_iadd B dX9_ticks_6 ?_
  refine z_seti (y := 36) (by decide) ?_
  refine pf_X9_197 (x := 36) (σ' := (ap b σ [(405, 1, 36)] [] [])) B (lKA (hk_K hK 405 rfl rfl)) wI_ap dX9_ticks_7 ?_
  refine z_iconst (v := 0) B dX9_ticks_10 (by decide) ?_
  refine z_istore_n (lv' := [(1, .int 0), (0, .ref (b + 405))]) B dX9_ticks_11 rfl (by decide) rfl ?_
  refine z_iload_n B dX9_ticks_12 rfl 0 rfl ?_
  refine z_aload_n B dX9_ticks_13 rfl 1 rfl ?_
  refine gf_X9_100 (x := 0) B (lKA (hk_K hK 405 rfl rfl)) (rI_at 405 16 hI_405_16) dX9_ticks_14 ?_
  refine z_icmp_ge (tgt := 104) B dX9_ticks_17 (by decide) (fun _ => ?_) (fun h => absurd (by decide) h)
  refine z_iconst (v := 0) B dX9_ticks_104 (by decide) ?_
  refine z_istore_n (lv' := [(1, .int 0), (0, .ref (b + 405))]) B dX9_ticks_105 rfl (by decide) rfl ?_
  refine z_iload_n B dX9_ticks_106 rfl 0 rfl ?_
  refine z_aload_n B dX9_ticks_107 rfl 1 rfl ?_
  refine gf_X9_93 (x := 0) B (lKA (hk_K hK 405 rfl rfl)) (rI_at 405 6 hI_405_6) dX9_ticks_108 ?_
  refine z_icmp_ge (tgt := 176) B dX9_ticks_111 (by decide) (fun _ => ?_) (fun h => absurd (by decide) h)
  exact z_vret B hr (by decide) (by decide) dX9_ticks_176 rfl
set_option maxRecDepth 100000 in
set_option maxHeartbeats 4000000 in
theorem ci_X9_tick_1101 (l : Launch) {g : gx_T} {σ : sx_T} {b : Nat} (hK : lay b σ)   (hI_405_1 : sx_I σ (b + 405) 1 = 0) (hI_405_6 : sx_I σ (b + 405) 6 = 0) (hI_405_16 : sx_I σ (b + 405) 16 = 0) : Met l yX9_tick (.code yX9_tick cX9_tick 3 (some .int) :: lw_g) { frames := 1, cells := 0, slots := 0, locals := 22 } (va_Pc [.ref (b + 405), .int 36] (zx_w g σ)) (va_Qi (fun r u => r = 36 ∧ u = (ap b σ [(405, 1, 36), (405, 1, 35), (405, 1, 34), (405, 1, 33), (405, 1, 32), (405, 1, 31), (405, 1, 30), (405, 1, 29), (405, 1, 28), (405, 1, 27), (405, 1, 26), (405, 1, 25), (405, 1, 24), (405, 1, 23), (405, 1, 22), (405, 1, 21), (405, 1, 20), (405, 1, 19), (405, 1, 18), (405, 1, 17), (405, 1, 16), (405, 1, 15), (405, 1, 14), (405, 1, 13), (405, 1, 12), (405, 1, 11), (405, 1, 10), (405, 1, 9), (405, 1, 8), (405, 1, 7), (405, 1, 6), (405, 1, 5), (405, 1, 4), (405, 1, 3), (405, 1, 2), (405, 1, 1), (405, 0, 0)] [] [])) (zx_w g) (gx_Q g)) 0 0 (gx_Q g) := by
  refine z_met (by decide) (Nat.le_of_ble_eq_true rfl) (fun p e s m below meth c B hr hin => ?_)
  refine z_eqs (σ' := (ap b σ [] [] [])) rfl ?_
  show zx p l e _ s m _ below meth c g 3 0 0 _ _ 0 [(0, .ref (b + 405)), (1, .int 36)] []
  refine z_aload_n B dX9_tick_0 rfl 0 rfl ?_
  refine z_iload_n B dX9_tick_1 rfl 1 rfl ?_
  refine z_iconst (v := 1) B dX9_tick_2 (by decide) ?_
  refine z_bipush (v := 50) B dX9_tick_3 (by decide) ?_
  refine z_cSi (As := [.int 36, .int 1, .int 50]) (rest := [.ref (b + 405)]) B cw_X9_96 dX9_tick_5 (ci_X9_in_1099 l (σ := (ap b σ [] [] [])) (b := b) (lyA hK) ) rfl (by decide) rfl (Nat.le_of_ble_eq_true rfl) (by decide) (fun r u hu => ?_)
  refine z_eqs (σ' := (ap b σ [] [] [])) hu.2 ?_
  show zx p l e _ s m _ below meth c g 3 0 0 _ _ 8 [(0, .ref (b + 405)), (1, .int 36)] _
  refine z_seti (y := 1) hu.1 ?_
  refine z_cVi (As := [.int 1]) (rest := []) B cw_X9_269 cx_10 dX9_tick_8 (ci_X9_needs_905 l (σ := (ap b σ [] [] [])) (b := b) (lyA hK) ) (lKA (hk_K hK 405 rfl rfl)) rfl (by decide) rfl (Nat.le_of_ble_eq_true rfl) (by decide) (fun r u hu => ?_)
  refine z_eqs (σ' := (ap b σ [(405, 0, 0)] [] [])) (hu.2.trans ap_ap) ?_
  show zx p l e _ s m _ below meth c g 3 0 0 _ _ 11 [(0, .ref (b + 405)), (1, .int 36)] _
  refine z_seti (y := 1) hu.1 ?_
  refine z_if_ne (tgt := 16) B dX9_tick_11 (by decide) (fun _ => ?_) (fun h => absurd h (by decide))
  refine z_iconst (v := 0) B dX9_tick_16 (by decide) ?_
  refine z_istore_n (lv' := [(2, .int 0), (0, .ref (b + 405)), (1, .int 36)]) B dX9_tick_17 rfl (by decide) rfl ?_
  refine z_iload_n B dX9_tick_18 rfl 0 rfl ?_
  refine z_iload_n B dX9_tick_19 rfl 2 rfl ?_
  refine z_icmp_ge (tgt := 33) B dX9_tick_20 (by decide) (fun h => absurd h (by decide)) (fun _ => ?_)
  refine z_aload_n B dX9_tick_23 rfl 1 rfl ?_
  refine z_cVv (As := []) (rest := []) B cw_X9_294 cx_10 dX9_tick_24 (ci_X9_ticks_925 l (σ := (ap b σ [(405, 0, 0)] [] [])) (b := b) (lyA hK) (rI_at 405 1 hI_405_1) (rI_at 405 6 hI_405_6) (rI_at 405 16 hI_405_16)) (lKA (hk_K hK 405 rfl rfl)) rfl (by decide) rfl (Nat.le_of_ble_eq_true rfl) (by decide) (fun u hu => ?_)
  refine z_eqs (σ' := (ap b σ [(405, 1, 1), (405, 0, 0)] [] [])) (hu.trans ap_ap) ?_
  show zx p l e _ s m _ below meth c g 3 0 0 _ _ 27 [(2, .int 0), (0, .ref (b + 405)), (1, .int 36)] _
  refine z_iinc (v := 1) (lv' := [(2, .int 1), (0, .ref (b + 405)), (1, .int 36)]) B dX9_tick_27 0 rfl (by decide) (by decide) rfl ?_
  refine z_goto (tgt := 18) B dX9_tick_30 (by decide) ?_
  refine z_iload_n B dX9_tick_18 rfl 0 rfl ?_
  refine z_iload_n B dX9_tick_19 rfl 2 rfl ?_
  refine z_icmp_ge (tgt := 33) B dX9_tick_20 (by decide) (fun h => absurd h (by decide)) (fun _ => ?_)
  refine z_aload_n B dX9_tick_23 rfl 1 rfl ?_
  refine z_cVv (As := []) (rest := []) B cw_X9_294 cx_10 dX9_tick_24 (ci_X9_ticks_930 l (σ := (ap b σ [(405, 1, 1), (405, 0, 0)] [] [])) (b := b) (lyA hK) (rI_at 405 1 rfl) (rI_at 405 6 hI_405_6) (rI_at 405 16 hI_405_16)) (lKA (hk_K hK 405 rfl rfl)) rfl (by decide) rfl (Nat.le_of_ble_eq_true rfl) (by decide) (fun u hu => ?_)
  refine z_eqs (σ' := (ap b σ [(405, 1, 2), (405, 1, 1), (405, 0, 0)] [] [])) (hu.trans ap_ap) ?_
  show zx p l e _ s m _ below meth c g 3 0 0 _ _ 27 [(2, .int 1), (0, .ref (b + 405)), (1, .int 36)] _
  refine z_iinc (v := 2) (lv' := [(2, .int 2), (0, .ref (b + 405)), (1, .int 36)]) B dX9_tick_27 0 rfl (by decide) (by decide) rfl ?_
  refine z_goto (tgt := 18) B dX9_tick_30 (by decide) ?_
  refine z_iload_n B dX9_tick_18 rfl 0 rfl ?_
  refine z_iload_n B dX9_tick_19 rfl 2 rfl ?_
  refine z_icmp_ge (tgt := 33) B dX9_tick_20 (by decide) (fun h => absurd h (by decide)) (fun _ => ?_)
  refine z_aload_n B dX9_tick_23 rfl 1 rfl ?_
  refine z_cVv (As := []) (rest := []) B cw_X9_294 cx_10 dX9_tick_24 (ci_X9_ticks_935 l (σ := (ap b σ [(405, 1, 2), (405, 1, 1), (405, 0, 0)] [] [])) (b := b) (lyA hK) (rI_at 405 1 rfl) (rI_at 405 6 hI_405_6) (rI_at 405 16 hI_405_16)) (lKA (hk_K hK 405 rfl rfl)) rfl (by decide) rfl (Nat.le_of_ble_eq_true rfl) (by decide) (fun u hu => ?_)
  refine z_eqs (σ' := (ap b σ [(405, 1, 3), (405, 1, 2), (405, 1, 1), (405, 0, 0)] [] [])) (hu.trans ap_ap) ?_
  show zx p l e _ s m _ below meth c g 3 0 0 _ _ 27 [(2, .int 2), (0, .ref (b + 405)), (1, .int 36)] _
  refine z_iinc (v := 3) (lv' := [(2, .int 3), (0, .ref (b + 405)), (1, .int 36)]) B dX9_tick_27 0 rfl (by decide) (by decide) rfl ?_
  refine z_goto (tgt := 18) B dX9_tick_30 (by decide) ?_
  refine z_iload_n B dX9_tick_18 rfl 0 rfl ?_
  refine z_iload_n B dX9_tick_19 rfl 2 rfl ?_
  refine z_icmp_ge (tgt := 33) B dX9_tick_20 (by decide) (fun h => absurd h (by decide)) (fun _ => ?_)
  refine z_aload_n B dX9_tick_23 rfl 1 rfl ?_
  refine z_cVv (As := []) (rest := []) B cw_X9_294 cx_10 dX9_tick_24 (ci_X9_ticks_940 l (σ := (ap b σ [(405, 1, 3), (405, 1, 2), (405, 1, 1), (405, 0, 0)] [] [])) (b := b) (lyA hK) (rI_at 405 1 rfl) (rI_at 405 6 hI_405_6) (rI_at 405 16 hI_405_16)) (lKA (hk_K hK 405 rfl rfl)) rfl (by decide) rfl (Nat.le_of_ble_eq_true rfl) (by decide) (fun u hu => ?_)
  refine z_eqs (σ' := (ap b σ [(405, 1, 4), (405, 1, 3), (405, 1, 2), (405, 1, 1), (405, 0, 0)] [] [])) (hu.trans ap_ap) ?_
  show zx p l e _ s m _ below meth c g 3 0 0 _ _ 27 [(2, .int 3), (0, .ref (b + 405)), (1, .int 36)] _
  refine z_iinc (v := 4) (lv' := [(2, .int 4), (0, .ref (b + 405)), (1, .int 36)]) B dX9_tick_27 0 rfl (by decide) (by decide) rfl ?_
  refine z_goto (tgt := 18) B dX9_tick_30 (by decide) ?_
  refine z_iload_n B dX9_tick_18 rfl 0 rfl ?_
  refine z_iload_n B dX9_tick_19 rfl 2 rfl ?_
  refine z_icmp_ge (tgt := 33) B dX9_tick_20 (by decide) (fun h => absurd h (by decide)) (fun _ => ?_)
  refine z_aload_n B dX9_tick_23 rfl 1 rfl ?_
  refine z_cVv (As := []) (rest := []) B cw_X9_294 cx_10 dX9_tick_24 (ci_X9_ticks_945 l (σ := (ap b σ [(405, 1, 4), (405, 1, 3), (405, 1, 2), (405, 1, 1), (405, 0, 0)] [] [])) (b := b) (lyA hK) (rI_at 405 1 rfl) (rI_at 405 6 hI_405_6) (rI_at 405 16 hI_405_16)) (lKA (hk_K hK 405 rfl rfl)) rfl (by decide) rfl (Nat.le_of_ble_eq_true rfl) (by decide) (fun u hu => ?_)
  refine z_eqs (σ' := (ap b σ [(405, 1, 5), (405, 1, 4), (405, 1, 3), (405, 1, 2), (405, 1, 1), (405, 0, 0)] [] [])) (hu.trans ap_ap) ?_
  show zx p l e _ s m _ below meth c g 3 0 0 _ _ 27 [(2, .int 4), (0, .ref (b + 405)), (1, .int 36)] _
  refine z_iinc (v := 5) (lv' := [(2, .int 5), (0, .ref (b + 405)), (1, .int 36)]) B dX9_tick_27 0 rfl (by decide) (by decide) rfl ?_
  refine z_goto (tgt := 18) B dX9_tick_30 (by decide) ?_
  refine z_iload_n B dX9_tick_18 rfl 0 rfl ?_
  refine z_iload_n B dX9_tick_19 rfl 2 rfl ?_
  refine z_icmp_ge (tgt := 33) B dX9_tick_20 (by decide) (fun h => absurd h (by decide)) (fun _ => ?_)
  refine z_aload_n B dX9_tick_23 rfl 1 rfl ?_
  refine z_cVv (As := []) (rest := []) B cw_X9_294 cx_10 dX9_tick_24 (ci_X9_ticks_950 l (σ := (ap b σ [(405, 1, 5), (405, 1, 4), (405, 1, 3), (405, 1, 2), (405, 1, 1), (405, 0, 0)] [] [])) (b := b) (lyA hK) (rI_at 405 1 rfl) (rI_at 405 6 hI_405_6) (rI_at 405 16 hI_405_16)) (lKA (hk_K hK 405 rfl rfl)) rfl (by decide) rfl (Nat.le_of_ble_eq_true rfl) (by decide) (fun u hu => ?_)
  refine z_eqs (σ' := (ap b σ [(405, 1, 6), (405, 1, 5), (405, 1, 4), (405, 1, 3), (405, 1, 2), (405, 1, 1), (405, 0, 0)] [] [])) (hu.trans ap_ap) ?_
  show zx p l e _ s m _ below meth c g 3 0 0 _ _ 27 [(2, .int 5), (0, .ref (b + 405)), (1, .int 36)] _
  refine z_iinc (v := 6) (lv' := [(2, .int 6), (0, .ref (b + 405)), (1, .int 36)]) B dX9_tick_27 0 rfl (by decide) (by decide) rfl ?_
  refine z_goto (tgt := 18) B dX9_tick_30 (by decide) ?_
  refine z_iload_n B dX9_tick_18 rfl 0 rfl ?_
  refine z_iload_n B dX9_tick_19 rfl 2 rfl ?_
  refine z_icmp_ge (tgt := 33) B dX9_tick_20 (by decide) (fun h => absurd h (by decide)) (fun _ => ?_)
  refine z_aload_n B dX9_tick_23 rfl 1 rfl ?_
  refine z_cVv (As := []) (rest := []) B cw_X9_294 cx_10 dX9_tick_24 (ci_X9_ticks_955 l (σ := (ap b σ [(405, 1, 6), (405, 1, 5), (405, 1, 4), (405, 1, 3), (405, 1, 2), (405, 1, 1), (405, 0, 0)] [] [])) (b := b) (lyA hK) (rI_at 405 1 rfl) (rI_at 405 6 hI_405_6) (rI_at 405 16 hI_405_16)) (lKA (hk_K hK 405 rfl rfl)) rfl (by decide) rfl (Nat.le_of_ble_eq_true rfl) (by decide) (fun u hu => ?_)
  refine z_eqs (σ' := (ap b σ [(405, 1, 7), (405, 1, 6), (405, 1, 5), (405, 1, 4), (405, 1, 3), (405, 1, 2), (405, 1, 1), (405, 0, 0)] [] [])) (hu.trans ap_ap) ?_
  show zx p l e _ s m _ below meth c g 3 0 0 _ _ 27 [(2, .int 6), (0, .ref (b + 405)), (1, .int 36)] _
  refine z_iinc (v := 7) (lv' := [(2, .int 7), (0, .ref (b + 405)), (1, .int 36)]) B dX9_tick_27 0 rfl (by decide) (by decide) rfl ?_
  refine z_goto (tgt := 18) B dX9_tick_30 (by decide) ?_
  refine z_iload_n B dX9_tick_18 rfl 0 rfl ?_
  refine z_iload_n B dX9_tick_19 rfl 2 rfl ?_
  refine z_icmp_ge (tgt := 33) B dX9_tick_20 (by decide) (fun h => absurd h (by decide)) (fun _ => ?_)
  refine z_aload_n B dX9_tick_23 rfl 1 rfl ?_
  refine z_cVv (As := []) (rest := []) B cw_X9_294 cx_10 dX9_tick_24 (ci_X9_ticks_960 l (σ := (ap b σ [(405, 1, 7), (405, 1, 6), (405, 1, 5), (405, 1, 4), (405, 1, 3), (405, 1, 2), (405, 1, 1), (405, 0, 0)] [] [])) (b := b) (lyA hK) (rI_at 405 1 rfl) (rI_at 405 6 hI_405_6) (rI_at 405 16 hI_405_16)) (lKA (hk_K hK 405 rfl rfl)) rfl (by decide) rfl (Nat.le_of_ble_eq_true rfl) (by decide) (fun u hu => ?_)
  refine z_eqs (σ' := (ap b σ [(405, 1, 8), (405, 1, 7), (405, 1, 6), (405, 1, 5), (405, 1, 4), (405, 1, 3), (405, 1, 2), (405, 1, 1), (405, 0, 0)] [] [])) (hu.trans ap_ap) ?_
  show zx p l e _ s m _ below meth c g 3 0 0 _ _ 27 [(2, .int 7), (0, .ref (b + 405)), (1, .int 36)] _
  refine z_iinc (v := 8) (lv' := [(2, .int 8), (0, .ref (b + 405)), (1, .int 36)]) B dX9_tick_27 0 rfl (by decide) (by decide) rfl ?_
  refine z_goto (tgt := 18) B dX9_tick_30 (by decide) ?_
  refine z_iload_n B dX9_tick_18 rfl 0 rfl ?_
  refine z_iload_n B dX9_tick_19 rfl 2 rfl ?_
  refine z_icmp_ge (tgt := 33) B dX9_tick_20 (by decide) (fun h => absurd h (by decide)) (fun _ => ?_)
  refine z_aload_n B dX9_tick_23 rfl 1 rfl ?_
  refine z_cVv (As := []) (rest := []) B cw_X9_294 cx_10 dX9_tick_24 (ci_X9_ticks_965 l (σ := (ap b σ [(405, 1, 8), (405, 1, 7), (405, 1, 6), (405, 1, 5), (405, 1, 4), (405, 1, 3), (405, 1, 2), (405, 1, 1), (405, 0, 0)] [] [])) (b := b) (lyA hK) (rI_at 405 1 rfl) (rI_at 405 6 hI_405_6) (rI_at 405 16 hI_405_16)) (lKA (hk_K hK 405 rfl rfl)) rfl (by decide) rfl (Nat.le_of_ble_eq_true rfl) (by decide) (fun u hu => ?_)
  refine z_eqs (σ' := (ap b σ [(405, 1, 9), (405, 1, 8), (405, 1, 7), (405, 1, 6), (405, 1, 5), (405, 1, 4), (405, 1, 3), (405, 1, 2), (405, 1, 1), (405, 0, 0)] [] [])) (hu.trans ap_ap) ?_
  show zx p l e _ s m _ below meth c g 3 0 0 _ _ 27 [(2, .int 8), (0, .ref (b + 405)), (1, .int 36)] _
  refine z_iinc (v := 9) (lv' := [(2, .int 9), (0, .ref (b + 405)), (1, .int 36)]) B dX9_tick_27 0 rfl (by decide) (by decide) rfl ?_
  refine z_goto (tgt := 18) B dX9_tick_30 (by decide) ?_
  refine z_iload_n B dX9_tick_18 rfl 0 rfl ?_
  refine z_iload_n B dX9_tick_19 rfl 2 rfl ?_
  refine z_icmp_ge (tgt := 33) B dX9_tick_20 (by decide) (fun h => absurd h (by decide)) (fun _ => ?_)
  refine z_aload_n B dX9_tick_23 rfl 1 rfl ?_
  refine z_cVv (As := []) (rest := []) B cw_X9_294 cx_10 dX9_tick_24 (ci_X9_ticks_970 l (σ := (ap b σ [(405, 1, 9), (405, 1, 8), (405, 1, 7), (405, 1, 6), (405, 1, 5), (405, 1, 4), (405, 1, 3), (405, 1, 2), (405, 1, 1), (405, 0, 0)] [] [])) (b := b) (lyA hK) (rI_at 405 1 rfl) (rI_at 405 6 hI_405_6) (rI_at 405 16 hI_405_16)) (lKA (hk_K hK 405 rfl rfl)) rfl (by decide) rfl (Nat.le_of_ble_eq_true rfl) (by decide) (fun u hu => ?_)
  refine z_eqs (σ' := (ap b σ [(405, 1, 10), (405, 1, 9), (405, 1, 8), (405, 1, 7), (405, 1, 6), (405, 1, 5), (405, 1, 4), (405, 1, 3), (405, 1, 2), (405, 1, 1), (405, 0, 0)] [] [])) (hu.trans ap_ap) ?_
  show zx p l e _ s m _ below meth c g 3 0 0 _ _ 27 [(2, .int 9), (0, .ref (b + 405)), (1, .int 36)] _
  refine z_iinc (v := 10) (lv' := [(2, .int 10), (0, .ref (b + 405)), (1, .int 36)]) B dX9_tick_27 0 rfl (by decide) (by decide) rfl ?_
  refine z_goto (tgt := 18) B dX9_tick_30 (by decide) ?_
  refine z_iload_n B dX9_tick_18 rfl 0 rfl ?_
  refine z_iload_n B dX9_tick_19 rfl 2 rfl ?_
  refine z_icmp_ge (tgt := 33) B dX9_tick_20 (by decide) (fun h => absurd h (by decide)) (fun _ => ?_)
  refine z_aload_n B dX9_tick_23 rfl 1 rfl ?_
  refine z_cVv (As := []) (rest := []) B cw_X9_294 cx_10 dX9_tick_24 (ci_X9_ticks_975 l (σ := (ap b σ [(405, 1, 10), (405, 1, 9), (405, 1, 8), (405, 1, 7), (405, 1, 6), (405, 1, 5), (405, 1, 4), (405, 1, 3), (405, 1, 2), (405, 1, 1), (405, 0, 0)] [] [])) (b := b) (lyA hK) (rI_at 405 1 rfl) (rI_at 405 6 hI_405_6) (rI_at 405 16 hI_405_16)) (lKA (hk_K hK 405 rfl rfl)) rfl (by decide) rfl (Nat.le_of_ble_eq_true rfl) (by decide) (fun u hu => ?_)
  refine z_eqs (σ' := (ap b σ [(405, 1, 11), (405, 1, 10), (405, 1, 9), (405, 1, 8), (405, 1, 7), (405, 1, 6), (405, 1, 5), (405, 1, 4), (405, 1, 3), (405, 1, 2), (405, 1, 1), (405, 0, 0)] [] [])) (hu.trans ap_ap) ?_
  show zx p l e _ s m _ below meth c g 3 0 0 _ _ 27 [(2, .int 10), (0, .ref (b + 405)), (1, .int 36)] _
  refine z_iinc (v := 11) (lv' := [(2, .int 11), (0, .ref (b + 405)), (1, .int 36)]) B dX9_tick_27 0 rfl (by decide) (by decide) rfl ?_
  refine z_goto (tgt := 18) B dX9_tick_30 (by decide) ?_
  refine z_iload_n B dX9_tick_18 rfl 0 rfl ?_
  refine z_iload_n B dX9_tick_19 rfl 2 rfl ?_
  refine z_icmp_ge (tgt := 33) B dX9_tick_20 (by decide) (fun h => absurd h (by decide)) (fun _ => ?_)
  refine z_aload_n B dX9_tick_23 rfl 1 rfl ?_
  refine z_cVv (As := []) (rest := []) B cw_X9_294 cx_10 dX9_tick_24 (ci_X9_ticks_980 l (σ := (ap b σ [(405, 1, 11), (405, 1, 10), (405, 1, 9), (405, 1, 8), (405, 1, 7), (405, 1, 6), (405, 1, 5), (405, 1, 4), (405, 1, 3), (405, 1, 2), (405, 1, 1), (405, 0, 0)] [] [])) (b := b) (lyA hK) (rI_at 405 1 rfl) (rI_at 405 6 hI_405_6) (rI_at 405 16 hI_405_16)) (lKA (hk_K hK 405 rfl rfl)) rfl (by decide) rfl (Nat.le_of_ble_eq_true rfl) (by decide) (fun u hu => ?_)
  refine z_eqs (σ' := (ap b σ [(405, 1, 12), (405, 1, 11), (405, 1, 10), (405, 1, 9), (405, 1, 8), (405, 1, 7), (405, 1, 6), (405, 1, 5), (405, 1, 4), (405, 1, 3), (405, 1, 2), (405, 1, 1), (405, 0, 0)] [] [])) (hu.trans ap_ap) ?_
  show zx p l e _ s m _ below meth c g 3 0 0 _ _ 27 [(2, .int 11), (0, .ref (b + 405)), (1, .int 36)] _
  refine z_iinc (v := 12) (lv' := [(2, .int 12), (0, .ref (b + 405)), (1, .int 36)]) B dX9_tick_27 0 rfl (by decide) (by decide) rfl ?_
  refine z_goto (tgt := 18) B dX9_tick_30 (by decide) ?_
  refine z_iload_n B dX9_tick_18 rfl 0 rfl ?_
  refine z_iload_n B dX9_tick_19 rfl 2 rfl ?_
  refine z_icmp_ge (tgt := 33) B dX9_tick_20 (by decide) (fun h => absurd h (by decide)) (fun _ => ?_)
  refine z_aload_n B dX9_tick_23 rfl 1 rfl ?_
  refine z_cVv (As := []) (rest := []) B cw_X9_294 cx_10 dX9_tick_24 (ci_X9_ticks_985 l (σ := (ap b σ [(405, 1, 12), (405, 1, 11), (405, 1, 10), (405, 1, 9), (405, 1, 8), (405, 1, 7), (405, 1, 6), (405, 1, 5), (405, 1, 4), (405, 1, 3), (405, 1, 2), (405, 1, 1), (405, 0, 0)] [] [])) (b := b) (lyA hK) (rI_at 405 1 rfl) (rI_at 405 6 hI_405_6) (rI_at 405 16 hI_405_16)) (lKA (hk_K hK 405 rfl rfl)) rfl (by decide) rfl (Nat.le_of_ble_eq_true rfl) (by decide) (fun u hu => ?_)
  refine z_eqs (σ' := (ap b σ [(405, 1, 13), (405, 1, 12), (405, 1, 11), (405, 1, 10), (405, 1, 9), (405, 1, 8), (405, 1, 7), (405, 1, 6), (405, 1, 5), (405, 1, 4), (405, 1, 3), (405, 1, 2), (405, 1, 1), (405, 0, 0)] [] [])) (hu.trans ap_ap) ?_
  show zx p l e _ s m _ below meth c g 3 0 0 _ _ 27 [(2, .int 12), (0, .ref (b + 405)), (1, .int 36)] _
  refine z_iinc (v := 13) (lv' := [(2, .int 13), (0, .ref (b + 405)), (1, .int 36)]) B dX9_tick_27 0 rfl (by decide) (by decide) rfl ?_
  refine z_goto (tgt := 18) B dX9_tick_30 (by decide) ?_
  refine z_iload_n B dX9_tick_18 rfl 0 rfl ?_
  refine z_iload_n B dX9_tick_19 rfl 2 rfl ?_
  refine z_icmp_ge (tgt := 33) B dX9_tick_20 (by decide) (fun h => absurd h (by decide)) (fun _ => ?_)
  refine z_aload_n B dX9_tick_23 rfl 1 rfl ?_
  refine z_cVv (As := []) (rest := []) B cw_X9_294 cx_10 dX9_tick_24 (ci_X9_ticks_990 l (σ := (ap b σ [(405, 1, 13), (405, 1, 12), (405, 1, 11), (405, 1, 10), (405, 1, 9), (405, 1, 8), (405, 1, 7), (405, 1, 6), (405, 1, 5), (405, 1, 4), (405, 1, 3), (405, 1, 2), (405, 1, 1), (405, 0, 0)] [] [])) (b := b) (lyA hK) (rI_at 405 1 rfl) (rI_at 405 6 hI_405_6) (rI_at 405 16 hI_405_16)) (lKA (hk_K hK 405 rfl rfl)) rfl (by decide) rfl (Nat.le_of_ble_eq_true rfl) (by decide) (fun u hu => ?_)
  refine z_eqs (σ' := (ap b σ [(405, 1, 14), (405, 1, 13), (405, 1, 12), (405, 1, 11), (405, 1, 10), (405, 1, 9), (405, 1, 8), (405, 1, 7), (405, 1, 6), (405, 1, 5), (405, 1, 4), (405, 1, 3), (405, 1, 2), (405, 1, 1), (405, 0, 0)] [] [])) (hu.trans ap_ap) ?_
  show zx p l e _ s m _ below meth c g 3 0 0 _ _ 27 [(2, .int 13), (0, .ref (b + 405)), (1, .int 36)] _
  refine z_iinc (v := 14) (lv' := [(2, .int 14), (0, .ref (b + 405)), (1, .int 36)]) B dX9_tick_27 0 rfl (by decide) (by decide) rfl ?_
  refine z_goto (tgt := 18) B dX9_tick_30 (by decide) ?_
  refine z_iload_n B dX9_tick_18 rfl 0 rfl ?_
  refine z_iload_n B dX9_tick_19 rfl 2 rfl ?_
  refine z_icmp_ge (tgt := 33) B dX9_tick_20 (by decide) (fun h => absurd h (by decide)) (fun _ => ?_)
  refine z_aload_n B dX9_tick_23 rfl 1 rfl ?_
  refine z_cVv (As := []) (rest := []) B cw_X9_294 cx_10 dX9_tick_24 (ci_X9_ticks_995 l (σ := (ap b σ [(405, 1, 14), (405, 1, 13), (405, 1, 12), (405, 1, 11), (405, 1, 10), (405, 1, 9), (405, 1, 8), (405, 1, 7), (405, 1, 6), (405, 1, 5), (405, 1, 4), (405, 1, 3), (405, 1, 2), (405, 1, 1), (405, 0, 0)] [] [])) (b := b) (lyA hK) (rI_at 405 1 rfl) (rI_at 405 6 hI_405_6) (rI_at 405 16 hI_405_16)) (lKA (hk_K hK 405 rfl rfl)) rfl (by decide) rfl (Nat.le_of_ble_eq_true rfl) (by decide) (fun u hu => ?_)
  refine z_eqs (σ' := (ap b σ [(405, 1, 15), (405, 1, 14), (405, 1, 13), (405, 1, 12), (405, 1, 11), (405, 1, 10), (405, 1, 9), (405, 1, 8), (405, 1, 7), (405, 1, 6), (405, 1, 5), (405, 1, 4), (405, 1, 3), (405, 1, 2), (405, 1, 1), (405, 0, 0)] [] [])) (hu.trans ap_ap) ?_
  show zx p l e _ s m _ below meth c g 3 0 0 _ _ 27 [(2, .int 14), (0, .ref (b + 405)), (1, .int 36)] _
  refine z_iinc (v := 15) (lv' := [(2, .int 15), (0, .ref (b + 405)), (1, .int 36)]) B dX9_tick_27 0 rfl (by decide) (by decide) rfl ?_
  refine z_goto (tgt := 18) B dX9_tick_30 (by decide) ?_
  refine z_iload_n B dX9_tick_18 rfl 0 rfl ?_
  refine z_iload_n B dX9_tick_19 rfl 2 rfl ?_
  refine z_icmp_ge (tgt := 33) B dX9_tick_20 (by decide) (fun h => absurd h (by decide)) (fun _ => ?_)
  refine z_aload_n B dX9_tick_23 rfl 1 rfl ?_
  refine z_cVv (As := []) (rest := []) B cw_X9_294 cx_10 dX9_tick_24 (ci_X9_ticks_1000 l (σ := (ap b σ [(405, 1, 15), (405, 1, 14), (405, 1, 13), (405, 1, 12), (405, 1, 11), (405, 1, 10), (405, 1, 9), (405, 1, 8), (405, 1, 7), (405, 1, 6), (405, 1, 5), (405, 1, 4), (405, 1, 3), (405, 1, 2), (405, 1, 1), (405, 0, 0)] [] [])) (b := b) (lyA hK) (rI_at 405 1 rfl) (rI_at 405 6 hI_405_6) (rI_at 405 16 hI_405_16)) (lKA (hk_K hK 405 rfl rfl)) rfl (by decide) rfl (Nat.le_of_ble_eq_true rfl) (by decide) (fun u hu => ?_)
  refine z_eqs (σ' := (ap b σ [(405, 1, 16), (405, 1, 15), (405, 1, 14), (405, 1, 13), (405, 1, 12), (405, 1, 11), (405, 1, 10), (405, 1, 9), (405, 1, 8), (405, 1, 7), (405, 1, 6), (405, 1, 5), (405, 1, 4), (405, 1, 3), (405, 1, 2), (405, 1, 1), (405, 0, 0)] [] [])) (hu.trans ap_ap) ?_
  show zx p l e _ s m _ below meth c g 3 0 0 _ _ 27 [(2, .int 15), (0, .ref (b + 405)), (1, .int 36)] _
  refine z_iinc (v := 16) (lv' := [(2, .int 16), (0, .ref (b + 405)), (1, .int 36)]) B dX9_tick_27 0 rfl (by decide) (by decide) rfl ?_
  refine z_goto (tgt := 18) B dX9_tick_30 (by decide) ?_
  refine z_iload_n B dX9_tick_18 rfl 0 rfl ?_
  refine z_iload_n B dX9_tick_19 rfl 2 rfl ?_
  refine z_icmp_ge (tgt := 33) B dX9_tick_20 (by decide) (fun h => absurd h (by decide)) (fun _ => ?_)
  refine z_aload_n B dX9_tick_23 rfl 1 rfl ?_
  refine z_cVv (As := []) (rest := []) B cw_X9_294 cx_10 dX9_tick_24 (ci_X9_ticks_1005 l (σ := (ap b σ [(405, 1, 16), (405, 1, 15), (405, 1, 14), (405, 1, 13), (405, 1, 12), (405, 1, 11), (405, 1, 10), (405, 1, 9), (405, 1, 8), (405, 1, 7), (405, 1, 6), (405, 1, 5), (405, 1, 4), (405, 1, 3), (405, 1, 2), (405, 1, 1), (405, 0, 0)] [] [])) (b := b) (lyA hK) (rI_at 405 1 rfl) (rI_at 405 6 hI_405_6) (rI_at 405 16 hI_405_16)) (lKA (hk_K hK 405 rfl rfl)) rfl (by decide) rfl (Nat.le_of_ble_eq_true rfl) (by decide) (fun u hu => ?_)
  refine z_eqs (σ' := (ap b σ [(405, 1, 17), (405, 1, 16), (405, 1, 15), (405, 1, 14), (405, 1, 13), (405, 1, 12), (405, 1, 11), (405, 1, 10), (405, 1, 9), (405, 1, 8), (405, 1, 7), (405, 1, 6), (405, 1, 5), (405, 1, 4), (405, 1, 3), (405, 1, 2), (405, 1, 1), (405, 0, 0)] [] [])) (hu.trans ap_ap) ?_
  show zx p l e _ s m _ below meth c g 3 0 0 _ _ 27 [(2, .int 16), (0, .ref (b + 405)), (1, .int 36)] _
  refine z_iinc (v := 17) (lv' := [(2, .int 17), (0, .ref (b + 405)), (1, .int 36)]) B dX9_tick_27 0 rfl (by decide) (by decide) rfl ?_
  refine z_goto (tgt := 18) B dX9_tick_30 (by decide) ?_
  refine z_iload_n B dX9_tick_18 rfl 0 rfl ?_
  refine z_iload_n B dX9_tick_19 rfl 2 rfl ?_
  refine z_icmp_ge (tgt := 33) B dX9_tick_20 (by decide) (fun h => absurd h (by decide)) (fun _ => ?_)
  refine z_aload_n B dX9_tick_23 rfl 1 rfl ?_
  refine z_cVv (As := []) (rest := []) B cw_X9_294 cx_10 dX9_tick_24 (ci_X9_ticks_1010 l (σ := (ap b σ [(405, 1, 17), (405, 1, 16), (405, 1, 15), (405, 1, 14), (405, 1, 13), (405, 1, 12), (405, 1, 11), (405, 1, 10), (405, 1, 9), (405, 1, 8), (405, 1, 7), (405, 1, 6), (405, 1, 5), (405, 1, 4), (405, 1, 3), (405, 1, 2), (405, 1, 1), (405, 0, 0)] [] [])) (b := b) (lyA hK) (rI_at 405 1 rfl) (rI_at 405 6 hI_405_6) (rI_at 405 16 hI_405_16)) (lKA (hk_K hK 405 rfl rfl)) rfl (by decide) rfl (Nat.le_of_ble_eq_true rfl) (by decide) (fun u hu => ?_)
  refine z_eqs (σ' := (ap b σ [(405, 1, 18), (405, 1, 17), (405, 1, 16), (405, 1, 15), (405, 1, 14), (405, 1, 13), (405, 1, 12), (405, 1, 11), (405, 1, 10), (405, 1, 9), (405, 1, 8), (405, 1, 7), (405, 1, 6), (405, 1, 5), (405, 1, 4), (405, 1, 3), (405, 1, 2), (405, 1, 1), (405, 0, 0)] [] [])) (hu.trans ap_ap) ?_
  show zx p l e _ s m _ below meth c g 3 0 0 _ _ 27 [(2, .int 17), (0, .ref (b + 405)), (1, .int 36)] _
  refine z_iinc (v := 18) (lv' := [(2, .int 18), (0, .ref (b + 405)), (1, .int 36)]) B dX9_tick_27 0 rfl (by decide) (by decide) rfl ?_
  refine z_goto (tgt := 18) B dX9_tick_30 (by decide) ?_
  refine z_iload_n B dX9_tick_18 rfl 0 rfl ?_
  refine z_iload_n B dX9_tick_19 rfl 2 rfl ?_
  refine z_icmp_ge (tgt := 33) B dX9_tick_20 (by decide) (fun h => absurd h (by decide)) (fun _ => ?_)
  refine z_aload_n B dX9_tick_23 rfl 1 rfl ?_
  refine z_cVv (As := []) (rest := []) B cw_X9_294 cx_10 dX9_tick_24 (ci_X9_ticks_1015 l (σ := (ap b σ [(405, 1, 18), (405, 1, 17), (405, 1, 16), (405, 1, 15), (405, 1, 14), (405, 1, 13), (405, 1, 12), (405, 1, 11), (405, 1, 10), (405, 1, 9), (405, 1, 8), (405, 1, 7), (405, 1, 6), (405, 1, 5), (405, 1, 4), (405, 1, 3), (405, 1, 2), (405, 1, 1), (405, 0, 0)] [] [])) (b := b) (lyA hK) (rI_at 405 1 rfl) (rI_at 405 6 hI_405_6) (rI_at 405 16 hI_405_16)) (lKA (hk_K hK 405 rfl rfl)) rfl (by decide) rfl (Nat.le_of_ble_eq_true rfl) (by decide) (fun u hu => ?_)
  refine z_eqs (σ' := (ap b σ [(405, 1, 19), (405, 1, 18), (405, 1, 17), (405, 1, 16), (405, 1, 15), (405, 1, 14), (405, 1, 13), (405, 1, 12), (405, 1, 11), (405, 1, 10), (405, 1, 9), (405, 1, 8), (405, 1, 7), (405, 1, 6), (405, 1, 5), (405, 1, 4), (405, 1, 3), (405, 1, 2), (405, 1, 1), (405, 0, 0)] [] [])) (hu.trans ap_ap) ?_
  show zx p l e _ s m _ below meth c g 3 0 0 _ _ 27 [(2, .int 18), (0, .ref (b + 405)), (1, .int 36)] _
  refine z_iinc (v := 19) (lv' := [(2, .int 19), (0, .ref (b + 405)), (1, .int 36)]) B dX9_tick_27 0 rfl (by decide) (by decide) rfl ?_
  refine z_goto (tgt := 18) B dX9_tick_30 (by decide) ?_
  refine z_iload_n B dX9_tick_18 rfl 0 rfl ?_
  refine z_iload_n B dX9_tick_19 rfl 2 rfl ?_
  refine z_icmp_ge (tgt := 33) B dX9_tick_20 (by decide) (fun h => absurd h (by decide)) (fun _ => ?_)
  refine z_aload_n B dX9_tick_23 rfl 1 rfl ?_
  refine z_cVv (As := []) (rest := []) B cw_X9_294 cx_10 dX9_tick_24 (ci_X9_ticks_1020 l (σ := (ap b σ [(405, 1, 19), (405, 1, 18), (405, 1, 17), (405, 1, 16), (405, 1, 15), (405, 1, 14), (405, 1, 13), (405, 1, 12), (405, 1, 11), (405, 1, 10), (405, 1, 9), (405, 1, 8), (405, 1, 7), (405, 1, 6), (405, 1, 5), (405, 1, 4), (405, 1, 3), (405, 1, 2), (405, 1, 1), (405, 0, 0)] [] [])) (b := b) (lyA hK) (rI_at 405 1 rfl) (rI_at 405 6 hI_405_6) (rI_at 405 16 hI_405_16)) (lKA (hk_K hK 405 rfl rfl)) rfl (by decide) rfl (Nat.le_of_ble_eq_true rfl) (by decide) (fun u hu => ?_)
  refine z_eqs (σ' := (ap b σ [(405, 1, 20), (405, 1, 19), (405, 1, 18), (405, 1, 17), (405, 1, 16), (405, 1, 15), (405, 1, 14), (405, 1, 13), (405, 1, 12), (405, 1, 11), (405, 1, 10), (405, 1, 9), (405, 1, 8), (405, 1, 7), (405, 1, 6), (405, 1, 5), (405, 1, 4), (405, 1, 3), (405, 1, 2), (405, 1, 1), (405, 0, 0)] [] [])) (hu.trans ap_ap) ?_
  show zx p l e _ s m _ below meth c g 3 0 0 _ _ 27 [(2, .int 19), (0, .ref (b + 405)), (1, .int 36)] _
  refine z_iinc (v := 20) (lv' := [(2, .int 20), (0, .ref (b + 405)), (1, .int 36)]) B dX9_tick_27 0 rfl (by decide) (by decide) rfl ?_
  refine z_goto (tgt := 18) B dX9_tick_30 (by decide) ?_
  refine z_iload_n B dX9_tick_18 rfl 0 rfl ?_
  refine z_iload_n B dX9_tick_19 rfl 2 rfl ?_
  refine z_icmp_ge (tgt := 33) B dX9_tick_20 (by decide) (fun h => absurd h (by decide)) (fun _ => ?_)
  refine z_aload_n B dX9_tick_23 rfl 1 rfl ?_
  refine z_cVv (As := []) (rest := []) B cw_X9_294 cx_10 dX9_tick_24 (ci_X9_ticks_1025 l (σ := (ap b σ [(405, 1, 20), (405, 1, 19), (405, 1, 18), (405, 1, 17), (405, 1, 16), (405, 1, 15), (405, 1, 14), (405, 1, 13), (405, 1, 12), (405, 1, 11), (405, 1, 10), (405, 1, 9), (405, 1, 8), (405, 1, 7), (405, 1, 6), (405, 1, 5), (405, 1, 4), (405, 1, 3), (405, 1, 2), (405, 1, 1), (405, 0, 0)] [] [])) (b := b) (lyA hK) (rI_at 405 1 rfl) (rI_at 405 6 hI_405_6) (rI_at 405 16 hI_405_16)) (lKA (hk_K hK 405 rfl rfl)) rfl (by decide) rfl (Nat.le_of_ble_eq_true rfl) (by decide) (fun u hu => ?_)
  refine z_eqs (σ' := (ap b σ [(405, 1, 21), (405, 1, 20), (405, 1, 19), (405, 1, 18), (405, 1, 17), (405, 1, 16), (405, 1, 15), (405, 1, 14), (405, 1, 13), (405, 1, 12), (405, 1, 11), (405, 1, 10), (405, 1, 9), (405, 1, 8), (405, 1, 7), (405, 1, 6), (405, 1, 5), (405, 1, 4), (405, 1, 3), (405, 1, 2), (405, 1, 1), (405, 0, 0)] [] [])) (hu.trans ap_ap) ?_
  show zx p l e _ s m _ below meth c g 3 0 0 _ _ 27 [(2, .int 20), (0, .ref (b + 405)), (1, .int 36)] _
  refine z_iinc (v := 21) (lv' := [(2, .int 21), (0, .ref (b + 405)), (1, .int 36)]) B dX9_tick_27 0 rfl (by decide) (by decide) rfl ?_
  refine z_goto (tgt := 18) B dX9_tick_30 (by decide) ?_
  refine z_iload_n B dX9_tick_18 rfl 0 rfl ?_
  refine z_iload_n B dX9_tick_19 rfl 2 rfl ?_
  refine z_icmp_ge (tgt := 33) B dX9_tick_20 (by decide) (fun h => absurd h (by decide)) (fun _ => ?_)
  refine z_aload_n B dX9_tick_23 rfl 1 rfl ?_
  refine z_cVv (As := []) (rest := []) B cw_X9_294 cx_10 dX9_tick_24 (ci_X9_ticks_1030 l (σ := (ap b σ [(405, 1, 21), (405, 1, 20), (405, 1, 19), (405, 1, 18), (405, 1, 17), (405, 1, 16), (405, 1, 15), (405, 1, 14), (405, 1, 13), (405, 1, 12), (405, 1, 11), (405, 1, 10), (405, 1, 9), (405, 1, 8), (405, 1, 7), (405, 1, 6), (405, 1, 5), (405, 1, 4), (405, 1, 3), (405, 1, 2), (405, 1, 1), (405, 0, 0)] [] [])) (b := b) (lyA hK) (rI_at 405 1 rfl) (rI_at 405 6 hI_405_6) (rI_at 405 16 hI_405_16)) (lKA (hk_K hK 405 rfl rfl)) rfl (by decide) rfl (Nat.le_of_ble_eq_true rfl) (by decide) (fun u hu => ?_)
  refine z_eqs (σ' := (ap b σ [(405, 1, 22), (405, 1, 21), (405, 1, 20), (405, 1, 19), (405, 1, 18), (405, 1, 17), (405, 1, 16), (405, 1, 15), (405, 1, 14), (405, 1, 13), (405, 1, 12), (405, 1, 11), (405, 1, 10), (405, 1, 9), (405, 1, 8), (405, 1, 7), (405, 1, 6), (405, 1, 5), (405, 1, 4), (405, 1, 3), (405, 1, 2), (405, 1, 1), (405, 0, 0)] [] [])) (hu.trans ap_ap) ?_
  show zx p l e _ s m _ below meth c g 3 0 0 _ _ 27 [(2, .int 21), (0, .ref (b + 405)), (1, .int 36)] _
  refine z_iinc (v := 22) (lv' := [(2, .int 22), (0, .ref (b + 405)), (1, .int 36)]) B dX9_tick_27 0 rfl (by decide) (by decide) rfl ?_
  refine z_goto (tgt := 18) B dX9_tick_30 (by decide) ?_
  refine z_iload_n B dX9_tick_18 rfl 0 rfl ?_
  refine z_iload_n B dX9_tick_19 rfl 2 rfl ?_
  refine z_icmp_ge (tgt := 33) B dX9_tick_20 (by decide) (fun h => absurd h (by decide)) (fun _ => ?_)
  refine z_aload_n B dX9_tick_23 rfl 1 rfl ?_
  refine z_cVv (As := []) (rest := []) B cw_X9_294 cx_10 dX9_tick_24 (ci_X9_ticks_1035 l (σ := (ap b σ [(405, 1, 22), (405, 1, 21), (405, 1, 20), (405, 1, 19), (405, 1, 18), (405, 1, 17), (405, 1, 16), (405, 1, 15), (405, 1, 14), (405, 1, 13), (405, 1, 12), (405, 1, 11), (405, 1, 10), (405, 1, 9), (405, 1, 8), (405, 1, 7), (405, 1, 6), (405, 1, 5), (405, 1, 4), (405, 1, 3), (405, 1, 2), (405, 1, 1), (405, 0, 0)] [] [])) (b := b) (lyA hK) (rI_at 405 1 rfl) (rI_at 405 6 hI_405_6) (rI_at 405 16 hI_405_16)) (lKA (hk_K hK 405 rfl rfl)) rfl (by decide) rfl (Nat.le_of_ble_eq_true rfl) (by decide) (fun u hu => ?_)
  refine z_eqs (σ' := (ap b σ [(405, 1, 23), (405, 1, 22), (405, 1, 21), (405, 1, 20), (405, 1, 19), (405, 1, 18), (405, 1, 17), (405, 1, 16), (405, 1, 15), (405, 1, 14), (405, 1, 13), (405, 1, 12), (405, 1, 11), (405, 1, 10), (405, 1, 9), (405, 1, 8), (405, 1, 7), (405, 1, 6), (405, 1, 5), (405, 1, 4), (405, 1, 3), (405, 1, 2), (405, 1, 1), (405, 0, 0)] [] [])) (hu.trans ap_ap) ?_
  show zx p l e _ s m _ below meth c g 3 0 0 _ _ 27 [(2, .int 22), (0, .ref (b + 405)), (1, .int 36)] _
  refine z_iinc (v := 23) (lv' := [(2, .int 23), (0, .ref (b + 405)), (1, .int 36)]) B dX9_tick_27 0 rfl (by decide) (by decide) rfl ?_
  refine z_goto (tgt := 18) B dX9_tick_30 (by decide) ?_
  refine z_iload_n B dX9_tick_18 rfl 0 rfl ?_
  refine z_iload_n B dX9_tick_19 rfl 2 rfl ?_
  refine z_icmp_ge (tgt := 33) B dX9_tick_20 (by decide) (fun h => absurd h (by decide)) (fun _ => ?_)
  refine z_aload_n B dX9_tick_23 rfl 1 rfl ?_
  refine z_cVv (As := []) (rest := []) B cw_X9_294 cx_10 dX9_tick_24 (ci_X9_ticks_1040 l (σ := (ap b σ [(405, 1, 23), (405, 1, 22), (405, 1, 21), (405, 1, 20), (405, 1, 19), (405, 1, 18), (405, 1, 17), (405, 1, 16), (405, 1, 15), (405, 1, 14), (405, 1, 13), (405, 1, 12), (405, 1, 11), (405, 1, 10), (405, 1, 9), (405, 1, 8), (405, 1, 7), (405, 1, 6), (405, 1, 5), (405, 1, 4), (405, 1, 3), (405, 1, 2), (405, 1, 1), (405, 0, 0)] [] [])) (b := b) (lyA hK) (rI_at 405 1 rfl) (rI_at 405 6 hI_405_6) (rI_at 405 16 hI_405_16)) (lKA (hk_K hK 405 rfl rfl)) rfl (by decide) rfl (Nat.le_of_ble_eq_true rfl) (by decide) (fun u hu => ?_)
  refine z_eqs (σ' := (ap b σ [(405, 1, 24), (405, 1, 23), (405, 1, 22), (405, 1, 21), (405, 1, 20), (405, 1, 19), (405, 1, 18), (405, 1, 17), (405, 1, 16), (405, 1, 15), (405, 1, 14), (405, 1, 13), (405, 1, 12), (405, 1, 11), (405, 1, 10), (405, 1, 9), (405, 1, 8), (405, 1, 7), (405, 1, 6), (405, 1, 5), (405, 1, 4), (405, 1, 3), (405, 1, 2), (405, 1, 1), (405, 0, 0)] [] [])) (hu.trans ap_ap) ?_
  show zx p l e _ s m _ below meth c g 3 0 0 _ _ 27 [(2, .int 23), (0, .ref (b + 405)), (1, .int 36)] _
  refine z_iinc (v := 24) (lv' := [(2, .int 24), (0, .ref (b + 405)), (1, .int 36)]) B dX9_tick_27 0 rfl (by decide) (by decide) rfl ?_
  refine z_goto (tgt := 18) B dX9_tick_30 (by decide) ?_
  refine z_iload_n B dX9_tick_18 rfl 0 rfl ?_
  refine z_iload_n B dX9_tick_19 rfl 2 rfl ?_
  refine z_icmp_ge (tgt := 33) B dX9_tick_20 (by decide) (fun h => absurd h (by decide)) (fun _ => ?_)
  refine z_aload_n B dX9_tick_23 rfl 1 rfl ?_
  refine z_cVv (As := []) (rest := []) B cw_X9_294 cx_10 dX9_tick_24 (ci_X9_ticks_1045 l (σ := (ap b σ [(405, 1, 24), (405, 1, 23), (405, 1, 22), (405, 1, 21), (405, 1, 20), (405, 1, 19), (405, 1, 18), (405, 1, 17), (405, 1, 16), (405, 1, 15), (405, 1, 14), (405, 1, 13), (405, 1, 12), (405, 1, 11), (405, 1, 10), (405, 1, 9), (405, 1, 8), (405, 1, 7), (405, 1, 6), (405, 1, 5), (405, 1, 4), (405, 1, 3), (405, 1, 2), (405, 1, 1), (405, 0, 0)] [] [])) (b := b) (lyA hK) (rI_at 405 1 rfl) (rI_at 405 6 hI_405_6) (rI_at 405 16 hI_405_16)) (lKA (hk_K hK 405 rfl rfl)) rfl (by decide) rfl (Nat.le_of_ble_eq_true rfl) (by decide) (fun u hu => ?_)
  refine z_eqs (σ' := (ap b σ [(405, 1, 25), (405, 1, 24), (405, 1, 23), (405, 1, 22), (405, 1, 21), (405, 1, 20), (405, 1, 19), (405, 1, 18), (405, 1, 17), (405, 1, 16), (405, 1, 15), (405, 1, 14), (405, 1, 13), (405, 1, 12), (405, 1, 11), (405, 1, 10), (405, 1, 9), (405, 1, 8), (405, 1, 7), (405, 1, 6), (405, 1, 5), (405, 1, 4), (405, 1, 3), (405, 1, 2), (405, 1, 1), (405, 0, 0)] [] [])) (hu.trans ap_ap) ?_
  show zx p l e _ s m _ below meth c g 3 0 0 _ _ 27 [(2, .int 24), (0, .ref (b + 405)), (1, .int 36)] _
  refine z_iinc (v := 25) (lv' := [(2, .int 25), (0, .ref (b + 405)), (1, .int 36)]) B dX9_tick_27 0 rfl (by decide) (by decide) rfl ?_
  refine z_goto (tgt := 18) B dX9_tick_30 (by decide) ?_
  refine z_iload_n B dX9_tick_18 rfl 0 rfl ?_
  refine z_iload_n B dX9_tick_19 rfl 2 rfl ?_
  refine z_icmp_ge (tgt := 33) B dX9_tick_20 (by decide) (fun h => absurd h (by decide)) (fun _ => ?_)
  refine z_aload_n B dX9_tick_23 rfl 1 rfl ?_
  refine z_cVv (As := []) (rest := []) B cw_X9_294 cx_10 dX9_tick_24 (ci_X9_ticks_1050 l (σ := (ap b σ [(405, 1, 25), (405, 1, 24), (405, 1, 23), (405, 1, 22), (405, 1, 21), (405, 1, 20), (405, 1, 19), (405, 1, 18), (405, 1, 17), (405, 1, 16), (405, 1, 15), (405, 1, 14), (405, 1, 13), (405, 1, 12), (405, 1, 11), (405, 1, 10), (405, 1, 9), (405, 1, 8), (405, 1, 7), (405, 1, 6), (405, 1, 5), (405, 1, 4), (405, 1, 3), (405, 1, 2), (405, 1, 1), (405, 0, 0)] [] [])) (b := b) (lyA hK) (rI_at 405 1 rfl) (rI_at 405 6 hI_405_6) (rI_at 405 16 hI_405_16)) (lKA (hk_K hK 405 rfl rfl)) rfl (by decide) rfl (Nat.le_of_ble_eq_true rfl) (by decide) (fun u hu => ?_)
  refine z_eqs (σ' := (ap b σ [(405, 1, 26), (405, 1, 25), (405, 1, 24), (405, 1, 23), (405, 1, 22), (405, 1, 21), (405, 1, 20), (405, 1, 19), (405, 1, 18), (405, 1, 17), (405, 1, 16), (405, 1, 15), (405, 1, 14), (405, 1, 13), (405, 1, 12), (405, 1, 11), (405, 1, 10), (405, 1, 9), (405, 1, 8), (405, 1, 7), (405, 1, 6), (405, 1, 5), (405, 1, 4), (405, 1, 3), (405, 1, 2), (405, 1, 1), (405, 0, 0)] [] [])) (hu.trans ap_ap) ?_
  show zx p l e _ s m _ below meth c g 3 0 0 _ _ 27 [(2, .int 25), (0, .ref (b + 405)), (1, .int 36)] _
  refine z_iinc (v := 26) (lv' := [(2, .int 26), (0, .ref (b + 405)), (1, .int 36)]) B dX9_tick_27 0 rfl (by decide) (by decide) rfl ?_
  refine z_goto (tgt := 18) B dX9_tick_30 (by decide) ?_
  refine z_iload_n B dX9_tick_18 rfl 0 rfl ?_
  refine z_iload_n B dX9_tick_19 rfl 2 rfl ?_
  refine z_icmp_ge (tgt := 33) B dX9_tick_20 (by decide) (fun h => absurd h (by decide)) (fun _ => ?_)
  refine z_aload_n B dX9_tick_23 rfl 1 rfl ?_
  refine z_cVv (As := []) (rest := []) B cw_X9_294 cx_10 dX9_tick_24 (ci_X9_ticks_1055 l (σ := (ap b σ [(405, 1, 26), (405, 1, 25), (405, 1, 24), (405, 1, 23), (405, 1, 22), (405, 1, 21), (405, 1, 20), (405, 1, 19), (405, 1, 18), (405, 1, 17), (405, 1, 16), (405, 1, 15), (405, 1, 14), (405, 1, 13), (405, 1, 12), (405, 1, 11), (405, 1, 10), (405, 1, 9), (405, 1, 8), (405, 1, 7), (405, 1, 6), (405, 1, 5), (405, 1, 4), (405, 1, 3), (405, 1, 2), (405, 1, 1), (405, 0, 0)] [] [])) (b := b) (lyA hK) (rI_at 405 1 rfl) (rI_at 405 6 hI_405_6) (rI_at 405 16 hI_405_16)) (lKA (hk_K hK 405 rfl rfl)) rfl (by decide) rfl (Nat.le_of_ble_eq_true rfl) (by decide) (fun u hu => ?_)
  refine z_eqs (σ' := (ap b σ [(405, 1, 27), (405, 1, 26), (405, 1, 25), (405, 1, 24), (405, 1, 23), (405, 1, 22), (405, 1, 21), (405, 1, 20), (405, 1, 19), (405, 1, 18), (405, 1, 17), (405, 1, 16), (405, 1, 15), (405, 1, 14), (405, 1, 13), (405, 1, 12), (405, 1, 11), (405, 1, 10), (405, 1, 9), (405, 1, 8), (405, 1, 7), (405, 1, 6), (405, 1, 5), (405, 1, 4), (405, 1, 3), (405, 1, 2), (405, 1, 1), (405, 0, 0)] [] [])) (hu.trans ap_ap) ?_
  show zx p l e _ s m _ below meth c g 3 0 0 _ _ 27 [(2, .int 26), (0, .ref (b + 405)), (1, .int 36)] _
  refine z_iinc (v := 27) (lv' := [(2, .int 27), (0, .ref (b + 405)), (1, .int 36)]) B dX9_tick_27 0 rfl (by decide) (by decide) rfl ?_
  refine z_goto (tgt := 18) B dX9_tick_30 (by decide) ?_
  refine z_iload_n B dX9_tick_18 rfl 0 rfl ?_
  refine z_iload_n B dX9_tick_19 rfl 2 rfl ?_
  refine z_icmp_ge (tgt := 33) B dX9_tick_20 (by decide) (fun h => absurd h (by decide)) (fun _ => ?_)
  refine z_aload_n B dX9_tick_23 rfl 1 rfl ?_
  refine z_cVv (As := []) (rest := []) B cw_X9_294 cx_10 dX9_tick_24 (ci_X9_ticks_1060 l (σ := (ap b σ [(405, 1, 27), (405, 1, 26), (405, 1, 25), (405, 1, 24), (405, 1, 23), (405, 1, 22), (405, 1, 21), (405, 1, 20), (405, 1, 19), (405, 1, 18), (405, 1, 17), (405, 1, 16), (405, 1, 15), (405, 1, 14), (405, 1, 13), (405, 1, 12), (405, 1, 11), (405, 1, 10), (405, 1, 9), (405, 1, 8), (405, 1, 7), (405, 1, 6), (405, 1, 5), (405, 1, 4), (405, 1, 3), (405, 1, 2), (405, 1, 1), (405, 0, 0)] [] [])) (b := b) (lyA hK) (rI_at 405 1 rfl) (rI_at 405 6 hI_405_6) (rI_at 405 16 hI_405_16)) (lKA (hk_K hK 405 rfl rfl)) rfl (by decide) rfl (Nat.le_of_ble_eq_true rfl) (by decide) (fun u hu => ?_)
  refine z_eqs (σ' := (ap b σ [(405, 1, 28), (405, 1, 27), (405, 1, 26), (405, 1, 25), (405, 1, 24), (405, 1, 23), (405, 1, 22), (405, 1, 21), (405, 1, 20), (405, 1, 19), (405, 1, 18), (405, 1, 17), (405, 1, 16), (405, 1, 15), (405, 1, 14), (405, 1, 13), (405, 1, 12), (405, 1, 11), (405, 1, 10), (405, 1, 9), (405, 1, 8), (405, 1, 7), (405, 1, 6), (405, 1, 5), (405, 1, 4), (405, 1, 3), (405, 1, 2), (405, 1, 1), (405, 0, 0)] [] [])) (hu.trans ap_ap) ?_
  show zx p l e _ s m _ below meth c g 3 0 0 _ _ 27 [(2, .int 27), (0, .ref (b + 405)), (1, .int 36)] _
  refine z_iinc (v := 28) (lv' := [(2, .int 28), (0, .ref (b + 405)), (1, .int 36)]) B dX9_tick_27 0 rfl (by decide) (by decide) rfl ?_
  refine z_goto (tgt := 18) B dX9_tick_30 (by decide) ?_
  refine z_iload_n B dX9_tick_18 rfl 0 rfl ?_
  refine z_iload_n B dX9_tick_19 rfl 2 rfl ?_
  refine z_icmp_ge (tgt := 33) B dX9_tick_20 (by decide) (fun h => absurd h (by decide)) (fun _ => ?_)
  refine z_aload_n B dX9_tick_23 rfl 1 rfl ?_
  refine z_cVv (As := []) (rest := []) B cw_X9_294 cx_10 dX9_tick_24 (ci_X9_ticks_1065 l (σ := (ap b σ [(405, 1, 28), (405, 1, 27), (405, 1, 26), (405, 1, 25), (405, 1, 24), (405, 1, 23), (405, 1, 22), (405, 1, 21), (405, 1, 20), (405, 1, 19), (405, 1, 18), (405, 1, 17), (405, 1, 16), (405, 1, 15), (405, 1, 14), (405, 1, 13), (405, 1, 12), (405, 1, 11), (405, 1, 10), (405, 1, 9), (405, 1, 8), (405, 1, 7), (405, 1, 6), (405, 1, 5), (405, 1, 4), (405, 1, 3), (405, 1, 2), (405, 1, 1), (405, 0, 0)] [] [])) (b := b) (lyA hK) (rI_at 405 1 rfl) (rI_at 405 6 hI_405_6) (rI_at 405 16 hI_405_16)) (lKA (hk_K hK 405 rfl rfl)) rfl (by decide) rfl (Nat.le_of_ble_eq_true rfl) (by decide) (fun u hu => ?_)
  refine z_eqs (σ' := (ap b σ [(405, 1, 29), (405, 1, 28), (405, 1, 27), (405, 1, 26), (405, 1, 25), (405, 1, 24), (405, 1, 23), (405, 1, 22), (405, 1, 21), (405, 1, 20), (405, 1, 19), (405, 1, 18), (405, 1, 17), (405, 1, 16), (405, 1, 15), (405, 1, 14), (405, 1, 13), (405, 1, 12), (405, 1, 11), (405, 1, 10), (405, 1, 9), (405, 1, 8), (405, 1, 7), (405, 1, 6), (405, 1, 5), (405, 1, 4), (405, 1, 3), (405, 1, 2), (405, 1, 1), (405, 0, 0)] [] [])) (hu.trans ap_ap) ?_
  show zx p l e _ s m _ below meth c g 3 0 0 _ _ 27 [(2, .int 28), (0, .ref (b + 405)), (1, .int 36)] _
  refine z_iinc (v := 29) (lv' := [(2, .int 29), (0, .ref (b + 405)), (1, .int 36)]) B dX9_tick_27 0 rfl (by decide) (by decide) rfl ?_
  refine z_goto (tgt := 18) B dX9_tick_30 (by decide) ?_
  refine z_iload_n B dX9_tick_18 rfl 0 rfl ?_
  refine z_iload_n B dX9_tick_19 rfl 2 rfl ?_
  refine z_icmp_ge (tgt := 33) B dX9_tick_20 (by decide) (fun h => absurd h (by decide)) (fun _ => ?_)
  refine z_aload_n B dX9_tick_23 rfl 1 rfl ?_
  refine z_cVv (As := []) (rest := []) B cw_X9_294 cx_10 dX9_tick_24 (ci_X9_ticks_1070 l (σ := (ap b σ [(405, 1, 29), (405, 1, 28), (405, 1, 27), (405, 1, 26), (405, 1, 25), (405, 1, 24), (405, 1, 23), (405, 1, 22), (405, 1, 21), (405, 1, 20), (405, 1, 19), (405, 1, 18), (405, 1, 17), (405, 1, 16), (405, 1, 15), (405, 1, 14), (405, 1, 13), (405, 1, 12), (405, 1, 11), (405, 1, 10), (405, 1, 9), (405, 1, 8), (405, 1, 7), (405, 1, 6), (405, 1, 5), (405, 1, 4), (405, 1, 3), (405, 1, 2), (405, 1, 1), (405, 0, 0)] [] [])) (b := b) (lyA hK) (rI_at 405 1 rfl) (rI_at 405 6 hI_405_6) (rI_at 405 16 hI_405_16)) (lKA (hk_K hK 405 rfl rfl)) rfl (by decide) rfl (Nat.le_of_ble_eq_true rfl) (by decide) (fun u hu => ?_)
  refine z_eqs (σ' := (ap b σ [(405, 1, 30), (405, 1, 29), (405, 1, 28), (405, 1, 27), (405, 1, 26), (405, 1, 25), (405, 1, 24), (405, 1, 23), (405, 1, 22), (405, 1, 21), (405, 1, 20), (405, 1, 19), (405, 1, 18), (405, 1, 17), (405, 1, 16), (405, 1, 15), (405, 1, 14), (405, 1, 13), (405, 1, 12), (405, 1, 11), (405, 1, 10), (405, 1, 9), (405, 1, 8), (405, 1, 7), (405, 1, 6), (405, 1, 5), (405, 1, 4), (405, 1, 3), (405, 1, 2), (405, 1, 1), (405, 0, 0)] [] [])) (hu.trans ap_ap) ?_
  show zx p l e _ s m _ below meth c g 3 0 0 _ _ 27 [(2, .int 29), (0, .ref (b + 405)), (1, .int 36)] _
  refine z_iinc (v := 30) (lv' := [(2, .int 30), (0, .ref (b + 405)), (1, .int 36)]) B dX9_tick_27 0 rfl (by decide) (by decide) rfl ?_
  refine z_goto (tgt := 18) B dX9_tick_30 (by decide) ?_
  refine z_iload_n B dX9_tick_18 rfl 0 rfl ?_
  refine z_iload_n B dX9_tick_19 rfl 2 rfl ?_
  refine z_icmp_ge (tgt := 33) B dX9_tick_20 (by decide) (fun h => absurd h (by decide)) (fun _ => ?_)
  refine z_aload_n B dX9_tick_23 rfl 1 rfl ?_
  refine z_cVv (As := []) (rest := []) B cw_X9_294 cx_10 dX9_tick_24 (ci_X9_ticks_1075 l (σ := (ap b σ [(405, 1, 30), (405, 1, 29), (405, 1, 28), (405, 1, 27), (405, 1, 26), (405, 1, 25), (405, 1, 24), (405, 1, 23), (405, 1, 22), (405, 1, 21), (405, 1, 20), (405, 1, 19), (405, 1, 18), (405, 1, 17), (405, 1, 16), (405, 1, 15), (405, 1, 14), (405, 1, 13), (405, 1, 12), (405, 1, 11), (405, 1, 10), (405, 1, 9), (405, 1, 8), (405, 1, 7), (405, 1, 6), (405, 1, 5), (405, 1, 4), (405, 1, 3), (405, 1, 2), (405, 1, 1), (405, 0, 0)] [] [])) (b := b) (lyA hK) (rI_at 405 1 rfl) (rI_at 405 6 hI_405_6) (rI_at 405 16 hI_405_16)) (lKA (hk_K hK 405 rfl rfl)) rfl (by decide) rfl (Nat.le_of_ble_eq_true rfl) (by decide) (fun u hu => ?_)
  refine z_eqs (σ' := (ap b σ [(405, 1, 31), (405, 1, 30), (405, 1, 29), (405, 1, 28), (405, 1, 27), (405, 1, 26), (405, 1, 25), (405, 1, 24), (405, 1, 23), (405, 1, 22), (405, 1, 21), (405, 1, 20), (405, 1, 19), (405, 1, 18), (405, 1, 17), (405, 1, 16), (405, 1, 15), (405, 1, 14), (405, 1, 13), (405, 1, 12), (405, 1, 11), (405, 1, 10), (405, 1, 9), (405, 1, 8), (405, 1, 7), (405, 1, 6), (405, 1, 5), (405, 1, 4), (405, 1, 3), (405, 1, 2), (405, 1, 1), (405, 0, 0)] [] [])) (hu.trans ap_ap) ?_
  show zx p l e _ s m _ below meth c g 3 0 0 _ _ 27 [(2, .int 30), (0, .ref (b + 405)), (1, .int 36)] _
  refine z_iinc (v := 31) (lv' := [(2, .int 31), (0, .ref (b + 405)), (1, .int 36)]) B dX9_tick_27 0 rfl (by decide) (by decide) rfl ?_
  refine z_goto (tgt := 18) B dX9_tick_30 (by decide) ?_
  refine z_iload_n B dX9_tick_18 rfl 0 rfl ?_
  refine z_iload_n B dX9_tick_19 rfl 2 rfl ?_
  refine z_icmp_ge (tgt := 33) B dX9_tick_20 (by decide) (fun h => absurd h (by decide)) (fun _ => ?_)
  refine z_aload_n B dX9_tick_23 rfl 1 rfl ?_
  refine z_cVv (As := []) (rest := []) B cw_X9_294 cx_10 dX9_tick_24 (ci_X9_ticks_1080 l (σ := (ap b σ [(405, 1, 31), (405, 1, 30), (405, 1, 29), (405, 1, 28), (405, 1, 27), (405, 1, 26), (405, 1, 25), (405, 1, 24), (405, 1, 23), (405, 1, 22), (405, 1, 21), (405, 1, 20), (405, 1, 19), (405, 1, 18), (405, 1, 17), (405, 1, 16), (405, 1, 15), (405, 1, 14), (405, 1, 13), (405, 1, 12), (405, 1, 11), (405, 1, 10), (405, 1, 9), (405, 1, 8), (405, 1, 7), (405, 1, 6), (405, 1, 5), (405, 1, 4), (405, 1, 3), (405, 1, 2), (405, 1, 1), (405, 0, 0)] [] [])) (b := b) (lyA hK) (rI_at 405 1 rfl) (rI_at 405 6 hI_405_6) (rI_at 405 16 hI_405_16)) (lKA (hk_K hK 405 rfl rfl)) rfl (by decide) rfl (Nat.le_of_ble_eq_true rfl) (by decide) (fun u hu => ?_)
  refine z_eqs (σ' := (ap b σ [(405, 1, 32), (405, 1, 31), (405, 1, 30), (405, 1, 29), (405, 1, 28), (405, 1, 27), (405, 1, 26), (405, 1, 25), (405, 1, 24), (405, 1, 23), (405, 1, 22), (405, 1, 21), (405, 1, 20), (405, 1, 19), (405, 1, 18), (405, 1, 17), (405, 1, 16), (405, 1, 15), (405, 1, 14), (405, 1, 13), (405, 1, 12), (405, 1, 11), (405, 1, 10), (405, 1, 9), (405, 1, 8), (405, 1, 7), (405, 1, 6), (405, 1, 5), (405, 1, 4), (405, 1, 3), (405, 1, 2), (405, 1, 1), (405, 0, 0)] [] [])) (hu.trans ap_ap) ?_
  show zx p l e _ s m _ below meth c g 3 0 0 _ _ 27 [(2, .int 31), (0, .ref (b + 405)), (1, .int 36)] _
  refine z_iinc (v := 32) (lv' := [(2, .int 32), (0, .ref (b + 405)), (1, .int 36)]) B dX9_tick_27 0 rfl (by decide) (by decide) rfl ?_
  refine z_goto (tgt := 18) B dX9_tick_30 (by decide) ?_
  refine z_iload_n B dX9_tick_18 rfl 0 rfl ?_
  refine z_iload_n B dX9_tick_19 rfl 2 rfl ?_
  refine z_icmp_ge (tgt := 33) B dX9_tick_20 (by decide) (fun h => absurd h (by decide)) (fun _ => ?_)
  refine z_aload_n B dX9_tick_23 rfl 1 rfl ?_
  refine z_cVv (As := []) (rest := []) B cw_X9_294 cx_10 dX9_tick_24 (ci_X9_ticks_1085 l (σ := (ap b σ [(405, 1, 32), (405, 1, 31), (405, 1, 30), (405, 1, 29), (405, 1, 28), (405, 1, 27), (405, 1, 26), (405, 1, 25), (405, 1, 24), (405, 1, 23), (405, 1, 22), (405, 1, 21), (405, 1, 20), (405, 1, 19), (405, 1, 18), (405, 1, 17), (405, 1, 16), (405, 1, 15), (405, 1, 14), (405, 1, 13), (405, 1, 12), (405, 1, 11), (405, 1, 10), (405, 1, 9), (405, 1, 8), (405, 1, 7), (405, 1, 6), (405, 1, 5), (405, 1, 4), (405, 1, 3), (405, 1, 2), (405, 1, 1), (405, 0, 0)] [] [])) (b := b) (lyA hK) (rI_at 405 1 rfl) (rI_at 405 6 hI_405_6) (rI_at 405 16 hI_405_16)) (lKA (hk_K hK 405 rfl rfl)) rfl (by decide) rfl (Nat.le_of_ble_eq_true rfl) (by decide) (fun u hu => ?_)
  refine z_eqs (σ' := (ap b σ [(405, 1, 33), (405, 1, 32), (405, 1, 31), (405, 1, 30), (405, 1, 29), (405, 1, 28), (405, 1, 27), (405, 1, 26), (405, 1, 25), (405, 1, 24), (405, 1, 23), (405, 1, 22), (405, 1, 21), (405, 1, 20), (405, 1, 19), (405, 1, 18), (405, 1, 17), (405, 1, 16), (405, 1, 15), (405, 1, 14), (405, 1, 13), (405, 1, 12), (405, 1, 11), (405, 1, 10), (405, 1, 9), (405, 1, 8), (405, 1, 7), (405, 1, 6), (405, 1, 5), (405, 1, 4), (405, 1, 3), (405, 1, 2), (405, 1, 1), (405, 0, 0)] [] [])) (hu.trans ap_ap) ?_
  show zx p l e _ s m _ below meth c g 3 0 0 _ _ 27 [(2, .int 32), (0, .ref (b + 405)), (1, .int 36)] _
  refine z_iinc (v := 33) (lv' := [(2, .int 33), (0, .ref (b + 405)), (1, .int 36)]) B dX9_tick_27 0 rfl (by decide) (by decide) rfl ?_
  refine z_goto (tgt := 18) B dX9_tick_30 (by decide) ?_
  refine z_iload_n B dX9_tick_18 rfl 0 rfl ?_
  refine z_iload_n B dX9_tick_19 rfl 2 rfl ?_
  refine z_icmp_ge (tgt := 33) B dX9_tick_20 (by decide) (fun h => absurd h (by decide)) (fun _ => ?_)
  refine z_aload_n B dX9_tick_23 rfl 1 rfl ?_
  refine z_cVv (As := []) (rest := []) B cw_X9_294 cx_10 dX9_tick_24 (ci_X9_ticks_1090 l (σ := (ap b σ [(405, 1, 33), (405, 1, 32), (405, 1, 31), (405, 1, 30), (405, 1, 29), (405, 1, 28), (405, 1, 27), (405, 1, 26), (405, 1, 25), (405, 1, 24), (405, 1, 23), (405, 1, 22), (405, 1, 21), (405, 1, 20), (405, 1, 19), (405, 1, 18), (405, 1, 17), (405, 1, 16), (405, 1, 15), (405, 1, 14), (405, 1, 13), (405, 1, 12), (405, 1, 11), (405, 1, 10), (405, 1, 9), (405, 1, 8), (405, 1, 7), (405, 1, 6), (405, 1, 5), (405, 1, 4), (405, 1, 3), (405, 1, 2), (405, 1, 1), (405, 0, 0)] [] [])) (b := b) (lyA hK) (rI_at 405 1 rfl) (rI_at 405 6 hI_405_6) (rI_at 405 16 hI_405_16)) (lKA (hk_K hK 405 rfl rfl)) rfl (by decide) rfl (Nat.le_of_ble_eq_true rfl) (by decide) (fun u hu => ?_)
  refine z_eqs (σ' := (ap b σ [(405, 1, 34), (405, 1, 33), (405, 1, 32), (405, 1, 31), (405, 1, 30), (405, 1, 29), (405, 1, 28), (405, 1, 27), (405, 1, 26), (405, 1, 25), (405, 1, 24), (405, 1, 23), (405, 1, 22), (405, 1, 21), (405, 1, 20), (405, 1, 19), (405, 1, 18), (405, 1, 17), (405, 1, 16), (405, 1, 15), (405, 1, 14), (405, 1, 13), (405, 1, 12), (405, 1, 11), (405, 1, 10), (405, 1, 9), (405, 1, 8), (405, 1, 7), (405, 1, 6), (405, 1, 5), (405, 1, 4), (405, 1, 3), (405, 1, 2), (405, 1, 1), (405, 0, 0)] [] [])) (hu.trans ap_ap) ?_
  show zx p l e _ s m _ below meth c g 3 0 0 _ _ 27 [(2, .int 33), (0, .ref (b + 405)), (1, .int 36)] _
  refine z_iinc (v := 34) (lv' := [(2, .int 34), (0, .ref (b + 405)), (1, .int 36)]) B dX9_tick_27 0 rfl (by decide) (by decide) rfl ?_
  refine z_goto (tgt := 18) B dX9_tick_30 (by decide) ?_
  refine z_iload_n B dX9_tick_18 rfl 0 rfl ?_
  refine z_iload_n B dX9_tick_19 rfl 2 rfl ?_
  refine z_icmp_ge (tgt := 33) B dX9_tick_20 (by decide) (fun h => absurd h (by decide)) (fun _ => ?_)
  refine z_aload_n B dX9_tick_23 rfl 1 rfl ?_
  refine z_cVv (As := []) (rest := []) B cw_X9_294 cx_10 dX9_tick_24 (ci_X9_ticks_1095 l (σ := (ap b σ [(405, 1, 34), (405, 1, 33), (405, 1, 32), (405, 1, 31), (405, 1, 30), (405, 1, 29), (405, 1, 28), (405, 1, 27), (405, 1, 26), (405, 1, 25), (405, 1, 24), (405, 1, 23), (405, 1, 22), (405, 1, 21), (405, 1, 20), (405, 1, 19), (405, 1, 18), (405, 1, 17), (405, 1, 16), (405, 1, 15), (405, 1, 14), (405, 1, 13), (405, 1, 12), (405, 1, 11), (405, 1, 10), (405, 1, 9), (405, 1, 8), (405, 1, 7), (405, 1, 6), (405, 1, 5), (405, 1, 4), (405, 1, 3), (405, 1, 2), (405, 1, 1), (405, 0, 0)] [] [])) (b := b) (lyA hK) (rI_at 405 1 rfl) (rI_at 405 6 hI_405_6) (rI_at 405 16 hI_405_16)) (lKA (hk_K hK 405 rfl rfl)) rfl (by decide) rfl (Nat.le_of_ble_eq_true rfl) (by decide) (fun u hu => ?_)
  refine z_eqs (σ' := (ap b σ [(405, 1, 35), (405, 1, 34), (405, 1, 33), (405, 1, 32), (405, 1, 31), (405, 1, 30), (405, 1, 29), (405, 1, 28), (405, 1, 27), (405, 1, 26), (405, 1, 25), (405, 1, 24), (405, 1, 23), (405, 1, 22), (405, 1, 21), (405, 1, 20), (405, 1, 19), (405, 1, 18), (405, 1, 17), (405, 1, 16), (405, 1, 15), (405, 1, 14), (405, 1, 13), (405, 1, 12), (405, 1, 11), (405, 1, 10), (405, 1, 9), (405, 1, 8), (405, 1, 7), (405, 1, 6), (405, 1, 5), (405, 1, 4), (405, 1, 3), (405, 1, 2), (405, 1, 1), (405, 0, 0)] [] [])) (hu.trans ap_ap) ?_
  show zx p l e _ s m _ below meth c g 3 0 0 _ _ 27 [(2, .int 34), (0, .ref (b + 405)), (1, .int 36)] _
  refine z_iinc (v := 35) (lv' := [(2, .int 35), (0, .ref (b + 405)), (1, .int 36)]) B dX9_tick_27 0 rfl (by decide) (by decide) rfl ?_
  refine z_goto (tgt := 18) B dX9_tick_30 (by decide) ?_
  refine z_iload_n B dX9_tick_18 rfl 0 rfl ?_
  refine z_iload_n B dX9_tick_19 rfl 2 rfl ?_
  refine z_icmp_ge (tgt := 33) B dX9_tick_20 (by decide) (fun h => absurd h (by decide)) (fun _ => ?_)
  refine z_aload_n B dX9_tick_23 rfl 1 rfl ?_
  refine z_cVv (As := []) (rest := []) B cw_X9_294 cx_10 dX9_tick_24 (ci_X9_ticks_1100 l (σ := (ap b σ [(405, 1, 35), (405, 1, 34), (405, 1, 33), (405, 1, 32), (405, 1, 31), (405, 1, 30), (405, 1, 29), (405, 1, 28), (405, 1, 27), (405, 1, 26), (405, 1, 25), (405, 1, 24), (405, 1, 23), (405, 1, 22), (405, 1, 21), (405, 1, 20), (405, 1, 19), (405, 1, 18), (405, 1, 17), (405, 1, 16), (405, 1, 15), (405, 1, 14), (405, 1, 13), (405, 1, 12), (405, 1, 11), (405, 1, 10), (405, 1, 9), (405, 1, 8), (405, 1, 7), (405, 1, 6), (405, 1, 5), (405, 1, 4), (405, 1, 3), (405, 1, 2), (405, 1, 1), (405, 0, 0)] [] [])) (b := b) (lyA hK) (rI_at 405 1 rfl) (rI_at 405 6 hI_405_6) (rI_at 405 16 hI_405_16)) (lKA (hk_K hK 405 rfl rfl)) rfl (by decide) rfl (Nat.le_of_ble_eq_true rfl) (by decide) (fun u hu => ?_)
  refine z_eqs (σ' := (ap b σ [(405, 1, 36), (405, 1, 35), (405, 1, 34), (405, 1, 33), (405, 1, 32), (405, 1, 31), (405, 1, 30), (405, 1, 29), (405, 1, 28), (405, 1, 27), (405, 1, 26), (405, 1, 25), (405, 1, 24), (405, 1, 23), (405, 1, 22), (405, 1, 21), (405, 1, 20), (405, 1, 19), (405, 1, 18), (405, 1, 17), (405, 1, 16), (405, 1, 15), (405, 1, 14), (405, 1, 13), (405, 1, 12), (405, 1, 11), (405, 1, 10), (405, 1, 9), (405, 1, 8), (405, 1, 7), (405, 1, 6), (405, 1, 5), (405, 1, 4), (405, 1, 3), (405, 1, 2), (405, 1, 1), (405, 0, 0)] [] [])) (hu.trans ap_ap) ?_
  show zx p l e _ s m _ below meth c g 3 0 0 _ _ 27 [(2, .int 35), (0, .ref (b + 405)), (1, .int 36)] _
  refine z_iinc (v := 36) (lv' := [(2, .int 36), (0, .ref (b + 405)), (1, .int 36)]) B dX9_tick_27 0 rfl (by decide) (by decide) rfl ?_
  refine z_goto (tgt := 18) B dX9_tick_30 (by decide) ?_
  refine z_iload_n B dX9_tick_18 rfl 0 rfl ?_
  refine z_iload_n B dX9_tick_19 rfl 2 rfl ?_
  refine z_icmp_ge (tgt := 33) B dX9_tick_20 (by decide) (fun _ => ?_) (fun h => absurd (by decide) h)
  refine z_aload_n B dX9_tick_33 rfl 1 rfl ?_
  refine gf_X9_197 (x := 36) B (lKA (hk_K hK 405 rfl rfl)) (rI_at 405 1 rfl) dX9_tick_34 ?_
  exact z_iret B hr (by decide) (by decide) dX9_tick_37 ⟨rfl, rfl⟩
set_option maxRecDepth 100000 in
set_option maxHeartbeats 4000000 in
theorem ci_X8_tick_1102 (l : Launch) {g : gx_T} {σ : sx_T} {b : Nat} (hK : lay b σ)   (hI_0_7 : sx_I σ (b + 0) 7 = 0) (hI_0_8 : sx_I σ (b + 0) 8 = 0) (hI_4_2 : sx_I σ (b + 4) 2 = 0) (hR_0_3 : sx_R σ (b + 0) 3 = (some (b + 4))) : Met l yX8_tick (.code yX8_tick cX8_tick 3 (some .int) :: lw_g) { frames := 2, cells := 0, slots := 0, locals := 42 } (va_Pc [.ref (b + 0), .int 37] (zx_w g σ)) (va_Qi (fun r u => r = 37 ∧ u = (ap b σ [(0, 8, 37), (0, 8, 36), (0, 8, 35), (0, 8, 34), (0, 8, 33), (0, 8, 32), (0, 8, 31), (0, 8, 30), (0, 8, 29), (0, 8, 28), (0, 8, 27), (0, 8, 26), (0, 8, 25), (0, 8, 24), (0, 8, 23), (0, 8, 22), (0, 8, 21), (0, 8, 20), (0, 8, 19), (0, 8, 18), (0, 8, 17), (0, 8, 16), (0, 8, 15), (0, 8, 14), (0, 8, 13), (0, 8, 12), (0, 8, 11), (0, 8, 10), (0, 8, 9), (0, 8, 8), (0, 8, 7), (0, 8, 6), (0, 8, 5), (0, 8, 4), (0, 8, 3), (0, 8, 2), (0, 8, 1)] [] [])) (zx_w g) (gx_Q g)) 0 0 (gx_Q g) := by
  refine z_met (by decide) (Nat.le_of_ble_eq_true rfl) (fun p e s m below meth c B hr hin => ?_)
  refine z_eqs (σ' := (ap b σ [] [] [])) rfl ?_
  show zx p l e _ s m _ below meth c g 3 0 0 _ _ 0 [(0, .ref (b + 0)), (1, .int 37)] []
  refine z_iload_n B dX8_tick_0 rfl 1 rfl ?_
  refine z_iconst (v := 1) B dX8_tick_1 (by decide) ?_
  refine z_icmp_lt (tgt := 11) B dX8_tick_2 (by decide) (fun h => absurd h (by decide)) (fun _ => ?_)
  refine z_iload_n B dX8_tick_5 rfl 1 rfl ?_
  refine z_bipush (v := 50) B dX8_tick_6 (by decide) ?_
  refine z_icmp_le (tgt := 21) B dX8_tick_8 (by decide) (fun _ => ?_) (fun h => absurd (by decide) h)
  refine z_iconst (v := 0) B dX8_tick_21 (by decide) ?_
  refine z_istore_n (lv' := [(2, .int 0), (0, .ref (b + 0)), (1, .int 37)]) B dX8_tick_22 rfl (by decide) rfl ?_
  refine z_iload_n B dX8_tick_23 rfl 0 rfl ?_
  refine z_iload_n B dX8_tick_24 rfl 2 rfl ?_
  refine z_icmp_ge (tgt := 52) B dX8_tick_25 (by decide) (fun h => absurd h (by decide)) (fun _ => ?_)
  refine z_aload_n B dX8_tick_28 rfl 1 rfl ?_
  refine z_dup B dX8_tick_29 rfl ?_
  refine gf_X8_206 (x := 0) B (lKA (hk_K hK 0 rfl rfl)) (rI_at 0 8 hI_0_8) dX8_tick_30 ?_
  refine z_iconst (v := 1) B dX8_tick_33 (by decide) ?_
  refine z_iadd B dX8_tick_34 ?_
  refine z_seti (y := 1) (by decide) ?_
  refine pf_X8_206 (x := 1) (σ' := (ap b σ [(0, 8, 1)] [] [])) B (lKA (hk_K hK 0 rfl rfl)) wI_ap dX8_tick_35 ?_
  refine z_aload_n B dX8_tick_38 rfl 1 rfl ?_
  refine z_cVv (As := []) (rest := []) B cw_X8_240 cx_9 dX8_tick_39 (ci_X8_passTasks_920 l (σ := (ap b σ [(0, 8, 1)] [] [])) (b := b) (lyA hK) (rI_at 4 2 hI_4_2) (rR_at 0 3 hR_0_3)) (lKA (hk_K hK 0 rfl rfl)) rfl (by decide) rfl (Nat.le_of_ble_eq_true rfl) (by decide) (fun u hu => ?_)
  refine z_eqs (σ' := (ap b σ [(0, 8, 1)] [] [])) hu ?_
  show zx p l e _ s m _ below meth c g 3 0 0 _ _ 42 [(2, .int 0), (0, .ref (b + 0)), (1, .int 37)] _
  refine z_aload_n B dX8_tick_42 rfl 1 rfl ?_
  refine z_cVv (As := []) (rest := []) B cw_X8_243 cx_9 dX8_tick_43 (ci_X8_passTimers_921 l (σ := (ap b σ [(0, 8, 1)] [] [])) (b := b) (lyA hK) (rI_at 0 7 hI_0_7)) (lKA (hk_K hK 0 rfl rfl)) rfl (by decide) rfl (Nat.le_of_ble_eq_true rfl) (by decide) (fun u hu => ?_)
  refine z_eqs (σ' := (ap b σ [(0, 8, 1)] [] [])) hu ?_
  show zx p l e _ s m _ below meth c g 3 0 0 _ _ 46 [(2, .int 0), (0, .ref (b + 0)), (1, .int 37)] _
  refine z_iinc (v := 1) (lv' := [(2, .int 1), (0, .ref (b + 0)), (1, .int 37)]) B dX8_tick_46 0 rfl (by decide) (by decide) rfl ?_
  refine z_goto (tgt := 23) B dX8_tick_49 (by decide) ?_
  refine z_iload_n B dX8_tick_23 rfl 0 rfl ?_
  refine z_iload_n B dX8_tick_24 rfl 2 rfl ?_
  refine z_icmp_ge (tgt := 52) B dX8_tick_25 (by decide) (fun h => absurd h (by decide)) (fun _ => ?_)
  refine z_aload_n B dX8_tick_28 rfl 1 rfl ?_
  refine z_dup B dX8_tick_29 rfl ?_
  refine gf_X8_206 (x := 1) B (lKA (hk_K hK 0 rfl rfl)) (rI_at 0 8 rfl) dX8_tick_30 ?_
  refine z_iconst (v := 1) B dX8_tick_33 (by decide) ?_
  refine z_iadd B dX8_tick_34 ?_
  refine z_seti (y := 2) (by decide) ?_
  refine pf_X8_206 (x := 2) (σ' := (ap b σ [(0, 8, 2), (0, 8, 1)] [] [])) B (lKA (hk_K hK 0 rfl rfl)) wI_ap dX8_tick_35 ?_
  refine z_aload_n B dX8_tick_38 rfl 1 rfl ?_
  refine z_cVv (As := []) (rest := []) B cw_X8_240 cx_9 dX8_tick_39 (ci_X8_passTasks_920 l (σ := (ap b σ [(0, 8, 2), (0, 8, 1)] [] [])) (b := b) (lyA hK) (rI_at 4 2 hI_4_2) (rR_at 0 3 hR_0_3)) (lKA (hk_K hK 0 rfl rfl)) rfl (by decide) rfl (Nat.le_of_ble_eq_true rfl) (by decide) (fun u hu => ?_)
  refine z_eqs (σ' := (ap b σ [(0, 8, 2), (0, 8, 1)] [] [])) hu ?_
  show zx p l e _ s m _ below meth c g 3 0 0 _ _ 42 [(2, .int 1), (0, .ref (b + 0)), (1, .int 37)] _
  refine z_aload_n B dX8_tick_42 rfl 1 rfl ?_
  refine z_cVv (As := []) (rest := []) B cw_X8_243 cx_9 dX8_tick_43 (ci_X8_passTimers_921 l (σ := (ap b σ [(0, 8, 2), (0, 8, 1)] [] [])) (b := b) (lyA hK) (rI_at 0 7 hI_0_7)) (lKA (hk_K hK 0 rfl rfl)) rfl (by decide) rfl (Nat.le_of_ble_eq_true rfl) (by decide) (fun u hu => ?_)
  refine z_eqs (σ' := (ap b σ [(0, 8, 2), (0, 8, 1)] [] [])) hu ?_
  show zx p l e _ s m _ below meth c g 3 0 0 _ _ 46 [(2, .int 1), (0, .ref (b + 0)), (1, .int 37)] _
  refine z_iinc (v := 2) (lv' := [(2, .int 2), (0, .ref (b + 0)), (1, .int 37)]) B dX8_tick_46 0 rfl (by decide) (by decide) rfl ?_
  refine z_goto (tgt := 23) B dX8_tick_49 (by decide) ?_
  refine z_iload_n B dX8_tick_23 rfl 0 rfl ?_
  refine z_iload_n B dX8_tick_24 rfl 2 rfl ?_
  refine z_icmp_ge (tgt := 52) B dX8_tick_25 (by decide) (fun h => absurd h (by decide)) (fun _ => ?_)
  refine z_aload_n B dX8_tick_28 rfl 1 rfl ?_
  refine z_dup B dX8_tick_29 rfl ?_
  refine gf_X8_206 (x := 2) B (lKA (hk_K hK 0 rfl rfl)) (rI_at 0 8 rfl) dX8_tick_30 ?_
  refine z_iconst (v := 1) B dX8_tick_33 (by decide) ?_
  refine z_iadd B dX8_tick_34 ?_
  refine z_seti (y := 3) (by decide) ?_
  refine pf_X8_206 (x := 3) (σ' := (ap b σ [(0, 8, 3), (0, 8, 2), (0, 8, 1)] [] [])) B (lKA (hk_K hK 0 rfl rfl)) wI_ap dX8_tick_35 ?_
  refine z_aload_n B dX8_tick_38 rfl 1 rfl ?_
  refine z_cVv (As := []) (rest := []) B cw_X8_240 cx_9 dX8_tick_39 (ci_X8_passTasks_920 l (σ := (ap b σ [(0, 8, 3), (0, 8, 2), (0, 8, 1)] [] [])) (b := b) (lyA hK) (rI_at 4 2 hI_4_2) (rR_at 0 3 hR_0_3)) (lKA (hk_K hK 0 rfl rfl)) rfl (by decide) rfl (Nat.le_of_ble_eq_true rfl) (by decide) (fun u hu => ?_)
  refine z_eqs (σ' := (ap b σ [(0, 8, 3), (0, 8, 2), (0, 8, 1)] [] [])) hu ?_
  show zx p l e _ s m _ below meth c g 3 0 0 _ _ 42 [(2, .int 2), (0, .ref (b + 0)), (1, .int 37)] _
  refine z_aload_n B dX8_tick_42 rfl 1 rfl ?_
  refine z_cVv (As := []) (rest := []) B cw_X8_243 cx_9 dX8_tick_43 (ci_X8_passTimers_921 l (σ := (ap b σ [(0, 8, 3), (0, 8, 2), (0, 8, 1)] [] [])) (b := b) (lyA hK) (rI_at 0 7 hI_0_7)) (lKA (hk_K hK 0 rfl rfl)) rfl (by decide) rfl (Nat.le_of_ble_eq_true rfl) (by decide) (fun u hu => ?_)
  refine z_eqs (σ' := (ap b σ [(0, 8, 3), (0, 8, 2), (0, 8, 1)] [] [])) hu ?_
  show zx p l e _ s m _ below meth c g 3 0 0 _ _ 46 [(2, .int 2), (0, .ref (b + 0)), (1, .int 37)] _
  refine z_iinc (v := 3) (lv' := [(2, .int 3), (0, .ref (b + 0)), (1, .int 37)]) B dX8_tick_46 0 rfl (by decide) (by decide) rfl ?_
  refine z_goto (tgt := 23) B dX8_tick_49 (by decide) ?_
  refine z_iload_n B dX8_tick_23 rfl 0 rfl ?_
  refine z_iload_n B dX8_tick_24 rfl 2 rfl ?_
  refine z_icmp_ge (tgt := 52) B dX8_tick_25 (by decide) (fun h => absurd h (by decide)) (fun _ => ?_)
  refine z_aload_n B dX8_tick_28 rfl 1 rfl ?_
  refine z_dup B dX8_tick_29 rfl ?_
  refine gf_X8_206 (x := 3) B (lKA (hk_K hK 0 rfl rfl)) (rI_at 0 8 rfl) dX8_tick_30 ?_
  refine z_iconst (v := 1) B dX8_tick_33 (by decide) ?_
  refine z_iadd B dX8_tick_34 ?_
  refine z_seti (y := 4) (by decide) ?_
  refine pf_X8_206 (x := 4) (σ' := (ap b σ [(0, 8, 4), (0, 8, 3), (0, 8, 2), (0, 8, 1)] [] [])) B (lKA (hk_K hK 0 rfl rfl)) wI_ap dX8_tick_35 ?_
  refine z_aload_n B dX8_tick_38 rfl 1 rfl ?_
  refine z_cVv (As := []) (rest := []) B cw_X8_240 cx_9 dX8_tick_39 (ci_X8_passTasks_920 l (σ := (ap b σ [(0, 8, 4), (0, 8, 3), (0, 8, 2), (0, 8, 1)] [] [])) (b := b) (lyA hK) (rI_at 4 2 hI_4_2) (rR_at 0 3 hR_0_3)) (lKA (hk_K hK 0 rfl rfl)) rfl (by decide) rfl (Nat.le_of_ble_eq_true rfl) (by decide) (fun u hu => ?_)
  refine z_eqs (σ' := (ap b σ [(0, 8, 4), (0, 8, 3), (0, 8, 2), (0, 8, 1)] [] [])) hu ?_
  show zx p l e _ s m _ below meth c g 3 0 0 _ _ 42 [(2, .int 3), (0, .ref (b + 0)), (1, .int 37)] _
  refine z_aload_n B dX8_tick_42 rfl 1 rfl ?_
  refine z_cVv (As := []) (rest := []) B cw_X8_243 cx_9 dX8_tick_43 (ci_X8_passTimers_921 l (σ := (ap b σ [(0, 8, 4), (0, 8, 3), (0, 8, 2), (0, 8, 1)] [] [])) (b := b) (lyA hK) (rI_at 0 7 hI_0_7)) (lKA (hk_K hK 0 rfl rfl)) rfl (by decide) rfl (Nat.le_of_ble_eq_true rfl) (by decide) (fun u hu => ?_)
  refine z_eqs (σ' := (ap b σ [(0, 8, 4), (0, 8, 3), (0, 8, 2), (0, 8, 1)] [] [])) hu ?_
  show zx p l e _ s m _ below meth c g 3 0 0 _ _ 46 [(2, .int 3), (0, .ref (b + 0)), (1, .int 37)] _
  refine z_iinc (v := 4) (lv' := [(2, .int 4), (0, .ref (b + 0)), (1, .int 37)]) B dX8_tick_46 0 rfl (by decide) (by decide) rfl ?_
  refine z_goto (tgt := 23) B dX8_tick_49 (by decide) ?_
  refine z_iload_n B dX8_tick_23 rfl 0 rfl ?_
  refine z_iload_n B dX8_tick_24 rfl 2 rfl ?_
  refine z_icmp_ge (tgt := 52) B dX8_tick_25 (by decide) (fun h => absurd h (by decide)) (fun _ => ?_)
  refine z_aload_n B dX8_tick_28 rfl 1 rfl ?_
  refine z_dup B dX8_tick_29 rfl ?_
  refine gf_X8_206 (x := 4) B (lKA (hk_K hK 0 rfl rfl)) (rI_at 0 8 rfl) dX8_tick_30 ?_
  refine z_iconst (v := 1) B dX8_tick_33 (by decide) ?_
  refine z_iadd B dX8_tick_34 ?_
  refine z_seti (y := 5) (by decide) ?_
  refine pf_X8_206 (x := 5) (σ' := (ap b σ [(0, 8, 5), (0, 8, 4), (0, 8, 3), (0, 8, 2), (0, 8, 1)] [] [])) B (lKA (hk_K hK 0 rfl rfl)) wI_ap dX8_tick_35 ?_
  refine z_aload_n B dX8_tick_38 rfl 1 rfl ?_
  refine z_cVv (As := []) (rest := []) B cw_X8_240 cx_9 dX8_tick_39 (ci_X8_passTasks_920 l (σ := (ap b σ [(0, 8, 5), (0, 8, 4), (0, 8, 3), (0, 8, 2), (0, 8, 1)] [] [])) (b := b) (lyA hK) (rI_at 4 2 hI_4_2) (rR_at 0 3 hR_0_3)) (lKA (hk_K hK 0 rfl rfl)) rfl (by decide) rfl (Nat.le_of_ble_eq_true rfl) (by decide) (fun u hu => ?_)
  refine z_eqs (σ' := (ap b σ [(0, 8, 5), (0, 8, 4), (0, 8, 3), (0, 8, 2), (0, 8, 1)] [] [])) hu ?_
  show zx p l e _ s m _ below meth c g 3 0 0 _ _ 42 [(2, .int 4), (0, .ref (b + 0)), (1, .int 37)] _
  refine z_aload_n B dX8_tick_42 rfl 1 rfl ?_
  refine z_cVv (As := []) (rest := []) B cw_X8_243 cx_9 dX8_tick_43 (ci_X8_passTimers_921 l (σ := (ap b σ [(0, 8, 5), (0, 8, 4), (0, 8, 3), (0, 8, 2), (0, 8, 1)] [] [])) (b := b) (lyA hK) (rI_at 0 7 hI_0_7)) (lKA (hk_K hK 0 rfl rfl)) rfl (by decide) rfl (Nat.le_of_ble_eq_true rfl) (by decide) (fun u hu => ?_)
  refine z_eqs (σ' := (ap b σ [(0, 8, 5), (0, 8, 4), (0, 8, 3), (0, 8, 2), (0, 8, 1)] [] [])) hu ?_
  show zx p l e _ s m _ below meth c g 3 0 0 _ _ 46 [(2, .int 4), (0, .ref (b + 0)), (1, .int 37)] _
  refine z_iinc (v := 5) (lv' := [(2, .int 5), (0, .ref (b + 0)), (1, .int 37)]) B dX8_tick_46 0 rfl (by decide) (by decide) rfl ?_
  refine z_goto (tgt := 23) B dX8_tick_49 (by decide) ?_
  refine z_iload_n B dX8_tick_23 rfl 0 rfl ?_
  refine z_iload_n B dX8_tick_24 rfl 2 rfl ?_
  refine z_icmp_ge (tgt := 52) B dX8_tick_25 (by decide) (fun h => absurd h (by decide)) (fun _ => ?_)
  refine z_aload_n B dX8_tick_28 rfl 1 rfl ?_
  refine z_dup B dX8_tick_29 rfl ?_
  refine gf_X8_206 (x := 5) B (lKA (hk_K hK 0 rfl rfl)) (rI_at 0 8 rfl) dX8_tick_30 ?_
  refine z_iconst (v := 1) B dX8_tick_33 (by decide) ?_
  refine z_iadd B dX8_tick_34 ?_
  refine z_seti (y := 6) (by decide) ?_
  refine pf_X8_206 (x := 6) (σ' := (ap b σ [(0, 8, 6), (0, 8, 5), (0, 8, 4), (0, 8, 3), (0, 8, 2), (0, 8, 1)] [] [])) B (lKA (hk_K hK 0 rfl rfl)) wI_ap dX8_tick_35 ?_
  refine z_aload_n B dX8_tick_38 rfl 1 rfl ?_
  refine z_cVv (As := []) (rest := []) B cw_X8_240 cx_9 dX8_tick_39 (ci_X8_passTasks_920 l (σ := (ap b σ [(0, 8, 6), (0, 8, 5), (0, 8, 4), (0, 8, 3), (0, 8, 2), (0, 8, 1)] [] [])) (b := b) (lyA hK) (rI_at 4 2 hI_4_2) (rR_at 0 3 hR_0_3)) (lKA (hk_K hK 0 rfl rfl)) rfl (by decide) rfl (Nat.le_of_ble_eq_true rfl) (by decide) (fun u hu => ?_)
  refine z_eqs (σ' := (ap b σ [(0, 8, 6), (0, 8, 5), (0, 8, 4), (0, 8, 3), (0, 8, 2), (0, 8, 1)] [] [])) hu ?_
  show zx p l e _ s m _ below meth c g 3 0 0 _ _ 42 [(2, .int 5), (0, .ref (b + 0)), (1, .int 37)] _
  refine z_aload_n B dX8_tick_42 rfl 1 rfl ?_
  refine z_cVv (As := []) (rest := []) B cw_X8_243 cx_9 dX8_tick_43 (ci_X8_passTimers_921 l (σ := (ap b σ [(0, 8, 6), (0, 8, 5), (0, 8, 4), (0, 8, 3), (0, 8, 2), (0, 8, 1)] [] [])) (b := b) (lyA hK) (rI_at 0 7 hI_0_7)) (lKA (hk_K hK 0 rfl rfl)) rfl (by decide) rfl (Nat.le_of_ble_eq_true rfl) (by decide) (fun u hu => ?_)
  refine z_eqs (σ' := (ap b σ [(0, 8, 6), (0, 8, 5), (0, 8, 4), (0, 8, 3), (0, 8, 2), (0, 8, 1)] [] [])) hu ?_
  show zx p l e _ s m _ below meth c g 3 0 0 _ _ 46 [(2, .int 5), (0, .ref (b + 0)), (1, .int 37)] _
  refine z_iinc (v := 6) (lv' := [(2, .int 6), (0, .ref (b + 0)), (1, .int 37)]) B dX8_tick_46 0 rfl (by decide) (by decide) rfl ?_
  refine z_goto (tgt := 23) B dX8_tick_49 (by decide) ?_
  refine z_iload_n B dX8_tick_23 rfl 0 rfl ?_
  refine z_iload_n B dX8_tick_24 rfl 2 rfl ?_
  refine z_icmp_ge (tgt := 52) B dX8_tick_25 (by decide) (fun h => absurd h (by decide)) (fun _ => ?_)
  refine z_aload_n B dX8_tick_28 rfl 1 rfl ?_
  refine z_dup B dX8_tick_29 rfl ?_
  refine gf_X8_206 (x := 6) B (lKA (hk_K hK 0 rfl rfl)) (rI_at 0 8 rfl) dX8_tick_30 ?_
  refine z_iconst (v := 1) B dX8_tick_33 (by decide) ?_
  refine z_iadd B dX8_tick_34 ?_
  refine z_seti (y := 7) (by decide) ?_
  refine pf_X8_206 (x := 7) (σ' := (ap b σ [(0, 8, 7), (0, 8, 6), (0, 8, 5), (0, 8, 4), (0, 8, 3), (0, 8, 2), (0, 8, 1)] [] [])) B (lKA (hk_K hK 0 rfl rfl)) wI_ap dX8_tick_35 ?_
  refine z_aload_n B dX8_tick_38 rfl 1 rfl ?_
  refine z_cVv (As := []) (rest := []) B cw_X8_240 cx_9 dX8_tick_39 (ci_X8_passTasks_920 l (σ := (ap b σ [(0, 8, 7), (0, 8, 6), (0, 8, 5), (0, 8, 4), (0, 8, 3), (0, 8, 2), (0, 8, 1)] [] [])) (b := b) (lyA hK) (rI_at 4 2 hI_4_2) (rR_at 0 3 hR_0_3)) (lKA (hk_K hK 0 rfl rfl)) rfl (by decide) rfl (Nat.le_of_ble_eq_true rfl) (by decide) (fun u hu => ?_)
  refine z_eqs (σ' := (ap b σ [(0, 8, 7), (0, 8, 6), (0, 8, 5), (0, 8, 4), (0, 8, 3), (0, 8, 2), (0, 8, 1)] [] [])) hu ?_
  show zx p l e _ s m _ below meth c g 3 0 0 _ _ 42 [(2, .int 6), (0, .ref (b + 0)), (1, .int 37)] _
  refine z_aload_n B dX8_tick_42 rfl 1 rfl ?_
  refine z_cVv (As := []) (rest := []) B cw_X8_243 cx_9 dX8_tick_43 (ci_X8_passTimers_921 l (σ := (ap b σ [(0, 8, 7), (0, 8, 6), (0, 8, 5), (0, 8, 4), (0, 8, 3), (0, 8, 2), (0, 8, 1)] [] [])) (b := b) (lyA hK) (rI_at 0 7 hI_0_7)) (lKA (hk_K hK 0 rfl rfl)) rfl (by decide) rfl (Nat.le_of_ble_eq_true rfl) (by decide) (fun u hu => ?_)
  refine z_eqs (σ' := (ap b σ [(0, 8, 7), (0, 8, 6), (0, 8, 5), (0, 8, 4), (0, 8, 3), (0, 8, 2), (0, 8, 1)] [] [])) hu ?_
  show zx p l e _ s m _ below meth c g 3 0 0 _ _ 46 [(2, .int 6), (0, .ref (b + 0)), (1, .int 37)] _
  refine z_iinc (v := 7) (lv' := [(2, .int 7), (0, .ref (b + 0)), (1, .int 37)]) B dX8_tick_46 0 rfl (by decide) (by decide) rfl ?_
  refine z_goto (tgt := 23) B dX8_tick_49 (by decide) ?_
  refine z_iload_n B dX8_tick_23 rfl 0 rfl ?_
  refine z_iload_n B dX8_tick_24 rfl 2 rfl ?_
  refine z_icmp_ge (tgt := 52) B dX8_tick_25 (by decide) (fun h => absurd h (by decide)) (fun _ => ?_)
  refine z_aload_n B dX8_tick_28 rfl 1 rfl ?_
  refine z_dup B dX8_tick_29 rfl ?_
  refine gf_X8_206 (x := 7) B (lKA (hk_K hK 0 rfl rfl)) (rI_at 0 8 rfl) dX8_tick_30 ?_
  refine z_iconst (v := 1) B dX8_tick_33 (by decide) ?_
  refine z_iadd B dX8_tick_34 ?_
  refine z_seti (y := 8) (by decide) ?_
  refine pf_X8_206 (x := 8) (σ' := (ap b σ [(0, 8, 8), (0, 8, 7), (0, 8, 6), (0, 8, 5), (0, 8, 4), (0, 8, 3), (0, 8, 2), (0, 8, 1)] [] [])) B (lKA (hk_K hK 0 rfl rfl)) wI_ap dX8_tick_35 ?_
  refine z_aload_n B dX8_tick_38 rfl 1 rfl ?_
  refine z_cVv (As := []) (rest := []) B cw_X8_240 cx_9 dX8_tick_39 (ci_X8_passTasks_920 l (σ := (ap b σ [(0, 8, 8), (0, 8, 7), (0, 8, 6), (0, 8, 5), (0, 8, 4), (0, 8, 3), (0, 8, 2), (0, 8, 1)] [] [])) (b := b) (lyA hK) (rI_at 4 2 hI_4_2) (rR_at 0 3 hR_0_3)) (lKA (hk_K hK 0 rfl rfl)) rfl (by decide) rfl (Nat.le_of_ble_eq_true rfl) (by decide) (fun u hu => ?_)
  refine z_eqs (σ' := (ap b σ [(0, 8, 8), (0, 8, 7), (0, 8, 6), (0, 8, 5), (0, 8, 4), (0, 8, 3), (0, 8, 2), (0, 8, 1)] [] [])) hu ?_
  show zx p l e _ s m _ below meth c g 3 0 0 _ _ 42 [(2, .int 7), (0, .ref (b + 0)), (1, .int 37)] _
  refine z_aload_n B dX8_tick_42 rfl 1 rfl ?_
  refine z_cVv (As := []) (rest := []) B cw_X8_243 cx_9 dX8_tick_43 (ci_X8_passTimers_921 l (σ := (ap b σ [(0, 8, 8), (0, 8, 7), (0, 8, 6), (0, 8, 5), (0, 8, 4), (0, 8, 3), (0, 8, 2), (0, 8, 1)] [] [])) (b := b) (lyA hK) (rI_at 0 7 hI_0_7)) (lKA (hk_K hK 0 rfl rfl)) rfl (by decide) rfl (Nat.le_of_ble_eq_true rfl) (by decide) (fun u hu => ?_)
  refine z_eqs (σ' := (ap b σ [(0, 8, 8), (0, 8, 7), (0, 8, 6), (0, 8, 5), (0, 8, 4), (0, 8, 3), (0, 8, 2), (0, 8, 1)] [] [])) hu ?_
  show zx p l e _ s m _ below meth c g 3 0 0 _ _ 46 [(2, .int 7), (0, .ref (b + 0)), (1, .int 37)] _
  refine z_iinc (v := 8) (lv' := [(2, .int 8), (0, .ref (b + 0)), (1, .int 37)]) B dX8_tick_46 0 rfl (by decide) (by decide) rfl ?_
  refine z_goto (tgt := 23) B dX8_tick_49 (by decide) ?_
  refine z_iload_n B dX8_tick_23 rfl 0 rfl ?_
  refine z_iload_n B dX8_tick_24 rfl 2 rfl ?_
  refine z_icmp_ge (tgt := 52) B dX8_tick_25 (by decide) (fun h => absurd h (by decide)) (fun _ => ?_)
  refine z_aload_n B dX8_tick_28 rfl 1 rfl ?_
  refine z_dup B dX8_tick_29 rfl ?_
  refine gf_X8_206 (x := 8) B (lKA (hk_K hK 0 rfl rfl)) (rI_at 0 8 rfl) dX8_tick_30 ?_
  refine z_iconst (v := 1) B dX8_tick_33 (by decide) ?_
  refine z_iadd B dX8_tick_34 ?_
  refine z_seti (y := 9) (by decide) ?_
  refine pf_X8_206 (x := 9) (σ' := (ap b σ [(0, 8, 9), (0, 8, 8), (0, 8, 7), (0, 8, 6), (0, 8, 5), (0, 8, 4), (0, 8, 3), (0, 8, 2), (0, 8, 1)] [] [])) B (lKA (hk_K hK 0 rfl rfl)) wI_ap dX8_tick_35 ?_
  refine z_aload_n B dX8_tick_38 rfl 1 rfl ?_
  refine z_cVv (As := []) (rest := []) B cw_X8_240 cx_9 dX8_tick_39 (ci_X8_passTasks_920 l (σ := (ap b σ [(0, 8, 9), (0, 8, 8), (0, 8, 7), (0, 8, 6), (0, 8, 5), (0, 8, 4), (0, 8, 3), (0, 8, 2), (0, 8, 1)] [] [])) (b := b) (lyA hK) (rI_at 4 2 hI_4_2) (rR_at 0 3 hR_0_3)) (lKA (hk_K hK 0 rfl rfl)) rfl (by decide) rfl (Nat.le_of_ble_eq_true rfl) (by decide) (fun u hu => ?_)
  refine z_eqs (σ' := (ap b σ [(0, 8, 9), (0, 8, 8), (0, 8, 7), (0, 8, 6), (0, 8, 5), (0, 8, 4), (0, 8, 3), (0, 8, 2), (0, 8, 1)] [] [])) hu ?_
  show zx p l e _ s m _ below meth c g 3 0 0 _ _ 42 [(2, .int 8), (0, .ref (b + 0)), (1, .int 37)] _
  refine z_aload_n B dX8_tick_42 rfl 1 rfl ?_
  refine z_cVv (As := []) (rest := []) B cw_X8_243 cx_9 dX8_tick_43 (ci_X8_passTimers_921 l (σ := (ap b σ [(0, 8, 9), (0, 8, 8), (0, 8, 7), (0, 8, 6), (0, 8, 5), (0, 8, 4), (0, 8, 3), (0, 8, 2), (0, 8, 1)] [] [])) (b := b) (lyA hK) (rI_at 0 7 hI_0_7)) (lKA (hk_K hK 0 rfl rfl)) rfl (by decide) rfl (Nat.le_of_ble_eq_true rfl) (by decide) (fun u hu => ?_)
  refine z_eqs (σ' := (ap b σ [(0, 8, 9), (0, 8, 8), (0, 8, 7), (0, 8, 6), (0, 8, 5), (0, 8, 4), (0, 8, 3), (0, 8, 2), (0, 8, 1)] [] [])) hu ?_
  show zx p l e _ s m _ below meth c g 3 0 0 _ _ 46 [(2, .int 8), (0, .ref (b + 0)), (1, .int 37)] _
  refine z_iinc (v := 9) (lv' := [(2, .int 9), (0, .ref (b + 0)), (1, .int 37)]) B dX8_tick_46 0 rfl (by decide) (by decide) rfl ?_
  refine z_goto (tgt := 23) B dX8_tick_49 (by decide) ?_
  refine z_iload_n B dX8_tick_23 rfl 0 rfl ?_
  refine z_iload_n B dX8_tick_24 rfl 2 rfl ?_
  refine z_icmp_ge (tgt := 52) B dX8_tick_25 (by decide) (fun h => absurd h (by decide)) (fun _ => ?_)
  refine z_aload_n B dX8_tick_28 rfl 1 rfl ?_
  refine z_dup B dX8_tick_29 rfl ?_
  refine gf_X8_206 (x := 9) B (lKA (hk_K hK 0 rfl rfl)) (rI_at 0 8 rfl) dX8_tick_30 ?_
  refine z_iconst (v := 1) B dX8_tick_33 (by decide) ?_
  refine z_iadd B dX8_tick_34 ?_
  refine z_seti (y := 10) (by decide) ?_
  refine pf_X8_206 (x := 10) (σ' := (ap b σ [(0, 8, 10), (0, 8, 9), (0, 8, 8), (0, 8, 7), (0, 8, 6), (0, 8, 5), (0, 8, 4), (0, 8, 3), (0, 8, 2), (0, 8, 1)] [] [])) B (lKA (hk_K hK 0 rfl rfl)) wI_ap dX8_tick_35 ?_
  refine z_aload_n B dX8_tick_38 rfl 1 rfl ?_
  refine z_cVv (As := []) (rest := []) B cw_X8_240 cx_9 dX8_tick_39 (ci_X8_passTasks_920 l (σ := (ap b σ [(0, 8, 10), (0, 8, 9), (0, 8, 8), (0, 8, 7), (0, 8, 6), (0, 8, 5), (0, 8, 4), (0, 8, 3), (0, 8, 2), (0, 8, 1)] [] [])) (b := b) (lyA hK) (rI_at 4 2 hI_4_2) (rR_at 0 3 hR_0_3)) (lKA (hk_K hK 0 rfl rfl)) rfl (by decide) rfl (Nat.le_of_ble_eq_true rfl) (by decide) (fun u hu => ?_)
  refine z_eqs (σ' := (ap b σ [(0, 8, 10), (0, 8, 9), (0, 8, 8), (0, 8, 7), (0, 8, 6), (0, 8, 5), (0, 8, 4), (0, 8, 3), (0, 8, 2), (0, 8, 1)] [] [])) hu ?_
  show zx p l e _ s m _ below meth c g 3 0 0 _ _ 42 [(2, .int 9), (0, .ref (b + 0)), (1, .int 37)] _
  refine z_aload_n B dX8_tick_42 rfl 1 rfl ?_
  refine z_cVv (As := []) (rest := []) B cw_X8_243 cx_9 dX8_tick_43 (ci_X8_passTimers_921 l (σ := (ap b σ [(0, 8, 10), (0, 8, 9), (0, 8, 8), (0, 8, 7), (0, 8, 6), (0, 8, 5), (0, 8, 4), (0, 8, 3), (0, 8, 2), (0, 8, 1)] [] [])) (b := b) (lyA hK) (rI_at 0 7 hI_0_7)) (lKA (hk_K hK 0 rfl rfl)) rfl (by decide) rfl (Nat.le_of_ble_eq_true rfl) (by decide) (fun u hu => ?_)
  refine z_eqs (σ' := (ap b σ [(0, 8, 10), (0, 8, 9), (0, 8, 8), (0, 8, 7), (0, 8, 6), (0, 8, 5), (0, 8, 4), (0, 8, 3), (0, 8, 2), (0, 8, 1)] [] [])) hu ?_
  show zx p l e _ s m _ below meth c g 3 0 0 _ _ 46 [(2, .int 9), (0, .ref (b + 0)), (1, .int 37)] _
  refine z_iinc (v := 10) (lv' := [(2, .int 10), (0, .ref (b + 0)), (1, .int 37)]) B dX8_tick_46 0 rfl (by decide) (by decide) rfl ?_
  refine z_goto (tgt := 23) B dX8_tick_49 (by decide) ?_
  refine z_iload_n B dX8_tick_23 rfl 0 rfl ?_
  refine z_iload_n B dX8_tick_24 rfl 2 rfl ?_
  refine z_icmp_ge (tgt := 52) B dX8_tick_25 (by decide) (fun h => absurd h (by decide)) (fun _ => ?_)
  refine z_aload_n B dX8_tick_28 rfl 1 rfl ?_
  refine z_dup B dX8_tick_29 rfl ?_
  refine gf_X8_206 (x := 10) B (lKA (hk_K hK 0 rfl rfl)) (rI_at 0 8 rfl) dX8_tick_30 ?_
  refine z_iconst (v := 1) B dX8_tick_33 (by decide) ?_
  refine z_iadd B dX8_tick_34 ?_
  refine z_seti (y := 11) (by decide) ?_
  refine pf_X8_206 (x := 11) (σ' := (ap b σ [(0, 8, 11), (0, 8, 10), (0, 8, 9), (0, 8, 8), (0, 8, 7), (0, 8, 6), (0, 8, 5), (0, 8, 4), (0, 8, 3), (0, 8, 2), (0, 8, 1)] [] [])) B (lKA (hk_K hK 0 rfl rfl)) wI_ap dX8_tick_35 ?_
  refine z_aload_n B dX8_tick_38 rfl 1 rfl ?_
  refine z_cVv (As := []) (rest := []) B cw_X8_240 cx_9 dX8_tick_39 (ci_X8_passTasks_920 l (σ := (ap b σ [(0, 8, 11), (0, 8, 10), (0, 8, 9), (0, 8, 8), (0, 8, 7), (0, 8, 6), (0, 8, 5), (0, 8, 4), (0, 8, 3), (0, 8, 2), (0, 8, 1)] [] [])) (b := b) (lyA hK) (rI_at 4 2 hI_4_2) (rR_at 0 3 hR_0_3)) (lKA (hk_K hK 0 rfl rfl)) rfl (by decide) rfl (Nat.le_of_ble_eq_true rfl) (by decide) (fun u hu => ?_)
  refine z_eqs (σ' := (ap b σ [(0, 8, 11), (0, 8, 10), (0, 8, 9), (0, 8, 8), (0, 8, 7), (0, 8, 6), (0, 8, 5), (0, 8, 4), (0, 8, 3), (0, 8, 2), (0, 8, 1)] [] [])) hu ?_
  show zx p l e _ s m _ below meth c g 3 0 0 _ _ 42 [(2, .int 10), (0, .ref (b + 0)), (1, .int 37)] _
  refine z_aload_n B dX8_tick_42 rfl 1 rfl ?_
  refine z_cVv (As := []) (rest := []) B cw_X8_243 cx_9 dX8_tick_43 (ci_X8_passTimers_921 l (σ := (ap b σ [(0, 8, 11), (0, 8, 10), (0, 8, 9), (0, 8, 8), (0, 8, 7), (0, 8, 6), (0, 8, 5), (0, 8, 4), (0, 8, 3), (0, 8, 2), (0, 8, 1)] [] [])) (b := b) (lyA hK) (rI_at 0 7 hI_0_7)) (lKA (hk_K hK 0 rfl rfl)) rfl (by decide) rfl (Nat.le_of_ble_eq_true rfl) (by decide) (fun u hu => ?_)
  refine z_eqs (σ' := (ap b σ [(0, 8, 11), (0, 8, 10), (0, 8, 9), (0, 8, 8), (0, 8, 7), (0, 8, 6), (0, 8, 5), (0, 8, 4), (0, 8, 3), (0, 8, 2), (0, 8, 1)] [] [])) hu ?_
  show zx p l e _ s m _ below meth c g 3 0 0 _ _ 46 [(2, .int 10), (0, .ref (b + 0)), (1, .int 37)] _
  refine z_iinc (v := 11) (lv' := [(2, .int 11), (0, .ref (b + 0)), (1, .int 37)]) B dX8_tick_46 0 rfl (by decide) (by decide) rfl ?_
  refine z_goto (tgt := 23) B dX8_tick_49 (by decide) ?_
  refine z_iload_n B dX8_tick_23 rfl 0 rfl ?_
  refine z_iload_n B dX8_tick_24 rfl 2 rfl ?_
  refine z_icmp_ge (tgt := 52) B dX8_tick_25 (by decide) (fun h => absurd h (by decide)) (fun _ => ?_)
  refine z_aload_n B dX8_tick_28 rfl 1 rfl ?_
  refine z_dup B dX8_tick_29 rfl ?_
  refine gf_X8_206 (x := 11) B (lKA (hk_K hK 0 rfl rfl)) (rI_at 0 8 rfl) dX8_tick_30 ?_
  refine z_iconst (v := 1) B dX8_tick_33 (by decide) ?_
  refine z_iadd B dX8_tick_34 ?_
  refine z_seti (y := 12) (by decide) ?_
  refine pf_X8_206 (x := 12) (σ' := (ap b σ [(0, 8, 12), (0, 8, 11), (0, 8, 10), (0, 8, 9), (0, 8, 8), (0, 8, 7), (0, 8, 6), (0, 8, 5), (0, 8, 4), (0, 8, 3), (0, 8, 2), (0, 8, 1)] [] [])) B (lKA (hk_K hK 0 rfl rfl)) wI_ap dX8_tick_35 ?_
  refine z_aload_n B dX8_tick_38 rfl 1 rfl ?_
  refine z_cVv (As := []) (rest := []) B cw_X8_240 cx_9 dX8_tick_39 (ci_X8_passTasks_920 l (σ := (ap b σ [(0, 8, 12), (0, 8, 11), (0, 8, 10), (0, 8, 9), (0, 8, 8), (0, 8, 7), (0, 8, 6), (0, 8, 5), (0, 8, 4), (0, 8, 3), (0, 8, 2), (0, 8, 1)] [] [])) (b := b) (lyA hK) (rI_at 4 2 hI_4_2) (rR_at 0 3 hR_0_3)) (lKA (hk_K hK 0 rfl rfl)) rfl (by decide) rfl (Nat.le_of_ble_eq_true rfl) (by decide) (fun u hu => ?_)
  refine z_eqs (σ' := (ap b σ [(0, 8, 12), (0, 8, 11), (0, 8, 10), (0, 8, 9), (0, 8, 8), (0, 8, 7), (0, 8, 6), (0, 8, 5), (0, 8, 4), (0, 8, 3), (0, 8, 2), (0, 8, 1)] [] [])) hu ?_
  show zx p l e _ s m _ below meth c g 3 0 0 _ _ 42 [(2, .int 11), (0, .ref (b + 0)), (1, .int 37)] _
  refine z_aload_n B dX8_tick_42 rfl 1 rfl ?_
  refine z_cVv (As := []) (rest := []) B cw_X8_243 cx_9 dX8_tick_43 (ci_X8_passTimers_921 l (σ := (ap b σ [(0, 8, 12), (0, 8, 11), (0, 8, 10), (0, 8, 9), (0, 8, 8), (0, 8, 7), (0, 8, 6), (0, 8, 5), (0, 8, 4), (0, 8, 3), (0, 8, 2), (0, 8, 1)] [] [])) (b := b) (lyA hK) (rI_at 0 7 hI_0_7)) (lKA (hk_K hK 0 rfl rfl)) rfl (by decide) rfl (Nat.le_of_ble_eq_true rfl) (by decide) (fun u hu => ?_)
  refine z_eqs (σ' := (ap b σ [(0, 8, 12), (0, 8, 11), (0, 8, 10), (0, 8, 9), (0, 8, 8), (0, 8, 7), (0, 8, 6), (0, 8, 5), (0, 8, 4), (0, 8, 3), (0, 8, 2), (0, 8, 1)] [] [])) hu ?_
  show zx p l e _ s m _ below meth c g 3 0 0 _ _ 46 [(2, .int 11), (0, .ref (b + 0)), (1, .int 37)] _
  refine z_iinc (v := 12) (lv' := [(2, .int 12), (0, .ref (b + 0)), (1, .int 37)]) B dX8_tick_46 0 rfl (by decide) (by decide) rfl ?_
  refine z_goto (tgt := 23) B dX8_tick_49 (by decide) ?_
  refine z_iload_n B dX8_tick_23 rfl 0 rfl ?_
  refine z_iload_n B dX8_tick_24 rfl 2 rfl ?_
  refine z_icmp_ge (tgt := 52) B dX8_tick_25 (by decide) (fun h => absurd h (by decide)) (fun _ => ?_)
  refine z_aload_n B dX8_tick_28 rfl 1 rfl ?_
  refine z_dup B dX8_tick_29 rfl ?_
  refine gf_X8_206 (x := 12) B (lKA (hk_K hK 0 rfl rfl)) (rI_at 0 8 rfl) dX8_tick_30 ?_
  refine z_iconst (v := 1) B dX8_tick_33 (by decide) ?_
  refine z_iadd B dX8_tick_34 ?_
  refine z_seti (y := 13) (by decide) ?_
  refine pf_X8_206 (x := 13) (σ' := (ap b σ [(0, 8, 13), (0, 8, 12), (0, 8, 11), (0, 8, 10), (0, 8, 9), (0, 8, 8), (0, 8, 7), (0, 8, 6), (0, 8, 5), (0, 8, 4), (0, 8, 3), (0, 8, 2), (0, 8, 1)] [] [])) B (lKA (hk_K hK 0 rfl rfl)) wI_ap dX8_tick_35 ?_
  refine z_aload_n B dX8_tick_38 rfl 1 rfl ?_
  refine z_cVv (As := []) (rest := []) B cw_X8_240 cx_9 dX8_tick_39 (ci_X8_passTasks_920 l (σ := (ap b σ [(0, 8, 13), (0, 8, 12), (0, 8, 11), (0, 8, 10), (0, 8, 9), (0, 8, 8), (0, 8, 7), (0, 8, 6), (0, 8, 5), (0, 8, 4), (0, 8, 3), (0, 8, 2), (0, 8, 1)] [] [])) (b := b) (lyA hK) (rI_at 4 2 hI_4_2) (rR_at 0 3 hR_0_3)) (lKA (hk_K hK 0 rfl rfl)) rfl (by decide) rfl (Nat.le_of_ble_eq_true rfl) (by decide) (fun u hu => ?_)
  refine z_eqs (σ' := (ap b σ [(0, 8, 13), (0, 8, 12), (0, 8, 11), (0, 8, 10), (0, 8, 9), (0, 8, 8), (0, 8, 7), (0, 8, 6), (0, 8, 5), (0, 8, 4), (0, 8, 3), (0, 8, 2), (0, 8, 1)] [] [])) hu ?_
  show zx p l e _ s m _ below meth c g 3 0 0 _ _ 42 [(2, .int 12), (0, .ref (b + 0)), (1, .int 37)] _
  refine z_aload_n B dX8_tick_42 rfl 1 rfl ?_
  refine z_cVv (As := []) (rest := []) B cw_X8_243 cx_9 dX8_tick_43 (ci_X8_passTimers_921 l (σ := (ap b σ [(0, 8, 13), (0, 8, 12), (0, 8, 11), (0, 8, 10), (0, 8, 9), (0, 8, 8), (0, 8, 7), (0, 8, 6), (0, 8, 5), (0, 8, 4), (0, 8, 3), (0, 8, 2), (0, 8, 1)] [] [])) (b := b) (lyA hK) (rI_at 0 7 hI_0_7)) (lKA (hk_K hK 0 rfl rfl)) rfl (by decide) rfl (Nat.le_of_ble_eq_true rfl) (by decide) (fun u hu => ?_)
  refine z_eqs (σ' := (ap b σ [(0, 8, 13), (0, 8, 12), (0, 8, 11), (0, 8, 10), (0, 8, 9), (0, 8, 8), (0, 8, 7), (0, 8, 6), (0, 8, 5), (0, 8, 4), (0, 8, 3), (0, 8, 2), (0, 8, 1)] [] [])) hu ?_
  show zx p l e _ s m _ below meth c g 3 0 0 _ _ 46 [(2, .int 12), (0, .ref (b + 0)), (1, .int 37)] _
  refine z_iinc (v := 13) (lv' := [(2, .int 13), (0, .ref (b + 0)), (1, .int 37)]) B dX8_tick_46 0 rfl (by decide) (by decide) rfl ?_
  refine z_goto (tgt := 23) B dX8_tick_49 (by decide) ?_
  refine z_iload_n B dX8_tick_23 rfl 0 rfl ?_
  refine z_iload_n B dX8_tick_24 rfl 2 rfl ?_
  refine z_icmp_ge (tgt := 52) B dX8_tick_25 (by decide) (fun h => absurd h (by decide)) (fun _ => ?_)
  refine z_aload_n B dX8_tick_28 rfl 1 rfl ?_
  refine z_dup B dX8_tick_29 rfl ?_
  refine gf_X8_206 (x := 13) B (lKA (hk_K hK 0 rfl rfl)) (rI_at 0 8 rfl) dX8_tick_30 ?_
  refine z_iconst (v := 1) B dX8_tick_33 (by decide) ?_
  refine z_iadd B dX8_tick_34 ?_
  refine z_seti (y := 14) (by decide) ?_
  refine pf_X8_206 (x := 14) (σ' := (ap b σ [(0, 8, 14), (0, 8, 13), (0, 8, 12), (0, 8, 11), (0, 8, 10), (0, 8, 9), (0, 8, 8), (0, 8, 7), (0, 8, 6), (0, 8, 5), (0, 8, 4), (0, 8, 3), (0, 8, 2), (0, 8, 1)] [] [])) B (lKA (hk_K hK 0 rfl rfl)) wI_ap dX8_tick_35 ?_
  refine z_aload_n B dX8_tick_38 rfl 1 rfl ?_
  refine z_cVv (As := []) (rest := []) B cw_X8_240 cx_9 dX8_tick_39 (ci_X8_passTasks_920 l (σ := (ap b σ [(0, 8, 14), (0, 8, 13), (0, 8, 12), (0, 8, 11), (0, 8, 10), (0, 8, 9), (0, 8, 8), (0, 8, 7), (0, 8, 6), (0, 8, 5), (0, 8, 4), (0, 8, 3), (0, 8, 2), (0, 8, 1)] [] [])) (b := b) (lyA hK) (rI_at 4 2 hI_4_2) (rR_at 0 3 hR_0_3)) (lKA (hk_K hK 0 rfl rfl)) rfl (by decide) rfl (Nat.le_of_ble_eq_true rfl) (by decide) (fun u hu => ?_)
  refine z_eqs (σ' := (ap b σ [(0, 8, 14), (0, 8, 13), (0, 8, 12), (0, 8, 11), (0, 8, 10), (0, 8, 9), (0, 8, 8), (0, 8, 7), (0, 8, 6), (0, 8, 5), (0, 8, 4), (0, 8, 3), (0, 8, 2), (0, 8, 1)] [] [])) hu ?_
  show zx p l e _ s m _ below meth c g 3 0 0 _ _ 42 [(2, .int 13), (0, .ref (b + 0)), (1, .int 37)] _
  refine z_aload_n B dX8_tick_42 rfl 1 rfl ?_
  refine z_cVv (As := []) (rest := []) B cw_X8_243 cx_9 dX8_tick_43 (ci_X8_passTimers_921 l (σ := (ap b σ [(0, 8, 14), (0, 8, 13), (0, 8, 12), (0, 8, 11), (0, 8, 10), (0, 8, 9), (0, 8, 8), (0, 8, 7), (0, 8, 6), (0, 8, 5), (0, 8, 4), (0, 8, 3), (0, 8, 2), (0, 8, 1)] [] [])) (b := b) (lyA hK) (rI_at 0 7 hI_0_7)) (lKA (hk_K hK 0 rfl rfl)) rfl (by decide) rfl (Nat.le_of_ble_eq_true rfl) (by decide) (fun u hu => ?_)
  refine z_eqs (σ' := (ap b σ [(0, 8, 14), (0, 8, 13), (0, 8, 12), (0, 8, 11), (0, 8, 10), (0, 8, 9), (0, 8, 8), (0, 8, 7), (0, 8, 6), (0, 8, 5), (0, 8, 4), (0, 8, 3), (0, 8, 2), (0, 8, 1)] [] [])) hu ?_
  show zx p l e _ s m _ below meth c g 3 0 0 _ _ 46 [(2, .int 13), (0, .ref (b + 0)), (1, .int 37)] _
  refine z_iinc (v := 14) (lv' := [(2, .int 14), (0, .ref (b + 0)), (1, .int 37)]) B dX8_tick_46 0 rfl (by decide) (by decide) rfl ?_
  refine z_goto (tgt := 23) B dX8_tick_49 (by decide) ?_
  refine z_iload_n B dX8_tick_23 rfl 0 rfl ?_
  refine z_iload_n B dX8_tick_24 rfl 2 rfl ?_
  refine z_icmp_ge (tgt := 52) B dX8_tick_25 (by decide) (fun h => absurd h (by decide)) (fun _ => ?_)
  refine z_aload_n B dX8_tick_28 rfl 1 rfl ?_
  refine z_dup B dX8_tick_29 rfl ?_
  refine gf_X8_206 (x := 14) B (lKA (hk_K hK 0 rfl rfl)) (rI_at 0 8 rfl) dX8_tick_30 ?_
  refine z_iconst (v := 1) B dX8_tick_33 (by decide) ?_
  refine z_iadd B dX8_tick_34 ?_
  refine z_seti (y := 15) (by decide) ?_
  refine pf_X8_206 (x := 15) (σ' := (ap b σ [(0, 8, 15), (0, 8, 14), (0, 8, 13), (0, 8, 12), (0, 8, 11), (0, 8, 10), (0, 8, 9), (0, 8, 8), (0, 8, 7), (0, 8, 6), (0, 8, 5), (0, 8, 4), (0, 8, 3), (0, 8, 2), (0, 8, 1)] [] [])) B (lKA (hk_K hK 0 rfl rfl)) wI_ap dX8_tick_35 ?_
  refine z_aload_n B dX8_tick_38 rfl 1 rfl ?_
  refine z_cVv (As := []) (rest := []) B cw_X8_240 cx_9 dX8_tick_39 (ci_X8_passTasks_920 l (σ := (ap b σ [(0, 8, 15), (0, 8, 14), (0, 8, 13), (0, 8, 12), (0, 8, 11), (0, 8, 10), (0, 8, 9), (0, 8, 8), (0, 8, 7), (0, 8, 6), (0, 8, 5), (0, 8, 4), (0, 8, 3), (0, 8, 2), (0, 8, 1)] [] [])) (b := b) (lyA hK) (rI_at 4 2 hI_4_2) (rR_at 0 3 hR_0_3)) (lKA (hk_K hK 0 rfl rfl)) rfl (by decide) rfl (Nat.le_of_ble_eq_true rfl) (by decide) (fun u hu => ?_)
  refine z_eqs (σ' := (ap b σ [(0, 8, 15), (0, 8, 14), (0, 8, 13), (0, 8, 12), (0, 8, 11), (0, 8, 10), (0, 8, 9), (0, 8, 8), (0, 8, 7), (0, 8, 6), (0, 8, 5), (0, 8, 4), (0, 8, 3), (0, 8, 2), (0, 8, 1)] [] [])) hu ?_
  show zx p l e _ s m _ below meth c g 3 0 0 _ _ 42 [(2, .int 14), (0, .ref (b + 0)), (1, .int 37)] _
  refine z_aload_n B dX8_tick_42 rfl 1 rfl ?_
  refine z_cVv (As := []) (rest := []) B cw_X8_243 cx_9 dX8_tick_43 (ci_X8_passTimers_921 l (σ := (ap b σ [(0, 8, 15), (0, 8, 14), (0, 8, 13), (0, 8, 12), (0, 8, 11), (0, 8, 10), (0, 8, 9), (0, 8, 8), (0, 8, 7), (0, 8, 6), (0, 8, 5), (0, 8, 4), (0, 8, 3), (0, 8, 2), (0, 8, 1)] [] [])) (b := b) (lyA hK) (rI_at 0 7 hI_0_7)) (lKA (hk_K hK 0 rfl rfl)) rfl (by decide) rfl (Nat.le_of_ble_eq_true rfl) (by decide) (fun u hu => ?_)
  refine z_eqs (σ' := (ap b σ [(0, 8, 15), (0, 8, 14), (0, 8, 13), (0, 8, 12), (0, 8, 11), (0, 8, 10), (0, 8, 9), (0, 8, 8), (0, 8, 7), (0, 8, 6), (0, 8, 5), (0, 8, 4), (0, 8, 3), (0, 8, 2), (0, 8, 1)] [] [])) hu ?_
  show zx p l e _ s m _ below meth c g 3 0 0 _ _ 46 [(2, .int 14), (0, .ref (b + 0)), (1, .int 37)] _
  refine z_iinc (v := 15) (lv' := [(2, .int 15), (0, .ref (b + 0)), (1, .int 37)]) B dX8_tick_46 0 rfl (by decide) (by decide) rfl ?_
  refine z_goto (tgt := 23) B dX8_tick_49 (by decide) ?_
  refine z_iload_n B dX8_tick_23 rfl 0 rfl ?_
  refine z_iload_n B dX8_tick_24 rfl 2 rfl ?_
  refine z_icmp_ge (tgt := 52) B dX8_tick_25 (by decide) (fun h => absurd h (by decide)) (fun _ => ?_)
  refine z_aload_n B dX8_tick_28 rfl 1 rfl ?_
  refine z_dup B dX8_tick_29 rfl ?_
  refine gf_X8_206 (x := 15) B (lKA (hk_K hK 0 rfl rfl)) (rI_at 0 8 rfl) dX8_tick_30 ?_
  refine z_iconst (v := 1) B dX8_tick_33 (by decide) ?_
  refine z_iadd B dX8_tick_34 ?_
  refine z_seti (y := 16) (by decide) ?_
  refine pf_X8_206 (x := 16) (σ' := (ap b σ [(0, 8, 16), (0, 8, 15), (0, 8, 14), (0, 8, 13), (0, 8, 12), (0, 8, 11), (0, 8, 10), (0, 8, 9), (0, 8, 8), (0, 8, 7), (0, 8, 6), (0, 8, 5), (0, 8, 4), (0, 8, 3), (0, 8, 2), (0, 8, 1)] [] [])) B (lKA (hk_K hK 0 rfl rfl)) wI_ap dX8_tick_35 ?_
  refine z_aload_n B dX8_tick_38 rfl 1 rfl ?_
  refine z_cVv (As := []) (rest := []) B cw_X8_240 cx_9 dX8_tick_39 (ci_X8_passTasks_920 l (σ := (ap b σ [(0, 8, 16), (0, 8, 15), (0, 8, 14), (0, 8, 13), (0, 8, 12), (0, 8, 11), (0, 8, 10), (0, 8, 9), (0, 8, 8), (0, 8, 7), (0, 8, 6), (0, 8, 5), (0, 8, 4), (0, 8, 3), (0, 8, 2), (0, 8, 1)] [] [])) (b := b) (lyA hK) (rI_at 4 2 hI_4_2) (rR_at 0 3 hR_0_3)) (lKA (hk_K hK 0 rfl rfl)) rfl (by decide) rfl (Nat.le_of_ble_eq_true rfl) (by decide) (fun u hu => ?_)
  refine z_eqs (σ' := (ap b σ [(0, 8, 16), (0, 8, 15), (0, 8, 14), (0, 8, 13), (0, 8, 12), (0, 8, 11), (0, 8, 10), (0, 8, 9), (0, 8, 8), (0, 8, 7), (0, 8, 6), (0, 8, 5), (0, 8, 4), (0, 8, 3), (0, 8, 2), (0, 8, 1)] [] [])) hu ?_
  show zx p l e _ s m _ below meth c g 3 0 0 _ _ 42 [(2, .int 15), (0, .ref (b + 0)), (1, .int 37)] _
  refine z_aload_n B dX8_tick_42 rfl 1 rfl ?_
  refine z_cVv (As := []) (rest := []) B cw_X8_243 cx_9 dX8_tick_43 (ci_X8_passTimers_921 l (σ := (ap b σ [(0, 8, 16), (0, 8, 15), (0, 8, 14), (0, 8, 13), (0, 8, 12), (0, 8, 11), (0, 8, 10), (0, 8, 9), (0, 8, 8), (0, 8, 7), (0, 8, 6), (0, 8, 5), (0, 8, 4), (0, 8, 3), (0, 8, 2), (0, 8, 1)] [] [])) (b := b) (lyA hK) (rI_at 0 7 hI_0_7)) (lKA (hk_K hK 0 rfl rfl)) rfl (by decide) rfl (Nat.le_of_ble_eq_true rfl) (by decide) (fun u hu => ?_)
  refine z_eqs (σ' := (ap b σ [(0, 8, 16), (0, 8, 15), (0, 8, 14), (0, 8, 13), (0, 8, 12), (0, 8, 11), (0, 8, 10), (0, 8, 9), (0, 8, 8), (0, 8, 7), (0, 8, 6), (0, 8, 5), (0, 8, 4), (0, 8, 3), (0, 8, 2), (0, 8, 1)] [] [])) hu ?_
  show zx p l e _ s m _ below meth c g 3 0 0 _ _ 46 [(2, .int 15), (0, .ref (b + 0)), (1, .int 37)] _
  refine z_iinc (v := 16) (lv' := [(2, .int 16), (0, .ref (b + 0)), (1, .int 37)]) B dX8_tick_46 0 rfl (by decide) (by decide) rfl ?_
  refine z_goto (tgt := 23) B dX8_tick_49 (by decide) ?_
  refine z_iload_n B dX8_tick_23 rfl 0 rfl ?_
  refine z_iload_n B dX8_tick_24 rfl 2 rfl ?_
  refine z_icmp_ge (tgt := 52) B dX8_tick_25 (by decide) (fun h => absurd h (by decide)) (fun _ => ?_)
  refine z_aload_n B dX8_tick_28 rfl 1 rfl ?_
  refine z_dup B dX8_tick_29 rfl ?_
  refine gf_X8_206 (x := 16) B (lKA (hk_K hK 0 rfl rfl)) (rI_at 0 8 rfl) dX8_tick_30 ?_
  refine z_iconst (v := 1) B dX8_tick_33 (by decide) ?_
  refine z_iadd B dX8_tick_34 ?_
  refine z_seti (y := 17) (by decide) ?_
  refine pf_X8_206 (x := 17) (σ' := (ap b σ [(0, 8, 17), (0, 8, 16), (0, 8, 15), (0, 8, 14), (0, 8, 13), (0, 8, 12), (0, 8, 11), (0, 8, 10), (0, 8, 9), (0, 8, 8), (0, 8, 7), (0, 8, 6), (0, 8, 5), (0, 8, 4), (0, 8, 3), (0, 8, 2), (0, 8, 1)] [] [])) B (lKA (hk_K hK 0 rfl rfl)) wI_ap dX8_tick_35 ?_
  refine z_aload_n B dX8_tick_38 rfl 1 rfl ?_
  refine z_cVv (As := []) (rest := []) B cw_X8_240 cx_9 dX8_tick_39 (ci_X8_passTasks_920 l (σ := (ap b σ [(0, 8, 17), (0, 8, 16), (0, 8, 15), (0, 8, 14), (0, 8, 13), (0, 8, 12), (0, 8, 11), (0, 8, 10), (0, 8, 9), (0, 8, 8), (0, 8, 7), (0, 8, 6), (0, 8, 5), (0, 8, 4), (0, 8, 3), (0, 8, 2), (0, 8, 1)] [] [])) (b := b) (lyA hK) (rI_at 4 2 hI_4_2) (rR_at 0 3 hR_0_3)) (lKA (hk_K hK 0 rfl rfl)) rfl (by decide) rfl (Nat.le_of_ble_eq_true rfl) (by decide) (fun u hu => ?_)
  refine z_eqs (σ' := (ap b σ [(0, 8, 17), (0, 8, 16), (0, 8, 15), (0, 8, 14), (0, 8, 13), (0, 8, 12), (0, 8, 11), (0, 8, 10), (0, 8, 9), (0, 8, 8), (0, 8, 7), (0, 8, 6), (0, 8, 5), (0, 8, 4), (0, 8, 3), (0, 8, 2), (0, 8, 1)] [] [])) hu ?_
  show zx p l e _ s m _ below meth c g 3 0 0 _ _ 42 [(2, .int 16), (0, .ref (b + 0)), (1, .int 37)] _
  refine z_aload_n B dX8_tick_42 rfl 1 rfl ?_
  refine z_cVv (As := []) (rest := []) B cw_X8_243 cx_9 dX8_tick_43 (ci_X8_passTimers_921 l (σ := (ap b σ [(0, 8, 17), (0, 8, 16), (0, 8, 15), (0, 8, 14), (0, 8, 13), (0, 8, 12), (0, 8, 11), (0, 8, 10), (0, 8, 9), (0, 8, 8), (0, 8, 7), (0, 8, 6), (0, 8, 5), (0, 8, 4), (0, 8, 3), (0, 8, 2), (0, 8, 1)] [] [])) (b := b) (lyA hK) (rI_at 0 7 hI_0_7)) (lKA (hk_K hK 0 rfl rfl)) rfl (by decide) rfl (Nat.le_of_ble_eq_true rfl) (by decide) (fun u hu => ?_)
  refine z_eqs (σ' := (ap b σ [(0, 8, 17), (0, 8, 16), (0, 8, 15), (0, 8, 14), (0, 8, 13), (0, 8, 12), (0, 8, 11), (0, 8, 10), (0, 8, 9), (0, 8, 8), (0, 8, 7), (0, 8, 6), (0, 8, 5), (0, 8, 4), (0, 8, 3), (0, 8, 2), (0, 8, 1)] [] [])) hu ?_
  show zx p l e _ s m _ below meth c g 3 0 0 _ _ 46 [(2, .int 16), (0, .ref (b + 0)), (1, .int 37)] _
  refine z_iinc (v := 17) (lv' := [(2, .int 17), (0, .ref (b + 0)), (1, .int 37)]) B dX8_tick_46 0 rfl (by decide) (by decide) rfl ?_
  refine z_goto (tgt := 23) B dX8_tick_49 (by decide) ?_
  refine z_iload_n B dX8_tick_23 rfl 0 rfl ?_
  refine z_iload_n B dX8_tick_24 rfl 2 rfl ?_
  refine z_icmp_ge (tgt := 52) B dX8_tick_25 (by decide) (fun h => absurd h (by decide)) (fun _ => ?_)
  refine z_aload_n B dX8_tick_28 rfl 1 rfl ?_
  refine z_dup B dX8_tick_29 rfl ?_
  refine gf_X8_206 (x := 17) B (lKA (hk_K hK 0 rfl rfl)) (rI_at 0 8 rfl) dX8_tick_30 ?_
  refine z_iconst (v := 1) B dX8_tick_33 (by decide) ?_
  refine z_iadd B dX8_tick_34 ?_
  refine z_seti (y := 18) (by decide) ?_
  refine pf_X8_206 (x := 18) (σ' := (ap b σ [(0, 8, 18), (0, 8, 17), (0, 8, 16), (0, 8, 15), (0, 8, 14), (0, 8, 13), (0, 8, 12), (0, 8, 11), (0, 8, 10), (0, 8, 9), (0, 8, 8), (0, 8, 7), (0, 8, 6), (0, 8, 5), (0, 8, 4), (0, 8, 3), (0, 8, 2), (0, 8, 1)] [] [])) B (lKA (hk_K hK 0 rfl rfl)) wI_ap dX8_tick_35 ?_
  refine z_aload_n B dX8_tick_38 rfl 1 rfl ?_
  refine z_cVv (As := []) (rest := []) B cw_X8_240 cx_9 dX8_tick_39 (ci_X8_passTasks_920 l (σ := (ap b σ [(0, 8, 18), (0, 8, 17), (0, 8, 16), (0, 8, 15), (0, 8, 14), (0, 8, 13), (0, 8, 12), (0, 8, 11), (0, 8, 10), (0, 8, 9), (0, 8, 8), (0, 8, 7), (0, 8, 6), (0, 8, 5), (0, 8, 4), (0, 8, 3), (0, 8, 2), (0, 8, 1)] [] [])) (b := b) (lyA hK) (rI_at 4 2 hI_4_2) (rR_at 0 3 hR_0_3)) (lKA (hk_K hK 0 rfl rfl)) rfl (by decide) rfl (Nat.le_of_ble_eq_true rfl) (by decide) (fun u hu => ?_)
  refine z_eqs (σ' := (ap b σ [(0, 8, 18), (0, 8, 17), (0, 8, 16), (0, 8, 15), (0, 8, 14), (0, 8, 13), (0, 8, 12), (0, 8, 11), (0, 8, 10), (0, 8, 9), (0, 8, 8), (0, 8, 7), (0, 8, 6), (0, 8, 5), (0, 8, 4), (0, 8, 3), (0, 8, 2), (0, 8, 1)] [] [])) hu ?_
  show zx p l e _ s m _ below meth c g 3 0 0 _ _ 42 [(2, .int 17), (0, .ref (b + 0)), (1, .int 37)] _
  refine z_aload_n B dX8_tick_42 rfl 1 rfl ?_
  refine z_cVv (As := []) (rest := []) B cw_X8_243 cx_9 dX8_tick_43 (ci_X8_passTimers_921 l (σ := (ap b σ [(0, 8, 18), (0, 8, 17), (0, 8, 16), (0, 8, 15), (0, 8, 14), (0, 8, 13), (0, 8, 12), (0, 8, 11), (0, 8, 10), (0, 8, 9), (0, 8, 8), (0, 8, 7), (0, 8, 6), (0, 8, 5), (0, 8, 4), (0, 8, 3), (0, 8, 2), (0, 8, 1)] [] [])) (b := b) (lyA hK) (rI_at 0 7 hI_0_7)) (lKA (hk_K hK 0 rfl rfl)) rfl (by decide) rfl (Nat.le_of_ble_eq_true rfl) (by decide) (fun u hu => ?_)
  refine z_eqs (σ' := (ap b σ [(0, 8, 18), (0, 8, 17), (0, 8, 16), (0, 8, 15), (0, 8, 14), (0, 8, 13), (0, 8, 12), (0, 8, 11), (0, 8, 10), (0, 8, 9), (0, 8, 8), (0, 8, 7), (0, 8, 6), (0, 8, 5), (0, 8, 4), (0, 8, 3), (0, 8, 2), (0, 8, 1)] [] [])) hu ?_
  show zx p l e _ s m _ below meth c g 3 0 0 _ _ 46 [(2, .int 17), (0, .ref (b + 0)), (1, .int 37)] _
  refine z_iinc (v := 18) (lv' := [(2, .int 18), (0, .ref (b + 0)), (1, .int 37)]) B dX8_tick_46 0 rfl (by decide) (by decide) rfl ?_
  refine z_goto (tgt := 23) B dX8_tick_49 (by decide) ?_
  refine z_iload_n B dX8_tick_23 rfl 0 rfl ?_
  refine z_iload_n B dX8_tick_24 rfl 2 rfl ?_
  refine z_icmp_ge (tgt := 52) B dX8_tick_25 (by decide) (fun h => absurd h (by decide)) (fun _ => ?_)
  refine z_aload_n B dX8_tick_28 rfl 1 rfl ?_
  refine z_dup B dX8_tick_29 rfl ?_
  refine gf_X8_206 (x := 18) B (lKA (hk_K hK 0 rfl rfl)) (rI_at 0 8 rfl) dX8_tick_30 ?_
  refine z_iconst (v := 1) B dX8_tick_33 (by decide) ?_
  refine z_iadd B dX8_tick_34 ?_
  refine z_seti (y := 19) (by decide) ?_
  refine pf_X8_206 (x := 19) (σ' := (ap b σ [(0, 8, 19), (0, 8, 18), (0, 8, 17), (0, 8, 16), (0, 8, 15), (0, 8, 14), (0, 8, 13), (0, 8, 12), (0, 8, 11), (0, 8, 10), (0, 8, 9), (0, 8, 8), (0, 8, 7), (0, 8, 6), (0, 8, 5), (0, 8, 4), (0, 8, 3), (0, 8, 2), (0, 8, 1)] [] [])) B (lKA (hk_K hK 0 rfl rfl)) wI_ap dX8_tick_35 ?_
  refine z_aload_n B dX8_tick_38 rfl 1 rfl ?_
  refine z_cVv (As := []) (rest := []) B cw_X8_240 cx_9 dX8_tick_39 (ci_X8_passTasks_920 l (σ := (ap b σ [(0, 8, 19), (0, 8, 18), (0, 8, 17), (0, 8, 16), (0, 8, 15), (0, 8, 14), (0, 8, 13), (0, 8, 12), (0, 8, 11), (0, 8, 10), (0, 8, 9), (0, 8, 8), (0, 8, 7), (0, 8, 6), (0, 8, 5), (0, 8, 4), (0, 8, 3), (0, 8, 2), (0, 8, 1)] [] [])) (b := b) (lyA hK) (rI_at 4 2 hI_4_2) (rR_at 0 3 hR_0_3)) (lKA (hk_K hK 0 rfl rfl)) rfl (by decide) rfl (Nat.le_of_ble_eq_true rfl) (by decide) (fun u hu => ?_)
  refine z_eqs (σ' := (ap b σ [(0, 8, 19), (0, 8, 18), (0, 8, 17), (0, 8, 16), (0, 8, 15), (0, 8, 14), (0, 8, 13), (0, 8, 12), (0, 8, 11), (0, 8, 10), (0, 8, 9), (0, 8, 8), (0, 8, 7), (0, 8, 6), (0, 8, 5), (0, 8, 4), (0, 8, 3), (0, 8, 2), (0, 8, 1)] [] [])) hu ?_
  show zx p l e _ s m _ below meth c g 3 0 0 _ _ 42 [(2, .int 18), (0, .ref (b + 0)), (1, .int 37)] _
  refine z_aload_n B dX8_tick_42 rfl 1 rfl ?_
  refine z_cVv (As := []) (rest := []) B cw_X8_243 cx_9 dX8_tick_43 (ci_X8_passTimers_921 l (σ := (ap b σ [(0, 8, 19), (0, 8, 18), (0, 8, 17), (0, 8, 16), (0, 8, 15), (0, 8, 14), (0, 8, 13), (0, 8, 12), (0, 8, 11), (0, 8, 10), (0, 8, 9), (0, 8, 8), (0, 8, 7), (0, 8, 6), (0, 8, 5), (0, 8, 4), (0, 8, 3), (0, 8, 2), (0, 8, 1)] [] [])) (b := b) (lyA hK) (rI_at 0 7 hI_0_7)) (lKA (hk_K hK 0 rfl rfl)) rfl (by decide) rfl (Nat.le_of_ble_eq_true rfl) (by decide) (fun u hu => ?_)
  refine z_eqs (σ' := (ap b σ [(0, 8, 19), (0, 8, 18), (0, 8, 17), (0, 8, 16), (0, 8, 15), (0, 8, 14), (0, 8, 13), (0, 8, 12), (0, 8, 11), (0, 8, 10), (0, 8, 9), (0, 8, 8), (0, 8, 7), (0, 8, 6), (0, 8, 5), (0, 8, 4), (0, 8, 3), (0, 8, 2), (0, 8, 1)] [] [])) hu ?_
  show zx p l e _ s m _ below meth c g 3 0 0 _ _ 46 [(2, .int 18), (0, .ref (b + 0)), (1, .int 37)] _
  refine z_iinc (v := 19) (lv' := [(2, .int 19), (0, .ref (b + 0)), (1, .int 37)]) B dX8_tick_46 0 rfl (by decide) (by decide) rfl ?_
  refine z_goto (tgt := 23) B dX8_tick_49 (by decide) ?_
  refine z_iload_n B dX8_tick_23 rfl 0 rfl ?_
  refine z_iload_n B dX8_tick_24 rfl 2 rfl ?_
  refine z_icmp_ge (tgt := 52) B dX8_tick_25 (by decide) (fun h => absurd h (by decide)) (fun _ => ?_)
  refine z_aload_n B dX8_tick_28 rfl 1 rfl ?_
  refine z_dup B dX8_tick_29 rfl ?_
  refine gf_X8_206 (x := 19) B (lKA (hk_K hK 0 rfl rfl)) (rI_at 0 8 rfl) dX8_tick_30 ?_
  refine z_iconst (v := 1) B dX8_tick_33 (by decide) ?_
  refine z_iadd B dX8_tick_34 ?_
  refine z_seti (y := 20) (by decide) ?_
  refine pf_X8_206 (x := 20) (σ' := (ap b σ [(0, 8, 20), (0, 8, 19), (0, 8, 18), (0, 8, 17), (0, 8, 16), (0, 8, 15), (0, 8, 14), (0, 8, 13), (0, 8, 12), (0, 8, 11), (0, 8, 10), (0, 8, 9), (0, 8, 8), (0, 8, 7), (0, 8, 6), (0, 8, 5), (0, 8, 4), (0, 8, 3), (0, 8, 2), (0, 8, 1)] [] [])) B (lKA (hk_K hK 0 rfl rfl)) wI_ap dX8_tick_35 ?_
  refine z_aload_n B dX8_tick_38 rfl 1 rfl ?_
  refine z_cVv (As := []) (rest := []) B cw_X8_240 cx_9 dX8_tick_39 (ci_X8_passTasks_920 l (σ := (ap b σ [(0, 8, 20), (0, 8, 19), (0, 8, 18), (0, 8, 17), (0, 8, 16), (0, 8, 15), (0, 8, 14), (0, 8, 13), (0, 8, 12), (0, 8, 11), (0, 8, 10), (0, 8, 9), (0, 8, 8), (0, 8, 7), (0, 8, 6), (0, 8, 5), (0, 8, 4), (0, 8, 3), (0, 8, 2), (0, 8, 1)] [] [])) (b := b) (lyA hK) (rI_at 4 2 hI_4_2) (rR_at 0 3 hR_0_3)) (lKA (hk_K hK 0 rfl rfl)) rfl (by decide) rfl (Nat.le_of_ble_eq_true rfl) (by decide) (fun u hu => ?_)
  refine z_eqs (σ' := (ap b σ [(0, 8, 20), (0, 8, 19), (0, 8, 18), (0, 8, 17), (0, 8, 16), (0, 8, 15), (0, 8, 14), (0, 8, 13), (0, 8, 12), (0, 8, 11), (0, 8, 10), (0, 8, 9), (0, 8, 8), (0, 8, 7), (0, 8, 6), (0, 8, 5), (0, 8, 4), (0, 8, 3), (0, 8, 2), (0, 8, 1)] [] [])) hu ?_
  show zx p l e _ s m _ below meth c g 3 0 0 _ _ 42 [(2, .int 19), (0, .ref (b + 0)), (1, .int 37)] _
  refine z_aload_n B dX8_tick_42 rfl 1 rfl ?_
  refine z_cVv (As := []) (rest := []) B cw_X8_243 cx_9 dX8_tick_43 (ci_X8_passTimers_921 l (σ := (ap b σ [(0, 8, 20), (0, 8, 19), (0, 8, 18), (0, 8, 17), (0, 8, 16), (0, 8, 15), (0, 8, 14), (0, 8, 13), (0, 8, 12), (0, 8, 11), (0, 8, 10), (0, 8, 9), (0, 8, 8), (0, 8, 7), (0, 8, 6), (0, 8, 5), (0, 8, 4), (0, 8, 3), (0, 8, 2), (0, 8, 1)] [] [])) (b := b) (lyA hK) (rI_at 0 7 hI_0_7)) (lKA (hk_K hK 0 rfl rfl)) rfl (by decide) rfl (Nat.le_of_ble_eq_true rfl) (by decide) (fun u hu => ?_)
  refine z_eqs (σ' := (ap b σ [(0, 8, 20), (0, 8, 19), (0, 8, 18), (0, 8, 17), (0, 8, 16), (0, 8, 15), (0, 8, 14), (0, 8, 13), (0, 8, 12), (0, 8, 11), (0, 8, 10), (0, 8, 9), (0, 8, 8), (0, 8, 7), (0, 8, 6), (0, 8, 5), (0, 8, 4), (0, 8, 3), (0, 8, 2), (0, 8, 1)] [] [])) hu ?_
  show zx p l e _ s m _ below meth c g 3 0 0 _ _ 46 [(2, .int 19), (0, .ref (b + 0)), (1, .int 37)] _
  refine z_iinc (v := 20) (lv' := [(2, .int 20), (0, .ref (b + 0)), (1, .int 37)]) B dX8_tick_46 0 rfl (by decide) (by decide) rfl ?_
  refine z_goto (tgt := 23) B dX8_tick_49 (by decide) ?_
  refine z_iload_n B dX8_tick_23 rfl 0 rfl ?_
  refine z_iload_n B dX8_tick_24 rfl 2 rfl ?_
  refine z_icmp_ge (tgt := 52) B dX8_tick_25 (by decide) (fun h => absurd h (by decide)) (fun _ => ?_)
  refine z_aload_n B dX8_tick_28 rfl 1 rfl ?_
  refine z_dup B dX8_tick_29 rfl ?_
  refine gf_X8_206 (x := 20) B (lKA (hk_K hK 0 rfl rfl)) (rI_at 0 8 rfl) dX8_tick_30 ?_
  refine z_iconst (v := 1) B dX8_tick_33 (by decide) ?_
  refine z_iadd B dX8_tick_34 ?_
  refine z_seti (y := 21) (by decide) ?_
  refine pf_X8_206 (x := 21) (σ' := (ap b σ [(0, 8, 21), (0, 8, 20), (0, 8, 19), (0, 8, 18), (0, 8, 17), (0, 8, 16), (0, 8, 15), (0, 8, 14), (0, 8, 13), (0, 8, 12), (0, 8, 11), (0, 8, 10), (0, 8, 9), (0, 8, 8), (0, 8, 7), (0, 8, 6), (0, 8, 5), (0, 8, 4), (0, 8, 3), (0, 8, 2), (0, 8, 1)] [] [])) B (lKA (hk_K hK 0 rfl rfl)) wI_ap dX8_tick_35 ?_
  refine z_aload_n B dX8_tick_38 rfl 1 rfl ?_
  refine z_cVv (As := []) (rest := []) B cw_X8_240 cx_9 dX8_tick_39 (ci_X8_passTasks_920 l (σ := (ap b σ [(0, 8, 21), (0, 8, 20), (0, 8, 19), (0, 8, 18), (0, 8, 17), (0, 8, 16), (0, 8, 15), (0, 8, 14), (0, 8, 13), (0, 8, 12), (0, 8, 11), (0, 8, 10), (0, 8, 9), (0, 8, 8), (0, 8, 7), (0, 8, 6), (0, 8, 5), (0, 8, 4), (0, 8, 3), (0, 8, 2), (0, 8, 1)] [] [])) (b := b) (lyA hK) (rI_at 4 2 hI_4_2) (rR_at 0 3 hR_0_3)) (lKA (hk_K hK 0 rfl rfl)) rfl (by decide) rfl (Nat.le_of_ble_eq_true rfl) (by decide) (fun u hu => ?_)
  refine z_eqs (σ' := (ap b σ [(0, 8, 21), (0, 8, 20), (0, 8, 19), (0, 8, 18), (0, 8, 17), (0, 8, 16), (0, 8, 15), (0, 8, 14), (0, 8, 13), (0, 8, 12), (0, 8, 11), (0, 8, 10), (0, 8, 9), (0, 8, 8), (0, 8, 7), (0, 8, 6), (0, 8, 5), (0, 8, 4), (0, 8, 3), (0, 8, 2), (0, 8, 1)] [] [])) hu ?_
  show zx p l e _ s m _ below meth c g 3 0 0 _ _ 42 [(2, .int 20), (0, .ref (b + 0)), (1, .int 37)] _
  refine z_aload_n B dX8_tick_42 rfl 1 rfl ?_
  refine z_cVv (As := []) (rest := []) B cw_X8_243 cx_9 dX8_tick_43 (ci_X8_passTimers_921 l (σ := (ap b σ [(0, 8, 21), (0, 8, 20), (0, 8, 19), (0, 8, 18), (0, 8, 17), (0, 8, 16), (0, 8, 15), (0, 8, 14), (0, 8, 13), (0, 8, 12), (0, 8, 11), (0, 8, 10), (0, 8, 9), (0, 8, 8), (0, 8, 7), (0, 8, 6), (0, 8, 5), (0, 8, 4), (0, 8, 3), (0, 8, 2), (0, 8, 1)] [] [])) (b := b) (lyA hK) (rI_at 0 7 hI_0_7)) (lKA (hk_K hK 0 rfl rfl)) rfl (by decide) rfl (Nat.le_of_ble_eq_true rfl) (by decide) (fun u hu => ?_)
  refine z_eqs (σ' := (ap b σ [(0, 8, 21), (0, 8, 20), (0, 8, 19), (0, 8, 18), (0, 8, 17), (0, 8, 16), (0, 8, 15), (0, 8, 14), (0, 8, 13), (0, 8, 12), (0, 8, 11), (0, 8, 10), (0, 8, 9), (0, 8, 8), (0, 8, 7), (0, 8, 6), (0, 8, 5), (0, 8, 4), (0, 8, 3), (0, 8, 2), (0, 8, 1)] [] [])) hu ?_
  show zx p l e _ s m _ below meth c g 3 0 0 _ _ 46 [(2, .int 20), (0, .ref (b + 0)), (1, .int 37)] _
  refine z_iinc (v := 21) (lv' := [(2, .int 21), (0, .ref (b + 0)), (1, .int 37)]) B dX8_tick_46 0 rfl (by decide) (by decide) rfl ?_
  refine z_goto (tgt := 23) B dX8_tick_49 (by decide) ?_
  refine z_iload_n B dX8_tick_23 rfl 0 rfl ?_
  refine z_iload_n B dX8_tick_24 rfl 2 rfl ?_
  refine z_icmp_ge (tgt := 52) B dX8_tick_25 (by decide) (fun h => absurd h (by decide)) (fun _ => ?_)
  refine z_aload_n B dX8_tick_28 rfl 1 rfl ?_
  refine z_dup B dX8_tick_29 rfl ?_
  refine gf_X8_206 (x := 21) B (lKA (hk_K hK 0 rfl rfl)) (rI_at 0 8 rfl) dX8_tick_30 ?_
  refine z_iconst (v := 1) B dX8_tick_33 (by decide) ?_
  refine z_iadd B dX8_tick_34 ?_
  refine z_seti (y := 22) (by decide) ?_
  refine pf_X8_206 (x := 22) (σ' := (ap b σ [(0, 8, 22), (0, 8, 21), (0, 8, 20), (0, 8, 19), (0, 8, 18), (0, 8, 17), (0, 8, 16), (0, 8, 15), (0, 8, 14), (0, 8, 13), (0, 8, 12), (0, 8, 11), (0, 8, 10), (0, 8, 9), (0, 8, 8), (0, 8, 7), (0, 8, 6), (0, 8, 5), (0, 8, 4), (0, 8, 3), (0, 8, 2), (0, 8, 1)] [] [])) B (lKA (hk_K hK 0 rfl rfl)) wI_ap dX8_tick_35 ?_
  refine z_aload_n B dX8_tick_38 rfl 1 rfl ?_
  refine z_cVv (As := []) (rest := []) B cw_X8_240 cx_9 dX8_tick_39 (ci_X8_passTasks_920 l (σ := (ap b σ [(0, 8, 22), (0, 8, 21), (0, 8, 20), (0, 8, 19), (0, 8, 18), (0, 8, 17), (0, 8, 16), (0, 8, 15), (0, 8, 14), (0, 8, 13), (0, 8, 12), (0, 8, 11), (0, 8, 10), (0, 8, 9), (0, 8, 8), (0, 8, 7), (0, 8, 6), (0, 8, 5), (0, 8, 4), (0, 8, 3), (0, 8, 2), (0, 8, 1)] [] [])) (b := b) (lyA hK) (rI_at 4 2 hI_4_2) (rR_at 0 3 hR_0_3)) (lKA (hk_K hK 0 rfl rfl)) rfl (by decide) rfl (Nat.le_of_ble_eq_true rfl) (by decide) (fun u hu => ?_)
  refine z_eqs (σ' := (ap b σ [(0, 8, 22), (0, 8, 21), (0, 8, 20), (0, 8, 19), (0, 8, 18), (0, 8, 17), (0, 8, 16), (0, 8, 15), (0, 8, 14), (0, 8, 13), (0, 8, 12), (0, 8, 11), (0, 8, 10), (0, 8, 9), (0, 8, 8), (0, 8, 7), (0, 8, 6), (0, 8, 5), (0, 8, 4), (0, 8, 3), (0, 8, 2), (0, 8, 1)] [] [])) hu ?_
  show zx p l e _ s m _ below meth c g 3 0 0 _ _ 42 [(2, .int 21), (0, .ref (b + 0)), (1, .int 37)] _
  refine z_aload_n B dX8_tick_42 rfl 1 rfl ?_
  refine z_cVv (As := []) (rest := []) B cw_X8_243 cx_9 dX8_tick_43 (ci_X8_passTimers_921 l (σ := (ap b σ [(0, 8, 22), (0, 8, 21), (0, 8, 20), (0, 8, 19), (0, 8, 18), (0, 8, 17), (0, 8, 16), (0, 8, 15), (0, 8, 14), (0, 8, 13), (0, 8, 12), (0, 8, 11), (0, 8, 10), (0, 8, 9), (0, 8, 8), (0, 8, 7), (0, 8, 6), (0, 8, 5), (0, 8, 4), (0, 8, 3), (0, 8, 2), (0, 8, 1)] [] [])) (b := b) (lyA hK) (rI_at 0 7 hI_0_7)) (lKA (hk_K hK 0 rfl rfl)) rfl (by decide) rfl (Nat.le_of_ble_eq_true rfl) (by decide) (fun u hu => ?_)
  refine z_eqs (σ' := (ap b σ [(0, 8, 22), (0, 8, 21), (0, 8, 20), (0, 8, 19), (0, 8, 18), (0, 8, 17), (0, 8, 16), (0, 8, 15), (0, 8, 14), (0, 8, 13), (0, 8, 12), (0, 8, 11), (0, 8, 10), (0, 8, 9), (0, 8, 8), (0, 8, 7), (0, 8, 6), (0, 8, 5), (0, 8, 4), (0, 8, 3), (0, 8, 2), (0, 8, 1)] [] [])) hu ?_
  show zx p l e _ s m _ below meth c g 3 0 0 _ _ 46 [(2, .int 21), (0, .ref (b + 0)), (1, .int 37)] _
  refine z_iinc (v := 22) (lv' := [(2, .int 22), (0, .ref (b + 0)), (1, .int 37)]) B dX8_tick_46 0 rfl (by decide) (by decide) rfl ?_
  refine z_goto (tgt := 23) B dX8_tick_49 (by decide) ?_
  refine z_iload_n B dX8_tick_23 rfl 0 rfl ?_
  refine z_iload_n B dX8_tick_24 rfl 2 rfl ?_
  refine z_icmp_ge (tgt := 52) B dX8_tick_25 (by decide) (fun h => absurd h (by decide)) (fun _ => ?_)
  refine z_aload_n B dX8_tick_28 rfl 1 rfl ?_
  refine z_dup B dX8_tick_29 rfl ?_
  refine gf_X8_206 (x := 22) B (lKA (hk_K hK 0 rfl rfl)) (rI_at 0 8 rfl) dX8_tick_30 ?_
  refine z_iconst (v := 1) B dX8_tick_33 (by decide) ?_
  refine z_iadd B dX8_tick_34 ?_
  refine z_seti (y := 23) (by decide) ?_
  refine pf_X8_206 (x := 23) (σ' := (ap b σ [(0, 8, 23), (0, 8, 22), (0, 8, 21), (0, 8, 20), (0, 8, 19), (0, 8, 18), (0, 8, 17), (0, 8, 16), (0, 8, 15), (0, 8, 14), (0, 8, 13), (0, 8, 12), (0, 8, 11), (0, 8, 10), (0, 8, 9), (0, 8, 8), (0, 8, 7), (0, 8, 6), (0, 8, 5), (0, 8, 4), (0, 8, 3), (0, 8, 2), (0, 8, 1)] [] [])) B (lKA (hk_K hK 0 rfl rfl)) wI_ap dX8_tick_35 ?_
  refine z_aload_n B dX8_tick_38 rfl 1 rfl ?_
  refine z_cVv (As := []) (rest := []) B cw_X8_240 cx_9 dX8_tick_39 (ci_X8_passTasks_920 l (σ := (ap b σ [(0, 8, 23), (0, 8, 22), (0, 8, 21), (0, 8, 20), (0, 8, 19), (0, 8, 18), (0, 8, 17), (0, 8, 16), (0, 8, 15), (0, 8, 14), (0, 8, 13), (0, 8, 12), (0, 8, 11), (0, 8, 10), (0, 8, 9), (0, 8, 8), (0, 8, 7), (0, 8, 6), (0, 8, 5), (0, 8, 4), (0, 8, 3), (0, 8, 2), (0, 8, 1)] [] [])) (b := b) (lyA hK) (rI_at 4 2 hI_4_2) (rR_at 0 3 hR_0_3)) (lKA (hk_K hK 0 rfl rfl)) rfl (by decide) rfl (Nat.le_of_ble_eq_true rfl) (by decide) (fun u hu => ?_)
  refine z_eqs (σ' := (ap b σ [(0, 8, 23), (0, 8, 22), (0, 8, 21), (0, 8, 20), (0, 8, 19), (0, 8, 18), (0, 8, 17), (0, 8, 16), (0, 8, 15), (0, 8, 14), (0, 8, 13), (0, 8, 12), (0, 8, 11), (0, 8, 10), (0, 8, 9), (0, 8, 8), (0, 8, 7), (0, 8, 6), (0, 8, 5), (0, 8, 4), (0, 8, 3), (0, 8, 2), (0, 8, 1)] [] [])) hu ?_
  show zx p l e _ s m _ below meth c g 3 0 0 _ _ 42 [(2, .int 22), (0, .ref (b + 0)), (1, .int 37)] _
  refine z_aload_n B dX8_tick_42 rfl 1 rfl ?_
  refine z_cVv (As := []) (rest := []) B cw_X8_243 cx_9 dX8_tick_43 (ci_X8_passTimers_921 l (σ := (ap b σ [(0, 8, 23), (0, 8, 22), (0, 8, 21), (0, 8, 20), (0, 8, 19), (0, 8, 18), (0, 8, 17), (0, 8, 16), (0, 8, 15), (0, 8, 14), (0, 8, 13), (0, 8, 12), (0, 8, 11), (0, 8, 10), (0, 8, 9), (0, 8, 8), (0, 8, 7), (0, 8, 6), (0, 8, 5), (0, 8, 4), (0, 8, 3), (0, 8, 2), (0, 8, 1)] [] [])) (b := b) (lyA hK) (rI_at 0 7 hI_0_7)) (lKA (hk_K hK 0 rfl rfl)) rfl (by decide) rfl (Nat.le_of_ble_eq_true rfl) (by decide) (fun u hu => ?_)
  refine z_eqs (σ' := (ap b σ [(0, 8, 23), (0, 8, 22), (0, 8, 21), (0, 8, 20), (0, 8, 19), (0, 8, 18), (0, 8, 17), (0, 8, 16), (0, 8, 15), (0, 8, 14), (0, 8, 13), (0, 8, 12), (0, 8, 11), (0, 8, 10), (0, 8, 9), (0, 8, 8), (0, 8, 7), (0, 8, 6), (0, 8, 5), (0, 8, 4), (0, 8, 3), (0, 8, 2), (0, 8, 1)] [] [])) hu ?_
  show zx p l e _ s m _ below meth c g 3 0 0 _ _ 46 [(2, .int 22), (0, .ref (b + 0)), (1, .int 37)] _
  refine z_iinc (v := 23) (lv' := [(2, .int 23), (0, .ref (b + 0)), (1, .int 37)]) B dX8_tick_46 0 rfl (by decide) (by decide) rfl ?_
  refine z_goto (tgt := 23) B dX8_tick_49 (by decide) ?_
  refine z_iload_n B dX8_tick_23 rfl 0 rfl ?_
  refine z_iload_n B dX8_tick_24 rfl 2 rfl ?_
  refine z_icmp_ge (tgt := 52) B dX8_tick_25 (by decide) (fun h => absurd h (by decide)) (fun _ => ?_)
  refine z_aload_n B dX8_tick_28 rfl 1 rfl ?_
  refine z_dup B dX8_tick_29 rfl ?_
  refine gf_X8_206 (x := 23) B (lKA (hk_K hK 0 rfl rfl)) (rI_at 0 8 rfl) dX8_tick_30 ?_
  refine z_iconst (v := 1) B dX8_tick_33 (by decide) ?_
  refine z_iadd B dX8_tick_34 ?_
  refine z_seti (y := 24) (by decide) ?_
  refine pf_X8_206 (x := 24) (σ' := (ap b σ [(0, 8, 24), (0, 8, 23), (0, 8, 22), (0, 8, 21), (0, 8, 20), (0, 8, 19), (0, 8, 18), (0, 8, 17), (0, 8, 16), (0, 8, 15), (0, 8, 14), (0, 8, 13), (0, 8, 12), (0, 8, 11), (0, 8, 10), (0, 8, 9), (0, 8, 8), (0, 8, 7), (0, 8, 6), (0, 8, 5), (0, 8, 4), (0, 8, 3), (0, 8, 2), (0, 8, 1)] [] [])) B (lKA (hk_K hK 0 rfl rfl)) wI_ap dX8_tick_35 ?_
  refine z_aload_n B dX8_tick_38 rfl 1 rfl ?_
  refine z_cVv (As := []) (rest := []) B cw_X8_240 cx_9 dX8_tick_39 (ci_X8_passTasks_920 l (σ := (ap b σ [(0, 8, 24), (0, 8, 23), (0, 8, 22), (0, 8, 21), (0, 8, 20), (0, 8, 19), (0, 8, 18), (0, 8, 17), (0, 8, 16), (0, 8, 15), (0, 8, 14), (0, 8, 13), (0, 8, 12), (0, 8, 11), (0, 8, 10), (0, 8, 9), (0, 8, 8), (0, 8, 7), (0, 8, 6), (0, 8, 5), (0, 8, 4), (0, 8, 3), (0, 8, 2), (0, 8, 1)] [] [])) (b := b) (lyA hK) (rI_at 4 2 hI_4_2) (rR_at 0 3 hR_0_3)) (lKA (hk_K hK 0 rfl rfl)) rfl (by decide) rfl (Nat.le_of_ble_eq_true rfl) (by decide) (fun u hu => ?_)
  refine z_eqs (σ' := (ap b σ [(0, 8, 24), (0, 8, 23), (0, 8, 22), (0, 8, 21), (0, 8, 20), (0, 8, 19), (0, 8, 18), (0, 8, 17), (0, 8, 16), (0, 8, 15), (0, 8, 14), (0, 8, 13), (0, 8, 12), (0, 8, 11), (0, 8, 10), (0, 8, 9), (0, 8, 8), (0, 8, 7), (0, 8, 6), (0, 8, 5), (0, 8, 4), (0, 8, 3), (0, 8, 2), (0, 8, 1)] [] [])) hu ?_
  show zx p l e _ s m _ below meth c g 3 0 0 _ _ 42 [(2, .int 23), (0, .ref (b + 0)), (1, .int 37)] _
  refine z_aload_n B dX8_tick_42 rfl 1 rfl ?_
  refine z_cVv (As := []) (rest := []) B cw_X8_243 cx_9 dX8_tick_43 (ci_X8_passTimers_921 l (σ := (ap b σ [(0, 8, 24), (0, 8, 23), (0, 8, 22), (0, 8, 21), (0, 8, 20), (0, 8, 19), (0, 8, 18), (0, 8, 17), (0, 8, 16), (0, 8, 15), (0, 8, 14), (0, 8, 13), (0, 8, 12), (0, 8, 11), (0, 8, 10), (0, 8, 9), (0, 8, 8), (0, 8, 7), (0, 8, 6), (0, 8, 5), (0, 8, 4), (0, 8, 3), (0, 8, 2), (0, 8, 1)] [] [])) (b := b) (lyA hK) (rI_at 0 7 hI_0_7)) (lKA (hk_K hK 0 rfl rfl)) rfl (by decide) rfl (Nat.le_of_ble_eq_true rfl) (by decide) (fun u hu => ?_)
  refine z_eqs (σ' := (ap b σ [(0, 8, 24), (0, 8, 23), (0, 8, 22), (0, 8, 21), (0, 8, 20), (0, 8, 19), (0, 8, 18), (0, 8, 17), (0, 8, 16), (0, 8, 15), (0, 8, 14), (0, 8, 13), (0, 8, 12), (0, 8, 11), (0, 8, 10), (0, 8, 9), (0, 8, 8), (0, 8, 7), (0, 8, 6), (0, 8, 5), (0, 8, 4), (0, 8, 3), (0, 8, 2), (0, 8, 1)] [] [])) hu ?_
  show zx p l e _ s m _ below meth c g 3 0 0 _ _ 46 [(2, .int 23), (0, .ref (b + 0)), (1, .int 37)] _
  refine z_iinc (v := 24) (lv' := [(2, .int 24), (0, .ref (b + 0)), (1, .int 37)]) B dX8_tick_46 0 rfl (by decide) (by decide) rfl ?_
  refine z_goto (tgt := 23) B dX8_tick_49 (by decide) ?_
  refine z_iload_n B dX8_tick_23 rfl 0 rfl ?_
  refine z_iload_n B dX8_tick_24 rfl 2 rfl ?_
  refine z_icmp_ge (tgt := 52) B dX8_tick_25 (by decide) (fun h => absurd h (by decide)) (fun _ => ?_)
  refine z_aload_n B dX8_tick_28 rfl 1 rfl ?_
  refine z_dup B dX8_tick_29 rfl ?_
  refine gf_X8_206 (x := 24) B (lKA (hk_K hK 0 rfl rfl)) (rI_at 0 8 rfl) dX8_tick_30 ?_
  refine z_iconst (v := 1) B dX8_tick_33 (by decide) ?_
  refine z_iadd B dX8_tick_34 ?_
  refine z_seti (y := 25) (by decide) ?_
  refine pf_X8_206 (x := 25) (σ' := (ap b σ [(0, 8, 25), (0, 8, 24), (0, 8, 23), (0, 8, 22), (0, 8, 21), (0, 8, 20), (0, 8, 19), (0, 8, 18), (0, 8, 17), (0, 8, 16), (0, 8, 15), (0, 8, 14), (0, 8, 13), (0, 8, 12), (0, 8, 11), (0, 8, 10), (0, 8, 9), (0, 8, 8), (0, 8, 7), (0, 8, 6), (0, 8, 5), (0, 8, 4), (0, 8, 3), (0, 8, 2), (0, 8, 1)] [] [])) B (lKA (hk_K hK 0 rfl rfl)) wI_ap dX8_tick_35 ?_
  refine z_aload_n B dX8_tick_38 rfl 1 rfl ?_
  refine z_cVv (As := []) (rest := []) B cw_X8_240 cx_9 dX8_tick_39 (ci_X8_passTasks_920 l (σ := (ap b σ [(0, 8, 25), (0, 8, 24), (0, 8, 23), (0, 8, 22), (0, 8, 21), (0, 8, 20), (0, 8, 19), (0, 8, 18), (0, 8, 17), (0, 8, 16), (0, 8, 15), (0, 8, 14), (0, 8, 13), (0, 8, 12), (0, 8, 11), (0, 8, 10), (0, 8, 9), (0, 8, 8), (0, 8, 7), (0, 8, 6), (0, 8, 5), (0, 8, 4), (0, 8, 3), (0, 8, 2), (0, 8, 1)] [] [])) (b := b) (lyA hK) (rI_at 4 2 hI_4_2) (rR_at 0 3 hR_0_3)) (lKA (hk_K hK 0 rfl rfl)) rfl (by decide) rfl (Nat.le_of_ble_eq_true rfl) (by decide) (fun u hu => ?_)
  refine z_eqs (σ' := (ap b σ [(0, 8, 25), (0, 8, 24), (0, 8, 23), (0, 8, 22), (0, 8, 21), (0, 8, 20), (0, 8, 19), (0, 8, 18), (0, 8, 17), (0, 8, 16), (0, 8, 15), (0, 8, 14), (0, 8, 13), (0, 8, 12), (0, 8, 11), (0, 8, 10), (0, 8, 9), (0, 8, 8), (0, 8, 7), (0, 8, 6), (0, 8, 5), (0, 8, 4), (0, 8, 3), (0, 8, 2), (0, 8, 1)] [] [])) hu ?_
  show zx p l e _ s m _ below meth c g 3 0 0 _ _ 42 [(2, .int 24), (0, .ref (b + 0)), (1, .int 37)] _
  refine z_aload_n B dX8_tick_42 rfl 1 rfl ?_
  refine z_cVv (As := []) (rest := []) B cw_X8_243 cx_9 dX8_tick_43 (ci_X8_passTimers_921 l (σ := (ap b σ [(0, 8, 25), (0, 8, 24), (0, 8, 23), (0, 8, 22), (0, 8, 21), (0, 8, 20), (0, 8, 19), (0, 8, 18), (0, 8, 17), (0, 8, 16), (0, 8, 15), (0, 8, 14), (0, 8, 13), (0, 8, 12), (0, 8, 11), (0, 8, 10), (0, 8, 9), (0, 8, 8), (0, 8, 7), (0, 8, 6), (0, 8, 5), (0, 8, 4), (0, 8, 3), (0, 8, 2), (0, 8, 1)] [] [])) (b := b) (lyA hK) (rI_at 0 7 hI_0_7)) (lKA (hk_K hK 0 rfl rfl)) rfl (by decide) rfl (Nat.le_of_ble_eq_true rfl) (by decide) (fun u hu => ?_)
  refine z_eqs (σ' := (ap b σ [(0, 8, 25), (0, 8, 24), (0, 8, 23), (0, 8, 22), (0, 8, 21), (0, 8, 20), (0, 8, 19), (0, 8, 18), (0, 8, 17), (0, 8, 16), (0, 8, 15), (0, 8, 14), (0, 8, 13), (0, 8, 12), (0, 8, 11), (0, 8, 10), (0, 8, 9), (0, 8, 8), (0, 8, 7), (0, 8, 6), (0, 8, 5), (0, 8, 4), (0, 8, 3), (0, 8, 2), (0, 8, 1)] [] [])) hu ?_
  show zx p l e _ s m _ below meth c g 3 0 0 _ _ 46 [(2, .int 24), (0, .ref (b + 0)), (1, .int 37)] _
  refine z_iinc (v := 25) (lv' := [(2, .int 25), (0, .ref (b + 0)), (1, .int 37)]) B dX8_tick_46 0 rfl (by decide) (by decide) rfl ?_
  refine z_goto (tgt := 23) B dX8_tick_49 (by decide) ?_
  refine z_iload_n B dX8_tick_23 rfl 0 rfl ?_
  refine z_iload_n B dX8_tick_24 rfl 2 rfl ?_
  refine z_icmp_ge (tgt := 52) B dX8_tick_25 (by decide) (fun h => absurd h (by decide)) (fun _ => ?_)
  refine z_aload_n B dX8_tick_28 rfl 1 rfl ?_
  refine z_dup B dX8_tick_29 rfl ?_
  refine gf_X8_206 (x := 25) B (lKA (hk_K hK 0 rfl rfl)) (rI_at 0 8 rfl) dX8_tick_30 ?_
  refine z_iconst (v := 1) B dX8_tick_33 (by decide) ?_
  refine z_iadd B dX8_tick_34 ?_
  refine z_seti (y := 26) (by decide) ?_
  refine pf_X8_206 (x := 26) (σ' := (ap b σ [(0, 8, 26), (0, 8, 25), (0, 8, 24), (0, 8, 23), (0, 8, 22), (0, 8, 21), (0, 8, 20), (0, 8, 19), (0, 8, 18), (0, 8, 17), (0, 8, 16), (0, 8, 15), (0, 8, 14), (0, 8, 13), (0, 8, 12), (0, 8, 11), (0, 8, 10), (0, 8, 9), (0, 8, 8), (0, 8, 7), (0, 8, 6), (0, 8, 5), (0, 8, 4), (0, 8, 3), (0, 8, 2), (0, 8, 1)] [] [])) B (lKA (hk_K hK 0 rfl rfl)) wI_ap dX8_tick_35 ?_
  refine z_aload_n B dX8_tick_38 rfl 1 rfl ?_
  refine z_cVv (As := []) (rest := []) B cw_X8_240 cx_9 dX8_tick_39 (ci_X8_passTasks_920 l (σ := (ap b σ [(0, 8, 26), (0, 8, 25), (0, 8, 24), (0, 8, 23), (0, 8, 22), (0, 8, 21), (0, 8, 20), (0, 8, 19), (0, 8, 18), (0, 8, 17), (0, 8, 16), (0, 8, 15), (0, 8, 14), (0, 8, 13), (0, 8, 12), (0, 8, 11), (0, 8, 10), (0, 8, 9), (0, 8, 8), (0, 8, 7), (0, 8, 6), (0, 8, 5), (0, 8, 4), (0, 8, 3), (0, 8, 2), (0, 8, 1)] [] [])) (b := b) (lyA hK) (rI_at 4 2 hI_4_2) (rR_at 0 3 hR_0_3)) (lKA (hk_K hK 0 rfl rfl)) rfl (by decide) rfl (Nat.le_of_ble_eq_true rfl) (by decide) (fun u hu => ?_)
  refine z_eqs (σ' := (ap b σ [(0, 8, 26), (0, 8, 25), (0, 8, 24), (0, 8, 23), (0, 8, 22), (0, 8, 21), (0, 8, 20), (0, 8, 19), (0, 8, 18), (0, 8, 17), (0, 8, 16), (0, 8, 15), (0, 8, 14), (0, 8, 13), (0, 8, 12), (0, 8, 11), (0, 8, 10), (0, 8, 9), (0, 8, 8), (0, 8, 7), (0, 8, 6), (0, 8, 5), (0, 8, 4), (0, 8, 3), (0, 8, 2), (0, 8, 1)] [] [])) hu ?_
  show zx p l e _ s m _ below meth c g 3 0 0 _ _ 42 [(2, .int 25), (0, .ref (b + 0)), (1, .int 37)] _
  refine z_aload_n B dX8_tick_42 rfl 1 rfl ?_
  refine z_cVv (As := []) (rest := []) B cw_X8_243 cx_9 dX8_tick_43 (ci_X8_passTimers_921 l (σ := (ap b σ [(0, 8, 26), (0, 8, 25), (0, 8, 24), (0, 8, 23), (0, 8, 22), (0, 8, 21), (0, 8, 20), (0, 8, 19), (0, 8, 18), (0, 8, 17), (0, 8, 16), (0, 8, 15), (0, 8, 14), (0, 8, 13), (0, 8, 12), (0, 8, 11), (0, 8, 10), (0, 8, 9), (0, 8, 8), (0, 8, 7), (0, 8, 6), (0, 8, 5), (0, 8, 4), (0, 8, 3), (0, 8, 2), (0, 8, 1)] [] [])) (b := b) (lyA hK) (rI_at 0 7 hI_0_7)) (lKA (hk_K hK 0 rfl rfl)) rfl (by decide) rfl (Nat.le_of_ble_eq_true rfl) (by decide) (fun u hu => ?_)
  refine z_eqs (σ' := (ap b σ [(0, 8, 26), (0, 8, 25), (0, 8, 24), (0, 8, 23), (0, 8, 22), (0, 8, 21), (0, 8, 20), (0, 8, 19), (0, 8, 18), (0, 8, 17), (0, 8, 16), (0, 8, 15), (0, 8, 14), (0, 8, 13), (0, 8, 12), (0, 8, 11), (0, 8, 10), (0, 8, 9), (0, 8, 8), (0, 8, 7), (0, 8, 6), (0, 8, 5), (0, 8, 4), (0, 8, 3), (0, 8, 2), (0, 8, 1)] [] [])) hu ?_
  show zx p l e _ s m _ below meth c g 3 0 0 _ _ 46 [(2, .int 25), (0, .ref (b + 0)), (1, .int 37)] _
  refine z_iinc (v := 26) (lv' := [(2, .int 26), (0, .ref (b + 0)), (1, .int 37)]) B dX8_tick_46 0 rfl (by decide) (by decide) rfl ?_
  refine z_goto (tgt := 23) B dX8_tick_49 (by decide) ?_
  refine z_iload_n B dX8_tick_23 rfl 0 rfl ?_
  refine z_iload_n B dX8_tick_24 rfl 2 rfl ?_
  refine z_icmp_ge (tgt := 52) B dX8_tick_25 (by decide) (fun h => absurd h (by decide)) (fun _ => ?_)
  refine z_aload_n B dX8_tick_28 rfl 1 rfl ?_
  refine z_dup B dX8_tick_29 rfl ?_
  refine gf_X8_206 (x := 26) B (lKA (hk_K hK 0 rfl rfl)) (rI_at 0 8 rfl) dX8_tick_30 ?_
  refine z_iconst (v := 1) B dX8_tick_33 (by decide) ?_
  refine z_iadd B dX8_tick_34 ?_
  refine z_seti (y := 27) (by decide) ?_
  refine pf_X8_206 (x := 27) (σ' := (ap b σ [(0, 8, 27), (0, 8, 26), (0, 8, 25), (0, 8, 24), (0, 8, 23), (0, 8, 22), (0, 8, 21), (0, 8, 20), (0, 8, 19), (0, 8, 18), (0, 8, 17), (0, 8, 16), (0, 8, 15), (0, 8, 14), (0, 8, 13), (0, 8, 12), (0, 8, 11), (0, 8, 10), (0, 8, 9), (0, 8, 8), (0, 8, 7), (0, 8, 6), (0, 8, 5), (0, 8, 4), (0, 8, 3), (0, 8, 2), (0, 8, 1)] [] [])) B (lKA (hk_K hK 0 rfl rfl)) wI_ap dX8_tick_35 ?_
  refine z_aload_n B dX8_tick_38 rfl 1 rfl ?_
  refine z_cVv (As := []) (rest := []) B cw_X8_240 cx_9 dX8_tick_39 (ci_X8_passTasks_920 l (σ := (ap b σ [(0, 8, 27), (0, 8, 26), (0, 8, 25), (0, 8, 24), (0, 8, 23), (0, 8, 22), (0, 8, 21), (0, 8, 20), (0, 8, 19), (0, 8, 18), (0, 8, 17), (0, 8, 16), (0, 8, 15), (0, 8, 14), (0, 8, 13), (0, 8, 12), (0, 8, 11), (0, 8, 10), (0, 8, 9), (0, 8, 8), (0, 8, 7), (0, 8, 6), (0, 8, 5), (0, 8, 4), (0, 8, 3), (0, 8, 2), (0, 8, 1)] [] [])) (b := b) (lyA hK) (rI_at 4 2 hI_4_2) (rR_at 0 3 hR_0_3)) (lKA (hk_K hK 0 rfl rfl)) rfl (by decide) rfl (Nat.le_of_ble_eq_true rfl) (by decide) (fun u hu => ?_)
  refine z_eqs (σ' := (ap b σ [(0, 8, 27), (0, 8, 26), (0, 8, 25), (0, 8, 24), (0, 8, 23), (0, 8, 22), (0, 8, 21), (0, 8, 20), (0, 8, 19), (0, 8, 18), (0, 8, 17), (0, 8, 16), (0, 8, 15), (0, 8, 14), (0, 8, 13), (0, 8, 12), (0, 8, 11), (0, 8, 10), (0, 8, 9), (0, 8, 8), (0, 8, 7), (0, 8, 6), (0, 8, 5), (0, 8, 4), (0, 8, 3), (0, 8, 2), (0, 8, 1)] [] [])) hu ?_
  show zx p l e _ s m _ below meth c g 3 0 0 _ _ 42 [(2, .int 26), (0, .ref (b + 0)), (1, .int 37)] _
  refine z_aload_n B dX8_tick_42 rfl 1 rfl ?_
  refine z_cVv (As := []) (rest := []) B cw_X8_243 cx_9 dX8_tick_43 (ci_X8_passTimers_921 l (σ := (ap b σ [(0, 8, 27), (0, 8, 26), (0, 8, 25), (0, 8, 24), (0, 8, 23), (0, 8, 22), (0, 8, 21), (0, 8, 20), (0, 8, 19), (0, 8, 18), (0, 8, 17), (0, 8, 16), (0, 8, 15), (0, 8, 14), (0, 8, 13), (0, 8, 12), (0, 8, 11), (0, 8, 10), (0, 8, 9), (0, 8, 8), (0, 8, 7), (0, 8, 6), (0, 8, 5), (0, 8, 4), (0, 8, 3), (0, 8, 2), (0, 8, 1)] [] [])) (b := b) (lyA hK) (rI_at 0 7 hI_0_7)) (lKA (hk_K hK 0 rfl rfl)) rfl (by decide) rfl (Nat.le_of_ble_eq_true rfl) (by decide) (fun u hu => ?_)
  refine z_eqs (σ' := (ap b σ [(0, 8, 27), (0, 8, 26), (0, 8, 25), (0, 8, 24), (0, 8, 23), (0, 8, 22), (0, 8, 21), (0, 8, 20), (0, 8, 19), (0, 8, 18), (0, 8, 17), (0, 8, 16), (0, 8, 15), (0, 8, 14), (0, 8, 13), (0, 8, 12), (0, 8, 11), (0, 8, 10), (0, 8, 9), (0, 8, 8), (0, 8, 7), (0, 8, 6), (0, 8, 5), (0, 8, 4), (0, 8, 3), (0, 8, 2), (0, 8, 1)] [] [])) hu ?_
  show zx p l e _ s m _ below meth c g 3 0 0 _ _ 46 [(2, .int 26), (0, .ref (b + 0)), (1, .int 37)] _
  refine z_iinc (v := 27) (lv' := [(2, .int 27), (0, .ref (b + 0)), (1, .int 37)]) B dX8_tick_46 0 rfl (by decide) (by decide) rfl ?_
  refine z_goto (tgt := 23) B dX8_tick_49 (by decide) ?_
  refine z_iload_n B dX8_tick_23 rfl 0 rfl ?_
  refine z_iload_n B dX8_tick_24 rfl 2 rfl ?_
  refine z_icmp_ge (tgt := 52) B dX8_tick_25 (by decide) (fun h => absurd h (by decide)) (fun _ => ?_)
  refine z_aload_n B dX8_tick_28 rfl 1 rfl ?_
  refine z_dup B dX8_tick_29 rfl ?_
  refine gf_X8_206 (x := 27) B (lKA (hk_K hK 0 rfl rfl)) (rI_at 0 8 rfl) dX8_tick_30 ?_
  refine z_iconst (v := 1) B dX8_tick_33 (by decide) ?_
  refine z_iadd B dX8_tick_34 ?_
  refine z_seti (y := 28) (by decide) ?_
  refine pf_X8_206 (x := 28) (σ' := (ap b σ [(0, 8, 28), (0, 8, 27), (0, 8, 26), (0, 8, 25), (0, 8, 24), (0, 8, 23), (0, 8, 22), (0, 8, 21), (0, 8, 20), (0, 8, 19), (0, 8, 18), (0, 8, 17), (0, 8, 16), (0, 8, 15), (0, 8, 14), (0, 8, 13), (0, 8, 12), (0, 8, 11), (0, 8, 10), (0, 8, 9), (0, 8, 8), (0, 8, 7), (0, 8, 6), (0, 8, 5), (0, 8, 4), (0, 8, 3), (0, 8, 2), (0, 8, 1)] [] [])) B (lKA (hk_K hK 0 rfl rfl)) wI_ap dX8_tick_35 ?_
  refine z_aload_n B dX8_tick_38 rfl 1 rfl ?_
  refine z_cVv (As := []) (rest := []) B cw_X8_240 cx_9 dX8_tick_39 (ci_X8_passTasks_920 l (σ := (ap b σ [(0, 8, 28), (0, 8, 27), (0, 8, 26), (0, 8, 25), (0, 8, 24), (0, 8, 23), (0, 8, 22), (0, 8, 21), (0, 8, 20), (0, 8, 19), (0, 8, 18), (0, 8, 17), (0, 8, 16), (0, 8, 15), (0, 8, 14), (0, 8, 13), (0, 8, 12), (0, 8, 11), (0, 8, 10), (0, 8, 9), (0, 8, 8), (0, 8, 7), (0, 8, 6), (0, 8, 5), (0, 8, 4), (0, 8, 3), (0, 8, 2), (0, 8, 1)] [] [])) (b := b) (lyA hK) (rI_at 4 2 hI_4_2) (rR_at 0 3 hR_0_3)) (lKA (hk_K hK 0 rfl rfl)) rfl (by decide) rfl (Nat.le_of_ble_eq_true rfl) (by decide) (fun u hu => ?_)
  refine z_eqs (σ' := (ap b σ [(0, 8, 28), (0, 8, 27), (0, 8, 26), (0, 8, 25), (0, 8, 24), (0, 8, 23), (0, 8, 22), (0, 8, 21), (0, 8, 20), (0, 8, 19), (0, 8, 18), (0, 8, 17), (0, 8, 16), (0, 8, 15), (0, 8, 14), (0, 8, 13), (0, 8, 12), (0, 8, 11), (0, 8, 10), (0, 8, 9), (0, 8, 8), (0, 8, 7), (0, 8, 6), (0, 8, 5), (0, 8, 4), (0, 8, 3), (0, 8, 2), (0, 8, 1)] [] [])) hu ?_
  show zx p l e _ s m _ below meth c g 3 0 0 _ _ 42 [(2, .int 27), (0, .ref (b + 0)), (1, .int 37)] _
  refine z_aload_n B dX8_tick_42 rfl 1 rfl ?_
  refine z_cVv (As := []) (rest := []) B cw_X8_243 cx_9 dX8_tick_43 (ci_X8_passTimers_921 l (σ := (ap b σ [(0, 8, 28), (0, 8, 27), (0, 8, 26), (0, 8, 25), (0, 8, 24), (0, 8, 23), (0, 8, 22), (0, 8, 21), (0, 8, 20), (0, 8, 19), (0, 8, 18), (0, 8, 17), (0, 8, 16), (0, 8, 15), (0, 8, 14), (0, 8, 13), (0, 8, 12), (0, 8, 11), (0, 8, 10), (0, 8, 9), (0, 8, 8), (0, 8, 7), (0, 8, 6), (0, 8, 5), (0, 8, 4), (0, 8, 3), (0, 8, 2), (0, 8, 1)] [] [])) (b := b) (lyA hK) (rI_at 0 7 hI_0_7)) (lKA (hk_K hK 0 rfl rfl)) rfl (by decide) rfl (Nat.le_of_ble_eq_true rfl) (by decide) (fun u hu => ?_)
  refine z_eqs (σ' := (ap b σ [(0, 8, 28), (0, 8, 27), (0, 8, 26), (0, 8, 25), (0, 8, 24), (0, 8, 23), (0, 8, 22), (0, 8, 21), (0, 8, 20), (0, 8, 19), (0, 8, 18), (0, 8, 17), (0, 8, 16), (0, 8, 15), (0, 8, 14), (0, 8, 13), (0, 8, 12), (0, 8, 11), (0, 8, 10), (0, 8, 9), (0, 8, 8), (0, 8, 7), (0, 8, 6), (0, 8, 5), (0, 8, 4), (0, 8, 3), (0, 8, 2), (0, 8, 1)] [] [])) hu ?_
  show zx p l e _ s m _ below meth c g 3 0 0 _ _ 46 [(2, .int 27), (0, .ref (b + 0)), (1, .int 37)] _
  refine z_iinc (v := 28) (lv' := [(2, .int 28), (0, .ref (b + 0)), (1, .int 37)]) B dX8_tick_46 0 rfl (by decide) (by decide) rfl ?_
  refine z_goto (tgt := 23) B dX8_tick_49 (by decide) ?_
  refine z_iload_n B dX8_tick_23 rfl 0 rfl ?_
  refine z_iload_n B dX8_tick_24 rfl 2 rfl ?_
  refine z_icmp_ge (tgt := 52) B dX8_tick_25 (by decide) (fun h => absurd h (by decide)) (fun _ => ?_)
  refine z_aload_n B dX8_tick_28 rfl 1 rfl ?_
  refine z_dup B dX8_tick_29 rfl ?_
  refine gf_X8_206 (x := 28) B (lKA (hk_K hK 0 rfl rfl)) (rI_at 0 8 rfl) dX8_tick_30 ?_
  refine z_iconst (v := 1) B dX8_tick_33 (by decide) ?_
  refine z_iadd B dX8_tick_34 ?_
  refine z_seti (y := 29) (by decide) ?_
  refine pf_X8_206 (x := 29) (σ' := (ap b σ [(0, 8, 29), (0, 8, 28), (0, 8, 27), (0, 8, 26), (0, 8, 25), (0, 8, 24), (0, 8, 23), (0, 8, 22), (0, 8, 21), (0, 8, 20), (0, 8, 19), (0, 8, 18), (0, 8, 17), (0, 8, 16), (0, 8, 15), (0, 8, 14), (0, 8, 13), (0, 8, 12), (0, 8, 11), (0, 8, 10), (0, 8, 9), (0, 8, 8), (0, 8, 7), (0, 8, 6), (0, 8, 5), (0, 8, 4), (0, 8, 3), (0, 8, 2), (0, 8, 1)] [] [])) B (lKA (hk_K hK 0 rfl rfl)) wI_ap dX8_tick_35 ?_
  refine z_aload_n B dX8_tick_38 rfl 1 rfl ?_
  refine z_cVv (As := []) (rest := []) B cw_X8_240 cx_9 dX8_tick_39 (ci_X8_passTasks_920 l (σ := (ap b σ [(0, 8, 29), (0, 8, 28), (0, 8, 27), (0, 8, 26), (0, 8, 25), (0, 8, 24), (0, 8, 23), (0, 8, 22), (0, 8, 21), (0, 8, 20), (0, 8, 19), (0, 8, 18), (0, 8, 17), (0, 8, 16), (0, 8, 15), (0, 8, 14), (0, 8, 13), (0, 8, 12), (0, 8, 11), (0, 8, 10), (0, 8, 9), (0, 8, 8), (0, 8, 7), (0, 8, 6), (0, 8, 5), (0, 8, 4), (0, 8, 3), (0, 8, 2), (0, 8, 1)] [] [])) (b := b) (lyA hK) (rI_at 4 2 hI_4_2) (rR_at 0 3 hR_0_3)) (lKA (hk_K hK 0 rfl rfl)) rfl (by decide) rfl (Nat.le_of_ble_eq_true rfl) (by decide) (fun u hu => ?_)
  refine z_eqs (σ' := (ap b σ [(0, 8, 29), (0, 8, 28), (0, 8, 27), (0, 8, 26), (0, 8, 25), (0, 8, 24), (0, 8, 23), (0, 8, 22), (0, 8, 21), (0, 8, 20), (0, 8, 19), (0, 8, 18), (0, 8, 17), (0, 8, 16), (0, 8, 15), (0, 8, 14), (0, 8, 13), (0, 8, 12), (0, 8, 11), (0, 8, 10), (0, 8, 9), (0, 8, 8), (0, 8, 7), (0, 8, 6), (0, 8, 5), (0, 8, 4), (0, 8, 3), (0, 8, 2), (0, 8, 1)] [] [])) hu ?_
  show zx p l e _ s m _ below meth c g 3 0 0 _ _ 42 [(2, .int 28), (0, .ref (b + 0)), (1, .int 37)] _
  refine z_aload_n B dX8_tick_42 rfl 1 rfl ?_
  refine z_cVv (As := []) (rest := []) B cw_X8_243 cx_9 dX8_tick_43 (ci_X8_passTimers_921 l (σ := (ap b σ [(0, 8, 29), (0, 8, 28), (0, 8, 27), (0, 8, 26), (0, 8, 25), (0, 8, 24), (0, 8, 23), (0, 8, 22), (0, 8, 21), (0, 8, 20), (0, 8, 19), (0, 8, 18), (0, 8, 17), (0, 8, 16), (0, 8, 15), (0, 8, 14), (0, 8, 13), (0, 8, 12), (0, 8, 11), (0, 8, 10), (0, 8, 9), (0, 8, 8), (0, 8, 7), (0, 8, 6), (0, 8, 5), (0, 8, 4), (0, 8, 3), (0, 8, 2), (0, 8, 1)] [] [])) (b := b) (lyA hK) (rI_at 0 7 hI_0_7)) (lKA (hk_K hK 0 rfl rfl)) rfl (by decide) rfl (Nat.le_of_ble_eq_true rfl) (by decide) (fun u hu => ?_)
  refine z_eqs (σ' := (ap b σ [(0, 8, 29), (0, 8, 28), (0, 8, 27), (0, 8, 26), (0, 8, 25), (0, 8, 24), (0, 8, 23), (0, 8, 22), (0, 8, 21), (0, 8, 20), (0, 8, 19), (0, 8, 18), (0, 8, 17), (0, 8, 16), (0, 8, 15), (0, 8, 14), (0, 8, 13), (0, 8, 12), (0, 8, 11), (0, 8, 10), (0, 8, 9), (0, 8, 8), (0, 8, 7), (0, 8, 6), (0, 8, 5), (0, 8, 4), (0, 8, 3), (0, 8, 2), (0, 8, 1)] [] [])) hu ?_
  show zx p l e _ s m _ below meth c g 3 0 0 _ _ 46 [(2, .int 28), (0, .ref (b + 0)), (1, .int 37)] _
  refine z_iinc (v := 29) (lv' := [(2, .int 29), (0, .ref (b + 0)), (1, .int 37)]) B dX8_tick_46 0 rfl (by decide) (by decide) rfl ?_
  refine z_goto (tgt := 23) B dX8_tick_49 (by decide) ?_
  refine z_iload_n B dX8_tick_23 rfl 0 rfl ?_
  refine z_iload_n B dX8_tick_24 rfl 2 rfl ?_
  refine z_icmp_ge (tgt := 52) B dX8_tick_25 (by decide) (fun h => absurd h (by decide)) (fun _ => ?_)
  refine z_aload_n B dX8_tick_28 rfl 1 rfl ?_
  refine z_dup B dX8_tick_29 rfl ?_
  refine gf_X8_206 (x := 29) B (lKA (hk_K hK 0 rfl rfl)) (rI_at 0 8 rfl) dX8_tick_30 ?_
  refine z_iconst (v := 1) B dX8_tick_33 (by decide) ?_
  refine z_iadd B dX8_tick_34 ?_
  refine z_seti (y := 30) (by decide) ?_
  refine pf_X8_206 (x := 30) (σ' := (ap b σ [(0, 8, 30), (0, 8, 29), (0, 8, 28), (0, 8, 27), (0, 8, 26), (0, 8, 25), (0, 8, 24), (0, 8, 23), (0, 8, 22), (0, 8, 21), (0, 8, 20), (0, 8, 19), (0, 8, 18), (0, 8, 17), (0, 8, 16), (0, 8, 15), (0, 8, 14), (0, 8, 13), (0, 8, 12), (0, 8, 11), (0, 8, 10), (0, 8, 9), (0, 8, 8), (0, 8, 7), (0, 8, 6), (0, 8, 5), (0, 8, 4), (0, 8, 3), (0, 8, 2), (0, 8, 1)] [] [])) B (lKA (hk_K hK 0 rfl rfl)) wI_ap dX8_tick_35 ?_
  refine z_aload_n B dX8_tick_38 rfl 1 rfl ?_
  refine z_cVv (As := []) (rest := []) B cw_X8_240 cx_9 dX8_tick_39 (ci_X8_passTasks_920 l (σ := (ap b σ [(0, 8, 30), (0, 8, 29), (0, 8, 28), (0, 8, 27), (0, 8, 26), (0, 8, 25), (0, 8, 24), (0, 8, 23), (0, 8, 22), (0, 8, 21), (0, 8, 20), (0, 8, 19), (0, 8, 18), (0, 8, 17), (0, 8, 16), (0, 8, 15), (0, 8, 14), (0, 8, 13), (0, 8, 12), (0, 8, 11), (0, 8, 10), (0, 8, 9), (0, 8, 8), (0, 8, 7), (0, 8, 6), (0, 8, 5), (0, 8, 4), (0, 8, 3), (0, 8, 2), (0, 8, 1)] [] [])) (b := b) (lyA hK) (rI_at 4 2 hI_4_2) (rR_at 0 3 hR_0_3)) (lKA (hk_K hK 0 rfl rfl)) rfl (by decide) rfl (Nat.le_of_ble_eq_true rfl) (by decide) (fun u hu => ?_)
  refine z_eqs (σ' := (ap b σ [(0, 8, 30), (0, 8, 29), (0, 8, 28), (0, 8, 27), (0, 8, 26), (0, 8, 25), (0, 8, 24), (0, 8, 23), (0, 8, 22), (0, 8, 21), (0, 8, 20), (0, 8, 19), (0, 8, 18), (0, 8, 17), (0, 8, 16), (0, 8, 15), (0, 8, 14), (0, 8, 13), (0, 8, 12), (0, 8, 11), (0, 8, 10), (0, 8, 9), (0, 8, 8), (0, 8, 7), (0, 8, 6), (0, 8, 5), (0, 8, 4), (0, 8, 3), (0, 8, 2), (0, 8, 1)] [] [])) hu ?_
  show zx p l e _ s m _ below meth c g 3 0 0 _ _ 42 [(2, .int 29), (0, .ref (b + 0)), (1, .int 37)] _
  refine z_aload_n B dX8_tick_42 rfl 1 rfl ?_
  refine z_cVv (As := []) (rest := []) B cw_X8_243 cx_9 dX8_tick_43 (ci_X8_passTimers_921 l (σ := (ap b σ [(0, 8, 30), (0, 8, 29), (0, 8, 28), (0, 8, 27), (0, 8, 26), (0, 8, 25), (0, 8, 24), (0, 8, 23), (0, 8, 22), (0, 8, 21), (0, 8, 20), (0, 8, 19), (0, 8, 18), (0, 8, 17), (0, 8, 16), (0, 8, 15), (0, 8, 14), (0, 8, 13), (0, 8, 12), (0, 8, 11), (0, 8, 10), (0, 8, 9), (0, 8, 8), (0, 8, 7), (0, 8, 6), (0, 8, 5), (0, 8, 4), (0, 8, 3), (0, 8, 2), (0, 8, 1)] [] [])) (b := b) (lyA hK) (rI_at 0 7 hI_0_7)) (lKA (hk_K hK 0 rfl rfl)) rfl (by decide) rfl (Nat.le_of_ble_eq_true rfl) (by decide) (fun u hu => ?_)
  refine z_eqs (σ' := (ap b σ [(0, 8, 30), (0, 8, 29), (0, 8, 28), (0, 8, 27), (0, 8, 26), (0, 8, 25), (0, 8, 24), (0, 8, 23), (0, 8, 22), (0, 8, 21), (0, 8, 20), (0, 8, 19), (0, 8, 18), (0, 8, 17), (0, 8, 16), (0, 8, 15), (0, 8, 14), (0, 8, 13), (0, 8, 12), (0, 8, 11), (0, 8, 10), (0, 8, 9), (0, 8, 8), (0, 8, 7), (0, 8, 6), (0, 8, 5), (0, 8, 4), (0, 8, 3), (0, 8, 2), (0, 8, 1)] [] [])) hu ?_
  show zx p l e _ s m _ below meth c g 3 0 0 _ _ 46 [(2, .int 29), (0, .ref (b + 0)), (1, .int 37)] _
  refine z_iinc (v := 30) (lv' := [(2, .int 30), (0, .ref (b + 0)), (1, .int 37)]) B dX8_tick_46 0 rfl (by decide) (by decide) rfl ?_
  refine z_goto (tgt := 23) B dX8_tick_49 (by decide) ?_
  refine z_iload_n B dX8_tick_23 rfl 0 rfl ?_
  refine z_iload_n B dX8_tick_24 rfl 2 rfl ?_
  refine z_icmp_ge (tgt := 52) B dX8_tick_25 (by decide) (fun h => absurd h (by decide)) (fun _ => ?_)
  refine z_aload_n B dX8_tick_28 rfl 1 rfl ?_
  refine z_dup B dX8_tick_29 rfl ?_
  refine gf_X8_206 (x := 30) B (lKA (hk_K hK 0 rfl rfl)) (rI_at 0 8 rfl) dX8_tick_30 ?_
  refine z_iconst (v := 1) B dX8_tick_33 (by decide) ?_
  refine z_iadd B dX8_tick_34 ?_
  refine z_seti (y := 31) (by decide) ?_
  refine pf_X8_206 (x := 31) (σ' := (ap b σ [(0, 8, 31), (0, 8, 30), (0, 8, 29), (0, 8, 28), (0, 8, 27), (0, 8, 26), (0, 8, 25), (0, 8, 24), (0, 8, 23), (0, 8, 22), (0, 8, 21), (0, 8, 20), (0, 8, 19), (0, 8, 18), (0, 8, 17), (0, 8, 16), (0, 8, 15), (0, 8, 14), (0, 8, 13), (0, 8, 12), (0, 8, 11), (0, 8, 10), (0, 8, 9), (0, 8, 8), (0, 8, 7), (0, 8, 6), (0, 8, 5), (0, 8, 4), (0, 8, 3), (0, 8, 2), (0, 8, 1)] [] [])) B (lKA (hk_K hK 0 rfl rfl)) wI_ap dX8_tick_35 ?_
  refine z_aload_n B dX8_tick_38 rfl 1 rfl ?_
  refine z_cVv (As := []) (rest := []) B cw_X8_240 cx_9 dX8_tick_39 (ci_X8_passTasks_920 l (σ := (ap b σ [(0, 8, 31), (0, 8, 30), (0, 8, 29), (0, 8, 28), (0, 8, 27), (0, 8, 26), (0, 8, 25), (0, 8, 24), (0, 8, 23), (0, 8, 22), (0, 8, 21), (0, 8, 20), (0, 8, 19), (0, 8, 18), (0, 8, 17), (0, 8, 16), (0, 8, 15), (0, 8, 14), (0, 8, 13), (0, 8, 12), (0, 8, 11), (0, 8, 10), (0, 8, 9), (0, 8, 8), (0, 8, 7), (0, 8, 6), (0, 8, 5), (0, 8, 4), (0, 8, 3), (0, 8, 2), (0, 8, 1)] [] [])) (b := b) (lyA hK) (rI_at 4 2 hI_4_2) (rR_at 0 3 hR_0_3)) (lKA (hk_K hK 0 rfl rfl)) rfl (by decide) rfl (Nat.le_of_ble_eq_true rfl) (by decide) (fun u hu => ?_)
  refine z_eqs (σ' := (ap b σ [(0, 8, 31), (0, 8, 30), (0, 8, 29), (0, 8, 28), (0, 8, 27), (0, 8, 26), (0, 8, 25), (0, 8, 24), (0, 8, 23), (0, 8, 22), (0, 8, 21), (0, 8, 20), (0, 8, 19), (0, 8, 18), (0, 8, 17), (0, 8, 16), (0, 8, 15), (0, 8, 14), (0, 8, 13), (0, 8, 12), (0, 8, 11), (0, 8, 10), (0, 8, 9), (0, 8, 8), (0, 8, 7), (0, 8, 6), (0, 8, 5), (0, 8, 4), (0, 8, 3), (0, 8, 2), (0, 8, 1)] [] [])) hu ?_
  show zx p l e _ s m _ below meth c g 3 0 0 _ _ 42 [(2, .int 30), (0, .ref (b + 0)), (1, .int 37)] _
  refine z_aload_n B dX8_tick_42 rfl 1 rfl ?_
  refine z_cVv (As := []) (rest := []) B cw_X8_243 cx_9 dX8_tick_43 (ci_X8_passTimers_921 l (σ := (ap b σ [(0, 8, 31), (0, 8, 30), (0, 8, 29), (0, 8, 28), (0, 8, 27), (0, 8, 26), (0, 8, 25), (0, 8, 24), (0, 8, 23), (0, 8, 22), (0, 8, 21), (0, 8, 20), (0, 8, 19), (0, 8, 18), (0, 8, 17), (0, 8, 16), (0, 8, 15), (0, 8, 14), (0, 8, 13), (0, 8, 12), (0, 8, 11), (0, 8, 10), (0, 8, 9), (0, 8, 8), (0, 8, 7), (0, 8, 6), (0, 8, 5), (0, 8, 4), (0, 8, 3), (0, 8, 2), (0, 8, 1)] [] [])) (b := b) (lyA hK) (rI_at 0 7 hI_0_7)) (lKA (hk_K hK 0 rfl rfl)) rfl (by decide) rfl (Nat.le_of_ble_eq_true rfl) (by decide) (fun u hu => ?_)
  refine z_eqs (σ' := (ap b σ [(0, 8, 31), (0, 8, 30), (0, 8, 29), (0, 8, 28), (0, 8, 27), (0, 8, 26), (0, 8, 25), (0, 8, 24), (0, 8, 23), (0, 8, 22), (0, 8, 21), (0, 8, 20), (0, 8, 19), (0, 8, 18), (0, 8, 17), (0, 8, 16), (0, 8, 15), (0, 8, 14), (0, 8, 13), (0, 8, 12), (0, 8, 11), (0, 8, 10), (0, 8, 9), (0, 8, 8), (0, 8, 7), (0, 8, 6), (0, 8, 5), (0, 8, 4), (0, 8, 3), (0, 8, 2), (0, 8, 1)] [] [])) hu ?_
  show zx p l e _ s m _ below meth c g 3 0 0 _ _ 46 [(2, .int 30), (0, .ref (b + 0)), (1, .int 37)] _
  refine z_iinc (v := 31) (lv' := [(2, .int 31), (0, .ref (b + 0)), (1, .int 37)]) B dX8_tick_46 0 rfl (by decide) (by decide) rfl ?_
  refine z_goto (tgt := 23) B dX8_tick_49 (by decide) ?_
  refine z_iload_n B dX8_tick_23 rfl 0 rfl ?_
  refine z_iload_n B dX8_tick_24 rfl 2 rfl ?_
  refine z_icmp_ge (tgt := 52) B dX8_tick_25 (by decide) (fun h => absurd h (by decide)) (fun _ => ?_)
  refine z_aload_n B dX8_tick_28 rfl 1 rfl ?_
  refine z_dup B dX8_tick_29 rfl ?_
  refine gf_X8_206 (x := 31) B (lKA (hk_K hK 0 rfl rfl)) (rI_at 0 8 rfl) dX8_tick_30 ?_
  refine z_iconst (v := 1) B dX8_tick_33 (by decide) ?_
  refine z_iadd B dX8_tick_34 ?_
  refine z_seti (y := 32) (by decide) ?_
  refine pf_X8_206 (x := 32) (σ' := (ap b σ [(0, 8, 32), (0, 8, 31), (0, 8, 30), (0, 8, 29), (0, 8, 28), (0, 8, 27), (0, 8, 26), (0, 8, 25), (0, 8, 24), (0, 8, 23), (0, 8, 22), (0, 8, 21), (0, 8, 20), (0, 8, 19), (0, 8, 18), (0, 8, 17), (0, 8, 16), (0, 8, 15), (0, 8, 14), (0, 8, 13), (0, 8, 12), (0, 8, 11), (0, 8, 10), (0, 8, 9), (0, 8, 8), (0, 8, 7), (0, 8, 6), (0, 8, 5), (0, 8, 4), (0, 8, 3), (0, 8, 2), (0, 8, 1)] [] [])) B (lKA (hk_K hK 0 rfl rfl)) wI_ap dX8_tick_35 ?_
  refine z_aload_n B dX8_tick_38 rfl 1 rfl ?_
  refine z_cVv (As := []) (rest := []) B cw_X8_240 cx_9 dX8_tick_39 (ci_X8_passTasks_920 l (σ := (ap b σ [(0, 8, 32), (0, 8, 31), (0, 8, 30), (0, 8, 29), (0, 8, 28), (0, 8, 27), (0, 8, 26), (0, 8, 25), (0, 8, 24), (0, 8, 23), (0, 8, 22), (0, 8, 21), (0, 8, 20), (0, 8, 19), (0, 8, 18), (0, 8, 17), (0, 8, 16), (0, 8, 15), (0, 8, 14), (0, 8, 13), (0, 8, 12), (0, 8, 11), (0, 8, 10), (0, 8, 9), (0, 8, 8), (0, 8, 7), (0, 8, 6), (0, 8, 5), (0, 8, 4), (0, 8, 3), (0, 8, 2), (0, 8, 1)] [] [])) (b := b) (lyA hK) (rI_at 4 2 hI_4_2) (rR_at 0 3 hR_0_3)) (lKA (hk_K hK 0 rfl rfl)) rfl (by decide) rfl (Nat.le_of_ble_eq_true rfl) (by decide) (fun u hu => ?_)
  refine z_eqs (σ' := (ap b σ [(0, 8, 32), (0, 8, 31), (0, 8, 30), (0, 8, 29), (0, 8, 28), (0, 8, 27), (0, 8, 26), (0, 8, 25), (0, 8, 24), (0, 8, 23), (0, 8, 22), (0, 8, 21), (0, 8, 20), (0, 8, 19), (0, 8, 18), (0, 8, 17), (0, 8, 16), (0, 8, 15), (0, 8, 14), (0, 8, 13), (0, 8, 12), (0, 8, 11), (0, 8, 10), (0, 8, 9), (0, 8, 8), (0, 8, 7), (0, 8, 6), (0, 8, 5), (0, 8, 4), (0, 8, 3), (0, 8, 2), (0, 8, 1)] [] [])) hu ?_
  show zx p l e _ s m _ below meth c g 3 0 0 _ _ 42 [(2, .int 31), (0, .ref (b + 0)), (1, .int 37)] _
  refine z_aload_n B dX8_tick_42 rfl 1 rfl ?_
  refine z_cVv (As := []) (rest := []) B cw_X8_243 cx_9 dX8_tick_43 (ci_X8_passTimers_921 l (σ := (ap b σ [(0, 8, 32), (0, 8, 31), (0, 8, 30), (0, 8, 29), (0, 8, 28), (0, 8, 27), (0, 8, 26), (0, 8, 25), (0, 8, 24), (0, 8, 23), (0, 8, 22), (0, 8, 21), (0, 8, 20), (0, 8, 19), (0, 8, 18), (0, 8, 17), (0, 8, 16), (0, 8, 15), (0, 8, 14), (0, 8, 13), (0, 8, 12), (0, 8, 11), (0, 8, 10), (0, 8, 9), (0, 8, 8), (0, 8, 7), (0, 8, 6), (0, 8, 5), (0, 8, 4), (0, 8, 3), (0, 8, 2), (0, 8, 1)] [] [])) (b := b) (lyA hK) (rI_at 0 7 hI_0_7)) (lKA (hk_K hK 0 rfl rfl)) rfl (by decide) rfl (Nat.le_of_ble_eq_true rfl) (by decide) (fun u hu => ?_)
  refine z_eqs (σ' := (ap b σ [(0, 8, 32), (0, 8, 31), (0, 8, 30), (0, 8, 29), (0, 8, 28), (0, 8, 27), (0, 8, 26), (0, 8, 25), (0, 8, 24), (0, 8, 23), (0, 8, 22), (0, 8, 21), (0, 8, 20), (0, 8, 19), (0, 8, 18), (0, 8, 17), (0, 8, 16), (0, 8, 15), (0, 8, 14), (0, 8, 13), (0, 8, 12), (0, 8, 11), (0, 8, 10), (0, 8, 9), (0, 8, 8), (0, 8, 7), (0, 8, 6), (0, 8, 5), (0, 8, 4), (0, 8, 3), (0, 8, 2), (0, 8, 1)] [] [])) hu ?_
  show zx p l e _ s m _ below meth c g 3 0 0 _ _ 46 [(2, .int 31), (0, .ref (b + 0)), (1, .int 37)] _
  refine z_iinc (v := 32) (lv' := [(2, .int 32), (0, .ref (b + 0)), (1, .int 37)]) B dX8_tick_46 0 rfl (by decide) (by decide) rfl ?_
  refine z_goto (tgt := 23) B dX8_tick_49 (by decide) ?_
  refine z_iload_n B dX8_tick_23 rfl 0 rfl ?_
  refine z_iload_n B dX8_tick_24 rfl 2 rfl ?_
  refine z_icmp_ge (tgt := 52) B dX8_tick_25 (by decide) (fun h => absurd h (by decide)) (fun _ => ?_)
  refine z_aload_n B dX8_tick_28 rfl 1 rfl ?_
  refine z_dup B dX8_tick_29 rfl ?_
  refine gf_X8_206 (x := 32) B (lKA (hk_K hK 0 rfl rfl)) (rI_at 0 8 rfl) dX8_tick_30 ?_
  refine z_iconst (v := 1) B dX8_tick_33 (by decide) ?_
  refine z_iadd B dX8_tick_34 ?_
  refine z_seti (y := 33) (by decide) ?_
  refine pf_X8_206 (x := 33) (σ' := (ap b σ [(0, 8, 33), (0, 8, 32), (0, 8, 31), (0, 8, 30), (0, 8, 29), (0, 8, 28), (0, 8, 27), (0, 8, 26), (0, 8, 25), (0, 8, 24), (0, 8, 23), (0, 8, 22), (0, 8, 21), (0, 8, 20), (0, 8, 19), (0, 8, 18), (0, 8, 17), (0, 8, 16), (0, 8, 15), (0, 8, 14), (0, 8, 13), (0, 8, 12), (0, 8, 11), (0, 8, 10), (0, 8, 9), (0, 8, 8), (0, 8, 7), (0, 8, 6), (0, 8, 5), (0, 8, 4), (0, 8, 3), (0, 8, 2), (0, 8, 1)] [] [])) B (lKA (hk_K hK 0 rfl rfl)) wI_ap dX8_tick_35 ?_
  refine z_aload_n B dX8_tick_38 rfl 1 rfl ?_
  refine z_cVv (As := []) (rest := []) B cw_X8_240 cx_9 dX8_tick_39 (ci_X8_passTasks_920 l (σ := (ap b σ [(0, 8, 33), (0, 8, 32), (0, 8, 31), (0, 8, 30), (0, 8, 29), (0, 8, 28), (0, 8, 27), (0, 8, 26), (0, 8, 25), (0, 8, 24), (0, 8, 23), (0, 8, 22), (0, 8, 21), (0, 8, 20), (0, 8, 19), (0, 8, 18), (0, 8, 17), (0, 8, 16), (0, 8, 15), (0, 8, 14), (0, 8, 13), (0, 8, 12), (0, 8, 11), (0, 8, 10), (0, 8, 9), (0, 8, 8), (0, 8, 7), (0, 8, 6), (0, 8, 5), (0, 8, 4), (0, 8, 3), (0, 8, 2), (0, 8, 1)] [] [])) (b := b) (lyA hK) (rI_at 4 2 hI_4_2) (rR_at 0 3 hR_0_3)) (lKA (hk_K hK 0 rfl rfl)) rfl (by decide) rfl (Nat.le_of_ble_eq_true rfl) (by decide) (fun u hu => ?_)
  refine z_eqs (σ' := (ap b σ [(0, 8, 33), (0, 8, 32), (0, 8, 31), (0, 8, 30), (0, 8, 29), (0, 8, 28), (0, 8, 27), (0, 8, 26), (0, 8, 25), (0, 8, 24), (0, 8, 23), (0, 8, 22), (0, 8, 21), (0, 8, 20), (0, 8, 19), (0, 8, 18), (0, 8, 17), (0, 8, 16), (0, 8, 15), (0, 8, 14), (0, 8, 13), (0, 8, 12), (0, 8, 11), (0, 8, 10), (0, 8, 9), (0, 8, 8), (0, 8, 7), (0, 8, 6), (0, 8, 5), (0, 8, 4), (0, 8, 3), (0, 8, 2), (0, 8, 1)] [] [])) hu ?_
  show zx p l e _ s m _ below meth c g 3 0 0 _ _ 42 [(2, .int 32), (0, .ref (b + 0)), (1, .int 37)] _
  refine z_aload_n B dX8_tick_42 rfl 1 rfl ?_
  refine z_cVv (As := []) (rest := []) B cw_X8_243 cx_9 dX8_tick_43 (ci_X8_passTimers_921 l (σ := (ap b σ [(0, 8, 33), (0, 8, 32), (0, 8, 31), (0, 8, 30), (0, 8, 29), (0, 8, 28), (0, 8, 27), (0, 8, 26), (0, 8, 25), (0, 8, 24), (0, 8, 23), (0, 8, 22), (0, 8, 21), (0, 8, 20), (0, 8, 19), (0, 8, 18), (0, 8, 17), (0, 8, 16), (0, 8, 15), (0, 8, 14), (0, 8, 13), (0, 8, 12), (0, 8, 11), (0, 8, 10), (0, 8, 9), (0, 8, 8), (0, 8, 7), (0, 8, 6), (0, 8, 5), (0, 8, 4), (0, 8, 3), (0, 8, 2), (0, 8, 1)] [] [])) (b := b) (lyA hK) (rI_at 0 7 hI_0_7)) (lKA (hk_K hK 0 rfl rfl)) rfl (by decide) rfl (Nat.le_of_ble_eq_true rfl) (by decide) (fun u hu => ?_)
  refine z_eqs (σ' := (ap b σ [(0, 8, 33), (0, 8, 32), (0, 8, 31), (0, 8, 30), (0, 8, 29), (0, 8, 28), (0, 8, 27), (0, 8, 26), (0, 8, 25), (0, 8, 24), (0, 8, 23), (0, 8, 22), (0, 8, 21), (0, 8, 20), (0, 8, 19), (0, 8, 18), (0, 8, 17), (0, 8, 16), (0, 8, 15), (0, 8, 14), (0, 8, 13), (0, 8, 12), (0, 8, 11), (0, 8, 10), (0, 8, 9), (0, 8, 8), (0, 8, 7), (0, 8, 6), (0, 8, 5), (0, 8, 4), (0, 8, 3), (0, 8, 2), (0, 8, 1)] [] [])) hu ?_
  show zx p l e _ s m _ below meth c g 3 0 0 _ _ 46 [(2, .int 32), (0, .ref (b + 0)), (1, .int 37)] _
  refine z_iinc (v := 33) (lv' := [(2, .int 33), (0, .ref (b + 0)), (1, .int 37)]) B dX8_tick_46 0 rfl (by decide) (by decide) rfl ?_
  refine z_goto (tgt := 23) B dX8_tick_49 (by decide) ?_
  refine z_iload_n B dX8_tick_23 rfl 0 rfl ?_
  refine z_iload_n B dX8_tick_24 rfl 2 rfl ?_
  refine z_icmp_ge (tgt := 52) B dX8_tick_25 (by decide) (fun h => absurd h (by decide)) (fun _ => ?_)
  refine z_aload_n B dX8_tick_28 rfl 1 rfl ?_
  refine z_dup B dX8_tick_29 rfl ?_
  refine gf_X8_206 (x := 33) B (lKA (hk_K hK 0 rfl rfl)) (rI_at 0 8 rfl) dX8_tick_30 ?_
  refine z_iconst (v := 1) B dX8_tick_33 (by decide) ?_
  refine z_iadd B dX8_tick_34 ?_
  refine z_seti (y := 34) (by decide) ?_
  refine pf_X8_206 (x := 34) (σ' := (ap b σ [(0, 8, 34), (0, 8, 33), (0, 8, 32), (0, 8, 31), (0, 8, 30), (0, 8, 29), (0, 8, 28), (0, 8, 27), (0, 8, 26), (0, 8, 25), (0, 8, 24), (0, 8, 23), (0, 8, 22), (0, 8, 21), (0, 8, 20), (0, 8, 19), (0, 8, 18), (0, 8, 17), (0, 8, 16), (0, 8, 15), (0, 8, 14), (0, 8, 13), (0, 8, 12), (0, 8, 11), (0, 8, 10), (0, 8, 9), (0, 8, 8), (0, 8, 7), (0, 8, 6), (0, 8, 5), (0, 8, 4), (0, 8, 3), (0, 8, 2), (0, 8, 1)] [] [])) B (lKA (hk_K hK 0 rfl rfl)) wI_ap dX8_tick_35 ?_
  refine z_aload_n B dX8_tick_38 rfl 1 rfl ?_
  refine z_cVv (As := []) (rest := []) B cw_X8_240 cx_9 dX8_tick_39 (ci_X8_passTasks_920 l (σ := (ap b σ [(0, 8, 34), (0, 8, 33), (0, 8, 32), (0, 8, 31), (0, 8, 30), (0, 8, 29), (0, 8, 28), (0, 8, 27), (0, 8, 26), (0, 8, 25), (0, 8, 24), (0, 8, 23), (0, 8, 22), (0, 8, 21), (0, 8, 20), (0, 8, 19), (0, 8, 18), (0, 8, 17), (0, 8, 16), (0, 8, 15), (0, 8, 14), (0, 8, 13), (0, 8, 12), (0, 8, 11), (0, 8, 10), (0, 8, 9), (0, 8, 8), (0, 8, 7), (0, 8, 6), (0, 8, 5), (0, 8, 4), (0, 8, 3), (0, 8, 2), (0, 8, 1)] [] [])) (b := b) (lyA hK) (rI_at 4 2 hI_4_2) (rR_at 0 3 hR_0_3)) (lKA (hk_K hK 0 rfl rfl)) rfl (by decide) rfl (Nat.le_of_ble_eq_true rfl) (by decide) (fun u hu => ?_)
  refine z_eqs (σ' := (ap b σ [(0, 8, 34), (0, 8, 33), (0, 8, 32), (0, 8, 31), (0, 8, 30), (0, 8, 29), (0, 8, 28), (0, 8, 27), (0, 8, 26), (0, 8, 25), (0, 8, 24), (0, 8, 23), (0, 8, 22), (0, 8, 21), (0, 8, 20), (0, 8, 19), (0, 8, 18), (0, 8, 17), (0, 8, 16), (0, 8, 15), (0, 8, 14), (0, 8, 13), (0, 8, 12), (0, 8, 11), (0, 8, 10), (0, 8, 9), (0, 8, 8), (0, 8, 7), (0, 8, 6), (0, 8, 5), (0, 8, 4), (0, 8, 3), (0, 8, 2), (0, 8, 1)] [] [])) hu ?_
  show zx p l e _ s m _ below meth c g 3 0 0 _ _ 42 [(2, .int 33), (0, .ref (b + 0)), (1, .int 37)] _
  refine z_aload_n B dX8_tick_42 rfl 1 rfl ?_
  refine z_cVv (As := []) (rest := []) B cw_X8_243 cx_9 dX8_tick_43 (ci_X8_passTimers_921 l (σ := (ap b σ [(0, 8, 34), (0, 8, 33), (0, 8, 32), (0, 8, 31), (0, 8, 30), (0, 8, 29), (0, 8, 28), (0, 8, 27), (0, 8, 26), (0, 8, 25), (0, 8, 24), (0, 8, 23), (0, 8, 22), (0, 8, 21), (0, 8, 20), (0, 8, 19), (0, 8, 18), (0, 8, 17), (0, 8, 16), (0, 8, 15), (0, 8, 14), (0, 8, 13), (0, 8, 12), (0, 8, 11), (0, 8, 10), (0, 8, 9), (0, 8, 8), (0, 8, 7), (0, 8, 6), (0, 8, 5), (0, 8, 4), (0, 8, 3), (0, 8, 2), (0, 8, 1)] [] [])) (b := b) (lyA hK) (rI_at 0 7 hI_0_7)) (lKA (hk_K hK 0 rfl rfl)) rfl (by decide) rfl (Nat.le_of_ble_eq_true rfl) (by decide) (fun u hu => ?_)
  refine z_eqs (σ' := (ap b σ [(0, 8, 34), (0, 8, 33), (0, 8, 32), (0, 8, 31), (0, 8, 30), (0, 8, 29), (0, 8, 28), (0, 8, 27), (0, 8, 26), (0, 8, 25), (0, 8, 24), (0, 8, 23), (0, 8, 22), (0, 8, 21), (0, 8, 20), (0, 8, 19), (0, 8, 18), (0, 8, 17), (0, 8, 16), (0, 8, 15), (0, 8, 14), (0, 8, 13), (0, 8, 12), (0, 8, 11), (0, 8, 10), (0, 8, 9), (0, 8, 8), (0, 8, 7), (0, 8, 6), (0, 8, 5), (0, 8, 4), (0, 8, 3), (0, 8, 2), (0, 8, 1)] [] [])) hu ?_
  show zx p l e _ s m _ below meth c g 3 0 0 _ _ 46 [(2, .int 33), (0, .ref (b + 0)), (1, .int 37)] _
  refine z_iinc (v := 34) (lv' := [(2, .int 34), (0, .ref (b + 0)), (1, .int 37)]) B dX8_tick_46 0 rfl (by decide) (by decide) rfl ?_
  refine z_goto (tgt := 23) B dX8_tick_49 (by decide) ?_
  refine z_iload_n B dX8_tick_23 rfl 0 rfl ?_
  refine z_iload_n B dX8_tick_24 rfl 2 rfl ?_
  refine z_icmp_ge (tgt := 52) B dX8_tick_25 (by decide) (fun h => absurd h (by decide)) (fun _ => ?_)
  refine z_aload_n B dX8_tick_28 rfl 1 rfl ?_
  refine z_dup B dX8_tick_29 rfl ?_
  refine gf_X8_206 (x := 34) B (lKA (hk_K hK 0 rfl rfl)) (rI_at 0 8 rfl) dX8_tick_30 ?_
  refine z_iconst (v := 1) B dX8_tick_33 (by decide) ?_
  refine z_iadd B dX8_tick_34 ?_
  refine z_seti (y := 35) (by decide) ?_
  refine pf_X8_206 (x := 35) (σ' := (ap b σ [(0, 8, 35), (0, 8, 34), (0, 8, 33), (0, 8, 32), (0, 8, 31), (0, 8, 30), (0, 8, 29), (0, 8, 28), (0, 8, 27), (0, 8, 26), (0, 8, 25), (0, 8, 24), (0, 8, 23), (0, 8, 22), (0, 8, 21), (0, 8, 20), (0, 8, 19), (0, 8, 18), (0, 8, 17), (0, 8, 16), (0, 8, 15), (0, 8, 14), (0, 8, 13), (0, 8, 12), (0, 8, 11), (0, 8, 10), (0, 8, 9), (0, 8, 8), (0, 8, 7), (0, 8, 6), (0, 8, 5), (0, 8, 4), (0, 8, 3), (0, 8, 2), (0, 8, 1)] [] [])) B (lKA (hk_K hK 0 rfl rfl)) wI_ap dX8_tick_35 ?_
  refine z_aload_n B dX8_tick_38 rfl 1 rfl ?_
  refine z_cVv (As := []) (rest := []) B cw_X8_240 cx_9 dX8_tick_39 (ci_X8_passTasks_920 l (σ := (ap b σ [(0, 8, 35), (0, 8, 34), (0, 8, 33), (0, 8, 32), (0, 8, 31), (0, 8, 30), (0, 8, 29), (0, 8, 28), (0, 8, 27), (0, 8, 26), (0, 8, 25), (0, 8, 24), (0, 8, 23), (0, 8, 22), (0, 8, 21), (0, 8, 20), (0, 8, 19), (0, 8, 18), (0, 8, 17), (0, 8, 16), (0, 8, 15), (0, 8, 14), (0, 8, 13), (0, 8, 12), (0, 8, 11), (0, 8, 10), (0, 8, 9), (0, 8, 8), (0, 8, 7), (0, 8, 6), (0, 8, 5), (0, 8, 4), (0, 8, 3), (0, 8, 2), (0, 8, 1)] [] [])) (b := b) (lyA hK) (rI_at 4 2 hI_4_2) (rR_at 0 3 hR_0_3)) (lKA (hk_K hK 0 rfl rfl)) rfl (by decide) rfl (Nat.le_of_ble_eq_true rfl) (by decide) (fun u hu => ?_)
  refine z_eqs (σ' := (ap b σ [(0, 8, 35), (0, 8, 34), (0, 8, 33), (0, 8, 32), (0, 8, 31), (0, 8, 30), (0, 8, 29), (0, 8, 28), (0, 8, 27), (0, 8, 26), (0, 8, 25), (0, 8, 24), (0, 8, 23), (0, 8, 22), (0, 8, 21), (0, 8, 20), (0, 8, 19), (0, 8, 18), (0, 8, 17), (0, 8, 16), (0, 8, 15), (0, 8, 14), (0, 8, 13), (0, 8, 12), (0, 8, 11), (0, 8, 10), (0, 8, 9), (0, 8, 8), (0, 8, 7), (0, 8, 6), (0, 8, 5), (0, 8, 4), (0, 8, 3), (0, 8, 2), (0, 8, 1)] [] [])) hu ?_
  show zx p l e _ s m _ below meth c g 3 0 0 _ _ 42 [(2, .int 34), (0, .ref (b + 0)), (1, .int 37)] _
  refine z_aload_n B dX8_tick_42 rfl 1 rfl ?_
  refine z_cVv (As := []) (rest := []) B cw_X8_243 cx_9 dX8_tick_43 (ci_X8_passTimers_921 l (σ := (ap b σ [(0, 8, 35), (0, 8, 34), (0, 8, 33), (0, 8, 32), (0, 8, 31), (0, 8, 30), (0, 8, 29), (0, 8, 28), (0, 8, 27), (0, 8, 26), (0, 8, 25), (0, 8, 24), (0, 8, 23), (0, 8, 22), (0, 8, 21), (0, 8, 20), (0, 8, 19), (0, 8, 18), (0, 8, 17), (0, 8, 16), (0, 8, 15), (0, 8, 14), (0, 8, 13), (0, 8, 12), (0, 8, 11), (0, 8, 10), (0, 8, 9), (0, 8, 8), (0, 8, 7), (0, 8, 6), (0, 8, 5), (0, 8, 4), (0, 8, 3), (0, 8, 2), (0, 8, 1)] [] [])) (b := b) (lyA hK) (rI_at 0 7 hI_0_7)) (lKA (hk_K hK 0 rfl rfl)) rfl (by decide) rfl (Nat.le_of_ble_eq_true rfl) (by decide) (fun u hu => ?_)
  refine z_eqs (σ' := (ap b σ [(0, 8, 35), (0, 8, 34), (0, 8, 33), (0, 8, 32), (0, 8, 31), (0, 8, 30), (0, 8, 29), (0, 8, 28), (0, 8, 27), (0, 8, 26), (0, 8, 25), (0, 8, 24), (0, 8, 23), (0, 8, 22), (0, 8, 21), (0, 8, 20), (0, 8, 19), (0, 8, 18), (0, 8, 17), (0, 8, 16), (0, 8, 15), (0, 8, 14), (0, 8, 13), (0, 8, 12), (0, 8, 11), (0, 8, 10), (0, 8, 9), (0, 8, 8), (0, 8, 7), (0, 8, 6), (0, 8, 5), (0, 8, 4), (0, 8, 3), (0, 8, 2), (0, 8, 1)] [] [])) hu ?_
  show zx p l e _ s m _ below meth c g 3 0 0 _ _ 46 [(2, .int 34), (0, .ref (b + 0)), (1, .int 37)] _
  refine z_iinc (v := 35) (lv' := [(2, .int 35), (0, .ref (b + 0)), (1, .int 37)]) B dX8_tick_46 0 rfl (by decide) (by decide) rfl ?_
  refine z_goto (tgt := 23) B dX8_tick_49 (by decide) ?_
  refine z_iload_n B dX8_tick_23 rfl 0 rfl ?_
  refine z_iload_n B dX8_tick_24 rfl 2 rfl ?_
  refine z_icmp_ge (tgt := 52) B dX8_tick_25 (by decide) (fun h => absurd h (by decide)) (fun _ => ?_)
  refine z_aload_n B dX8_tick_28 rfl 1 rfl ?_
  refine z_dup B dX8_tick_29 rfl ?_
  refine gf_X8_206 (x := 35) B (lKA (hk_K hK 0 rfl rfl)) (rI_at 0 8 rfl) dX8_tick_30 ?_
  refine z_iconst (v := 1) B dX8_tick_33 (by decide) ?_
  refine z_iadd B dX8_tick_34 ?_
  refine z_seti (y := 36) (by decide) ?_
  refine pf_X8_206 (x := 36) (σ' := (ap b σ [(0, 8, 36), (0, 8, 35), (0, 8, 34), (0, 8, 33), (0, 8, 32), (0, 8, 31), (0, 8, 30), (0, 8, 29), (0, 8, 28), (0, 8, 27), (0, 8, 26), (0, 8, 25), (0, 8, 24), (0, 8, 23), (0, 8, 22), (0, 8, 21), (0, 8, 20), (0, 8, 19), (0, 8, 18), (0, 8, 17), (0, 8, 16), (0, 8, 15), (0, 8, 14), (0, 8, 13), (0, 8, 12), (0, 8, 11), (0, 8, 10), (0, 8, 9), (0, 8, 8), (0, 8, 7), (0, 8, 6), (0, 8, 5), (0, 8, 4), (0, 8, 3), (0, 8, 2), (0, 8, 1)] [] [])) B (lKA (hk_K hK 0 rfl rfl)) wI_ap dX8_tick_35 ?_
  refine z_aload_n B dX8_tick_38 rfl 1 rfl ?_
  refine z_cVv (As := []) (rest := []) B cw_X8_240 cx_9 dX8_tick_39 (ci_X8_passTasks_920 l (σ := (ap b σ [(0, 8, 36), (0, 8, 35), (0, 8, 34), (0, 8, 33), (0, 8, 32), (0, 8, 31), (0, 8, 30), (0, 8, 29), (0, 8, 28), (0, 8, 27), (0, 8, 26), (0, 8, 25), (0, 8, 24), (0, 8, 23), (0, 8, 22), (0, 8, 21), (0, 8, 20), (0, 8, 19), (0, 8, 18), (0, 8, 17), (0, 8, 16), (0, 8, 15), (0, 8, 14), (0, 8, 13), (0, 8, 12), (0, 8, 11), (0, 8, 10), (0, 8, 9), (0, 8, 8), (0, 8, 7), (0, 8, 6), (0, 8, 5), (0, 8, 4), (0, 8, 3), (0, 8, 2), (0, 8, 1)] [] [])) (b := b) (lyA hK) (rI_at 4 2 hI_4_2) (rR_at 0 3 hR_0_3)) (lKA (hk_K hK 0 rfl rfl)) rfl (by decide) rfl (Nat.le_of_ble_eq_true rfl) (by decide) (fun u hu => ?_)
  refine z_eqs (σ' := (ap b σ [(0, 8, 36), (0, 8, 35), (0, 8, 34), (0, 8, 33), (0, 8, 32), (0, 8, 31), (0, 8, 30), (0, 8, 29), (0, 8, 28), (0, 8, 27), (0, 8, 26), (0, 8, 25), (0, 8, 24), (0, 8, 23), (0, 8, 22), (0, 8, 21), (0, 8, 20), (0, 8, 19), (0, 8, 18), (0, 8, 17), (0, 8, 16), (0, 8, 15), (0, 8, 14), (0, 8, 13), (0, 8, 12), (0, 8, 11), (0, 8, 10), (0, 8, 9), (0, 8, 8), (0, 8, 7), (0, 8, 6), (0, 8, 5), (0, 8, 4), (0, 8, 3), (0, 8, 2), (0, 8, 1)] [] [])) hu ?_
  show zx p l e _ s m _ below meth c g 3 0 0 _ _ 42 [(2, .int 35), (0, .ref (b + 0)), (1, .int 37)] _
  refine z_aload_n B dX8_tick_42 rfl 1 rfl ?_
  refine z_cVv (As := []) (rest := []) B cw_X8_243 cx_9 dX8_tick_43 (ci_X8_passTimers_921 l (σ := (ap b σ [(0, 8, 36), (0, 8, 35), (0, 8, 34), (0, 8, 33), (0, 8, 32), (0, 8, 31), (0, 8, 30), (0, 8, 29), (0, 8, 28), (0, 8, 27), (0, 8, 26), (0, 8, 25), (0, 8, 24), (0, 8, 23), (0, 8, 22), (0, 8, 21), (0, 8, 20), (0, 8, 19), (0, 8, 18), (0, 8, 17), (0, 8, 16), (0, 8, 15), (0, 8, 14), (0, 8, 13), (0, 8, 12), (0, 8, 11), (0, 8, 10), (0, 8, 9), (0, 8, 8), (0, 8, 7), (0, 8, 6), (0, 8, 5), (0, 8, 4), (0, 8, 3), (0, 8, 2), (0, 8, 1)] [] [])) (b := b) (lyA hK) (rI_at 0 7 hI_0_7)) (lKA (hk_K hK 0 rfl rfl)) rfl (by decide) rfl (Nat.le_of_ble_eq_true rfl) (by decide) (fun u hu => ?_)
  refine z_eqs (σ' := (ap b σ [(0, 8, 36), (0, 8, 35), (0, 8, 34), (0, 8, 33), (0, 8, 32), (0, 8, 31), (0, 8, 30), (0, 8, 29), (0, 8, 28), (0, 8, 27), (0, 8, 26), (0, 8, 25), (0, 8, 24), (0, 8, 23), (0, 8, 22), (0, 8, 21), (0, 8, 20), (0, 8, 19), (0, 8, 18), (0, 8, 17), (0, 8, 16), (0, 8, 15), (0, 8, 14), (0, 8, 13), (0, 8, 12), (0, 8, 11), (0, 8, 10), (0, 8, 9), (0, 8, 8), (0, 8, 7), (0, 8, 6), (0, 8, 5), (0, 8, 4), (0, 8, 3), (0, 8, 2), (0, 8, 1)] [] [])) hu ?_
  show zx p l e _ s m _ below meth c g 3 0 0 _ _ 46 [(2, .int 35), (0, .ref (b + 0)), (1, .int 37)] _
  refine z_iinc (v := 36) (lv' := [(2, .int 36), (0, .ref (b + 0)), (1, .int 37)]) B dX8_tick_46 0 rfl (by decide) (by decide) rfl ?_
  refine z_goto (tgt := 23) B dX8_tick_49 (by decide) ?_
  refine z_iload_n B dX8_tick_23 rfl 0 rfl ?_
  refine z_iload_n B dX8_tick_24 rfl 2 rfl ?_
  refine z_icmp_ge (tgt := 52) B dX8_tick_25 (by decide) (fun h => absurd h (by decide)) (fun _ => ?_)
  refine z_aload_n B dX8_tick_28 rfl 1 rfl ?_
  refine z_dup B dX8_tick_29 rfl ?_
  refine gf_X8_206 (x := 36) B (lKA (hk_K hK 0 rfl rfl)) (rI_at 0 8 rfl) dX8_tick_30 ?_
  refine z_iconst (v := 1) B dX8_tick_33 (by decide) ?_
  refine z_iadd B dX8_tick_34 ?_
  refine z_seti (y := 37) (by decide) ?_
  refine pf_X8_206 (x := 37) (σ' := (ap b σ [(0, 8, 37), (0, 8, 36), (0, 8, 35), (0, 8, 34), (0, 8, 33), (0, 8, 32), (0, 8, 31), (0, 8, 30), (0, 8, 29), (0, 8, 28), (0, 8, 27), (0, 8, 26), (0, 8, 25), (0, 8, 24), (0, 8, 23), (0, 8, 22), (0, 8, 21), (0, 8, 20), (0, 8, 19), (0, 8, 18), (0, 8, 17), (0, 8, 16), (0, 8, 15), (0, 8, 14), (0, 8, 13), (0, 8, 12), (0, 8, 11), (0, 8, 10), (0, 8, 9), (0, 8, 8), (0, 8, 7), (0, 8, 6), (0, 8, 5), (0, 8, 4), (0, 8, 3), (0, 8, 2), (0, 8, 1)] [] [])) B (lKA (hk_K hK 0 rfl rfl)) wI_ap dX8_tick_35 ?_
  refine z_aload_n B dX8_tick_38 rfl 1 rfl ?_
  refine z_cVv (As := []) (rest := []) B cw_X8_240 cx_9 dX8_tick_39 (ci_X8_passTasks_920 l (σ := (ap b σ [(0, 8, 37), (0, 8, 36), (0, 8, 35), (0, 8, 34), (0, 8, 33), (0, 8, 32), (0, 8, 31), (0, 8, 30), (0, 8, 29), (0, 8, 28), (0, 8, 27), (0, 8, 26), (0, 8, 25), (0, 8, 24), (0, 8, 23), (0, 8, 22), (0, 8, 21), (0, 8, 20), (0, 8, 19), (0, 8, 18), (0, 8, 17), (0, 8, 16), (0, 8, 15), (0, 8, 14), (0, 8, 13), (0, 8, 12), (0, 8, 11), (0, 8, 10), (0, 8, 9), (0, 8, 8), (0, 8, 7), (0, 8, 6), (0, 8, 5), (0, 8, 4), (0, 8, 3), (0, 8, 2), (0, 8, 1)] [] [])) (b := b) (lyA hK) (rI_at 4 2 hI_4_2) (rR_at 0 3 hR_0_3)) (lKA (hk_K hK 0 rfl rfl)) rfl (by decide) rfl (Nat.le_of_ble_eq_true rfl) (by decide) (fun u hu => ?_)
  refine z_eqs (σ' := (ap b σ [(0, 8, 37), (0, 8, 36), (0, 8, 35), (0, 8, 34), (0, 8, 33), (0, 8, 32), (0, 8, 31), (0, 8, 30), (0, 8, 29), (0, 8, 28), (0, 8, 27), (0, 8, 26), (0, 8, 25), (0, 8, 24), (0, 8, 23), (0, 8, 22), (0, 8, 21), (0, 8, 20), (0, 8, 19), (0, 8, 18), (0, 8, 17), (0, 8, 16), (0, 8, 15), (0, 8, 14), (0, 8, 13), (0, 8, 12), (0, 8, 11), (0, 8, 10), (0, 8, 9), (0, 8, 8), (0, 8, 7), (0, 8, 6), (0, 8, 5), (0, 8, 4), (0, 8, 3), (0, 8, 2), (0, 8, 1)] [] [])) hu ?_
  show zx p l e _ s m _ below meth c g 3 0 0 _ _ 42 [(2, .int 36), (0, .ref (b + 0)), (1, .int 37)] _
  refine z_aload_n B dX8_tick_42 rfl 1 rfl ?_
  refine z_cVv (As := []) (rest := []) B cw_X8_243 cx_9 dX8_tick_43 (ci_X8_passTimers_921 l (σ := (ap b σ [(0, 8, 37), (0, 8, 36), (0, 8, 35), (0, 8, 34), (0, 8, 33), (0, 8, 32), (0, 8, 31), (0, 8, 30), (0, 8, 29), (0, 8, 28), (0, 8, 27), (0, 8, 26), (0, 8, 25), (0, 8, 24), (0, 8, 23), (0, 8, 22), (0, 8, 21), (0, 8, 20), (0, 8, 19), (0, 8, 18), (0, 8, 17), (0, 8, 16), (0, 8, 15), (0, 8, 14), (0, 8, 13), (0, 8, 12), (0, 8, 11), (0, 8, 10), (0, 8, 9), (0, 8, 8), (0, 8, 7), (0, 8, 6), (0, 8, 5), (0, 8, 4), (0, 8, 3), (0, 8, 2), (0, 8, 1)] [] [])) (b := b) (lyA hK) (rI_at 0 7 hI_0_7)) (lKA (hk_K hK 0 rfl rfl)) rfl (by decide) rfl (Nat.le_of_ble_eq_true rfl) (by decide) (fun u hu => ?_)
  refine z_eqs (σ' := (ap b σ [(0, 8, 37), (0, 8, 36), (0, 8, 35), (0, 8, 34), (0, 8, 33), (0, 8, 32), (0, 8, 31), (0, 8, 30), (0, 8, 29), (0, 8, 28), (0, 8, 27), (0, 8, 26), (0, 8, 25), (0, 8, 24), (0, 8, 23), (0, 8, 22), (0, 8, 21), (0, 8, 20), (0, 8, 19), (0, 8, 18), (0, 8, 17), (0, 8, 16), (0, 8, 15), (0, 8, 14), (0, 8, 13), (0, 8, 12), (0, 8, 11), (0, 8, 10), (0, 8, 9), (0, 8, 8), (0, 8, 7), (0, 8, 6), (0, 8, 5), (0, 8, 4), (0, 8, 3), (0, 8, 2), (0, 8, 1)] [] [])) hu ?_
  show zx p l e _ s m _ below meth c g 3 0 0 _ _ 46 [(2, .int 36), (0, .ref (b + 0)), (1, .int 37)] _
  refine z_iinc (v := 37) (lv' := [(2, .int 37), (0, .ref (b + 0)), (1, .int 37)]) B dX8_tick_46 0 rfl (by decide) (by decide) rfl ?_
  refine z_goto (tgt := 23) B dX8_tick_49 (by decide) ?_
  refine z_iload_n B dX8_tick_23 rfl 0 rfl ?_
  refine z_iload_n B dX8_tick_24 rfl 2 rfl ?_
  refine z_icmp_ge (tgt := 52) B dX8_tick_25 (by decide) (fun _ => ?_) (fun h => absurd (by decide) h)
  refine z_aload_n B dX8_tick_52 rfl 1 rfl ?_
  refine gf_X8_206 (x := 37) B (lKA (hk_K hK 0 rfl rfl)) (rI_at 0 8 rfl) dX8_tick_53 ?_
  exact z_iret B hr (by decide) (by decide) dX8_tick_56 ⟨rfl, rfl⟩
set_option maxRecDepth 100000 in
set_option maxHeartbeats 4000000 in
theorem ci_L_tick_1103 (l : Launch) {g : gx_T} {σ : sx_T} {b : Nat} (hK : lay b σ)   (hI_0_7 : sx_I σ (b + 0) 7 = 0) (hI_0_8 : sx_I σ (b + 0) 8 = 0) (hI_4_2 : sx_I σ (b + 4) 2 = 0) (hR_0_3 : sx_R σ (b + 0) 3 = (some (b + 4))) : Met l yL_tick (.codeWith yL_tick cL_tick 4 (some .int) [(0, 9, 12, 15)] :: lw_g) { frames := 3, cells := 0, slots := 0, locals := 64 } (va_Pc [.ref (b + 0), .int 37, .ref (b + 431)] (zx_w g σ)) (va_Qi (fun r u => r = 0 ∧ u = (ap b σ [(0, 8, 37), (0, 8, 36), (0, 8, 35), (0, 8, 34), (0, 8, 33), (0, 8, 32), (0, 8, 31), (0, 8, 30), (0, 8, 29), (0, 8, 28), (0, 8, 27), (0, 8, 26), (0, 8, 25), (0, 8, 24), (0, 8, 23), (0, 8, 22), (0, 8, 21), (0, 8, 20), (0, 8, 19), (0, 8, 18), (0, 8, 17), (0, 8, 16), (0, 8, 15), (0, 8, 14), (0, 8, 13), (0, 8, 12), (0, 8, 11), (0, 8, 10), (0, 8, 9), (0, 8, 8), (0, 8, 7), (0, 8, 6), (0, 8, 5), (0, 8, 4), (0, 8, 3), (0, 8, 2), (0, 8, 1)] [(431, 0, 37)] [])) (zx_w g) (gx_Q g)) 0 0 (gx_Q g) := by
  refine z_metW (by decide) (Nat.le_of_ble_eq_true rfl) (fun p e s m below meth c B hr htab => ?_)
  refine z_eqs (σ' := (ap b σ [] [] [])) rfl ?_
  show zx p l e _ s m _ below meth c g 4 0 0 _ _ 0 [(0, .ref (b + 0)), (1, .int 37), (2, .ref (b + 431))] []
  refine z_aload_n B dL_tick_0 rfl 2 rfl ?_
  refine z_iconst (v := 0) B dL_tick_1 (by decide) ?_
  refine z_aload_n B dL_tick_2 rfl 0 rfl ?_
  refine z_iload_n B dL_tick_3 rfl 1 rfl ?_
  refine z_cVi (As := [.int 37]) (rest := [.int 0, .ref (b + 431)]) B cw_L_41 cx_9 dL_tick_4 (ci_X8_tick_1102 l (σ := (ap b σ [] [] [])) (b := b) (lyA hK) (rI_at 0 7 hI_0_7) (rI_at 0 8 hI_0_8) (rI_at 4 2 hI_4_2) (rR_at 0 3 hR_0_3)) (lKA (hk_K hK 0 rfl rfl)) rfl (by decide) rfl (Nat.le_of_ble_eq_true rfl) (by decide) (fun r u hu => ?_)
  refine z_eqs (σ' := (ap b σ [(0, 8, 37), (0, 8, 36), (0, 8, 35), (0, 8, 34), (0, 8, 33), (0, 8, 32), (0, 8, 31), (0, 8, 30), (0, 8, 29), (0, 8, 28), (0, 8, 27), (0, 8, 26), (0, 8, 25), (0, 8, 24), (0, 8, 23), (0, 8, 22), (0, 8, 21), (0, 8, 20), (0, 8, 19), (0, 8, 18), (0, 8, 17), (0, 8, 16), (0, 8, 15), (0, 8, 14), (0, 8, 13), (0, 8, 12), (0, 8, 11), (0, 8, 10), (0, 8, 9), (0, 8, 8), (0, 8, 7), (0, 8, 6), (0, 8, 5), (0, 8, 4), (0, 8, 3), (0, 8, 2), (0, 8, 1)] [] [])) (hu.2.trans ap_ap) ?_
  show zx p l e _ s m _ below meth c g 4 0 0 _ _ 7 [(0, .ref (b + 0)), (1, .int 37), (2, .ref (b + 431))] _
  refine z_seti (y := 37) hu.1 ?_
  refine z_i2l (v := 37) B dL_tick_7 (by decide) ?_
  refine z_last (j := 0) (σ' := (ap b σ [(0, 8, 37), (0, 8, 36), (0, 8, 35), (0, 8, 34), (0, 8, 33), (0, 8, 32), (0, 8, 31), (0, 8, 30), (0, 8, 29), (0, 8, 28), (0, 8, 27), (0, 8, 26), (0, 8, 25), (0, 8, 24), (0, 8, 23), (0, 8, 22), (0, 8, 21), (0, 8, 20), (0, 8, 19), (0, 8, 18), (0, 8, 17), (0, 8, 16), (0, 8, 15), (0, 8, 14), (0, 8, 13), (0, 8, 12), (0, 8, 11), (0, 8, 10), (0, 8, 9), (0, 8, 8), (0, 8, 7), (0, 8, 6), (0, 8, 5), (0, 8, 4), (0, 8, 3), (0, 8, 2), (0, 8, 1)] [(431, 0, 37)] [])) B (lKA (hk_K hK 431 rfl rfl)) (by decide) (in_of (lNA (hk_N hK 431 rfl rfl)) (show ¬ ((0 : Int32) < 0 ∨ 1 ≤ (0 : Int32).toNatClampNeg) by decide)) wJ_ap dL_tick_8 ?_
  refine z_goto (tgt := 15) B dL_tick_9 (by decide) ?_
  refine z_iconst (v := 0) B dL_tick_15 (by decide) ?_
  exact z_iret B hr (by decide) (by decide) dL_tick_16 ⟨rfl, rfl⟩
set_option maxRecDepth 100000 in
set_option maxHeartbeats 4000000 in
theorem ci_X9_in_1104 (l : Launch) {g : gx_T} {σ : sx_T} {b : Nat} (hK : lay b σ)    : Met l yX9_in (.code yX9_in cX9_in 3 (some .boolean) :: lw_g) { frames := 0, cells := 0, slots := 0, locals := 0 } (va_Pc [.int 37, .int 1, .int 50] (zx_w g σ)) (va_Qi (fun r u => r = 1 ∧ u = σ) (zx_w g) (gx_Q g)) 0 0 (gx_Q g) := by
  refine z_met (by decide) (Nat.le_of_ble_eq_true rfl) (fun p e s m below meth c B hr hin => ?_)
  refine z_eqs (σ' := (ap b σ [] [] [])) rfl ?_
  show zx p l e _ s m _ below meth c g 3 0 0 _ _ 0 [(0, .int 37), (1, .int 1), (2, .int 50)] []
  refine z_iload_n B dX9_in_0 rfl 0 rfl ?_
  refine z_iload_n B dX9_in_1 rfl 1 rfl ?_
  refine z_icmp_lt (tgt := 14) B dX9_in_2 (by decide) (fun h => absurd h (by decide)) (fun _ => ?_)
  refine z_iload_n B dX9_in_5 rfl 0 rfl ?_
  refine z_iload_n B dX9_in_6 rfl 2 rfl ?_
  refine z_icmp_gt (tgt := 14) B dX9_in_7 (by decide) (fun h => absurd h (by decide)) (fun _ => ?_)
  refine z_iconst (v := 1) B dX9_in_10 (by decide) ?_
  refine z_goto (tgt := 15) B dX9_in_11 (by decide) ?_
  exact z_zret B hr (by decide) (by decide) (by decide) dX9_in_15 ⟨rfl, rfl⟩
set_option maxRecDepth 100000 in
set_option maxHeartbeats 4000000 in
theorem ci_X9_ticks_1105 (l : Launch) {g : gx_T} {σ : sx_T} {b : Nat} (hK : lay b σ)   (hI_405_1 : sx_I σ (b + 405) 1 = 36) (hI_405_6 : sx_I σ (b + 405) 6 = 0) (hI_405_16 : sx_I σ (b + 405) 16 = 0) : Met l yX9_ticks (.code yX9_ticks cX9_ticks 2 none :: lw_g) { frames := 0, cells := 0, slots := 0, locals := 0 } (va_Pc [.ref (b + 405)] (zx_w g σ)) (va_Qv (fun u => u = (ap b σ [(405, 1, 37)] [] [])) (zx_w g) (gx_Q g)) 0 0 (gx_Q g) := by
  refine z_met (by decide) (Nat.le_of_ble_eq_true rfl) (fun p e s m below meth c B hr hin => ?_)
  refine z_eqs (σ' := (ap b σ [] [] [])) rfl ?_
  show zx p l e _ s m _ below meth c g 2 0 0 _ _ 0 [(0, .ref (b + 405))] []
  refine z_aload_n B dX9_ticks_0 rfl 0 rfl ?_
  refine z_dup B dX9_ticks_1 rfl ?_
  refine gf_X9_197 (x := 36) B (lKA (hk_K hK 405 rfl rfl)) (rI_at 405 1 hI_405_1) dX9_ticks_2 ?_
  refine z_iconst (v := 1) B dX9_ticks_5 (by decide) ?_
  refine z_iadd B dX9_ticks_6 ?_
  refine z_seti (y := 37) (by decide) ?_
  refine pf_X9_197 (x := 37) (σ' := (ap b σ [(405, 1, 37)] [] [])) B (lKA (hk_K hK 405 rfl rfl)) wI_ap dX9_ticks_7 ?_
  refine z_iconst (v := 0) B dX9_ticks_10 (by decide) ?_
  refine z_istore_n (lv' := [(1, .int 0), (0, .ref (b + 405))]) B dX9_ticks_11 rfl (by decide) rfl ?_
  refine z_iload_n B dX9_ticks_12 rfl 0 rfl ?_
  refine z_aload_n B dX9_ticks_13 rfl 1 rfl ?_
  refine gf_X9_100 (x := 0) B (lKA (hk_K hK 405 rfl rfl)) (rI_at 405 16 hI_405_16) dX9_ticks_14 ?_
  refine z_icmp_ge (tgt := 104) B dX9_ticks_17 (by decide) (fun _ => ?_) (fun h => absurd (by decide) h)
  refine z_iconst (v := 0) B dX9_ticks_104 (by decide) ?_
  refine z_istore_n (lv' := [(1, .int 0), (0, .ref (b + 405))]) B dX9_ticks_105 rfl (by decide) rfl ?_
  refine z_iload_n B dX9_ticks_106 rfl 0 rfl ?_
  refine z_aload_n B dX9_ticks_107 rfl 1 rfl ?_
  refine gf_X9_93 (x := 0) B (lKA (hk_K hK 405 rfl rfl)) (rI_at 405 6 hI_405_6) dX9_ticks_108 ?_
  refine z_icmp_ge (tgt := 176) B dX9_ticks_111 (by decide) (fun _ => ?_) (fun h => absurd (by decide) h)
  exact z_vret B hr (by decide) (by decide) dX9_ticks_176 rfl
set_option maxRecDepth 100000 in
set_option maxHeartbeats 4000000 in
theorem ci_X9_tick_1106 (l : Launch) {g : gx_T} {σ : sx_T} {b : Nat} (hK : lay b σ)   (hI_405_1 : sx_I σ (b + 405) 1 = 0) (hI_405_6 : sx_I σ (b + 405) 6 = 0) (hI_405_16 : sx_I σ (b + 405) 16 = 0) : Met l yX9_tick (.code yX9_tick cX9_tick 3 (some .int) :: lw_g) { frames := 1, cells := 0, slots := 0, locals := 22 } (va_Pc [.ref (b + 405), .int 37] (zx_w g σ)) (va_Qi (fun r u => r = 37 ∧ u = (ap b σ [(405, 1, 37), (405, 1, 36), (405, 1, 35), (405, 1, 34), (405, 1, 33), (405, 1, 32), (405, 1, 31), (405, 1, 30), (405, 1, 29), (405, 1, 28), (405, 1, 27), (405, 1, 26), (405, 1, 25), (405, 1, 24), (405, 1, 23), (405, 1, 22), (405, 1, 21), (405, 1, 20), (405, 1, 19), (405, 1, 18), (405, 1, 17), (405, 1, 16), (405, 1, 15), (405, 1, 14), (405, 1, 13), (405, 1, 12), (405, 1, 11), (405, 1, 10), (405, 1, 9), (405, 1, 8), (405, 1, 7), (405, 1, 6), (405, 1, 5), (405, 1, 4), (405, 1, 3), (405, 1, 2), (405, 1, 1), (405, 0, 0)] [] [])) (zx_w g) (gx_Q g)) 0 0 (gx_Q g) := by
  refine z_met (by decide) (Nat.le_of_ble_eq_true rfl) (fun p e s m below meth c B hr hin => ?_)
  refine z_eqs (σ' := (ap b σ [] [] [])) rfl ?_
  show zx p l e _ s m _ below meth c g 3 0 0 _ _ 0 [(0, .ref (b + 405)), (1, .int 37)] []
  refine z_aload_n B dX9_tick_0 rfl 0 rfl ?_
  refine z_iload_n B dX9_tick_1 rfl 1 rfl ?_
  refine z_iconst (v := 1) B dX9_tick_2 (by decide) ?_
  refine z_bipush (v := 50) B dX9_tick_3 (by decide) ?_
  refine z_cSi (As := [.int 37, .int 1, .int 50]) (rest := [.ref (b + 405)]) B cw_X9_96 dX9_tick_5 (ci_X9_in_1104 l (σ := (ap b σ [] [] [])) (b := b) (lyA hK) ) rfl (by decide) rfl (Nat.le_of_ble_eq_true rfl) (by decide) (fun r u hu => ?_)
  refine z_eqs (σ' := (ap b σ [] [] [])) hu.2 ?_
  show zx p l e _ s m _ below meth c g 3 0 0 _ _ 8 [(0, .ref (b + 405)), (1, .int 37)] _
  refine z_seti (y := 1) hu.1 ?_
  refine z_cVi (As := [.int 1]) (rest := []) B cw_X9_269 cx_10 dX9_tick_8 (ci_X9_needs_905 l (σ := (ap b σ [] [] [])) (b := b) (lyA hK) ) (lKA (hk_K hK 405 rfl rfl)) rfl (by decide) rfl (Nat.le_of_ble_eq_true rfl) (by decide) (fun r u hu => ?_)
  refine z_eqs (σ' := (ap b σ [(405, 0, 0)] [] [])) (hu.2.trans ap_ap) ?_
  show zx p l e _ s m _ below meth c g 3 0 0 _ _ 11 [(0, .ref (b + 405)), (1, .int 37)] _
  refine z_seti (y := 1) hu.1 ?_
  refine z_if_ne (tgt := 16) B dX9_tick_11 (by decide) (fun _ => ?_) (fun h => absurd h (by decide))
  refine z_iconst (v := 0) B dX9_tick_16 (by decide) ?_
  refine z_istore_n (lv' := [(2, .int 0), (0, .ref (b + 405)), (1, .int 37)]) B dX9_tick_17 rfl (by decide) rfl ?_
  refine z_iload_n B dX9_tick_18 rfl 0 rfl ?_
  refine z_iload_n B dX9_tick_19 rfl 2 rfl ?_
  refine z_icmp_ge (tgt := 33) B dX9_tick_20 (by decide) (fun h => absurd h (by decide)) (fun _ => ?_)
  refine z_aload_n B dX9_tick_23 rfl 1 rfl ?_
  refine z_cVv (As := []) (rest := []) B cw_X9_294 cx_10 dX9_tick_24 (ci_X9_ticks_925 l (σ := (ap b σ [(405, 0, 0)] [] [])) (b := b) (lyA hK) (rI_at 405 1 hI_405_1) (rI_at 405 6 hI_405_6) (rI_at 405 16 hI_405_16)) (lKA (hk_K hK 405 rfl rfl)) rfl (by decide) rfl (Nat.le_of_ble_eq_true rfl) (by decide) (fun u hu => ?_)
  refine z_eqs (σ' := (ap b σ [(405, 1, 1), (405, 0, 0)] [] [])) (hu.trans ap_ap) ?_
  show zx p l e _ s m _ below meth c g 3 0 0 _ _ 27 [(2, .int 0), (0, .ref (b + 405)), (1, .int 37)] _
  refine z_iinc (v := 1) (lv' := [(2, .int 1), (0, .ref (b + 405)), (1, .int 37)]) B dX9_tick_27 0 rfl (by decide) (by decide) rfl ?_
  refine z_goto (tgt := 18) B dX9_tick_30 (by decide) ?_
  refine z_iload_n B dX9_tick_18 rfl 0 rfl ?_
  refine z_iload_n B dX9_tick_19 rfl 2 rfl ?_
  refine z_icmp_ge (tgt := 33) B dX9_tick_20 (by decide) (fun h => absurd h (by decide)) (fun _ => ?_)
  refine z_aload_n B dX9_tick_23 rfl 1 rfl ?_
  refine z_cVv (As := []) (rest := []) B cw_X9_294 cx_10 dX9_tick_24 (ci_X9_ticks_930 l (σ := (ap b σ [(405, 1, 1), (405, 0, 0)] [] [])) (b := b) (lyA hK) (rI_at 405 1 rfl) (rI_at 405 6 hI_405_6) (rI_at 405 16 hI_405_16)) (lKA (hk_K hK 405 rfl rfl)) rfl (by decide) rfl (Nat.le_of_ble_eq_true rfl) (by decide) (fun u hu => ?_)
  refine z_eqs (σ' := (ap b σ [(405, 1, 2), (405, 1, 1), (405, 0, 0)] [] [])) (hu.trans ap_ap) ?_
  show zx p l e _ s m _ below meth c g 3 0 0 _ _ 27 [(2, .int 1), (0, .ref (b + 405)), (1, .int 37)] _
  refine z_iinc (v := 2) (lv' := [(2, .int 2), (0, .ref (b + 405)), (1, .int 37)]) B dX9_tick_27 0 rfl (by decide) (by decide) rfl ?_
  refine z_goto (tgt := 18) B dX9_tick_30 (by decide) ?_
  refine z_iload_n B dX9_tick_18 rfl 0 rfl ?_
  refine z_iload_n B dX9_tick_19 rfl 2 rfl ?_
  refine z_icmp_ge (tgt := 33) B dX9_tick_20 (by decide) (fun h => absurd h (by decide)) (fun _ => ?_)
  refine z_aload_n B dX9_tick_23 rfl 1 rfl ?_
  refine z_cVv (As := []) (rest := []) B cw_X9_294 cx_10 dX9_tick_24 (ci_X9_ticks_935 l (σ := (ap b σ [(405, 1, 2), (405, 1, 1), (405, 0, 0)] [] [])) (b := b) (lyA hK) (rI_at 405 1 rfl) (rI_at 405 6 hI_405_6) (rI_at 405 16 hI_405_16)) (lKA (hk_K hK 405 rfl rfl)) rfl (by decide) rfl (Nat.le_of_ble_eq_true rfl) (by decide) (fun u hu => ?_)
  refine z_eqs (σ' := (ap b σ [(405, 1, 3), (405, 1, 2), (405, 1, 1), (405, 0, 0)] [] [])) (hu.trans ap_ap) ?_
  show zx p l e _ s m _ below meth c g 3 0 0 _ _ 27 [(2, .int 2), (0, .ref (b + 405)), (1, .int 37)] _
  refine z_iinc (v := 3) (lv' := [(2, .int 3), (0, .ref (b + 405)), (1, .int 37)]) B dX9_tick_27 0 rfl (by decide) (by decide) rfl ?_
  refine z_goto (tgt := 18) B dX9_tick_30 (by decide) ?_
  refine z_iload_n B dX9_tick_18 rfl 0 rfl ?_
  refine z_iload_n B dX9_tick_19 rfl 2 rfl ?_
  refine z_icmp_ge (tgt := 33) B dX9_tick_20 (by decide) (fun h => absurd h (by decide)) (fun _ => ?_)
  refine z_aload_n B dX9_tick_23 rfl 1 rfl ?_
  refine z_cVv (As := []) (rest := []) B cw_X9_294 cx_10 dX9_tick_24 (ci_X9_ticks_940 l (σ := (ap b σ [(405, 1, 3), (405, 1, 2), (405, 1, 1), (405, 0, 0)] [] [])) (b := b) (lyA hK) (rI_at 405 1 rfl) (rI_at 405 6 hI_405_6) (rI_at 405 16 hI_405_16)) (lKA (hk_K hK 405 rfl rfl)) rfl (by decide) rfl (Nat.le_of_ble_eq_true rfl) (by decide) (fun u hu => ?_)
  refine z_eqs (σ' := (ap b σ [(405, 1, 4), (405, 1, 3), (405, 1, 2), (405, 1, 1), (405, 0, 0)] [] [])) (hu.trans ap_ap) ?_
  show zx p l e _ s m _ below meth c g 3 0 0 _ _ 27 [(2, .int 3), (0, .ref (b + 405)), (1, .int 37)] _
  refine z_iinc (v := 4) (lv' := [(2, .int 4), (0, .ref (b + 405)), (1, .int 37)]) B dX9_tick_27 0 rfl (by decide) (by decide) rfl ?_
  refine z_goto (tgt := 18) B dX9_tick_30 (by decide) ?_
  refine z_iload_n B dX9_tick_18 rfl 0 rfl ?_
  refine z_iload_n B dX9_tick_19 rfl 2 rfl ?_
  refine z_icmp_ge (tgt := 33) B dX9_tick_20 (by decide) (fun h => absurd h (by decide)) (fun _ => ?_)
  refine z_aload_n B dX9_tick_23 rfl 1 rfl ?_
  refine z_cVv (As := []) (rest := []) B cw_X9_294 cx_10 dX9_tick_24 (ci_X9_ticks_945 l (σ := (ap b σ [(405, 1, 4), (405, 1, 3), (405, 1, 2), (405, 1, 1), (405, 0, 0)] [] [])) (b := b) (lyA hK) (rI_at 405 1 rfl) (rI_at 405 6 hI_405_6) (rI_at 405 16 hI_405_16)) (lKA (hk_K hK 405 rfl rfl)) rfl (by decide) rfl (Nat.le_of_ble_eq_true rfl) (by decide) (fun u hu => ?_)
  refine z_eqs (σ' := (ap b σ [(405, 1, 5), (405, 1, 4), (405, 1, 3), (405, 1, 2), (405, 1, 1), (405, 0, 0)] [] [])) (hu.trans ap_ap) ?_
  show zx p l e _ s m _ below meth c g 3 0 0 _ _ 27 [(2, .int 4), (0, .ref (b + 405)), (1, .int 37)] _
  refine z_iinc (v := 5) (lv' := [(2, .int 5), (0, .ref (b + 405)), (1, .int 37)]) B dX9_tick_27 0 rfl (by decide) (by decide) rfl ?_
  refine z_goto (tgt := 18) B dX9_tick_30 (by decide) ?_
  refine z_iload_n B dX9_tick_18 rfl 0 rfl ?_
  refine z_iload_n B dX9_tick_19 rfl 2 rfl ?_
  refine z_icmp_ge (tgt := 33) B dX9_tick_20 (by decide) (fun h => absurd h (by decide)) (fun _ => ?_)
  refine z_aload_n B dX9_tick_23 rfl 1 rfl ?_
  refine z_cVv (As := []) (rest := []) B cw_X9_294 cx_10 dX9_tick_24 (ci_X9_ticks_950 l (σ := (ap b σ [(405, 1, 5), (405, 1, 4), (405, 1, 3), (405, 1, 2), (405, 1, 1), (405, 0, 0)] [] [])) (b := b) (lyA hK) (rI_at 405 1 rfl) (rI_at 405 6 hI_405_6) (rI_at 405 16 hI_405_16)) (lKA (hk_K hK 405 rfl rfl)) rfl (by decide) rfl (Nat.le_of_ble_eq_true rfl) (by decide) (fun u hu => ?_)
  refine z_eqs (σ' := (ap b σ [(405, 1, 6), (405, 1, 5), (405, 1, 4), (405, 1, 3), (405, 1, 2), (405, 1, 1), (405, 0, 0)] [] [])) (hu.trans ap_ap) ?_
  show zx p l e _ s m _ below meth c g 3 0 0 _ _ 27 [(2, .int 5), (0, .ref (b + 405)), (1, .int 37)] _
  refine z_iinc (v := 6) (lv' := [(2, .int 6), (0, .ref (b + 405)), (1, .int 37)]) B dX9_tick_27 0 rfl (by decide) (by decide) rfl ?_
  refine z_goto (tgt := 18) B dX9_tick_30 (by decide) ?_
  refine z_iload_n B dX9_tick_18 rfl 0 rfl ?_
  refine z_iload_n B dX9_tick_19 rfl 2 rfl ?_
  refine z_icmp_ge (tgt := 33) B dX9_tick_20 (by decide) (fun h => absurd h (by decide)) (fun _ => ?_)
  refine z_aload_n B dX9_tick_23 rfl 1 rfl ?_
  refine z_cVv (As := []) (rest := []) B cw_X9_294 cx_10 dX9_tick_24 (ci_X9_ticks_955 l (σ := (ap b σ [(405, 1, 6), (405, 1, 5), (405, 1, 4), (405, 1, 3), (405, 1, 2), (405, 1, 1), (405, 0, 0)] [] [])) (b := b) (lyA hK) (rI_at 405 1 rfl) (rI_at 405 6 hI_405_6) (rI_at 405 16 hI_405_16)) (lKA (hk_K hK 405 rfl rfl)) rfl (by decide) rfl (Nat.le_of_ble_eq_true rfl) (by decide) (fun u hu => ?_)
  refine z_eqs (σ' := (ap b σ [(405, 1, 7), (405, 1, 6), (405, 1, 5), (405, 1, 4), (405, 1, 3), (405, 1, 2), (405, 1, 1), (405, 0, 0)] [] [])) (hu.trans ap_ap) ?_
  show zx p l e _ s m _ below meth c g 3 0 0 _ _ 27 [(2, .int 6), (0, .ref (b + 405)), (1, .int 37)] _
  refine z_iinc (v := 7) (lv' := [(2, .int 7), (0, .ref (b + 405)), (1, .int 37)]) B dX9_tick_27 0 rfl (by decide) (by decide) rfl ?_
  refine z_goto (tgt := 18) B dX9_tick_30 (by decide) ?_
  refine z_iload_n B dX9_tick_18 rfl 0 rfl ?_
  refine z_iload_n B dX9_tick_19 rfl 2 rfl ?_
  refine z_icmp_ge (tgt := 33) B dX9_tick_20 (by decide) (fun h => absurd h (by decide)) (fun _ => ?_)
  refine z_aload_n B dX9_tick_23 rfl 1 rfl ?_
  refine z_cVv (As := []) (rest := []) B cw_X9_294 cx_10 dX9_tick_24 (ci_X9_ticks_960 l (σ := (ap b σ [(405, 1, 7), (405, 1, 6), (405, 1, 5), (405, 1, 4), (405, 1, 3), (405, 1, 2), (405, 1, 1), (405, 0, 0)] [] [])) (b := b) (lyA hK) (rI_at 405 1 rfl) (rI_at 405 6 hI_405_6) (rI_at 405 16 hI_405_16)) (lKA (hk_K hK 405 rfl rfl)) rfl (by decide) rfl (Nat.le_of_ble_eq_true rfl) (by decide) (fun u hu => ?_)
  refine z_eqs (σ' := (ap b σ [(405, 1, 8), (405, 1, 7), (405, 1, 6), (405, 1, 5), (405, 1, 4), (405, 1, 3), (405, 1, 2), (405, 1, 1), (405, 0, 0)] [] [])) (hu.trans ap_ap) ?_
  show zx p l e _ s m _ below meth c g 3 0 0 _ _ 27 [(2, .int 7), (0, .ref (b + 405)), (1, .int 37)] _
  refine z_iinc (v := 8) (lv' := [(2, .int 8), (0, .ref (b + 405)), (1, .int 37)]) B dX9_tick_27 0 rfl (by decide) (by decide) rfl ?_
  refine z_goto (tgt := 18) B dX9_tick_30 (by decide) ?_
  refine z_iload_n B dX9_tick_18 rfl 0 rfl ?_
  refine z_iload_n B dX9_tick_19 rfl 2 rfl ?_
  refine z_icmp_ge (tgt := 33) B dX9_tick_20 (by decide) (fun h => absurd h (by decide)) (fun _ => ?_)
  refine z_aload_n B dX9_tick_23 rfl 1 rfl ?_
  refine z_cVv (As := []) (rest := []) B cw_X9_294 cx_10 dX9_tick_24 (ci_X9_ticks_965 l (σ := (ap b σ [(405, 1, 8), (405, 1, 7), (405, 1, 6), (405, 1, 5), (405, 1, 4), (405, 1, 3), (405, 1, 2), (405, 1, 1), (405, 0, 0)] [] [])) (b := b) (lyA hK) (rI_at 405 1 rfl) (rI_at 405 6 hI_405_6) (rI_at 405 16 hI_405_16)) (lKA (hk_K hK 405 rfl rfl)) rfl (by decide) rfl (Nat.le_of_ble_eq_true rfl) (by decide) (fun u hu => ?_)
  refine z_eqs (σ' := (ap b σ [(405, 1, 9), (405, 1, 8), (405, 1, 7), (405, 1, 6), (405, 1, 5), (405, 1, 4), (405, 1, 3), (405, 1, 2), (405, 1, 1), (405, 0, 0)] [] [])) (hu.trans ap_ap) ?_
  show zx p l e _ s m _ below meth c g 3 0 0 _ _ 27 [(2, .int 8), (0, .ref (b + 405)), (1, .int 37)] _
  refine z_iinc (v := 9) (lv' := [(2, .int 9), (0, .ref (b + 405)), (1, .int 37)]) B dX9_tick_27 0 rfl (by decide) (by decide) rfl ?_
  refine z_goto (tgt := 18) B dX9_tick_30 (by decide) ?_
  refine z_iload_n B dX9_tick_18 rfl 0 rfl ?_
  refine z_iload_n B dX9_tick_19 rfl 2 rfl ?_
  refine z_icmp_ge (tgt := 33) B dX9_tick_20 (by decide) (fun h => absurd h (by decide)) (fun _ => ?_)
  refine z_aload_n B dX9_tick_23 rfl 1 rfl ?_
  refine z_cVv (As := []) (rest := []) B cw_X9_294 cx_10 dX9_tick_24 (ci_X9_ticks_970 l (σ := (ap b σ [(405, 1, 9), (405, 1, 8), (405, 1, 7), (405, 1, 6), (405, 1, 5), (405, 1, 4), (405, 1, 3), (405, 1, 2), (405, 1, 1), (405, 0, 0)] [] [])) (b := b) (lyA hK) (rI_at 405 1 rfl) (rI_at 405 6 hI_405_6) (rI_at 405 16 hI_405_16)) (lKA (hk_K hK 405 rfl rfl)) rfl (by decide) rfl (Nat.le_of_ble_eq_true rfl) (by decide) (fun u hu => ?_)
  refine z_eqs (σ' := (ap b σ [(405, 1, 10), (405, 1, 9), (405, 1, 8), (405, 1, 7), (405, 1, 6), (405, 1, 5), (405, 1, 4), (405, 1, 3), (405, 1, 2), (405, 1, 1), (405, 0, 0)] [] [])) (hu.trans ap_ap) ?_
  show zx p l e _ s m _ below meth c g 3 0 0 _ _ 27 [(2, .int 9), (0, .ref (b + 405)), (1, .int 37)] _
  refine z_iinc (v := 10) (lv' := [(2, .int 10), (0, .ref (b + 405)), (1, .int 37)]) B dX9_tick_27 0 rfl (by decide) (by decide) rfl ?_
  refine z_goto (tgt := 18) B dX9_tick_30 (by decide) ?_
  refine z_iload_n B dX9_tick_18 rfl 0 rfl ?_
  refine z_iload_n B dX9_tick_19 rfl 2 rfl ?_
  refine z_icmp_ge (tgt := 33) B dX9_tick_20 (by decide) (fun h => absurd h (by decide)) (fun _ => ?_)
  refine z_aload_n B dX9_tick_23 rfl 1 rfl ?_
  refine z_cVv (As := []) (rest := []) B cw_X9_294 cx_10 dX9_tick_24 (ci_X9_ticks_975 l (σ := (ap b σ [(405, 1, 10), (405, 1, 9), (405, 1, 8), (405, 1, 7), (405, 1, 6), (405, 1, 5), (405, 1, 4), (405, 1, 3), (405, 1, 2), (405, 1, 1), (405, 0, 0)] [] [])) (b := b) (lyA hK) (rI_at 405 1 rfl) (rI_at 405 6 hI_405_6) (rI_at 405 16 hI_405_16)) (lKA (hk_K hK 405 rfl rfl)) rfl (by decide) rfl (Nat.le_of_ble_eq_true rfl) (by decide) (fun u hu => ?_)
  refine z_eqs (σ' := (ap b σ [(405, 1, 11), (405, 1, 10), (405, 1, 9), (405, 1, 8), (405, 1, 7), (405, 1, 6), (405, 1, 5), (405, 1, 4), (405, 1, 3), (405, 1, 2), (405, 1, 1), (405, 0, 0)] [] [])) (hu.trans ap_ap) ?_
  show zx p l e _ s m _ below meth c g 3 0 0 _ _ 27 [(2, .int 10), (0, .ref (b + 405)), (1, .int 37)] _
  refine z_iinc (v := 11) (lv' := [(2, .int 11), (0, .ref (b + 405)), (1, .int 37)]) B dX9_tick_27 0 rfl (by decide) (by decide) rfl ?_
  refine z_goto (tgt := 18) B dX9_tick_30 (by decide) ?_
  refine z_iload_n B dX9_tick_18 rfl 0 rfl ?_
  refine z_iload_n B dX9_tick_19 rfl 2 rfl ?_
  refine z_icmp_ge (tgt := 33) B dX9_tick_20 (by decide) (fun h => absurd h (by decide)) (fun _ => ?_)
  refine z_aload_n B dX9_tick_23 rfl 1 rfl ?_
  refine z_cVv (As := []) (rest := []) B cw_X9_294 cx_10 dX9_tick_24 (ci_X9_ticks_980 l (σ := (ap b σ [(405, 1, 11), (405, 1, 10), (405, 1, 9), (405, 1, 8), (405, 1, 7), (405, 1, 6), (405, 1, 5), (405, 1, 4), (405, 1, 3), (405, 1, 2), (405, 1, 1), (405, 0, 0)] [] [])) (b := b) (lyA hK) (rI_at 405 1 rfl) (rI_at 405 6 hI_405_6) (rI_at 405 16 hI_405_16)) (lKA (hk_K hK 405 rfl rfl)) rfl (by decide) rfl (Nat.le_of_ble_eq_true rfl) (by decide) (fun u hu => ?_)
  refine z_eqs (σ' := (ap b σ [(405, 1, 12), (405, 1, 11), (405, 1, 10), (405, 1, 9), (405, 1, 8), (405, 1, 7), (405, 1, 6), (405, 1, 5), (405, 1, 4), (405, 1, 3), (405, 1, 2), (405, 1, 1), (405, 0, 0)] [] [])) (hu.trans ap_ap) ?_
  show zx p l e _ s m _ below meth c g 3 0 0 _ _ 27 [(2, .int 11), (0, .ref (b + 405)), (1, .int 37)] _
  refine z_iinc (v := 12) (lv' := [(2, .int 12), (0, .ref (b + 405)), (1, .int 37)]) B dX9_tick_27 0 rfl (by decide) (by decide) rfl ?_
  refine z_goto (tgt := 18) B dX9_tick_30 (by decide) ?_
  refine z_iload_n B dX9_tick_18 rfl 0 rfl ?_
  refine z_iload_n B dX9_tick_19 rfl 2 rfl ?_
  refine z_icmp_ge (tgt := 33) B dX9_tick_20 (by decide) (fun h => absurd h (by decide)) (fun _ => ?_)
  refine z_aload_n B dX9_tick_23 rfl 1 rfl ?_
  refine z_cVv (As := []) (rest := []) B cw_X9_294 cx_10 dX9_tick_24 (ci_X9_ticks_985 l (σ := (ap b σ [(405, 1, 12), (405, 1, 11), (405, 1, 10), (405, 1, 9), (405, 1, 8), (405, 1, 7), (405, 1, 6), (405, 1, 5), (405, 1, 4), (405, 1, 3), (405, 1, 2), (405, 1, 1), (405, 0, 0)] [] [])) (b := b) (lyA hK) (rI_at 405 1 rfl) (rI_at 405 6 hI_405_6) (rI_at 405 16 hI_405_16)) (lKA (hk_K hK 405 rfl rfl)) rfl (by decide) rfl (Nat.le_of_ble_eq_true rfl) (by decide) (fun u hu => ?_)
  refine z_eqs (σ' := (ap b σ [(405, 1, 13), (405, 1, 12), (405, 1, 11), (405, 1, 10), (405, 1, 9), (405, 1, 8), (405, 1, 7), (405, 1, 6), (405, 1, 5), (405, 1, 4), (405, 1, 3), (405, 1, 2), (405, 1, 1), (405, 0, 0)] [] [])) (hu.trans ap_ap) ?_
  show zx p l e _ s m _ below meth c g 3 0 0 _ _ 27 [(2, .int 12), (0, .ref (b + 405)), (1, .int 37)] _
  refine z_iinc (v := 13) (lv' := [(2, .int 13), (0, .ref (b + 405)), (1, .int 37)]) B dX9_tick_27 0 rfl (by decide) (by decide) rfl ?_
  refine z_goto (tgt := 18) B dX9_tick_30 (by decide) ?_
  refine z_iload_n B dX9_tick_18 rfl 0 rfl ?_
  refine z_iload_n B dX9_tick_19 rfl 2 rfl ?_
  refine z_icmp_ge (tgt := 33) B dX9_tick_20 (by decide) (fun h => absurd h (by decide)) (fun _ => ?_)
  refine z_aload_n B dX9_tick_23 rfl 1 rfl ?_
  refine z_cVv (As := []) (rest := []) B cw_X9_294 cx_10 dX9_tick_24 (ci_X9_ticks_990 l (σ := (ap b σ [(405, 1, 13), (405, 1, 12), (405, 1, 11), (405, 1, 10), (405, 1, 9), (405, 1, 8), (405, 1, 7), (405, 1, 6), (405, 1, 5), (405, 1, 4), (405, 1, 3), (405, 1, 2), (405, 1, 1), (405, 0, 0)] [] [])) (b := b) (lyA hK) (rI_at 405 1 rfl) (rI_at 405 6 hI_405_6) (rI_at 405 16 hI_405_16)) (lKA (hk_K hK 405 rfl rfl)) rfl (by decide) rfl (Nat.le_of_ble_eq_true rfl) (by decide) (fun u hu => ?_)
  refine z_eqs (σ' := (ap b σ [(405, 1, 14), (405, 1, 13), (405, 1, 12), (405, 1, 11), (405, 1, 10), (405, 1, 9), (405, 1, 8), (405, 1, 7), (405, 1, 6), (405, 1, 5), (405, 1, 4), (405, 1, 3), (405, 1, 2), (405, 1, 1), (405, 0, 0)] [] [])) (hu.trans ap_ap) ?_
  show zx p l e _ s m _ below meth c g 3 0 0 _ _ 27 [(2, .int 13), (0, .ref (b + 405)), (1, .int 37)] _
  refine z_iinc (v := 14) (lv' := [(2, .int 14), (0, .ref (b + 405)), (1, .int 37)]) B dX9_tick_27 0 rfl (by decide) (by decide) rfl ?_
  refine z_goto (tgt := 18) B dX9_tick_30 (by decide) ?_
  refine z_iload_n B dX9_tick_18 rfl 0 rfl ?_
  refine z_iload_n B dX9_tick_19 rfl 2 rfl ?_
  refine z_icmp_ge (tgt := 33) B dX9_tick_20 (by decide) (fun h => absurd h (by decide)) (fun _ => ?_)
  refine z_aload_n B dX9_tick_23 rfl 1 rfl ?_
  refine z_cVv (As := []) (rest := []) B cw_X9_294 cx_10 dX9_tick_24 (ci_X9_ticks_995 l (σ := (ap b σ [(405, 1, 14), (405, 1, 13), (405, 1, 12), (405, 1, 11), (405, 1, 10), (405, 1, 9), (405, 1, 8), (405, 1, 7), (405, 1, 6), (405, 1, 5), (405, 1, 4), (405, 1, 3), (405, 1, 2), (405, 1, 1), (405, 0, 0)] [] [])) (b := b) (lyA hK) (rI_at 405 1 rfl) (rI_at 405 6 hI_405_6) (rI_at 405 16 hI_405_16)) (lKA (hk_K hK 405 rfl rfl)) rfl (by decide) rfl (Nat.le_of_ble_eq_true rfl) (by decide) (fun u hu => ?_)
  refine z_eqs (σ' := (ap b σ [(405, 1, 15), (405, 1, 14), (405, 1, 13), (405, 1, 12), (405, 1, 11), (405, 1, 10), (405, 1, 9), (405, 1, 8), (405, 1, 7), (405, 1, 6), (405, 1, 5), (405, 1, 4), (405, 1, 3), (405, 1, 2), (405, 1, 1), (405, 0, 0)] [] [])) (hu.trans ap_ap) ?_
  show zx p l e _ s m _ below meth c g 3 0 0 _ _ 27 [(2, .int 14), (0, .ref (b + 405)), (1, .int 37)] _
  refine z_iinc (v := 15) (lv' := [(2, .int 15), (0, .ref (b + 405)), (1, .int 37)]) B dX9_tick_27 0 rfl (by decide) (by decide) rfl ?_
  refine z_goto (tgt := 18) B dX9_tick_30 (by decide) ?_
  refine z_iload_n B dX9_tick_18 rfl 0 rfl ?_
  refine z_iload_n B dX9_tick_19 rfl 2 rfl ?_
  refine z_icmp_ge (tgt := 33) B dX9_tick_20 (by decide) (fun h => absurd h (by decide)) (fun _ => ?_)
  refine z_aload_n B dX9_tick_23 rfl 1 rfl ?_
  refine z_cVv (As := []) (rest := []) B cw_X9_294 cx_10 dX9_tick_24 (ci_X9_ticks_1000 l (σ := (ap b σ [(405, 1, 15), (405, 1, 14), (405, 1, 13), (405, 1, 12), (405, 1, 11), (405, 1, 10), (405, 1, 9), (405, 1, 8), (405, 1, 7), (405, 1, 6), (405, 1, 5), (405, 1, 4), (405, 1, 3), (405, 1, 2), (405, 1, 1), (405, 0, 0)] [] [])) (b := b) (lyA hK) (rI_at 405 1 rfl) (rI_at 405 6 hI_405_6) (rI_at 405 16 hI_405_16)) (lKA (hk_K hK 405 rfl rfl)) rfl (by decide) rfl (Nat.le_of_ble_eq_true rfl) (by decide) (fun u hu => ?_)
  refine z_eqs (σ' := (ap b σ [(405, 1, 16), (405, 1, 15), (405, 1, 14), (405, 1, 13), (405, 1, 12), (405, 1, 11), (405, 1, 10), (405, 1, 9), (405, 1, 8), (405, 1, 7), (405, 1, 6), (405, 1, 5), (405, 1, 4), (405, 1, 3), (405, 1, 2), (405, 1, 1), (405, 0, 0)] [] [])) (hu.trans ap_ap) ?_
  show zx p l e _ s m _ below meth c g 3 0 0 _ _ 27 [(2, .int 15), (0, .ref (b + 405)), (1, .int 37)] _
  refine z_iinc (v := 16) (lv' := [(2, .int 16), (0, .ref (b + 405)), (1, .int 37)]) B dX9_tick_27 0 rfl (by decide) (by decide) rfl ?_
  refine z_goto (tgt := 18) B dX9_tick_30 (by decide) ?_
  refine z_iload_n B dX9_tick_18 rfl 0 rfl ?_
  refine z_iload_n B dX9_tick_19 rfl 2 rfl ?_
  refine z_icmp_ge (tgt := 33) B dX9_tick_20 (by decide) (fun h => absurd h (by decide)) (fun _ => ?_)
  refine z_aload_n B dX9_tick_23 rfl 1 rfl ?_
  refine z_cVv (As := []) (rest := []) B cw_X9_294 cx_10 dX9_tick_24 (ci_X9_ticks_1005 l (σ := (ap b σ [(405, 1, 16), (405, 1, 15), (405, 1, 14), (405, 1, 13), (405, 1, 12), (405, 1, 11), (405, 1, 10), (405, 1, 9), (405, 1, 8), (405, 1, 7), (405, 1, 6), (405, 1, 5), (405, 1, 4), (405, 1, 3), (405, 1, 2), (405, 1, 1), (405, 0, 0)] [] [])) (b := b) (lyA hK) (rI_at 405 1 rfl) (rI_at 405 6 hI_405_6) (rI_at 405 16 hI_405_16)) (lKA (hk_K hK 405 rfl rfl)) rfl (by decide) rfl (Nat.le_of_ble_eq_true rfl) (by decide) (fun u hu => ?_)
  refine z_eqs (σ' := (ap b σ [(405, 1, 17), (405, 1, 16), (405, 1, 15), (405, 1, 14), (405, 1, 13), (405, 1, 12), (405, 1, 11), (405, 1, 10), (405, 1, 9), (405, 1, 8), (405, 1, 7), (405, 1, 6), (405, 1, 5), (405, 1, 4), (405, 1, 3), (405, 1, 2), (405, 1, 1), (405, 0, 0)] [] [])) (hu.trans ap_ap) ?_
  show zx p l e _ s m _ below meth c g 3 0 0 _ _ 27 [(2, .int 16), (0, .ref (b + 405)), (1, .int 37)] _
  refine z_iinc (v := 17) (lv' := [(2, .int 17), (0, .ref (b + 405)), (1, .int 37)]) B dX9_tick_27 0 rfl (by decide) (by decide) rfl ?_
  refine z_goto (tgt := 18) B dX9_tick_30 (by decide) ?_
  refine z_iload_n B dX9_tick_18 rfl 0 rfl ?_
  refine z_iload_n B dX9_tick_19 rfl 2 rfl ?_
  refine z_icmp_ge (tgt := 33) B dX9_tick_20 (by decide) (fun h => absurd h (by decide)) (fun _ => ?_)
  refine z_aload_n B dX9_tick_23 rfl 1 rfl ?_
  refine z_cVv (As := []) (rest := []) B cw_X9_294 cx_10 dX9_tick_24 (ci_X9_ticks_1010 l (σ := (ap b σ [(405, 1, 17), (405, 1, 16), (405, 1, 15), (405, 1, 14), (405, 1, 13), (405, 1, 12), (405, 1, 11), (405, 1, 10), (405, 1, 9), (405, 1, 8), (405, 1, 7), (405, 1, 6), (405, 1, 5), (405, 1, 4), (405, 1, 3), (405, 1, 2), (405, 1, 1), (405, 0, 0)] [] [])) (b := b) (lyA hK) (rI_at 405 1 rfl) (rI_at 405 6 hI_405_6) (rI_at 405 16 hI_405_16)) (lKA (hk_K hK 405 rfl rfl)) rfl (by decide) rfl (Nat.le_of_ble_eq_true rfl) (by decide) (fun u hu => ?_)
  refine z_eqs (σ' := (ap b σ [(405, 1, 18), (405, 1, 17), (405, 1, 16), (405, 1, 15), (405, 1, 14), (405, 1, 13), (405, 1, 12), (405, 1, 11), (405, 1, 10), (405, 1, 9), (405, 1, 8), (405, 1, 7), (405, 1, 6), (405, 1, 5), (405, 1, 4), (405, 1, 3), (405, 1, 2), (405, 1, 1), (405, 0, 0)] [] [])) (hu.trans ap_ap) ?_
  show zx p l e _ s m _ below meth c g 3 0 0 _ _ 27 [(2, .int 17), (0, .ref (b + 405)), (1, .int 37)] _
  refine z_iinc (v := 18) (lv' := [(2, .int 18), (0, .ref (b + 405)), (1, .int 37)]) B dX9_tick_27 0 rfl (by decide) (by decide) rfl ?_
  refine z_goto (tgt := 18) B dX9_tick_30 (by decide) ?_
  refine z_iload_n B dX9_tick_18 rfl 0 rfl ?_
  refine z_iload_n B dX9_tick_19 rfl 2 rfl ?_
  refine z_icmp_ge (tgt := 33) B dX9_tick_20 (by decide) (fun h => absurd h (by decide)) (fun _ => ?_)
  refine z_aload_n B dX9_tick_23 rfl 1 rfl ?_
  refine z_cVv (As := []) (rest := []) B cw_X9_294 cx_10 dX9_tick_24 (ci_X9_ticks_1015 l (σ := (ap b σ [(405, 1, 18), (405, 1, 17), (405, 1, 16), (405, 1, 15), (405, 1, 14), (405, 1, 13), (405, 1, 12), (405, 1, 11), (405, 1, 10), (405, 1, 9), (405, 1, 8), (405, 1, 7), (405, 1, 6), (405, 1, 5), (405, 1, 4), (405, 1, 3), (405, 1, 2), (405, 1, 1), (405, 0, 0)] [] [])) (b := b) (lyA hK) (rI_at 405 1 rfl) (rI_at 405 6 hI_405_6) (rI_at 405 16 hI_405_16)) (lKA (hk_K hK 405 rfl rfl)) rfl (by decide) rfl (Nat.le_of_ble_eq_true rfl) (by decide) (fun u hu => ?_)
  refine z_eqs (σ' := (ap b σ [(405, 1, 19), (405, 1, 18), (405, 1, 17), (405, 1, 16), (405, 1, 15), (405, 1, 14), (405, 1, 13), (405, 1, 12), (405, 1, 11), (405, 1, 10), (405, 1, 9), (405, 1, 8), (405, 1, 7), (405, 1, 6), (405, 1, 5), (405, 1, 4), (405, 1, 3), (405, 1, 2), (405, 1, 1), (405, 0, 0)] [] [])) (hu.trans ap_ap) ?_
  show zx p l e _ s m _ below meth c g 3 0 0 _ _ 27 [(2, .int 18), (0, .ref (b + 405)), (1, .int 37)] _
  refine z_iinc (v := 19) (lv' := [(2, .int 19), (0, .ref (b + 405)), (1, .int 37)]) B dX9_tick_27 0 rfl (by decide) (by decide) rfl ?_
  refine z_goto (tgt := 18) B dX9_tick_30 (by decide) ?_
  refine z_iload_n B dX9_tick_18 rfl 0 rfl ?_
  refine z_iload_n B dX9_tick_19 rfl 2 rfl ?_
  refine z_icmp_ge (tgt := 33) B dX9_tick_20 (by decide) (fun h => absurd h (by decide)) (fun _ => ?_)
  refine z_aload_n B dX9_tick_23 rfl 1 rfl ?_
  refine z_cVv (As := []) (rest := []) B cw_X9_294 cx_10 dX9_tick_24 (ci_X9_ticks_1020 l (σ := (ap b σ [(405, 1, 19), (405, 1, 18), (405, 1, 17), (405, 1, 16), (405, 1, 15), (405, 1, 14), (405, 1, 13), (405, 1, 12), (405, 1, 11), (405, 1, 10), (405, 1, 9), (405, 1, 8), (405, 1, 7), (405, 1, 6), (405, 1, 5), (405, 1, 4), (405, 1, 3), (405, 1, 2), (405, 1, 1), (405, 0, 0)] [] [])) (b := b) (lyA hK) (rI_at 405 1 rfl) (rI_at 405 6 hI_405_6) (rI_at 405 16 hI_405_16)) (lKA (hk_K hK 405 rfl rfl)) rfl (by decide) rfl (Nat.le_of_ble_eq_true rfl) (by decide) (fun u hu => ?_)
  refine z_eqs (σ' := (ap b σ [(405, 1, 20), (405, 1, 19), (405, 1, 18), (405, 1, 17), (405, 1, 16), (405, 1, 15), (405, 1, 14), (405, 1, 13), (405, 1, 12), (405, 1, 11), (405, 1, 10), (405, 1, 9), (405, 1, 8), (405, 1, 7), (405, 1, 6), (405, 1, 5), (405, 1, 4), (405, 1, 3), (405, 1, 2), (405, 1, 1), (405, 0, 0)] [] [])) (hu.trans ap_ap) ?_
  show zx p l e _ s m _ below meth c g 3 0 0 _ _ 27 [(2, .int 19), (0, .ref (b + 405)), (1, .int 37)] _
  refine z_iinc (v := 20) (lv' := [(2, .int 20), (0, .ref (b + 405)), (1, .int 37)]) B dX9_tick_27 0 rfl (by decide) (by decide) rfl ?_
  refine z_goto (tgt := 18) B dX9_tick_30 (by decide) ?_
  refine z_iload_n B dX9_tick_18 rfl 0 rfl ?_
  refine z_iload_n B dX9_tick_19 rfl 2 rfl ?_
  refine z_icmp_ge (tgt := 33) B dX9_tick_20 (by decide) (fun h => absurd h (by decide)) (fun _ => ?_)
  refine z_aload_n B dX9_tick_23 rfl 1 rfl ?_
  refine z_cVv (As := []) (rest := []) B cw_X9_294 cx_10 dX9_tick_24 (ci_X9_ticks_1025 l (σ := (ap b σ [(405, 1, 20), (405, 1, 19), (405, 1, 18), (405, 1, 17), (405, 1, 16), (405, 1, 15), (405, 1, 14), (405, 1, 13), (405, 1, 12), (405, 1, 11), (405, 1, 10), (405, 1, 9), (405, 1, 8), (405, 1, 7), (405, 1, 6), (405, 1, 5), (405, 1, 4), (405, 1, 3), (405, 1, 2), (405, 1, 1), (405, 0, 0)] [] [])) (b := b) (lyA hK) (rI_at 405 1 rfl) (rI_at 405 6 hI_405_6) (rI_at 405 16 hI_405_16)) (lKA (hk_K hK 405 rfl rfl)) rfl (by decide) rfl (Nat.le_of_ble_eq_true rfl) (by decide) (fun u hu => ?_)
  refine z_eqs (σ' := (ap b σ [(405, 1, 21), (405, 1, 20), (405, 1, 19), (405, 1, 18), (405, 1, 17), (405, 1, 16), (405, 1, 15), (405, 1, 14), (405, 1, 13), (405, 1, 12), (405, 1, 11), (405, 1, 10), (405, 1, 9), (405, 1, 8), (405, 1, 7), (405, 1, 6), (405, 1, 5), (405, 1, 4), (405, 1, 3), (405, 1, 2), (405, 1, 1), (405, 0, 0)] [] [])) (hu.trans ap_ap) ?_
  show zx p l e _ s m _ below meth c g 3 0 0 _ _ 27 [(2, .int 20), (0, .ref (b + 405)), (1, .int 37)] _
  refine z_iinc (v := 21) (lv' := [(2, .int 21), (0, .ref (b + 405)), (1, .int 37)]) B dX9_tick_27 0 rfl (by decide) (by decide) rfl ?_
  refine z_goto (tgt := 18) B dX9_tick_30 (by decide) ?_
  refine z_iload_n B dX9_tick_18 rfl 0 rfl ?_
  refine z_iload_n B dX9_tick_19 rfl 2 rfl ?_
  refine z_icmp_ge (tgt := 33) B dX9_tick_20 (by decide) (fun h => absurd h (by decide)) (fun _ => ?_)
  refine z_aload_n B dX9_tick_23 rfl 1 rfl ?_
  refine z_cVv (As := []) (rest := []) B cw_X9_294 cx_10 dX9_tick_24 (ci_X9_ticks_1030 l (σ := (ap b σ [(405, 1, 21), (405, 1, 20), (405, 1, 19), (405, 1, 18), (405, 1, 17), (405, 1, 16), (405, 1, 15), (405, 1, 14), (405, 1, 13), (405, 1, 12), (405, 1, 11), (405, 1, 10), (405, 1, 9), (405, 1, 8), (405, 1, 7), (405, 1, 6), (405, 1, 5), (405, 1, 4), (405, 1, 3), (405, 1, 2), (405, 1, 1), (405, 0, 0)] [] [])) (b := b) (lyA hK) (rI_at 405 1 rfl) (rI_at 405 6 hI_405_6) (rI_at 405 16 hI_405_16)) (lKA (hk_K hK 405 rfl rfl)) rfl (by decide) rfl (Nat.le_of_ble_eq_true rfl) (by decide) (fun u hu => ?_)
  refine z_eqs (σ' := (ap b σ [(405, 1, 22), (405, 1, 21), (405, 1, 20), (405, 1, 19), (405, 1, 18), (405, 1, 17), (405, 1, 16), (405, 1, 15), (405, 1, 14), (405, 1, 13), (405, 1, 12), (405, 1, 11), (405, 1, 10), (405, 1, 9), (405, 1, 8), (405, 1, 7), (405, 1, 6), (405, 1, 5), (405, 1, 4), (405, 1, 3), (405, 1, 2), (405, 1, 1), (405, 0, 0)] [] [])) (hu.trans ap_ap) ?_
  show zx p l e _ s m _ below meth c g 3 0 0 _ _ 27 [(2, .int 21), (0, .ref (b + 405)), (1, .int 37)] _
  refine z_iinc (v := 22) (lv' := [(2, .int 22), (0, .ref (b + 405)), (1, .int 37)]) B dX9_tick_27 0 rfl (by decide) (by decide) rfl ?_
  refine z_goto (tgt := 18) B dX9_tick_30 (by decide) ?_
  refine z_iload_n B dX9_tick_18 rfl 0 rfl ?_
  refine z_iload_n B dX9_tick_19 rfl 2 rfl ?_
  refine z_icmp_ge (tgt := 33) B dX9_tick_20 (by decide) (fun h => absurd h (by decide)) (fun _ => ?_)
  refine z_aload_n B dX9_tick_23 rfl 1 rfl ?_
  refine z_cVv (As := []) (rest := []) B cw_X9_294 cx_10 dX9_tick_24 (ci_X9_ticks_1035 l (σ := (ap b σ [(405, 1, 22), (405, 1, 21), (405, 1, 20), (405, 1, 19), (405, 1, 18), (405, 1, 17), (405, 1, 16), (405, 1, 15), (405, 1, 14), (405, 1, 13), (405, 1, 12), (405, 1, 11), (405, 1, 10), (405, 1, 9), (405, 1, 8), (405, 1, 7), (405, 1, 6), (405, 1, 5), (405, 1, 4), (405, 1, 3), (405, 1, 2), (405, 1, 1), (405, 0, 0)] [] [])) (b := b) (lyA hK) (rI_at 405 1 rfl) (rI_at 405 6 hI_405_6) (rI_at 405 16 hI_405_16)) (lKA (hk_K hK 405 rfl rfl)) rfl (by decide) rfl (Nat.le_of_ble_eq_true rfl) (by decide) (fun u hu => ?_)
  refine z_eqs (σ' := (ap b σ [(405, 1, 23), (405, 1, 22), (405, 1, 21), (405, 1, 20), (405, 1, 19), (405, 1, 18), (405, 1, 17), (405, 1, 16), (405, 1, 15), (405, 1, 14), (405, 1, 13), (405, 1, 12), (405, 1, 11), (405, 1, 10), (405, 1, 9), (405, 1, 8), (405, 1, 7), (405, 1, 6), (405, 1, 5), (405, 1, 4), (405, 1, 3), (405, 1, 2), (405, 1, 1), (405, 0, 0)] [] [])) (hu.trans ap_ap) ?_
  show zx p l e _ s m _ below meth c g 3 0 0 _ _ 27 [(2, .int 22), (0, .ref (b + 405)), (1, .int 37)] _
  refine z_iinc (v := 23) (lv' := [(2, .int 23), (0, .ref (b + 405)), (1, .int 37)]) B dX9_tick_27 0 rfl (by decide) (by decide) rfl ?_
  refine z_goto (tgt := 18) B dX9_tick_30 (by decide) ?_
  refine z_iload_n B dX9_tick_18 rfl 0 rfl ?_
  refine z_iload_n B dX9_tick_19 rfl 2 rfl ?_
  refine z_icmp_ge (tgt := 33) B dX9_tick_20 (by decide) (fun h => absurd h (by decide)) (fun _ => ?_)
  refine z_aload_n B dX9_tick_23 rfl 1 rfl ?_
  refine z_cVv (As := []) (rest := []) B cw_X9_294 cx_10 dX9_tick_24 (ci_X9_ticks_1040 l (σ := (ap b σ [(405, 1, 23), (405, 1, 22), (405, 1, 21), (405, 1, 20), (405, 1, 19), (405, 1, 18), (405, 1, 17), (405, 1, 16), (405, 1, 15), (405, 1, 14), (405, 1, 13), (405, 1, 12), (405, 1, 11), (405, 1, 10), (405, 1, 9), (405, 1, 8), (405, 1, 7), (405, 1, 6), (405, 1, 5), (405, 1, 4), (405, 1, 3), (405, 1, 2), (405, 1, 1), (405, 0, 0)] [] [])) (b := b) (lyA hK) (rI_at 405 1 rfl) (rI_at 405 6 hI_405_6) (rI_at 405 16 hI_405_16)) (lKA (hk_K hK 405 rfl rfl)) rfl (by decide) rfl (Nat.le_of_ble_eq_true rfl) (by decide) (fun u hu => ?_)
  refine z_eqs (σ' := (ap b σ [(405, 1, 24), (405, 1, 23), (405, 1, 22), (405, 1, 21), (405, 1, 20), (405, 1, 19), (405, 1, 18), (405, 1, 17), (405, 1, 16), (405, 1, 15), (405, 1, 14), (405, 1, 13), (405, 1, 12), (405, 1, 11), (405, 1, 10), (405, 1, 9), (405, 1, 8), (405, 1, 7), (405, 1, 6), (405, 1, 5), (405, 1, 4), (405, 1, 3), (405, 1, 2), (405, 1, 1), (405, 0, 0)] [] [])) (hu.trans ap_ap) ?_
  show zx p l e _ s m _ below meth c g 3 0 0 _ _ 27 [(2, .int 23), (0, .ref (b + 405)), (1, .int 37)] _
  refine z_iinc (v := 24) (lv' := [(2, .int 24), (0, .ref (b + 405)), (1, .int 37)]) B dX9_tick_27 0 rfl (by decide) (by decide) rfl ?_
  refine z_goto (tgt := 18) B dX9_tick_30 (by decide) ?_
  refine z_iload_n B dX9_tick_18 rfl 0 rfl ?_
  refine z_iload_n B dX9_tick_19 rfl 2 rfl ?_
  refine z_icmp_ge (tgt := 33) B dX9_tick_20 (by decide) (fun h => absurd h (by decide)) (fun _ => ?_)
  refine z_aload_n B dX9_tick_23 rfl 1 rfl ?_
  refine z_cVv (As := []) (rest := []) B cw_X9_294 cx_10 dX9_tick_24 (ci_X9_ticks_1045 l (σ := (ap b σ [(405, 1, 24), (405, 1, 23), (405, 1, 22), (405, 1, 21), (405, 1, 20), (405, 1, 19), (405, 1, 18), (405, 1, 17), (405, 1, 16), (405, 1, 15), (405, 1, 14), (405, 1, 13), (405, 1, 12), (405, 1, 11), (405, 1, 10), (405, 1, 9), (405, 1, 8), (405, 1, 7), (405, 1, 6), (405, 1, 5), (405, 1, 4), (405, 1, 3), (405, 1, 2), (405, 1, 1), (405, 0, 0)] [] [])) (b := b) (lyA hK) (rI_at 405 1 rfl) (rI_at 405 6 hI_405_6) (rI_at 405 16 hI_405_16)) (lKA (hk_K hK 405 rfl rfl)) rfl (by decide) rfl (Nat.le_of_ble_eq_true rfl) (by decide) (fun u hu => ?_)
  refine z_eqs (σ' := (ap b σ [(405, 1, 25), (405, 1, 24), (405, 1, 23), (405, 1, 22), (405, 1, 21), (405, 1, 20), (405, 1, 19), (405, 1, 18), (405, 1, 17), (405, 1, 16), (405, 1, 15), (405, 1, 14), (405, 1, 13), (405, 1, 12), (405, 1, 11), (405, 1, 10), (405, 1, 9), (405, 1, 8), (405, 1, 7), (405, 1, 6), (405, 1, 5), (405, 1, 4), (405, 1, 3), (405, 1, 2), (405, 1, 1), (405, 0, 0)] [] [])) (hu.trans ap_ap) ?_
  show zx p l e _ s m _ below meth c g 3 0 0 _ _ 27 [(2, .int 24), (0, .ref (b + 405)), (1, .int 37)] _
  refine z_iinc (v := 25) (lv' := [(2, .int 25), (0, .ref (b + 405)), (1, .int 37)]) B dX9_tick_27 0 rfl (by decide) (by decide) rfl ?_
  refine z_goto (tgt := 18) B dX9_tick_30 (by decide) ?_
  refine z_iload_n B dX9_tick_18 rfl 0 rfl ?_
  refine z_iload_n B dX9_tick_19 rfl 2 rfl ?_
  refine z_icmp_ge (tgt := 33) B dX9_tick_20 (by decide) (fun h => absurd h (by decide)) (fun _ => ?_)
  refine z_aload_n B dX9_tick_23 rfl 1 rfl ?_
  refine z_cVv (As := []) (rest := []) B cw_X9_294 cx_10 dX9_tick_24 (ci_X9_ticks_1050 l (σ := (ap b σ [(405, 1, 25), (405, 1, 24), (405, 1, 23), (405, 1, 22), (405, 1, 21), (405, 1, 20), (405, 1, 19), (405, 1, 18), (405, 1, 17), (405, 1, 16), (405, 1, 15), (405, 1, 14), (405, 1, 13), (405, 1, 12), (405, 1, 11), (405, 1, 10), (405, 1, 9), (405, 1, 8), (405, 1, 7), (405, 1, 6), (405, 1, 5), (405, 1, 4), (405, 1, 3), (405, 1, 2), (405, 1, 1), (405, 0, 0)] [] [])) (b := b) (lyA hK) (rI_at 405 1 rfl) (rI_at 405 6 hI_405_6) (rI_at 405 16 hI_405_16)) (lKA (hk_K hK 405 rfl rfl)) rfl (by decide) rfl (Nat.le_of_ble_eq_true rfl) (by decide) (fun u hu => ?_)
  refine z_eqs (σ' := (ap b σ [(405, 1, 26), (405, 1, 25), (405, 1, 24), (405, 1, 23), (405, 1, 22), (405, 1, 21), (405, 1, 20), (405, 1, 19), (405, 1, 18), (405, 1, 17), (405, 1, 16), (405, 1, 15), (405, 1, 14), (405, 1, 13), (405, 1, 12), (405, 1, 11), (405, 1, 10), (405, 1, 9), (405, 1, 8), (405, 1, 7), (405, 1, 6), (405, 1, 5), (405, 1, 4), (405, 1, 3), (405, 1, 2), (405, 1, 1), (405, 0, 0)] [] [])) (hu.trans ap_ap) ?_
  show zx p l e _ s m _ below meth c g 3 0 0 _ _ 27 [(2, .int 25), (0, .ref (b + 405)), (1, .int 37)] _
  refine z_iinc (v := 26) (lv' := [(2, .int 26), (0, .ref (b + 405)), (1, .int 37)]) B dX9_tick_27 0 rfl (by decide) (by decide) rfl ?_
  refine z_goto (tgt := 18) B dX9_tick_30 (by decide) ?_
  refine z_iload_n B dX9_tick_18 rfl 0 rfl ?_
  refine z_iload_n B dX9_tick_19 rfl 2 rfl ?_
  refine z_icmp_ge (tgt := 33) B dX9_tick_20 (by decide) (fun h => absurd h (by decide)) (fun _ => ?_)
  refine z_aload_n B dX9_tick_23 rfl 1 rfl ?_
  refine z_cVv (As := []) (rest := []) B cw_X9_294 cx_10 dX9_tick_24 (ci_X9_ticks_1055 l (σ := (ap b σ [(405, 1, 26), (405, 1, 25), (405, 1, 24), (405, 1, 23), (405, 1, 22), (405, 1, 21), (405, 1, 20), (405, 1, 19), (405, 1, 18), (405, 1, 17), (405, 1, 16), (405, 1, 15), (405, 1, 14), (405, 1, 13), (405, 1, 12), (405, 1, 11), (405, 1, 10), (405, 1, 9), (405, 1, 8), (405, 1, 7), (405, 1, 6), (405, 1, 5), (405, 1, 4), (405, 1, 3), (405, 1, 2), (405, 1, 1), (405, 0, 0)] [] [])) (b := b) (lyA hK) (rI_at 405 1 rfl) (rI_at 405 6 hI_405_6) (rI_at 405 16 hI_405_16)) (lKA (hk_K hK 405 rfl rfl)) rfl (by decide) rfl (Nat.le_of_ble_eq_true rfl) (by decide) (fun u hu => ?_)
  refine z_eqs (σ' := (ap b σ [(405, 1, 27), (405, 1, 26), (405, 1, 25), (405, 1, 24), (405, 1, 23), (405, 1, 22), (405, 1, 21), (405, 1, 20), (405, 1, 19), (405, 1, 18), (405, 1, 17), (405, 1, 16), (405, 1, 15), (405, 1, 14), (405, 1, 13), (405, 1, 12), (405, 1, 11), (405, 1, 10), (405, 1, 9), (405, 1, 8), (405, 1, 7), (405, 1, 6), (405, 1, 5), (405, 1, 4), (405, 1, 3), (405, 1, 2), (405, 1, 1), (405, 0, 0)] [] [])) (hu.trans ap_ap) ?_
  show zx p l e _ s m _ below meth c g 3 0 0 _ _ 27 [(2, .int 26), (0, .ref (b + 405)), (1, .int 37)] _
  refine z_iinc (v := 27) (lv' := [(2, .int 27), (0, .ref (b + 405)), (1, .int 37)]) B dX9_tick_27 0 rfl (by decide) (by decide) rfl ?_
  refine z_goto (tgt := 18) B dX9_tick_30 (by decide) ?_
  refine z_iload_n B dX9_tick_18 rfl 0 rfl ?_
  refine z_iload_n B dX9_tick_19 rfl 2 rfl ?_
  refine z_icmp_ge (tgt := 33) B dX9_tick_20 (by decide) (fun h => absurd h (by decide)) (fun _ => ?_)
  refine z_aload_n B dX9_tick_23 rfl 1 rfl ?_
  refine z_cVv (As := []) (rest := []) B cw_X9_294 cx_10 dX9_tick_24 (ci_X9_ticks_1060 l (σ := (ap b σ [(405, 1, 27), (405, 1, 26), (405, 1, 25), (405, 1, 24), (405, 1, 23), (405, 1, 22), (405, 1, 21), (405, 1, 20), (405, 1, 19), (405, 1, 18), (405, 1, 17), (405, 1, 16), (405, 1, 15), (405, 1, 14), (405, 1, 13), (405, 1, 12), (405, 1, 11), (405, 1, 10), (405, 1, 9), (405, 1, 8), (405, 1, 7), (405, 1, 6), (405, 1, 5), (405, 1, 4), (405, 1, 3), (405, 1, 2), (405, 1, 1), (405, 0, 0)] [] [])) (b := b) (lyA hK) (rI_at 405 1 rfl) (rI_at 405 6 hI_405_6) (rI_at 405 16 hI_405_16)) (lKA (hk_K hK 405 rfl rfl)) rfl (by decide) rfl (Nat.le_of_ble_eq_true rfl) (by decide) (fun u hu => ?_)
  refine z_eqs (σ' := (ap b σ [(405, 1, 28), (405, 1, 27), (405, 1, 26), (405, 1, 25), (405, 1, 24), (405, 1, 23), (405, 1, 22), (405, 1, 21), (405, 1, 20), (405, 1, 19), (405, 1, 18), (405, 1, 17), (405, 1, 16), (405, 1, 15), (405, 1, 14), (405, 1, 13), (405, 1, 12), (405, 1, 11), (405, 1, 10), (405, 1, 9), (405, 1, 8), (405, 1, 7), (405, 1, 6), (405, 1, 5), (405, 1, 4), (405, 1, 3), (405, 1, 2), (405, 1, 1), (405, 0, 0)] [] [])) (hu.trans ap_ap) ?_
  show zx p l e _ s m _ below meth c g 3 0 0 _ _ 27 [(2, .int 27), (0, .ref (b + 405)), (1, .int 37)] _
  refine z_iinc (v := 28) (lv' := [(2, .int 28), (0, .ref (b + 405)), (1, .int 37)]) B dX9_tick_27 0 rfl (by decide) (by decide) rfl ?_
  refine z_goto (tgt := 18) B dX9_tick_30 (by decide) ?_
  refine z_iload_n B dX9_tick_18 rfl 0 rfl ?_
  refine z_iload_n B dX9_tick_19 rfl 2 rfl ?_
  refine z_icmp_ge (tgt := 33) B dX9_tick_20 (by decide) (fun h => absurd h (by decide)) (fun _ => ?_)
  refine z_aload_n B dX9_tick_23 rfl 1 rfl ?_
  refine z_cVv (As := []) (rest := []) B cw_X9_294 cx_10 dX9_tick_24 (ci_X9_ticks_1065 l (σ := (ap b σ [(405, 1, 28), (405, 1, 27), (405, 1, 26), (405, 1, 25), (405, 1, 24), (405, 1, 23), (405, 1, 22), (405, 1, 21), (405, 1, 20), (405, 1, 19), (405, 1, 18), (405, 1, 17), (405, 1, 16), (405, 1, 15), (405, 1, 14), (405, 1, 13), (405, 1, 12), (405, 1, 11), (405, 1, 10), (405, 1, 9), (405, 1, 8), (405, 1, 7), (405, 1, 6), (405, 1, 5), (405, 1, 4), (405, 1, 3), (405, 1, 2), (405, 1, 1), (405, 0, 0)] [] [])) (b := b) (lyA hK) (rI_at 405 1 rfl) (rI_at 405 6 hI_405_6) (rI_at 405 16 hI_405_16)) (lKA (hk_K hK 405 rfl rfl)) rfl (by decide) rfl (Nat.le_of_ble_eq_true rfl) (by decide) (fun u hu => ?_)
  refine z_eqs (σ' := (ap b σ [(405, 1, 29), (405, 1, 28), (405, 1, 27), (405, 1, 26), (405, 1, 25), (405, 1, 24), (405, 1, 23), (405, 1, 22), (405, 1, 21), (405, 1, 20), (405, 1, 19), (405, 1, 18), (405, 1, 17), (405, 1, 16), (405, 1, 15), (405, 1, 14), (405, 1, 13), (405, 1, 12), (405, 1, 11), (405, 1, 10), (405, 1, 9), (405, 1, 8), (405, 1, 7), (405, 1, 6), (405, 1, 5), (405, 1, 4), (405, 1, 3), (405, 1, 2), (405, 1, 1), (405, 0, 0)] [] [])) (hu.trans ap_ap) ?_
  show zx p l e _ s m _ below meth c g 3 0 0 _ _ 27 [(2, .int 28), (0, .ref (b + 405)), (1, .int 37)] _
  refine z_iinc (v := 29) (lv' := [(2, .int 29), (0, .ref (b + 405)), (1, .int 37)]) B dX9_tick_27 0 rfl (by decide) (by decide) rfl ?_
  refine z_goto (tgt := 18) B dX9_tick_30 (by decide) ?_
  refine z_iload_n B dX9_tick_18 rfl 0 rfl ?_
  refine z_iload_n B dX9_tick_19 rfl 2 rfl ?_
  refine z_icmp_ge (tgt := 33) B dX9_tick_20 (by decide) (fun h => absurd h (by decide)) (fun _ => ?_)
  refine z_aload_n B dX9_tick_23 rfl 1 rfl ?_
  refine z_cVv (As := []) (rest := []) B cw_X9_294 cx_10 dX9_tick_24 (ci_X9_ticks_1070 l (σ := (ap b σ [(405, 1, 29), (405, 1, 28), (405, 1, 27), (405, 1, 26), (405, 1, 25), (405, 1, 24), (405, 1, 23), (405, 1, 22), (405, 1, 21), (405, 1, 20), (405, 1, 19), (405, 1, 18), (405, 1, 17), (405, 1, 16), (405, 1, 15), (405, 1, 14), (405, 1, 13), (405, 1, 12), (405, 1, 11), (405, 1, 10), (405, 1, 9), (405, 1, 8), (405, 1, 7), (405, 1, 6), (405, 1, 5), (405, 1, 4), (405, 1, 3), (405, 1, 2), (405, 1, 1), (405, 0, 0)] [] [])) (b := b) (lyA hK) (rI_at 405 1 rfl) (rI_at 405 6 hI_405_6) (rI_at 405 16 hI_405_16)) (lKA (hk_K hK 405 rfl rfl)) rfl (by decide) rfl (Nat.le_of_ble_eq_true rfl) (by decide) (fun u hu => ?_)
  refine z_eqs (σ' := (ap b σ [(405, 1, 30), (405, 1, 29), (405, 1, 28), (405, 1, 27), (405, 1, 26), (405, 1, 25), (405, 1, 24), (405, 1, 23), (405, 1, 22), (405, 1, 21), (405, 1, 20), (405, 1, 19), (405, 1, 18), (405, 1, 17), (405, 1, 16), (405, 1, 15), (405, 1, 14), (405, 1, 13), (405, 1, 12), (405, 1, 11), (405, 1, 10), (405, 1, 9), (405, 1, 8), (405, 1, 7), (405, 1, 6), (405, 1, 5), (405, 1, 4), (405, 1, 3), (405, 1, 2), (405, 1, 1), (405, 0, 0)] [] [])) (hu.trans ap_ap) ?_
  show zx p l e _ s m _ below meth c g 3 0 0 _ _ 27 [(2, .int 29), (0, .ref (b + 405)), (1, .int 37)] _
  refine z_iinc (v := 30) (lv' := [(2, .int 30), (0, .ref (b + 405)), (1, .int 37)]) B dX9_tick_27 0 rfl (by decide) (by decide) rfl ?_
  refine z_goto (tgt := 18) B dX9_tick_30 (by decide) ?_
  refine z_iload_n B dX9_tick_18 rfl 0 rfl ?_
  refine z_iload_n B dX9_tick_19 rfl 2 rfl ?_
  refine z_icmp_ge (tgt := 33) B dX9_tick_20 (by decide) (fun h => absurd h (by decide)) (fun _ => ?_)
  refine z_aload_n B dX9_tick_23 rfl 1 rfl ?_
  refine z_cVv (As := []) (rest := []) B cw_X9_294 cx_10 dX9_tick_24 (ci_X9_ticks_1075 l (σ := (ap b σ [(405, 1, 30), (405, 1, 29), (405, 1, 28), (405, 1, 27), (405, 1, 26), (405, 1, 25), (405, 1, 24), (405, 1, 23), (405, 1, 22), (405, 1, 21), (405, 1, 20), (405, 1, 19), (405, 1, 18), (405, 1, 17), (405, 1, 16), (405, 1, 15), (405, 1, 14), (405, 1, 13), (405, 1, 12), (405, 1, 11), (405, 1, 10), (405, 1, 9), (405, 1, 8), (405, 1, 7), (405, 1, 6), (405, 1, 5), (405, 1, 4), (405, 1, 3), (405, 1, 2), (405, 1, 1), (405, 0, 0)] [] [])) (b := b) (lyA hK) (rI_at 405 1 rfl) (rI_at 405 6 hI_405_6) (rI_at 405 16 hI_405_16)) (lKA (hk_K hK 405 rfl rfl)) rfl (by decide) rfl (Nat.le_of_ble_eq_true rfl) (by decide) (fun u hu => ?_)
  refine z_eqs (σ' := (ap b σ [(405, 1, 31), (405, 1, 30), (405, 1, 29), (405, 1, 28), (405, 1, 27), (405, 1, 26), (405, 1, 25), (405, 1, 24), (405, 1, 23), (405, 1, 22), (405, 1, 21), (405, 1, 20), (405, 1, 19), (405, 1, 18), (405, 1, 17), (405, 1, 16), (405, 1, 15), (405, 1, 14), (405, 1, 13), (405, 1, 12), (405, 1, 11), (405, 1, 10), (405, 1, 9), (405, 1, 8), (405, 1, 7), (405, 1, 6), (405, 1, 5), (405, 1, 4), (405, 1, 3), (405, 1, 2), (405, 1, 1), (405, 0, 0)] [] [])) (hu.trans ap_ap) ?_
  show zx p l e _ s m _ below meth c g 3 0 0 _ _ 27 [(2, .int 30), (0, .ref (b + 405)), (1, .int 37)] _
  refine z_iinc (v := 31) (lv' := [(2, .int 31), (0, .ref (b + 405)), (1, .int 37)]) B dX9_tick_27 0 rfl (by decide) (by decide) rfl ?_
  refine z_goto (tgt := 18) B dX9_tick_30 (by decide) ?_
  refine z_iload_n B dX9_tick_18 rfl 0 rfl ?_
  refine z_iload_n B dX9_tick_19 rfl 2 rfl ?_
  refine z_icmp_ge (tgt := 33) B dX9_tick_20 (by decide) (fun h => absurd h (by decide)) (fun _ => ?_)
  refine z_aload_n B dX9_tick_23 rfl 1 rfl ?_
  refine z_cVv (As := []) (rest := []) B cw_X9_294 cx_10 dX9_tick_24 (ci_X9_ticks_1080 l (σ := (ap b σ [(405, 1, 31), (405, 1, 30), (405, 1, 29), (405, 1, 28), (405, 1, 27), (405, 1, 26), (405, 1, 25), (405, 1, 24), (405, 1, 23), (405, 1, 22), (405, 1, 21), (405, 1, 20), (405, 1, 19), (405, 1, 18), (405, 1, 17), (405, 1, 16), (405, 1, 15), (405, 1, 14), (405, 1, 13), (405, 1, 12), (405, 1, 11), (405, 1, 10), (405, 1, 9), (405, 1, 8), (405, 1, 7), (405, 1, 6), (405, 1, 5), (405, 1, 4), (405, 1, 3), (405, 1, 2), (405, 1, 1), (405, 0, 0)] [] [])) (b := b) (lyA hK) (rI_at 405 1 rfl) (rI_at 405 6 hI_405_6) (rI_at 405 16 hI_405_16)) (lKA (hk_K hK 405 rfl rfl)) rfl (by decide) rfl (Nat.le_of_ble_eq_true rfl) (by decide) (fun u hu => ?_)
  refine z_eqs (σ' := (ap b σ [(405, 1, 32), (405, 1, 31), (405, 1, 30), (405, 1, 29), (405, 1, 28), (405, 1, 27), (405, 1, 26), (405, 1, 25), (405, 1, 24), (405, 1, 23), (405, 1, 22), (405, 1, 21), (405, 1, 20), (405, 1, 19), (405, 1, 18), (405, 1, 17), (405, 1, 16), (405, 1, 15), (405, 1, 14), (405, 1, 13), (405, 1, 12), (405, 1, 11), (405, 1, 10), (405, 1, 9), (405, 1, 8), (405, 1, 7), (405, 1, 6), (405, 1, 5), (405, 1, 4), (405, 1, 3), (405, 1, 2), (405, 1, 1), (405, 0, 0)] [] [])) (hu.trans ap_ap) ?_
  show zx p l e _ s m _ below meth c g 3 0 0 _ _ 27 [(2, .int 31), (0, .ref (b + 405)), (1, .int 37)] _
  refine z_iinc (v := 32) (lv' := [(2, .int 32), (0, .ref (b + 405)), (1, .int 37)]) B dX9_tick_27 0 rfl (by decide) (by decide) rfl ?_
  refine z_goto (tgt := 18) B dX9_tick_30 (by decide) ?_
  refine z_iload_n B dX9_tick_18 rfl 0 rfl ?_
  refine z_iload_n B dX9_tick_19 rfl 2 rfl ?_
  refine z_icmp_ge (tgt := 33) B dX9_tick_20 (by decide) (fun h => absurd h (by decide)) (fun _ => ?_)
  refine z_aload_n B dX9_tick_23 rfl 1 rfl ?_
  refine z_cVv (As := []) (rest := []) B cw_X9_294 cx_10 dX9_tick_24 (ci_X9_ticks_1085 l (σ := (ap b σ [(405, 1, 32), (405, 1, 31), (405, 1, 30), (405, 1, 29), (405, 1, 28), (405, 1, 27), (405, 1, 26), (405, 1, 25), (405, 1, 24), (405, 1, 23), (405, 1, 22), (405, 1, 21), (405, 1, 20), (405, 1, 19), (405, 1, 18), (405, 1, 17), (405, 1, 16), (405, 1, 15), (405, 1, 14), (405, 1, 13), (405, 1, 12), (405, 1, 11), (405, 1, 10), (405, 1, 9), (405, 1, 8), (405, 1, 7), (405, 1, 6), (405, 1, 5), (405, 1, 4), (405, 1, 3), (405, 1, 2), (405, 1, 1), (405, 0, 0)] [] [])) (b := b) (lyA hK) (rI_at 405 1 rfl) (rI_at 405 6 hI_405_6) (rI_at 405 16 hI_405_16)) (lKA (hk_K hK 405 rfl rfl)) rfl (by decide) rfl (Nat.le_of_ble_eq_true rfl) (by decide) (fun u hu => ?_)
  refine z_eqs (σ' := (ap b σ [(405, 1, 33), (405, 1, 32), (405, 1, 31), (405, 1, 30), (405, 1, 29), (405, 1, 28), (405, 1, 27), (405, 1, 26), (405, 1, 25), (405, 1, 24), (405, 1, 23), (405, 1, 22), (405, 1, 21), (405, 1, 20), (405, 1, 19), (405, 1, 18), (405, 1, 17), (405, 1, 16), (405, 1, 15), (405, 1, 14), (405, 1, 13), (405, 1, 12), (405, 1, 11), (405, 1, 10), (405, 1, 9), (405, 1, 8), (405, 1, 7), (405, 1, 6), (405, 1, 5), (405, 1, 4), (405, 1, 3), (405, 1, 2), (405, 1, 1), (405, 0, 0)] [] [])) (hu.trans ap_ap) ?_
  show zx p l e _ s m _ below meth c g 3 0 0 _ _ 27 [(2, .int 32), (0, .ref (b + 405)), (1, .int 37)] _
  refine z_iinc (v := 33) (lv' := [(2, .int 33), (0, .ref (b + 405)), (1, .int 37)]) B dX9_tick_27 0 rfl (by decide) (by decide) rfl ?_
  refine z_goto (tgt := 18) B dX9_tick_30 (by decide) ?_
  refine z_iload_n B dX9_tick_18 rfl 0 rfl ?_
  refine z_iload_n B dX9_tick_19 rfl 2 rfl ?_
  refine z_icmp_ge (tgt := 33) B dX9_tick_20 (by decide) (fun h => absurd h (by decide)) (fun _ => ?_)
  refine z_aload_n B dX9_tick_23 rfl 1 rfl ?_
  refine z_cVv (As := []) (rest := []) B cw_X9_294 cx_10 dX9_tick_24 (ci_X9_ticks_1090 l (σ := (ap b σ [(405, 1, 33), (405, 1, 32), (405, 1, 31), (405, 1, 30), (405, 1, 29), (405, 1, 28), (405, 1, 27), (405, 1, 26), (405, 1, 25), (405, 1, 24), (405, 1, 23), (405, 1, 22), (405, 1, 21), (405, 1, 20), (405, 1, 19), (405, 1, 18), (405, 1, 17), (405, 1, 16), (405, 1, 15), (405, 1, 14), (405, 1, 13), (405, 1, 12), (405, 1, 11), (405, 1, 10), (405, 1, 9), (405, 1, 8), (405, 1, 7), (405, 1, 6), (405, 1, 5), (405, 1, 4), (405, 1, 3), (405, 1, 2), (405, 1, 1), (405, 0, 0)] [] [])) (b := b) (lyA hK) (rI_at 405 1 rfl) (rI_at 405 6 hI_405_6) (rI_at 405 16 hI_405_16)) (lKA (hk_K hK 405 rfl rfl)) rfl (by decide) rfl (Nat.le_of_ble_eq_true rfl) (by decide) (fun u hu => ?_)
  refine z_eqs (σ' := (ap b σ [(405, 1, 34), (405, 1, 33), (405, 1, 32), (405, 1, 31), (405, 1, 30), (405, 1, 29), (405, 1, 28), (405, 1, 27), (405, 1, 26), (405, 1, 25), (405, 1, 24), (405, 1, 23), (405, 1, 22), (405, 1, 21), (405, 1, 20), (405, 1, 19), (405, 1, 18), (405, 1, 17), (405, 1, 16), (405, 1, 15), (405, 1, 14), (405, 1, 13), (405, 1, 12), (405, 1, 11), (405, 1, 10), (405, 1, 9), (405, 1, 8), (405, 1, 7), (405, 1, 6), (405, 1, 5), (405, 1, 4), (405, 1, 3), (405, 1, 2), (405, 1, 1), (405, 0, 0)] [] [])) (hu.trans ap_ap) ?_
  show zx p l e _ s m _ below meth c g 3 0 0 _ _ 27 [(2, .int 33), (0, .ref (b + 405)), (1, .int 37)] _
  refine z_iinc (v := 34) (lv' := [(2, .int 34), (0, .ref (b + 405)), (1, .int 37)]) B dX9_tick_27 0 rfl (by decide) (by decide) rfl ?_
  refine z_goto (tgt := 18) B dX9_tick_30 (by decide) ?_
  refine z_iload_n B dX9_tick_18 rfl 0 rfl ?_
  refine z_iload_n B dX9_tick_19 rfl 2 rfl ?_
  refine z_icmp_ge (tgt := 33) B dX9_tick_20 (by decide) (fun h => absurd h (by decide)) (fun _ => ?_)
  refine z_aload_n B dX9_tick_23 rfl 1 rfl ?_
  refine z_cVv (As := []) (rest := []) B cw_X9_294 cx_10 dX9_tick_24 (ci_X9_ticks_1095 l (σ := (ap b σ [(405, 1, 34), (405, 1, 33), (405, 1, 32), (405, 1, 31), (405, 1, 30), (405, 1, 29), (405, 1, 28), (405, 1, 27), (405, 1, 26), (405, 1, 25), (405, 1, 24), (405, 1, 23), (405, 1, 22), (405, 1, 21), (405, 1, 20), (405, 1, 19), (405, 1, 18), (405, 1, 17), (405, 1, 16), (405, 1, 15), (405, 1, 14), (405, 1, 13), (405, 1, 12), (405, 1, 11), (405, 1, 10), (405, 1, 9), (405, 1, 8), (405, 1, 7), (405, 1, 6), (405, 1, 5), (405, 1, 4), (405, 1, 3), (405, 1, 2), (405, 1, 1), (405, 0, 0)] [] [])) (b := b) (lyA hK) (rI_at 405 1 rfl) (rI_at 405 6 hI_405_6) (rI_at 405 16 hI_405_16)) (lKA (hk_K hK 405 rfl rfl)) rfl (by decide) rfl (Nat.le_of_ble_eq_true rfl) (by decide) (fun u hu => ?_)
  refine z_eqs (σ' := (ap b σ [(405, 1, 35), (405, 1, 34), (405, 1, 33), (405, 1, 32), (405, 1, 31), (405, 1, 30), (405, 1, 29), (405, 1, 28), (405, 1, 27), (405, 1, 26), (405, 1, 25), (405, 1, 24), (405, 1, 23), (405, 1, 22), (405, 1, 21), (405, 1, 20), (405, 1, 19), (405, 1, 18), (405, 1, 17), (405, 1, 16), (405, 1, 15), (405, 1, 14), (405, 1, 13), (405, 1, 12), (405, 1, 11), (405, 1, 10), (405, 1, 9), (405, 1, 8), (405, 1, 7), (405, 1, 6), (405, 1, 5), (405, 1, 4), (405, 1, 3), (405, 1, 2), (405, 1, 1), (405, 0, 0)] [] [])) (hu.trans ap_ap) ?_
  show zx p l e _ s m _ below meth c g 3 0 0 _ _ 27 [(2, .int 34), (0, .ref (b + 405)), (1, .int 37)] _
  refine z_iinc (v := 35) (lv' := [(2, .int 35), (0, .ref (b + 405)), (1, .int 37)]) B dX9_tick_27 0 rfl (by decide) (by decide) rfl ?_
  refine z_goto (tgt := 18) B dX9_tick_30 (by decide) ?_
  refine z_iload_n B dX9_tick_18 rfl 0 rfl ?_
  refine z_iload_n B dX9_tick_19 rfl 2 rfl ?_
  refine z_icmp_ge (tgt := 33) B dX9_tick_20 (by decide) (fun h => absurd h (by decide)) (fun _ => ?_)
  refine z_aload_n B dX9_tick_23 rfl 1 rfl ?_
  refine z_cVv (As := []) (rest := []) B cw_X9_294 cx_10 dX9_tick_24 (ci_X9_ticks_1100 l (σ := (ap b σ [(405, 1, 35), (405, 1, 34), (405, 1, 33), (405, 1, 32), (405, 1, 31), (405, 1, 30), (405, 1, 29), (405, 1, 28), (405, 1, 27), (405, 1, 26), (405, 1, 25), (405, 1, 24), (405, 1, 23), (405, 1, 22), (405, 1, 21), (405, 1, 20), (405, 1, 19), (405, 1, 18), (405, 1, 17), (405, 1, 16), (405, 1, 15), (405, 1, 14), (405, 1, 13), (405, 1, 12), (405, 1, 11), (405, 1, 10), (405, 1, 9), (405, 1, 8), (405, 1, 7), (405, 1, 6), (405, 1, 5), (405, 1, 4), (405, 1, 3), (405, 1, 2), (405, 1, 1), (405, 0, 0)] [] [])) (b := b) (lyA hK) (rI_at 405 1 rfl) (rI_at 405 6 hI_405_6) (rI_at 405 16 hI_405_16)) (lKA (hk_K hK 405 rfl rfl)) rfl (by decide) rfl (Nat.le_of_ble_eq_true rfl) (by decide) (fun u hu => ?_)
  refine z_eqs (σ' := (ap b σ [(405, 1, 36), (405, 1, 35), (405, 1, 34), (405, 1, 33), (405, 1, 32), (405, 1, 31), (405, 1, 30), (405, 1, 29), (405, 1, 28), (405, 1, 27), (405, 1, 26), (405, 1, 25), (405, 1, 24), (405, 1, 23), (405, 1, 22), (405, 1, 21), (405, 1, 20), (405, 1, 19), (405, 1, 18), (405, 1, 17), (405, 1, 16), (405, 1, 15), (405, 1, 14), (405, 1, 13), (405, 1, 12), (405, 1, 11), (405, 1, 10), (405, 1, 9), (405, 1, 8), (405, 1, 7), (405, 1, 6), (405, 1, 5), (405, 1, 4), (405, 1, 3), (405, 1, 2), (405, 1, 1), (405, 0, 0)] [] [])) (hu.trans ap_ap) ?_
  show zx p l e _ s m _ below meth c g 3 0 0 _ _ 27 [(2, .int 35), (0, .ref (b + 405)), (1, .int 37)] _
  refine z_iinc (v := 36) (lv' := [(2, .int 36), (0, .ref (b + 405)), (1, .int 37)]) B dX9_tick_27 0 rfl (by decide) (by decide) rfl ?_
  refine z_goto (tgt := 18) B dX9_tick_30 (by decide) ?_
  refine z_iload_n B dX9_tick_18 rfl 0 rfl ?_
  refine z_iload_n B dX9_tick_19 rfl 2 rfl ?_
  refine z_icmp_ge (tgt := 33) B dX9_tick_20 (by decide) (fun h => absurd h (by decide)) (fun _ => ?_)
  refine z_aload_n B dX9_tick_23 rfl 1 rfl ?_
  refine z_cVv (As := []) (rest := []) B cw_X9_294 cx_10 dX9_tick_24 (ci_X9_ticks_1105 l (σ := (ap b σ [(405, 1, 36), (405, 1, 35), (405, 1, 34), (405, 1, 33), (405, 1, 32), (405, 1, 31), (405, 1, 30), (405, 1, 29), (405, 1, 28), (405, 1, 27), (405, 1, 26), (405, 1, 25), (405, 1, 24), (405, 1, 23), (405, 1, 22), (405, 1, 21), (405, 1, 20), (405, 1, 19), (405, 1, 18), (405, 1, 17), (405, 1, 16), (405, 1, 15), (405, 1, 14), (405, 1, 13), (405, 1, 12), (405, 1, 11), (405, 1, 10), (405, 1, 9), (405, 1, 8), (405, 1, 7), (405, 1, 6), (405, 1, 5), (405, 1, 4), (405, 1, 3), (405, 1, 2), (405, 1, 1), (405, 0, 0)] [] [])) (b := b) (lyA hK) (rI_at 405 1 rfl) (rI_at 405 6 hI_405_6) (rI_at 405 16 hI_405_16)) (lKA (hk_K hK 405 rfl rfl)) rfl (by decide) rfl (Nat.le_of_ble_eq_true rfl) (by decide) (fun u hu => ?_)
  refine z_eqs (σ' := (ap b σ [(405, 1, 37), (405, 1, 36), (405, 1, 35), (405, 1, 34), (405, 1, 33), (405, 1, 32), (405, 1, 31), (405, 1, 30), (405, 1, 29), (405, 1, 28), (405, 1, 27), (405, 1, 26), (405, 1, 25), (405, 1, 24), (405, 1, 23), (405, 1, 22), (405, 1, 21), (405, 1, 20), (405, 1, 19), (405, 1, 18), (405, 1, 17), (405, 1, 16), (405, 1, 15), (405, 1, 14), (405, 1, 13), (405, 1, 12), (405, 1, 11), (405, 1, 10), (405, 1, 9), (405, 1, 8), (405, 1, 7), (405, 1, 6), (405, 1, 5), (405, 1, 4), (405, 1, 3), (405, 1, 2), (405, 1, 1), (405, 0, 0)] [] [])) (hu.trans ap_ap) ?_
  show zx p l e _ s m _ below meth c g 3 0 0 _ _ 27 [(2, .int 36), (0, .ref (b + 405)), (1, .int 37)] _
  refine z_iinc (v := 37) (lv' := [(2, .int 37), (0, .ref (b + 405)), (1, .int 37)]) B dX9_tick_27 0 rfl (by decide) (by decide) rfl ?_
  refine z_goto (tgt := 18) B dX9_tick_30 (by decide) ?_
  refine z_iload_n B dX9_tick_18 rfl 0 rfl ?_
  refine z_iload_n B dX9_tick_19 rfl 2 rfl ?_
  refine z_icmp_ge (tgt := 33) B dX9_tick_20 (by decide) (fun _ => ?_) (fun h => absurd (by decide) h)
  refine z_aload_n B dX9_tick_33 rfl 1 rfl ?_
  refine gf_X9_197 (x := 37) B (lKA (hk_K hK 405 rfl rfl)) (rI_at 405 1 rfl) dX9_tick_34 ?_
  exact z_iret B hr (by decide) (by decide) dX9_tick_37 ⟨rfl, rfl⟩
set_option maxRecDepth 100000 in
set_option maxHeartbeats 4000000 in
theorem ci_X8_tick_1107 (l : Launch) {g : gx_T} {σ : sx_T} {b : Nat} (hK : lay b σ)   (hI_0_7 : sx_I σ (b + 0) 7 = 0) (hI_0_8 : sx_I σ (b + 0) 8 = 0) (hI_4_2 : sx_I σ (b + 4) 2 = 0) (hR_0_3 : sx_R σ (b + 0) 3 = (some (b + 4))) : Met l yX8_tick (.code yX8_tick cX8_tick 3 (some .int) :: lw_g) { frames := 2, cells := 0, slots := 0, locals := 42 } (va_Pc [.ref (b + 0), .int 38] (zx_w g σ)) (va_Qi (fun r u => r = 38 ∧ u = (ap b σ [(0, 8, 38), (0, 8, 37), (0, 8, 36), (0, 8, 35), (0, 8, 34), (0, 8, 33), (0, 8, 32), (0, 8, 31), (0, 8, 30), (0, 8, 29), (0, 8, 28), (0, 8, 27), (0, 8, 26), (0, 8, 25), (0, 8, 24), (0, 8, 23), (0, 8, 22), (0, 8, 21), (0, 8, 20), (0, 8, 19), (0, 8, 18), (0, 8, 17), (0, 8, 16), (0, 8, 15), (0, 8, 14), (0, 8, 13), (0, 8, 12), (0, 8, 11), (0, 8, 10), (0, 8, 9), (0, 8, 8), (0, 8, 7), (0, 8, 6), (0, 8, 5), (0, 8, 4), (0, 8, 3), (0, 8, 2), (0, 8, 1)] [] [])) (zx_w g) (gx_Q g)) 0 0 (gx_Q g) := by
  refine z_met (by decide) (Nat.le_of_ble_eq_true rfl) (fun p e s m below meth c B hr hin => ?_)
  refine z_eqs (σ' := (ap b σ [] [] [])) rfl ?_
  show zx p l e _ s m _ below meth c g 3 0 0 _ _ 0 [(0, .ref (b + 0)), (1, .int 38)] []
  refine z_iload_n B dX8_tick_0 rfl 1 rfl ?_
  refine z_iconst (v := 1) B dX8_tick_1 (by decide) ?_
  refine z_icmp_lt (tgt := 11) B dX8_tick_2 (by decide) (fun h => absurd h (by decide)) (fun _ => ?_)
  refine z_iload_n B dX8_tick_5 rfl 1 rfl ?_
  refine z_bipush (v := 50) B dX8_tick_6 (by decide) ?_
  refine z_icmp_le (tgt := 21) B dX8_tick_8 (by decide) (fun _ => ?_) (fun h => absurd (by decide) h)
  refine z_iconst (v := 0) B dX8_tick_21 (by decide) ?_
  refine z_istore_n (lv' := [(2, .int 0), (0, .ref (b + 0)), (1, .int 38)]) B dX8_tick_22 rfl (by decide) rfl ?_
  refine z_iload_n B dX8_tick_23 rfl 0 rfl ?_
  refine z_iload_n B dX8_tick_24 rfl 2 rfl ?_
  refine z_icmp_ge (tgt := 52) B dX8_tick_25 (by decide) (fun h => absurd h (by decide)) (fun _ => ?_)
  refine z_aload_n B dX8_tick_28 rfl 1 rfl ?_
  refine z_dup B dX8_tick_29 rfl ?_
  refine gf_X8_206 (x := 0) B (lKA (hk_K hK 0 rfl rfl)) (rI_at 0 8 hI_0_8) dX8_tick_30 ?_
  refine z_iconst (v := 1) B dX8_tick_33 (by decide) ?_
  refine z_iadd B dX8_tick_34 ?_
  refine z_seti (y := 1) (by decide) ?_
  refine pf_X8_206 (x := 1) (σ' := (ap b σ [(0, 8, 1)] [] [])) B (lKA (hk_K hK 0 rfl rfl)) wI_ap dX8_tick_35 ?_
  refine z_aload_n B dX8_tick_38 rfl 1 rfl ?_
  refine z_cVv (As := []) (rest := []) B cw_X8_240 cx_9 dX8_tick_39 (ci_X8_passTasks_920 l (σ := (ap b σ [(0, 8, 1)] [] [])) (b := b) (lyA hK) (rI_at 4 2 hI_4_2) (rR_at 0 3 hR_0_3)) (lKA (hk_K hK 0 rfl rfl)) rfl (by decide) rfl (Nat.le_of_ble_eq_true rfl) (by decide) (fun u hu => ?_)
  refine z_eqs (σ' := (ap b σ [(0, 8, 1)] [] [])) hu ?_
  show zx p l e _ s m _ below meth c g 3 0 0 _ _ 42 [(2, .int 0), (0, .ref (b + 0)), (1, .int 38)] _
  refine z_aload_n B dX8_tick_42 rfl 1 rfl ?_
  refine z_cVv (As := []) (rest := []) B cw_X8_243 cx_9 dX8_tick_43 (ci_X8_passTimers_921 l (σ := (ap b σ [(0, 8, 1)] [] [])) (b := b) (lyA hK) (rI_at 0 7 hI_0_7)) (lKA (hk_K hK 0 rfl rfl)) rfl (by decide) rfl (Nat.le_of_ble_eq_true rfl) (by decide) (fun u hu => ?_)
  refine z_eqs (σ' := (ap b σ [(0, 8, 1)] [] [])) hu ?_
  show zx p l e _ s m _ below meth c g 3 0 0 _ _ 46 [(2, .int 0), (0, .ref (b + 0)), (1, .int 38)] _
  refine z_iinc (v := 1) (lv' := [(2, .int 1), (0, .ref (b + 0)), (1, .int 38)]) B dX8_tick_46 0 rfl (by decide) (by decide) rfl ?_
  refine z_goto (tgt := 23) B dX8_tick_49 (by decide) ?_
  refine z_iload_n B dX8_tick_23 rfl 0 rfl ?_
  refine z_iload_n B dX8_tick_24 rfl 2 rfl ?_
  refine z_icmp_ge (tgt := 52) B dX8_tick_25 (by decide) (fun h => absurd h (by decide)) (fun _ => ?_)
  refine z_aload_n B dX8_tick_28 rfl 1 rfl ?_
  refine z_dup B dX8_tick_29 rfl ?_
  refine gf_X8_206 (x := 1) B (lKA (hk_K hK 0 rfl rfl)) (rI_at 0 8 rfl) dX8_tick_30 ?_
  refine z_iconst (v := 1) B dX8_tick_33 (by decide) ?_
  refine z_iadd B dX8_tick_34 ?_
  refine z_seti (y := 2) (by decide) ?_
  refine pf_X8_206 (x := 2) (σ' := (ap b σ [(0, 8, 2), (0, 8, 1)] [] [])) B (lKA (hk_K hK 0 rfl rfl)) wI_ap dX8_tick_35 ?_
  refine z_aload_n B dX8_tick_38 rfl 1 rfl ?_
  refine z_cVv (As := []) (rest := []) B cw_X8_240 cx_9 dX8_tick_39 (ci_X8_passTasks_920 l (σ := (ap b σ [(0, 8, 2), (0, 8, 1)] [] [])) (b := b) (lyA hK) (rI_at 4 2 hI_4_2) (rR_at 0 3 hR_0_3)) (lKA (hk_K hK 0 rfl rfl)) rfl (by decide) rfl (Nat.le_of_ble_eq_true rfl) (by decide) (fun u hu => ?_)
  refine z_eqs (σ' := (ap b σ [(0, 8, 2), (0, 8, 1)] [] [])) hu ?_
  show zx p l e _ s m _ below meth c g 3 0 0 _ _ 42 [(2, .int 1), (0, .ref (b + 0)), (1, .int 38)] _
  refine z_aload_n B dX8_tick_42 rfl 1 rfl ?_
  refine z_cVv (As := []) (rest := []) B cw_X8_243 cx_9 dX8_tick_43 (ci_X8_passTimers_921 l (σ := (ap b σ [(0, 8, 2), (0, 8, 1)] [] [])) (b := b) (lyA hK) (rI_at 0 7 hI_0_7)) (lKA (hk_K hK 0 rfl rfl)) rfl (by decide) rfl (Nat.le_of_ble_eq_true rfl) (by decide) (fun u hu => ?_)
  refine z_eqs (σ' := (ap b σ [(0, 8, 2), (0, 8, 1)] [] [])) hu ?_
  show zx p l e _ s m _ below meth c g 3 0 0 _ _ 46 [(2, .int 1), (0, .ref (b + 0)), (1, .int 38)] _
  refine z_iinc (v := 2) (lv' := [(2, .int 2), (0, .ref (b + 0)), (1, .int 38)]) B dX8_tick_46 0 rfl (by decide) (by decide) rfl ?_
  refine z_goto (tgt := 23) B dX8_tick_49 (by decide) ?_
  refine z_iload_n B dX8_tick_23 rfl 0 rfl ?_
  refine z_iload_n B dX8_tick_24 rfl 2 rfl ?_
  refine z_icmp_ge (tgt := 52) B dX8_tick_25 (by decide) (fun h => absurd h (by decide)) (fun _ => ?_)
  refine z_aload_n B dX8_tick_28 rfl 1 rfl ?_
  refine z_dup B dX8_tick_29 rfl ?_
  refine gf_X8_206 (x := 2) B (lKA (hk_K hK 0 rfl rfl)) (rI_at 0 8 rfl) dX8_tick_30 ?_
  refine z_iconst (v := 1) B dX8_tick_33 (by decide) ?_
  refine z_iadd B dX8_tick_34 ?_
  refine z_seti (y := 3) (by decide) ?_
  refine pf_X8_206 (x := 3) (σ' := (ap b σ [(0, 8, 3), (0, 8, 2), (0, 8, 1)] [] [])) B (lKA (hk_K hK 0 rfl rfl)) wI_ap dX8_tick_35 ?_
  refine z_aload_n B dX8_tick_38 rfl 1 rfl ?_
  refine z_cVv (As := []) (rest := []) B cw_X8_240 cx_9 dX8_tick_39 (ci_X8_passTasks_920 l (σ := (ap b σ [(0, 8, 3), (0, 8, 2), (0, 8, 1)] [] [])) (b := b) (lyA hK) (rI_at 4 2 hI_4_2) (rR_at 0 3 hR_0_3)) (lKA (hk_K hK 0 rfl rfl)) rfl (by decide) rfl (Nat.le_of_ble_eq_true rfl) (by decide) (fun u hu => ?_)
  refine z_eqs (σ' := (ap b σ [(0, 8, 3), (0, 8, 2), (0, 8, 1)] [] [])) hu ?_
  show zx p l e _ s m _ below meth c g 3 0 0 _ _ 42 [(2, .int 2), (0, .ref (b + 0)), (1, .int 38)] _
  refine z_aload_n B dX8_tick_42 rfl 1 rfl ?_
  refine z_cVv (As := []) (rest := []) B cw_X8_243 cx_9 dX8_tick_43 (ci_X8_passTimers_921 l (σ := (ap b σ [(0, 8, 3), (0, 8, 2), (0, 8, 1)] [] [])) (b := b) (lyA hK) (rI_at 0 7 hI_0_7)) (lKA (hk_K hK 0 rfl rfl)) rfl (by decide) rfl (Nat.le_of_ble_eq_true rfl) (by decide) (fun u hu => ?_)
  refine z_eqs (σ' := (ap b σ [(0, 8, 3), (0, 8, 2), (0, 8, 1)] [] [])) hu ?_
  show zx p l e _ s m _ below meth c g 3 0 0 _ _ 46 [(2, .int 2), (0, .ref (b + 0)), (1, .int 38)] _
  refine z_iinc (v := 3) (lv' := [(2, .int 3), (0, .ref (b + 0)), (1, .int 38)]) B dX8_tick_46 0 rfl (by decide) (by decide) rfl ?_
  refine z_goto (tgt := 23) B dX8_tick_49 (by decide) ?_
  refine z_iload_n B dX8_tick_23 rfl 0 rfl ?_
  refine z_iload_n B dX8_tick_24 rfl 2 rfl ?_
  refine z_icmp_ge (tgt := 52) B dX8_tick_25 (by decide) (fun h => absurd h (by decide)) (fun _ => ?_)
  refine z_aload_n B dX8_tick_28 rfl 1 rfl ?_
  refine z_dup B dX8_tick_29 rfl ?_
  refine gf_X8_206 (x := 3) B (lKA (hk_K hK 0 rfl rfl)) (rI_at 0 8 rfl) dX8_tick_30 ?_
  refine z_iconst (v := 1) B dX8_tick_33 (by decide) ?_
  refine z_iadd B dX8_tick_34 ?_
  refine z_seti (y := 4) (by decide) ?_
  refine pf_X8_206 (x := 4) (σ' := (ap b σ [(0, 8, 4), (0, 8, 3), (0, 8, 2), (0, 8, 1)] [] [])) B (lKA (hk_K hK 0 rfl rfl)) wI_ap dX8_tick_35 ?_
  refine z_aload_n B dX8_tick_38 rfl 1 rfl ?_
  refine z_cVv (As := []) (rest := []) B cw_X8_240 cx_9 dX8_tick_39 (ci_X8_passTasks_920 l (σ := (ap b σ [(0, 8, 4), (0, 8, 3), (0, 8, 2), (0, 8, 1)] [] [])) (b := b) (lyA hK) (rI_at 4 2 hI_4_2) (rR_at 0 3 hR_0_3)) (lKA (hk_K hK 0 rfl rfl)) rfl (by decide) rfl (Nat.le_of_ble_eq_true rfl) (by decide) (fun u hu => ?_)
  refine z_eqs (σ' := (ap b σ [(0, 8, 4), (0, 8, 3), (0, 8, 2), (0, 8, 1)] [] [])) hu ?_
  show zx p l e _ s m _ below meth c g 3 0 0 _ _ 42 [(2, .int 3), (0, .ref (b + 0)), (1, .int 38)] _
  refine z_aload_n B dX8_tick_42 rfl 1 rfl ?_
  refine z_cVv (As := []) (rest := []) B cw_X8_243 cx_9 dX8_tick_43 (ci_X8_passTimers_921 l (σ := (ap b σ [(0, 8, 4), (0, 8, 3), (0, 8, 2), (0, 8, 1)] [] [])) (b := b) (lyA hK) (rI_at 0 7 hI_0_7)) (lKA (hk_K hK 0 rfl rfl)) rfl (by decide) rfl (Nat.le_of_ble_eq_true rfl) (by decide) (fun u hu => ?_)
  refine z_eqs (σ' := (ap b σ [(0, 8, 4), (0, 8, 3), (0, 8, 2), (0, 8, 1)] [] [])) hu ?_
  show zx p l e _ s m _ below meth c g 3 0 0 _ _ 46 [(2, .int 3), (0, .ref (b + 0)), (1, .int 38)] _
  refine z_iinc (v := 4) (lv' := [(2, .int 4), (0, .ref (b + 0)), (1, .int 38)]) B dX8_tick_46 0 rfl (by decide) (by decide) rfl ?_
  refine z_goto (tgt := 23) B dX8_tick_49 (by decide) ?_
  refine z_iload_n B dX8_tick_23 rfl 0 rfl ?_
  refine z_iload_n B dX8_tick_24 rfl 2 rfl ?_
  refine z_icmp_ge (tgt := 52) B dX8_tick_25 (by decide) (fun h => absurd h (by decide)) (fun _ => ?_)
  refine z_aload_n B dX8_tick_28 rfl 1 rfl ?_
  refine z_dup B dX8_tick_29 rfl ?_
  refine gf_X8_206 (x := 4) B (lKA (hk_K hK 0 rfl rfl)) (rI_at 0 8 rfl) dX8_tick_30 ?_
  refine z_iconst (v := 1) B dX8_tick_33 (by decide) ?_
  refine z_iadd B dX8_tick_34 ?_
  refine z_seti (y := 5) (by decide) ?_
  refine pf_X8_206 (x := 5) (σ' := (ap b σ [(0, 8, 5), (0, 8, 4), (0, 8, 3), (0, 8, 2), (0, 8, 1)] [] [])) B (lKA (hk_K hK 0 rfl rfl)) wI_ap dX8_tick_35 ?_
  refine z_aload_n B dX8_tick_38 rfl 1 rfl ?_
  refine z_cVv (As := []) (rest := []) B cw_X8_240 cx_9 dX8_tick_39 (ci_X8_passTasks_920 l (σ := (ap b σ [(0, 8, 5), (0, 8, 4), (0, 8, 3), (0, 8, 2), (0, 8, 1)] [] [])) (b := b) (lyA hK) (rI_at 4 2 hI_4_2) (rR_at 0 3 hR_0_3)) (lKA (hk_K hK 0 rfl rfl)) rfl (by decide) rfl (Nat.le_of_ble_eq_true rfl) (by decide) (fun u hu => ?_)
  refine z_eqs (σ' := (ap b σ [(0, 8, 5), (0, 8, 4), (0, 8, 3), (0, 8, 2), (0, 8, 1)] [] [])) hu ?_
  show zx p l e _ s m _ below meth c g 3 0 0 _ _ 42 [(2, .int 4), (0, .ref (b + 0)), (1, .int 38)] _
  refine z_aload_n B dX8_tick_42 rfl 1 rfl ?_
  refine z_cVv (As := []) (rest := []) B cw_X8_243 cx_9 dX8_tick_43 (ci_X8_passTimers_921 l (σ := (ap b σ [(0, 8, 5), (0, 8, 4), (0, 8, 3), (0, 8, 2), (0, 8, 1)] [] [])) (b := b) (lyA hK) (rI_at 0 7 hI_0_7)) (lKA (hk_K hK 0 rfl rfl)) rfl (by decide) rfl (Nat.le_of_ble_eq_true rfl) (by decide) (fun u hu => ?_)
  refine z_eqs (σ' := (ap b σ [(0, 8, 5), (0, 8, 4), (0, 8, 3), (0, 8, 2), (0, 8, 1)] [] [])) hu ?_
  show zx p l e _ s m _ below meth c g 3 0 0 _ _ 46 [(2, .int 4), (0, .ref (b + 0)), (1, .int 38)] _
  refine z_iinc (v := 5) (lv' := [(2, .int 5), (0, .ref (b + 0)), (1, .int 38)]) B dX8_tick_46 0 rfl (by decide) (by decide) rfl ?_
  refine z_goto (tgt := 23) B dX8_tick_49 (by decide) ?_
  refine z_iload_n B dX8_tick_23 rfl 0 rfl ?_
  refine z_iload_n B dX8_tick_24 rfl 2 rfl ?_
  refine z_icmp_ge (tgt := 52) B dX8_tick_25 (by decide) (fun h => absurd h (by decide)) (fun _ => ?_)
  refine z_aload_n B dX8_tick_28 rfl 1 rfl ?_
  refine z_dup B dX8_tick_29 rfl ?_
  refine gf_X8_206 (x := 5) B (lKA (hk_K hK 0 rfl rfl)) (rI_at 0 8 rfl) dX8_tick_30 ?_
  refine z_iconst (v := 1) B dX8_tick_33 (by decide) ?_
  refine z_iadd B dX8_tick_34 ?_
  refine z_seti (y := 6) (by decide) ?_
  refine pf_X8_206 (x := 6) (σ' := (ap b σ [(0, 8, 6), (0, 8, 5), (0, 8, 4), (0, 8, 3), (0, 8, 2), (0, 8, 1)] [] [])) B (lKA (hk_K hK 0 rfl rfl)) wI_ap dX8_tick_35 ?_
  refine z_aload_n B dX8_tick_38 rfl 1 rfl ?_
  refine z_cVv (As := []) (rest := []) B cw_X8_240 cx_9 dX8_tick_39 (ci_X8_passTasks_920 l (σ := (ap b σ [(0, 8, 6), (0, 8, 5), (0, 8, 4), (0, 8, 3), (0, 8, 2), (0, 8, 1)] [] [])) (b := b) (lyA hK) (rI_at 4 2 hI_4_2) (rR_at 0 3 hR_0_3)) (lKA (hk_K hK 0 rfl rfl)) rfl (by decide) rfl (Nat.le_of_ble_eq_true rfl) (by decide) (fun u hu => ?_)
  refine z_eqs (σ' := (ap b σ [(0, 8, 6), (0, 8, 5), (0, 8, 4), (0, 8, 3), (0, 8, 2), (0, 8, 1)] [] [])) hu ?_
  show zx p l e _ s m _ below meth c g 3 0 0 _ _ 42 [(2, .int 5), (0, .ref (b + 0)), (1, .int 38)] _
  refine z_aload_n B dX8_tick_42 rfl 1 rfl ?_
  refine z_cVv (As := []) (rest := []) B cw_X8_243 cx_9 dX8_tick_43 (ci_X8_passTimers_921 l (σ := (ap b σ [(0, 8, 6), (0, 8, 5), (0, 8, 4), (0, 8, 3), (0, 8, 2), (0, 8, 1)] [] [])) (b := b) (lyA hK) (rI_at 0 7 hI_0_7)) (lKA (hk_K hK 0 rfl rfl)) rfl (by decide) rfl (Nat.le_of_ble_eq_true rfl) (by decide) (fun u hu => ?_)
  refine z_eqs (σ' := (ap b σ [(0, 8, 6), (0, 8, 5), (0, 8, 4), (0, 8, 3), (0, 8, 2), (0, 8, 1)] [] [])) hu ?_
  show zx p l e _ s m _ below meth c g 3 0 0 _ _ 46 [(2, .int 5), (0, .ref (b + 0)), (1, .int 38)] _
  refine z_iinc (v := 6) (lv' := [(2, .int 6), (0, .ref (b + 0)), (1, .int 38)]) B dX8_tick_46 0 rfl (by decide) (by decide) rfl ?_
  refine z_goto (tgt := 23) B dX8_tick_49 (by decide) ?_
  refine z_iload_n B dX8_tick_23 rfl 0 rfl ?_
  refine z_iload_n B dX8_tick_24 rfl 2 rfl ?_
  refine z_icmp_ge (tgt := 52) B dX8_tick_25 (by decide) (fun h => absurd h (by decide)) (fun _ => ?_)
  refine z_aload_n B dX8_tick_28 rfl 1 rfl ?_
  refine z_dup B dX8_tick_29 rfl ?_
  refine gf_X8_206 (x := 6) B (lKA (hk_K hK 0 rfl rfl)) (rI_at 0 8 rfl) dX8_tick_30 ?_
  refine z_iconst (v := 1) B dX8_tick_33 (by decide) ?_
  refine z_iadd B dX8_tick_34 ?_
  refine z_seti (y := 7) (by decide) ?_
  refine pf_X8_206 (x := 7) (σ' := (ap b σ [(0, 8, 7), (0, 8, 6), (0, 8, 5), (0, 8, 4), (0, 8, 3), (0, 8, 2), (0, 8, 1)] [] [])) B (lKA (hk_K hK 0 rfl rfl)) wI_ap dX8_tick_35 ?_
  refine z_aload_n B dX8_tick_38 rfl 1 rfl ?_
  refine z_cVv (As := []) (rest := []) B cw_X8_240 cx_9 dX8_tick_39 (ci_X8_passTasks_920 l (σ := (ap b σ [(0, 8, 7), (0, 8, 6), (0, 8, 5), (0, 8, 4), (0, 8, 3), (0, 8, 2), (0, 8, 1)] [] [])) (b := b) (lyA hK) (rI_at 4 2 hI_4_2) (rR_at 0 3 hR_0_3)) (lKA (hk_K hK 0 rfl rfl)) rfl (by decide) rfl (Nat.le_of_ble_eq_true rfl) (by decide) (fun u hu => ?_)
  refine z_eqs (σ' := (ap b σ [(0, 8, 7), (0, 8, 6), (0, 8, 5), (0, 8, 4), (0, 8, 3), (0, 8, 2), (0, 8, 1)] [] [])) hu ?_
  show zx p l e _ s m _ below meth c g 3 0 0 _ _ 42 [(2, .int 6), (0, .ref (b + 0)), (1, .int 38)] _
  refine z_aload_n B dX8_tick_42 rfl 1 rfl ?_
  refine z_cVv (As := []) (rest := []) B cw_X8_243 cx_9 dX8_tick_43 (ci_X8_passTimers_921 l (σ := (ap b σ [(0, 8, 7), (0, 8, 6), (0, 8, 5), (0, 8, 4), (0, 8, 3), (0, 8, 2), (0, 8, 1)] [] [])) (b := b) (lyA hK) (rI_at 0 7 hI_0_7)) (lKA (hk_K hK 0 rfl rfl)) rfl (by decide) rfl (Nat.le_of_ble_eq_true rfl) (by decide) (fun u hu => ?_)
  refine z_eqs (σ' := (ap b σ [(0, 8, 7), (0, 8, 6), (0, 8, 5), (0, 8, 4), (0, 8, 3), (0, 8, 2), (0, 8, 1)] [] [])) hu ?_
  show zx p l e _ s m _ below meth c g 3 0 0 _ _ 46 [(2, .int 6), (0, .ref (b + 0)), (1, .int 38)] _
  refine z_iinc (v := 7) (lv' := [(2, .int 7), (0, .ref (b + 0)), (1, .int 38)]) B dX8_tick_46 0 rfl (by decide) (by decide) rfl ?_
  refine z_goto (tgt := 23) B dX8_tick_49 (by decide) ?_
  refine z_iload_n B dX8_tick_23 rfl 0 rfl ?_
  refine z_iload_n B dX8_tick_24 rfl 2 rfl ?_
  refine z_icmp_ge (tgt := 52) B dX8_tick_25 (by decide) (fun h => absurd h (by decide)) (fun _ => ?_)
  refine z_aload_n B dX8_tick_28 rfl 1 rfl ?_
  refine z_dup B dX8_tick_29 rfl ?_
  refine gf_X8_206 (x := 7) B (lKA (hk_K hK 0 rfl rfl)) (rI_at 0 8 rfl) dX8_tick_30 ?_
  refine z_iconst (v := 1) B dX8_tick_33 (by decide) ?_
  refine z_iadd B dX8_tick_34 ?_
  refine z_seti (y := 8) (by decide) ?_
  refine pf_X8_206 (x := 8) (σ' := (ap b σ [(0, 8, 8), (0, 8, 7), (0, 8, 6), (0, 8, 5), (0, 8, 4), (0, 8, 3), (0, 8, 2), (0, 8, 1)] [] [])) B (lKA (hk_K hK 0 rfl rfl)) wI_ap dX8_tick_35 ?_
  refine z_aload_n B dX8_tick_38 rfl 1 rfl ?_
  refine z_cVv (As := []) (rest := []) B cw_X8_240 cx_9 dX8_tick_39 (ci_X8_passTasks_920 l (σ := (ap b σ [(0, 8, 8), (0, 8, 7), (0, 8, 6), (0, 8, 5), (0, 8, 4), (0, 8, 3), (0, 8, 2), (0, 8, 1)] [] [])) (b := b) (lyA hK) (rI_at 4 2 hI_4_2) (rR_at 0 3 hR_0_3)) (lKA (hk_K hK 0 rfl rfl)) rfl (by decide) rfl (Nat.le_of_ble_eq_true rfl) (by decide) (fun u hu => ?_)
  refine z_eqs (σ' := (ap b σ [(0, 8, 8), (0, 8, 7), (0, 8, 6), (0, 8, 5), (0, 8, 4), (0, 8, 3), (0, 8, 2), (0, 8, 1)] [] [])) hu ?_
  show zx p l e _ s m _ below meth c g 3 0 0 _ _ 42 [(2, .int 7), (0, .ref (b + 0)), (1, .int 38)] _
  refine z_aload_n B dX8_tick_42 rfl 1 rfl ?_
  refine z_cVv (As := []) (rest := []) B cw_X8_243 cx_9 dX8_tick_43 (ci_X8_passTimers_921 l (σ := (ap b σ [(0, 8, 8), (0, 8, 7), (0, 8, 6), (0, 8, 5), (0, 8, 4), (0, 8, 3), (0, 8, 2), (0, 8, 1)] [] [])) (b := b) (lyA hK) (rI_at 0 7 hI_0_7)) (lKA (hk_K hK 0 rfl rfl)) rfl (by decide) rfl (Nat.le_of_ble_eq_true rfl) (by decide) (fun u hu => ?_)
  refine z_eqs (σ' := (ap b σ [(0, 8, 8), (0, 8, 7), (0, 8, 6), (0, 8, 5), (0, 8, 4), (0, 8, 3), (0, 8, 2), (0, 8, 1)] [] [])) hu ?_
  show zx p l e _ s m _ below meth c g 3 0 0 _ _ 46 [(2, .int 7), (0, .ref (b + 0)), (1, .int 38)] _
  refine z_iinc (v := 8) (lv' := [(2, .int 8), (0, .ref (b + 0)), (1, .int 38)]) B dX8_tick_46 0 rfl (by decide) (by decide) rfl ?_
  refine z_goto (tgt := 23) B dX8_tick_49 (by decide) ?_
  refine z_iload_n B dX8_tick_23 rfl 0 rfl ?_
  refine z_iload_n B dX8_tick_24 rfl 2 rfl ?_
  refine z_icmp_ge (tgt := 52) B dX8_tick_25 (by decide) (fun h => absurd h (by decide)) (fun _ => ?_)
  refine z_aload_n B dX8_tick_28 rfl 1 rfl ?_
  refine z_dup B dX8_tick_29 rfl ?_
  refine gf_X8_206 (x := 8) B (lKA (hk_K hK 0 rfl rfl)) (rI_at 0 8 rfl) dX8_tick_30 ?_
  refine z_iconst (v := 1) B dX8_tick_33 (by decide) ?_
  refine z_iadd B dX8_tick_34 ?_
  refine z_seti (y := 9) (by decide) ?_
  refine pf_X8_206 (x := 9) (σ' := (ap b σ [(0, 8, 9), (0, 8, 8), (0, 8, 7), (0, 8, 6), (0, 8, 5), (0, 8, 4), (0, 8, 3), (0, 8, 2), (0, 8, 1)] [] [])) B (lKA (hk_K hK 0 rfl rfl)) wI_ap dX8_tick_35 ?_
  refine z_aload_n B dX8_tick_38 rfl 1 rfl ?_
  refine z_cVv (As := []) (rest := []) B cw_X8_240 cx_9 dX8_tick_39 (ci_X8_passTasks_920 l (σ := (ap b σ [(0, 8, 9), (0, 8, 8), (0, 8, 7), (0, 8, 6), (0, 8, 5), (0, 8, 4), (0, 8, 3), (0, 8, 2), (0, 8, 1)] [] [])) (b := b) (lyA hK) (rI_at 4 2 hI_4_2) (rR_at 0 3 hR_0_3)) (lKA (hk_K hK 0 rfl rfl)) rfl (by decide) rfl (Nat.le_of_ble_eq_true rfl) (by decide) (fun u hu => ?_)
  refine z_eqs (σ' := (ap b σ [(0, 8, 9), (0, 8, 8), (0, 8, 7), (0, 8, 6), (0, 8, 5), (0, 8, 4), (0, 8, 3), (0, 8, 2), (0, 8, 1)] [] [])) hu ?_
  show zx p l e _ s m _ below meth c g 3 0 0 _ _ 42 [(2, .int 8), (0, .ref (b + 0)), (1, .int 38)] _
  refine z_aload_n B dX8_tick_42 rfl 1 rfl ?_
  refine z_cVv (As := []) (rest := []) B cw_X8_243 cx_9 dX8_tick_43 (ci_X8_passTimers_921 l (σ := (ap b σ [(0, 8, 9), (0, 8, 8), (0, 8, 7), (0, 8, 6), (0, 8, 5), (0, 8, 4), (0, 8, 3), (0, 8, 2), (0, 8, 1)] [] [])) (b := b) (lyA hK) (rI_at 0 7 hI_0_7)) (lKA (hk_K hK 0 rfl rfl)) rfl (by decide) rfl (Nat.le_of_ble_eq_true rfl) (by decide) (fun u hu => ?_)
  refine z_eqs (σ' := (ap b σ [(0, 8, 9), (0, 8, 8), (0, 8, 7), (0, 8, 6), (0, 8, 5), (0, 8, 4), (0, 8, 3), (0, 8, 2), (0, 8, 1)] [] [])) hu ?_
  show zx p l e _ s m _ below meth c g 3 0 0 _ _ 46 [(2, .int 8), (0, .ref (b + 0)), (1, .int 38)] _
  refine z_iinc (v := 9) (lv' := [(2, .int 9), (0, .ref (b + 0)), (1, .int 38)]) B dX8_tick_46 0 rfl (by decide) (by decide) rfl ?_
  refine z_goto (tgt := 23) B dX8_tick_49 (by decide) ?_
  refine z_iload_n B dX8_tick_23 rfl 0 rfl ?_
  refine z_iload_n B dX8_tick_24 rfl 2 rfl ?_
  refine z_icmp_ge (tgt := 52) B dX8_tick_25 (by decide) (fun h => absurd h (by decide)) (fun _ => ?_)
  refine z_aload_n B dX8_tick_28 rfl 1 rfl ?_
  refine z_dup B dX8_tick_29 rfl ?_
  refine gf_X8_206 (x := 9) B (lKA (hk_K hK 0 rfl rfl)) (rI_at 0 8 rfl) dX8_tick_30 ?_
  refine z_iconst (v := 1) B dX8_tick_33 (by decide) ?_
  refine z_iadd B dX8_tick_34 ?_
  refine z_seti (y := 10) (by decide) ?_
  refine pf_X8_206 (x := 10) (σ' := (ap b σ [(0, 8, 10), (0, 8, 9), (0, 8, 8), (0, 8, 7), (0, 8, 6), (0, 8, 5), (0, 8, 4), (0, 8, 3), (0, 8, 2), (0, 8, 1)] [] [])) B (lKA (hk_K hK 0 rfl rfl)) wI_ap dX8_tick_35 ?_
  refine z_aload_n B dX8_tick_38 rfl 1 rfl ?_
  refine z_cVv (As := []) (rest := []) B cw_X8_240 cx_9 dX8_tick_39 (ci_X8_passTasks_920 l (σ := (ap b σ [(0, 8, 10), (0, 8, 9), (0, 8, 8), (0, 8, 7), (0, 8, 6), (0, 8, 5), (0, 8, 4), (0, 8, 3), (0, 8, 2), (0, 8, 1)] [] [])) (b := b) (lyA hK) (rI_at 4 2 hI_4_2) (rR_at 0 3 hR_0_3)) (lKA (hk_K hK 0 rfl rfl)) rfl (by decide) rfl (Nat.le_of_ble_eq_true rfl) (by decide) (fun u hu => ?_)
  refine z_eqs (σ' := (ap b σ [(0, 8, 10), (0, 8, 9), (0, 8, 8), (0, 8, 7), (0, 8, 6), (0, 8, 5), (0, 8, 4), (0, 8, 3), (0, 8, 2), (0, 8, 1)] [] [])) hu ?_
  show zx p l e _ s m _ below meth c g 3 0 0 _ _ 42 [(2, .int 9), (0, .ref (b + 0)), (1, .int 38)] _
  refine z_aload_n B dX8_tick_42 rfl 1 rfl ?_
  refine z_cVv (As := []) (rest := []) B cw_X8_243 cx_9 dX8_tick_43 (ci_X8_passTimers_921 l (σ := (ap b σ [(0, 8, 10), (0, 8, 9), (0, 8, 8), (0, 8, 7), (0, 8, 6), (0, 8, 5), (0, 8, 4), (0, 8, 3), (0, 8, 2), (0, 8, 1)] [] [])) (b := b) (lyA hK) (rI_at 0 7 hI_0_7)) (lKA (hk_K hK 0 rfl rfl)) rfl (by decide) rfl (Nat.le_of_ble_eq_true rfl) (by decide) (fun u hu => ?_)
  refine z_eqs (σ' := (ap b σ [(0, 8, 10), (0, 8, 9), (0, 8, 8), (0, 8, 7), (0, 8, 6), (0, 8, 5), (0, 8, 4), (0, 8, 3), (0, 8, 2), (0, 8, 1)] [] [])) hu ?_
  show zx p l e _ s m _ below meth c g 3 0 0 _ _ 46 [(2, .int 9), (0, .ref (b + 0)), (1, .int 38)] _
  refine z_iinc (v := 10) (lv' := [(2, .int 10), (0, .ref (b + 0)), (1, .int 38)]) B dX8_tick_46 0 rfl (by decide) (by decide) rfl ?_
  refine z_goto (tgt := 23) B dX8_tick_49 (by decide) ?_
  refine z_iload_n B dX8_tick_23 rfl 0 rfl ?_
  refine z_iload_n B dX8_tick_24 rfl 2 rfl ?_
  refine z_icmp_ge (tgt := 52) B dX8_tick_25 (by decide) (fun h => absurd h (by decide)) (fun _ => ?_)
  refine z_aload_n B dX8_tick_28 rfl 1 rfl ?_
  refine z_dup B dX8_tick_29 rfl ?_
  refine gf_X8_206 (x := 10) B (lKA (hk_K hK 0 rfl rfl)) (rI_at 0 8 rfl) dX8_tick_30 ?_
  refine z_iconst (v := 1) B dX8_tick_33 (by decide) ?_
  refine z_iadd B dX8_tick_34 ?_
  refine z_seti (y := 11) (by decide) ?_
  refine pf_X8_206 (x := 11) (σ' := (ap b σ [(0, 8, 11), (0, 8, 10), (0, 8, 9), (0, 8, 8), (0, 8, 7), (0, 8, 6), (0, 8, 5), (0, 8, 4), (0, 8, 3), (0, 8, 2), (0, 8, 1)] [] [])) B (lKA (hk_K hK 0 rfl rfl)) wI_ap dX8_tick_35 ?_
  refine z_aload_n B dX8_tick_38 rfl 1 rfl ?_
  refine z_cVv (As := []) (rest := []) B cw_X8_240 cx_9 dX8_tick_39 (ci_X8_passTasks_920 l (σ := (ap b σ [(0, 8, 11), (0, 8, 10), (0, 8, 9), (0, 8, 8), (0, 8, 7), (0, 8, 6), (0, 8, 5), (0, 8, 4), (0, 8, 3), (0, 8, 2), (0, 8, 1)] [] [])) (b := b) (lyA hK) (rI_at 4 2 hI_4_2) (rR_at 0 3 hR_0_3)) (lKA (hk_K hK 0 rfl rfl)) rfl (by decide) rfl (Nat.le_of_ble_eq_true rfl) (by decide) (fun u hu => ?_)
  refine z_eqs (σ' := (ap b σ [(0, 8, 11), (0, 8, 10), (0, 8, 9), (0, 8, 8), (0, 8, 7), (0, 8, 6), (0, 8, 5), (0, 8, 4), (0, 8, 3), (0, 8, 2), (0, 8, 1)] [] [])) hu ?_
  show zx p l e _ s m _ below meth c g 3 0 0 _ _ 42 [(2, .int 10), (0, .ref (b + 0)), (1, .int 38)] _
  refine z_aload_n B dX8_tick_42 rfl 1 rfl ?_
  refine z_cVv (As := []) (rest := []) B cw_X8_243 cx_9 dX8_tick_43 (ci_X8_passTimers_921 l (σ := (ap b σ [(0, 8, 11), (0, 8, 10), (0, 8, 9), (0, 8, 8), (0, 8, 7), (0, 8, 6), (0, 8, 5), (0, 8, 4), (0, 8, 3), (0, 8, 2), (0, 8, 1)] [] [])) (b := b) (lyA hK) (rI_at 0 7 hI_0_7)) (lKA (hk_K hK 0 rfl rfl)) rfl (by decide) rfl (Nat.le_of_ble_eq_true rfl) (by decide) (fun u hu => ?_)
  refine z_eqs (σ' := (ap b σ [(0, 8, 11), (0, 8, 10), (0, 8, 9), (0, 8, 8), (0, 8, 7), (0, 8, 6), (0, 8, 5), (0, 8, 4), (0, 8, 3), (0, 8, 2), (0, 8, 1)] [] [])) hu ?_
  show zx p l e _ s m _ below meth c g 3 0 0 _ _ 46 [(2, .int 10), (0, .ref (b + 0)), (1, .int 38)] _
  refine z_iinc (v := 11) (lv' := [(2, .int 11), (0, .ref (b + 0)), (1, .int 38)]) B dX8_tick_46 0 rfl (by decide) (by decide) rfl ?_
  refine z_goto (tgt := 23) B dX8_tick_49 (by decide) ?_
  refine z_iload_n B dX8_tick_23 rfl 0 rfl ?_
  refine z_iload_n B dX8_tick_24 rfl 2 rfl ?_
  refine z_icmp_ge (tgt := 52) B dX8_tick_25 (by decide) (fun h => absurd h (by decide)) (fun _ => ?_)
  refine z_aload_n B dX8_tick_28 rfl 1 rfl ?_
  refine z_dup B dX8_tick_29 rfl ?_
  refine gf_X8_206 (x := 11) B (lKA (hk_K hK 0 rfl rfl)) (rI_at 0 8 rfl) dX8_tick_30 ?_
  refine z_iconst (v := 1) B dX8_tick_33 (by decide) ?_
  refine z_iadd B dX8_tick_34 ?_
  refine z_seti (y := 12) (by decide) ?_
  refine pf_X8_206 (x := 12) (σ' := (ap b σ [(0, 8, 12), (0, 8, 11), (0, 8, 10), (0, 8, 9), (0, 8, 8), (0, 8, 7), (0, 8, 6), (0, 8, 5), (0, 8, 4), (0, 8, 3), (0, 8, 2), (0, 8, 1)] [] [])) B (lKA (hk_K hK 0 rfl rfl)) wI_ap dX8_tick_35 ?_
  refine z_aload_n B dX8_tick_38 rfl 1 rfl ?_
  refine z_cVv (As := []) (rest := []) B cw_X8_240 cx_9 dX8_tick_39 (ci_X8_passTasks_920 l (σ := (ap b σ [(0, 8, 12), (0, 8, 11), (0, 8, 10), (0, 8, 9), (0, 8, 8), (0, 8, 7), (0, 8, 6), (0, 8, 5), (0, 8, 4), (0, 8, 3), (0, 8, 2), (0, 8, 1)] [] [])) (b := b) (lyA hK) (rI_at 4 2 hI_4_2) (rR_at 0 3 hR_0_3)) (lKA (hk_K hK 0 rfl rfl)) rfl (by decide) rfl (Nat.le_of_ble_eq_true rfl) (by decide) (fun u hu => ?_)
  refine z_eqs (σ' := (ap b σ [(0, 8, 12), (0, 8, 11), (0, 8, 10), (0, 8, 9), (0, 8, 8), (0, 8, 7), (0, 8, 6), (0, 8, 5), (0, 8, 4), (0, 8, 3), (0, 8, 2), (0, 8, 1)] [] [])) hu ?_
  show zx p l e _ s m _ below meth c g 3 0 0 _ _ 42 [(2, .int 11), (0, .ref (b + 0)), (1, .int 38)] _
  refine z_aload_n B dX8_tick_42 rfl 1 rfl ?_
  refine z_cVv (As := []) (rest := []) B cw_X8_243 cx_9 dX8_tick_43 (ci_X8_passTimers_921 l (σ := (ap b σ [(0, 8, 12), (0, 8, 11), (0, 8, 10), (0, 8, 9), (0, 8, 8), (0, 8, 7), (0, 8, 6), (0, 8, 5), (0, 8, 4), (0, 8, 3), (0, 8, 2), (0, 8, 1)] [] [])) (b := b) (lyA hK) (rI_at 0 7 hI_0_7)) (lKA (hk_K hK 0 rfl rfl)) rfl (by decide) rfl (Nat.le_of_ble_eq_true rfl) (by decide) (fun u hu => ?_)
  refine z_eqs (σ' := (ap b σ [(0, 8, 12), (0, 8, 11), (0, 8, 10), (0, 8, 9), (0, 8, 8), (0, 8, 7), (0, 8, 6), (0, 8, 5), (0, 8, 4), (0, 8, 3), (0, 8, 2), (0, 8, 1)] [] [])) hu ?_
  show zx p l e _ s m _ below meth c g 3 0 0 _ _ 46 [(2, .int 11), (0, .ref (b + 0)), (1, .int 38)] _
  refine z_iinc (v := 12) (lv' := [(2, .int 12), (0, .ref (b + 0)), (1, .int 38)]) B dX8_tick_46 0 rfl (by decide) (by decide) rfl ?_
  refine z_goto (tgt := 23) B dX8_tick_49 (by decide) ?_
  refine z_iload_n B dX8_tick_23 rfl 0 rfl ?_
  refine z_iload_n B dX8_tick_24 rfl 2 rfl ?_
  refine z_icmp_ge (tgt := 52) B dX8_tick_25 (by decide) (fun h => absurd h (by decide)) (fun _ => ?_)
  refine z_aload_n B dX8_tick_28 rfl 1 rfl ?_
  refine z_dup B dX8_tick_29 rfl ?_
  refine gf_X8_206 (x := 12) B (lKA (hk_K hK 0 rfl rfl)) (rI_at 0 8 rfl) dX8_tick_30 ?_
  refine z_iconst (v := 1) B dX8_tick_33 (by decide) ?_
  refine z_iadd B dX8_tick_34 ?_
  refine z_seti (y := 13) (by decide) ?_
  refine pf_X8_206 (x := 13) (σ' := (ap b σ [(0, 8, 13), (0, 8, 12), (0, 8, 11), (0, 8, 10), (0, 8, 9), (0, 8, 8), (0, 8, 7), (0, 8, 6), (0, 8, 5), (0, 8, 4), (0, 8, 3), (0, 8, 2), (0, 8, 1)] [] [])) B (lKA (hk_K hK 0 rfl rfl)) wI_ap dX8_tick_35 ?_
  refine z_aload_n B dX8_tick_38 rfl 1 rfl ?_
  refine z_cVv (As := []) (rest := []) B cw_X8_240 cx_9 dX8_tick_39 (ci_X8_passTasks_920 l (σ := (ap b σ [(0, 8, 13), (0, 8, 12), (0, 8, 11), (0, 8, 10), (0, 8, 9), (0, 8, 8), (0, 8, 7), (0, 8, 6), (0, 8, 5), (0, 8, 4), (0, 8, 3), (0, 8, 2), (0, 8, 1)] [] [])) (b := b) (lyA hK) (rI_at 4 2 hI_4_2) (rR_at 0 3 hR_0_3)) (lKA (hk_K hK 0 rfl rfl)) rfl (by decide) rfl (Nat.le_of_ble_eq_true rfl) (by decide) (fun u hu => ?_)
  refine z_eqs (σ' := (ap b σ [(0, 8, 13), (0, 8, 12), (0, 8, 11), (0, 8, 10), (0, 8, 9), (0, 8, 8), (0, 8, 7), (0, 8, 6), (0, 8, 5), (0, 8, 4), (0, 8, 3), (0, 8, 2), (0, 8, 1)] [] [])) hu ?_
  show zx p l e _ s m _ below meth c g 3 0 0 _ _ 42 [(2, .int 12), (0, .ref (b + 0)), (1, .int 38)] _
  refine z_aload_n B dX8_tick_42 rfl 1 rfl ?_
  refine z_cVv (As := []) (rest := []) B cw_X8_243 cx_9 dX8_tick_43 (ci_X8_passTimers_921 l (σ := (ap b σ [(0, 8, 13), (0, 8, 12), (0, 8, 11), (0, 8, 10), (0, 8, 9), (0, 8, 8), (0, 8, 7), (0, 8, 6), (0, 8, 5), (0, 8, 4), (0, 8, 3), (0, 8, 2), (0, 8, 1)] [] [])) (b := b) (lyA hK) (rI_at 0 7 hI_0_7)) (lKA (hk_K hK 0 rfl rfl)) rfl (by decide) rfl (Nat.le_of_ble_eq_true rfl) (by decide) (fun u hu => ?_)
  refine z_eqs (σ' := (ap b σ [(0, 8, 13), (0, 8, 12), (0, 8, 11), (0, 8, 10), (0, 8, 9), (0, 8, 8), (0, 8, 7), (0, 8, 6), (0, 8, 5), (0, 8, 4), (0, 8, 3), (0, 8, 2), (0, 8, 1)] [] [])) hu ?_
  show zx p l e _ s m _ below meth c g 3 0 0 _ _ 46 [(2, .int 12), (0, .ref (b + 0)), (1, .int 38)] _
  refine z_iinc (v := 13) (lv' := [(2, .int 13), (0, .ref (b + 0)), (1, .int 38)]) B dX8_tick_46 0 rfl (by decide) (by decide) rfl ?_
  refine z_goto (tgt := 23) B dX8_tick_49 (by decide) ?_
  refine z_iload_n B dX8_tick_23 rfl 0 rfl ?_
  refine z_iload_n B dX8_tick_24 rfl 2 rfl ?_
  refine z_icmp_ge (tgt := 52) B dX8_tick_25 (by decide) (fun h => absurd h (by decide)) (fun _ => ?_)
  refine z_aload_n B dX8_tick_28 rfl 1 rfl ?_
  refine z_dup B dX8_tick_29 rfl ?_
  refine gf_X8_206 (x := 13) B (lKA (hk_K hK 0 rfl rfl)) (rI_at 0 8 rfl) dX8_tick_30 ?_
  refine z_iconst (v := 1) B dX8_tick_33 (by decide) ?_
  refine z_iadd B dX8_tick_34 ?_
  refine z_seti (y := 14) (by decide) ?_
  refine pf_X8_206 (x := 14) (σ' := (ap b σ [(0, 8, 14), (0, 8, 13), (0, 8, 12), (0, 8, 11), (0, 8, 10), (0, 8, 9), (0, 8, 8), (0, 8, 7), (0, 8, 6), (0, 8, 5), (0, 8, 4), (0, 8, 3), (0, 8, 2), (0, 8, 1)] [] [])) B (lKA (hk_K hK 0 rfl rfl)) wI_ap dX8_tick_35 ?_
  refine z_aload_n B dX8_tick_38 rfl 1 rfl ?_
  refine z_cVv (As := []) (rest := []) B cw_X8_240 cx_9 dX8_tick_39 (ci_X8_passTasks_920 l (σ := (ap b σ [(0, 8, 14), (0, 8, 13), (0, 8, 12), (0, 8, 11), (0, 8, 10), (0, 8, 9), (0, 8, 8), (0, 8, 7), (0, 8, 6), (0, 8, 5), (0, 8, 4), (0, 8, 3), (0, 8, 2), (0, 8, 1)] [] [])) (b := b) (lyA hK) (rI_at 4 2 hI_4_2) (rR_at 0 3 hR_0_3)) (lKA (hk_K hK 0 rfl rfl)) rfl (by decide) rfl (Nat.le_of_ble_eq_true rfl) (by decide) (fun u hu => ?_)
  refine z_eqs (σ' := (ap b σ [(0, 8, 14), (0, 8, 13), (0, 8, 12), (0, 8, 11), (0, 8, 10), (0, 8, 9), (0, 8, 8), (0, 8, 7), (0, 8, 6), (0, 8, 5), (0, 8, 4), (0, 8, 3), (0, 8, 2), (0, 8, 1)] [] [])) hu ?_
  show zx p l e _ s m _ below meth c g 3 0 0 _ _ 42 [(2, .int 13), (0, .ref (b + 0)), (1, .int 38)] _
  refine z_aload_n B dX8_tick_42 rfl 1 rfl ?_
  refine z_cVv (As := []) (rest := []) B cw_X8_243 cx_9 dX8_tick_43 (ci_X8_passTimers_921 l (σ := (ap b σ [(0, 8, 14), (0, 8, 13), (0, 8, 12), (0, 8, 11), (0, 8, 10), (0, 8, 9), (0, 8, 8), (0, 8, 7), (0, 8, 6), (0, 8, 5), (0, 8, 4), (0, 8, 3), (0, 8, 2), (0, 8, 1)] [] [])) (b := b) (lyA hK) (rI_at 0 7 hI_0_7)) (lKA (hk_K hK 0 rfl rfl)) rfl (by decide) rfl (Nat.le_of_ble_eq_true rfl) (by decide) (fun u hu => ?_)
  refine z_eqs (σ' := (ap b σ [(0, 8, 14), (0, 8, 13), (0, 8, 12), (0, 8, 11), (0, 8, 10), (0, 8, 9), (0, 8, 8), (0, 8, 7), (0, 8, 6), (0, 8, 5), (0, 8, 4), (0, 8, 3), (0, 8, 2), (0, 8, 1)] [] [])) hu ?_
  show zx p l e _ s m _ below meth c g 3 0 0 _ _ 46 [(2, .int 13), (0, .ref (b + 0)), (1, .int 38)] _
  refine z_iinc (v := 14) (lv' := [(2, .int 14), (0, .ref (b + 0)), (1, .int 38)]) B dX8_tick_46 0 rfl (by decide) (by decide) rfl ?_
  refine z_goto (tgt := 23) B dX8_tick_49 (by decide) ?_
  refine z_iload_n B dX8_tick_23 rfl 0 rfl ?_
  refine z_iload_n B dX8_tick_24 rfl 2 rfl ?_
  refine z_icmp_ge (tgt := 52) B dX8_tick_25 (by decide) (fun h => absurd h (by decide)) (fun _ => ?_)
  refine z_aload_n B dX8_tick_28 rfl 1 rfl ?_
  refine z_dup B dX8_tick_29 rfl ?_
  refine gf_X8_206 (x := 14) B (lKA (hk_K hK 0 rfl rfl)) (rI_at 0 8 rfl) dX8_tick_30 ?_
  refine z_iconst (v := 1) B dX8_tick_33 (by decide) ?_
  refine z_iadd B dX8_tick_34 ?_
  refine z_seti (y := 15) (by decide) ?_
  refine pf_X8_206 (x := 15) (σ' := (ap b σ [(0, 8, 15), (0, 8, 14), (0, 8, 13), (0, 8, 12), (0, 8, 11), (0, 8, 10), (0, 8, 9), (0, 8, 8), (0, 8, 7), (0, 8, 6), (0, 8, 5), (0, 8, 4), (0, 8, 3), (0, 8, 2), (0, 8, 1)] [] [])) B (lKA (hk_K hK 0 rfl rfl)) wI_ap dX8_tick_35 ?_
  refine z_aload_n B dX8_tick_38 rfl 1 rfl ?_
  refine z_cVv (As := []) (rest := []) B cw_X8_240 cx_9 dX8_tick_39 (ci_X8_passTasks_920 l (σ := (ap b σ [(0, 8, 15), (0, 8, 14), (0, 8, 13), (0, 8, 12), (0, 8, 11), (0, 8, 10), (0, 8, 9), (0, 8, 8), (0, 8, 7), (0, 8, 6), (0, 8, 5), (0, 8, 4), (0, 8, 3), (0, 8, 2), (0, 8, 1)] [] [])) (b := b) (lyA hK) (rI_at 4 2 hI_4_2) (rR_at 0 3 hR_0_3)) (lKA (hk_K hK 0 rfl rfl)) rfl (by decide) rfl (Nat.le_of_ble_eq_true rfl) (by decide) (fun u hu => ?_)
  refine z_eqs (σ' := (ap b σ [(0, 8, 15), (0, 8, 14), (0, 8, 13), (0, 8, 12), (0, 8, 11), (0, 8, 10), (0, 8, 9), (0, 8, 8), (0, 8, 7), (0, 8, 6), (0, 8, 5), (0, 8, 4), (0, 8, 3), (0, 8, 2), (0, 8, 1)] [] [])) hu ?_
  show zx p l e _ s m _ below meth c g 3 0 0 _ _ 42 [(2, .int 14), (0, .ref (b + 0)), (1, .int 38)] _
  refine z_aload_n B dX8_tick_42 rfl 1 rfl ?_
  refine z_cVv (As := []) (rest := []) B cw_X8_243 cx_9 dX8_tick_43 (ci_X8_passTimers_921 l (σ := (ap b σ [(0, 8, 15), (0, 8, 14), (0, 8, 13), (0, 8, 12), (0, 8, 11), (0, 8, 10), (0, 8, 9), (0, 8, 8), (0, 8, 7), (0, 8, 6), (0, 8, 5), (0, 8, 4), (0, 8, 3), (0, 8, 2), (0, 8, 1)] [] [])) (b := b) (lyA hK) (rI_at 0 7 hI_0_7)) (lKA (hk_K hK 0 rfl rfl)) rfl (by decide) rfl (Nat.le_of_ble_eq_true rfl) (by decide) (fun u hu => ?_)
  refine z_eqs (σ' := (ap b σ [(0, 8, 15), (0, 8, 14), (0, 8, 13), (0, 8, 12), (0, 8, 11), (0, 8, 10), (0, 8, 9), (0, 8, 8), (0, 8, 7), (0, 8, 6), (0, 8, 5), (0, 8, 4), (0, 8, 3), (0, 8, 2), (0, 8, 1)] [] [])) hu ?_
  show zx p l e _ s m _ below meth c g 3 0 0 _ _ 46 [(2, .int 14), (0, .ref (b + 0)), (1, .int 38)] _
  refine z_iinc (v := 15) (lv' := [(2, .int 15), (0, .ref (b + 0)), (1, .int 38)]) B dX8_tick_46 0 rfl (by decide) (by decide) rfl ?_
  refine z_goto (tgt := 23) B dX8_tick_49 (by decide) ?_
  refine z_iload_n B dX8_tick_23 rfl 0 rfl ?_
  refine z_iload_n B dX8_tick_24 rfl 2 rfl ?_
  refine z_icmp_ge (tgt := 52) B dX8_tick_25 (by decide) (fun h => absurd h (by decide)) (fun _ => ?_)
  refine z_aload_n B dX8_tick_28 rfl 1 rfl ?_
  refine z_dup B dX8_tick_29 rfl ?_
  refine gf_X8_206 (x := 15) B (lKA (hk_K hK 0 rfl rfl)) (rI_at 0 8 rfl) dX8_tick_30 ?_
  refine z_iconst (v := 1) B dX8_tick_33 (by decide) ?_
  refine z_iadd B dX8_tick_34 ?_
  refine z_seti (y := 16) (by decide) ?_
  refine pf_X8_206 (x := 16) (σ' := (ap b σ [(0, 8, 16), (0, 8, 15), (0, 8, 14), (0, 8, 13), (0, 8, 12), (0, 8, 11), (0, 8, 10), (0, 8, 9), (0, 8, 8), (0, 8, 7), (0, 8, 6), (0, 8, 5), (0, 8, 4), (0, 8, 3), (0, 8, 2), (0, 8, 1)] [] [])) B (lKA (hk_K hK 0 rfl rfl)) wI_ap dX8_tick_35 ?_
  refine z_aload_n B dX8_tick_38 rfl 1 rfl ?_
  refine z_cVv (As := []) (rest := []) B cw_X8_240 cx_9 dX8_tick_39 (ci_X8_passTasks_920 l (σ := (ap b σ [(0, 8, 16), (0, 8, 15), (0, 8, 14), (0, 8, 13), (0, 8, 12), (0, 8, 11), (0, 8, 10), (0, 8, 9), (0, 8, 8), (0, 8, 7), (0, 8, 6), (0, 8, 5), (0, 8, 4), (0, 8, 3), (0, 8, 2), (0, 8, 1)] [] [])) (b := b) (lyA hK) (rI_at 4 2 hI_4_2) (rR_at 0 3 hR_0_3)) (lKA (hk_K hK 0 rfl rfl)) rfl (by decide) rfl (Nat.le_of_ble_eq_true rfl) (by decide) (fun u hu => ?_)
  refine z_eqs (σ' := (ap b σ [(0, 8, 16), (0, 8, 15), (0, 8, 14), (0, 8, 13), (0, 8, 12), (0, 8, 11), (0, 8, 10), (0, 8, 9), (0, 8, 8), (0, 8, 7), (0, 8, 6), (0, 8, 5), (0, 8, 4), (0, 8, 3), (0, 8, 2), (0, 8, 1)] [] [])) hu ?_
  show zx p l e _ s m _ below meth c g 3 0 0 _ _ 42 [(2, .int 15), (0, .ref (b + 0)), (1, .int 38)] _
  refine z_aload_n B dX8_tick_42 rfl 1 rfl ?_
  refine z_cVv (As := []) (rest := []) B cw_X8_243 cx_9 dX8_tick_43 (ci_X8_passTimers_921 l (σ := (ap b σ [(0, 8, 16), (0, 8, 15), (0, 8, 14), (0, 8, 13), (0, 8, 12), (0, 8, 11), (0, 8, 10), (0, 8, 9), (0, 8, 8), (0, 8, 7), (0, 8, 6), (0, 8, 5), (0, 8, 4), (0, 8, 3), (0, 8, 2), (0, 8, 1)] [] [])) (b := b) (lyA hK) (rI_at 0 7 hI_0_7)) (lKA (hk_K hK 0 rfl rfl)) rfl (by decide) rfl (Nat.le_of_ble_eq_true rfl) (by decide) (fun u hu => ?_)
  refine z_eqs (σ' := (ap b σ [(0, 8, 16), (0, 8, 15), (0, 8, 14), (0, 8, 13), (0, 8, 12), (0, 8, 11), (0, 8, 10), (0, 8, 9), (0, 8, 8), (0, 8, 7), (0, 8, 6), (0, 8, 5), (0, 8, 4), (0, 8, 3), (0, 8, 2), (0, 8, 1)] [] [])) hu ?_
  show zx p l e _ s m _ below meth c g 3 0 0 _ _ 46 [(2, .int 15), (0, .ref (b + 0)), (1, .int 38)] _
  refine z_iinc (v := 16) (lv' := [(2, .int 16), (0, .ref (b + 0)), (1, .int 38)]) B dX8_tick_46 0 rfl (by decide) (by decide) rfl ?_
  refine z_goto (tgt := 23) B dX8_tick_49 (by decide) ?_
  refine z_iload_n B dX8_tick_23 rfl 0 rfl ?_
  refine z_iload_n B dX8_tick_24 rfl 2 rfl ?_
  refine z_icmp_ge (tgt := 52) B dX8_tick_25 (by decide) (fun h => absurd h (by decide)) (fun _ => ?_)
  refine z_aload_n B dX8_tick_28 rfl 1 rfl ?_
  refine z_dup B dX8_tick_29 rfl ?_
  refine gf_X8_206 (x := 16) B (lKA (hk_K hK 0 rfl rfl)) (rI_at 0 8 rfl) dX8_tick_30 ?_
  refine z_iconst (v := 1) B dX8_tick_33 (by decide) ?_
  refine z_iadd B dX8_tick_34 ?_
  refine z_seti (y := 17) (by decide) ?_
  refine pf_X8_206 (x := 17) (σ' := (ap b σ [(0, 8, 17), (0, 8, 16), (0, 8, 15), (0, 8, 14), (0, 8, 13), (0, 8, 12), (0, 8, 11), (0, 8, 10), (0, 8, 9), (0, 8, 8), (0, 8, 7), (0, 8, 6), (0, 8, 5), (0, 8, 4), (0, 8, 3), (0, 8, 2), (0, 8, 1)] [] [])) B (lKA (hk_K hK 0 rfl rfl)) wI_ap dX8_tick_35 ?_
  refine z_aload_n B dX8_tick_38 rfl 1 rfl ?_
  refine z_cVv (As := []) (rest := []) B cw_X8_240 cx_9 dX8_tick_39 (ci_X8_passTasks_920 l (σ := (ap b σ [(0, 8, 17), (0, 8, 16), (0, 8, 15), (0, 8, 14), (0, 8, 13), (0, 8, 12), (0, 8, 11), (0, 8, 10), (0, 8, 9), (0, 8, 8), (0, 8, 7), (0, 8, 6), (0, 8, 5), (0, 8, 4), (0, 8, 3), (0, 8, 2), (0, 8, 1)] [] [])) (b := b) (lyA hK) (rI_at 4 2 hI_4_2) (rR_at 0 3 hR_0_3)) (lKA (hk_K hK 0 rfl rfl)) rfl (by decide) rfl (Nat.le_of_ble_eq_true rfl) (by decide) (fun u hu => ?_)
  refine z_eqs (σ' := (ap b σ [(0, 8, 17), (0, 8, 16), (0, 8, 15), (0, 8, 14), (0, 8, 13), (0, 8, 12), (0, 8, 11), (0, 8, 10), (0, 8, 9), (0, 8, 8), (0, 8, 7), (0, 8, 6), (0, 8, 5), (0, 8, 4), (0, 8, 3), (0, 8, 2), (0, 8, 1)] [] [])) hu ?_
  show zx p l e _ s m _ below meth c g 3 0 0 _ _ 42 [(2, .int 16), (0, .ref (b + 0)), (1, .int 38)] _
  refine z_aload_n B dX8_tick_42 rfl 1 rfl ?_
  refine z_cVv (As := []) (rest := []) B cw_X8_243 cx_9 dX8_tick_43 (ci_X8_passTimers_921 l (σ := (ap b σ [(0, 8, 17), (0, 8, 16), (0, 8, 15), (0, 8, 14), (0, 8, 13), (0, 8, 12), (0, 8, 11), (0, 8, 10), (0, 8, 9), (0, 8, 8), (0, 8, 7), (0, 8, 6), (0, 8, 5), (0, 8, 4), (0, 8, 3), (0, 8, 2), (0, 8, 1)] [] [])) (b := b) (lyA hK) (rI_at 0 7 hI_0_7)) (lKA (hk_K hK 0 rfl rfl)) rfl (by decide) rfl (Nat.le_of_ble_eq_true rfl) (by decide) (fun u hu => ?_)
  refine z_eqs (σ' := (ap b σ [(0, 8, 17), (0, 8, 16), (0, 8, 15), (0, 8, 14), (0, 8, 13), (0, 8, 12), (0, 8, 11), (0, 8, 10), (0, 8, 9), (0, 8, 8), (0, 8, 7), (0, 8, 6), (0, 8, 5), (0, 8, 4), (0, 8, 3), (0, 8, 2), (0, 8, 1)] [] [])) hu ?_
  show zx p l e _ s m _ below meth c g 3 0 0 _ _ 46 [(2, .int 16), (0, .ref (b + 0)), (1, .int 38)] _
  refine z_iinc (v := 17) (lv' := [(2, .int 17), (0, .ref (b + 0)), (1, .int 38)]) B dX8_tick_46 0 rfl (by decide) (by decide) rfl ?_
  refine z_goto (tgt := 23) B dX8_tick_49 (by decide) ?_
  refine z_iload_n B dX8_tick_23 rfl 0 rfl ?_
  refine z_iload_n B dX8_tick_24 rfl 2 rfl ?_
  refine z_icmp_ge (tgt := 52) B dX8_tick_25 (by decide) (fun h => absurd h (by decide)) (fun _ => ?_)
  refine z_aload_n B dX8_tick_28 rfl 1 rfl ?_
  refine z_dup B dX8_tick_29 rfl ?_
  refine gf_X8_206 (x := 17) B (lKA (hk_K hK 0 rfl rfl)) (rI_at 0 8 rfl) dX8_tick_30 ?_
  refine z_iconst (v := 1) B dX8_tick_33 (by decide) ?_
  refine z_iadd B dX8_tick_34 ?_
  refine z_seti (y := 18) (by decide) ?_
  refine pf_X8_206 (x := 18) (σ' := (ap b σ [(0, 8, 18), (0, 8, 17), (0, 8, 16), (0, 8, 15), (0, 8, 14), (0, 8, 13), (0, 8, 12), (0, 8, 11), (0, 8, 10), (0, 8, 9), (0, 8, 8), (0, 8, 7), (0, 8, 6), (0, 8, 5), (0, 8, 4), (0, 8, 3), (0, 8, 2), (0, 8, 1)] [] [])) B (lKA (hk_K hK 0 rfl rfl)) wI_ap dX8_tick_35 ?_
  refine z_aload_n B dX8_tick_38 rfl 1 rfl ?_
  refine z_cVv (As := []) (rest := []) B cw_X8_240 cx_9 dX8_tick_39 (ci_X8_passTasks_920 l (σ := (ap b σ [(0, 8, 18), (0, 8, 17), (0, 8, 16), (0, 8, 15), (0, 8, 14), (0, 8, 13), (0, 8, 12), (0, 8, 11), (0, 8, 10), (0, 8, 9), (0, 8, 8), (0, 8, 7), (0, 8, 6), (0, 8, 5), (0, 8, 4), (0, 8, 3), (0, 8, 2), (0, 8, 1)] [] [])) (b := b) (lyA hK) (rI_at 4 2 hI_4_2) (rR_at 0 3 hR_0_3)) (lKA (hk_K hK 0 rfl rfl)) rfl (by decide) rfl (Nat.le_of_ble_eq_true rfl) (by decide) (fun u hu => ?_)
  refine z_eqs (σ' := (ap b σ [(0, 8, 18), (0, 8, 17), (0, 8, 16), (0, 8, 15), (0, 8, 14), (0, 8, 13), (0, 8, 12), (0, 8, 11), (0, 8, 10), (0, 8, 9), (0, 8, 8), (0, 8, 7), (0, 8, 6), (0, 8, 5), (0, 8, 4), (0, 8, 3), (0, 8, 2), (0, 8, 1)] [] [])) hu ?_
  show zx p l e _ s m _ below meth c g 3 0 0 _ _ 42 [(2, .int 17), (0, .ref (b + 0)), (1, .int 38)] _
  refine z_aload_n B dX8_tick_42 rfl 1 rfl ?_
  refine z_cVv (As := []) (rest := []) B cw_X8_243 cx_9 dX8_tick_43 (ci_X8_passTimers_921 l (σ := (ap b σ [(0, 8, 18), (0, 8, 17), (0, 8, 16), (0, 8, 15), (0, 8, 14), (0, 8, 13), (0, 8, 12), (0, 8, 11), (0, 8, 10), (0, 8, 9), (0, 8, 8), (0, 8, 7), (0, 8, 6), (0, 8, 5), (0, 8, 4), (0, 8, 3), (0, 8, 2), (0, 8, 1)] [] [])) (b := b) (lyA hK) (rI_at 0 7 hI_0_7)) (lKA (hk_K hK 0 rfl rfl)) rfl (by decide) rfl (Nat.le_of_ble_eq_true rfl) (by decide) (fun u hu => ?_)
  refine z_eqs (σ' := (ap b σ [(0, 8, 18), (0, 8, 17), (0, 8, 16), (0, 8, 15), (0, 8, 14), (0, 8, 13), (0, 8, 12), (0, 8, 11), (0, 8, 10), (0, 8, 9), (0, 8, 8), (0, 8, 7), (0, 8, 6), (0, 8, 5), (0, 8, 4), (0, 8, 3), (0, 8, 2), (0, 8, 1)] [] [])) hu ?_
  show zx p l e _ s m _ below meth c g 3 0 0 _ _ 46 [(2, .int 17), (0, .ref (b + 0)), (1, .int 38)] _
  refine z_iinc (v := 18) (lv' := [(2, .int 18), (0, .ref (b + 0)), (1, .int 38)]) B dX8_tick_46 0 rfl (by decide) (by decide) rfl ?_
  refine z_goto (tgt := 23) B dX8_tick_49 (by decide) ?_
  refine z_iload_n B dX8_tick_23 rfl 0 rfl ?_
  refine z_iload_n B dX8_tick_24 rfl 2 rfl ?_
  refine z_icmp_ge (tgt := 52) B dX8_tick_25 (by decide) (fun h => absurd h (by decide)) (fun _ => ?_)
  refine z_aload_n B dX8_tick_28 rfl 1 rfl ?_
  refine z_dup B dX8_tick_29 rfl ?_
  refine gf_X8_206 (x := 18) B (lKA (hk_K hK 0 rfl rfl)) (rI_at 0 8 rfl) dX8_tick_30 ?_
  refine z_iconst (v := 1) B dX8_tick_33 (by decide) ?_
  refine z_iadd B dX8_tick_34 ?_
  refine z_seti (y := 19) (by decide) ?_
  refine pf_X8_206 (x := 19) (σ' := (ap b σ [(0, 8, 19), (0, 8, 18), (0, 8, 17), (0, 8, 16), (0, 8, 15), (0, 8, 14), (0, 8, 13), (0, 8, 12), (0, 8, 11), (0, 8, 10), (0, 8, 9), (0, 8, 8), (0, 8, 7), (0, 8, 6), (0, 8, 5), (0, 8, 4), (0, 8, 3), (0, 8, 2), (0, 8, 1)] [] [])) B (lKA (hk_K hK 0 rfl rfl)) wI_ap dX8_tick_35 ?_
  refine z_aload_n B dX8_tick_38 rfl 1 rfl ?_
  refine z_cVv (As := []) (rest := []) B cw_X8_240 cx_9 dX8_tick_39 (ci_X8_passTasks_920 l (σ := (ap b σ [(0, 8, 19), (0, 8, 18), (0, 8, 17), (0, 8, 16), (0, 8, 15), (0, 8, 14), (0, 8, 13), (0, 8, 12), (0, 8, 11), (0, 8, 10), (0, 8, 9), (0, 8, 8), (0, 8, 7), (0, 8, 6), (0, 8, 5), (0, 8, 4), (0, 8, 3), (0, 8, 2), (0, 8, 1)] [] [])) (b := b) (lyA hK) (rI_at 4 2 hI_4_2) (rR_at 0 3 hR_0_3)) (lKA (hk_K hK 0 rfl rfl)) rfl (by decide) rfl (Nat.le_of_ble_eq_true rfl) (by decide) (fun u hu => ?_)
  refine z_eqs (σ' := (ap b σ [(0, 8, 19), (0, 8, 18), (0, 8, 17), (0, 8, 16), (0, 8, 15), (0, 8, 14), (0, 8, 13), (0, 8, 12), (0, 8, 11), (0, 8, 10), (0, 8, 9), (0, 8, 8), (0, 8, 7), (0, 8, 6), (0, 8, 5), (0, 8, 4), (0, 8, 3), (0, 8, 2), (0, 8, 1)] [] [])) hu ?_
  show zx p l e _ s m _ below meth c g 3 0 0 _ _ 42 [(2, .int 18), (0, .ref (b + 0)), (1, .int 38)] _
  refine z_aload_n B dX8_tick_42 rfl 1 rfl ?_
  refine z_cVv (As := []) (rest := []) B cw_X8_243 cx_9 dX8_tick_43 (ci_X8_passTimers_921 l (σ := (ap b σ [(0, 8, 19), (0, 8, 18), (0, 8, 17), (0, 8, 16), (0, 8, 15), (0, 8, 14), (0, 8, 13), (0, 8, 12), (0, 8, 11), (0, 8, 10), (0, 8, 9), (0, 8, 8), (0, 8, 7), (0, 8, 6), (0, 8, 5), (0, 8, 4), (0, 8, 3), (0, 8, 2), (0, 8, 1)] [] [])) (b := b) (lyA hK) (rI_at 0 7 hI_0_7)) (lKA (hk_K hK 0 rfl rfl)) rfl (by decide) rfl (Nat.le_of_ble_eq_true rfl) (by decide) (fun u hu => ?_)
  refine z_eqs (σ' := (ap b σ [(0, 8, 19), (0, 8, 18), (0, 8, 17), (0, 8, 16), (0, 8, 15), (0, 8, 14), (0, 8, 13), (0, 8, 12), (0, 8, 11), (0, 8, 10), (0, 8, 9), (0, 8, 8), (0, 8, 7), (0, 8, 6), (0, 8, 5), (0, 8, 4), (0, 8, 3), (0, 8, 2), (0, 8, 1)] [] [])) hu ?_
  show zx p l e _ s m _ below meth c g 3 0 0 _ _ 46 [(2, .int 18), (0, .ref (b + 0)), (1, .int 38)] _
  refine z_iinc (v := 19) (lv' := [(2, .int 19), (0, .ref (b + 0)), (1, .int 38)]) B dX8_tick_46 0 rfl (by decide) (by decide) rfl ?_
  refine z_goto (tgt := 23) B dX8_tick_49 (by decide) ?_
  refine z_iload_n B dX8_tick_23 rfl 0 rfl ?_
  refine z_iload_n B dX8_tick_24 rfl 2 rfl ?_
  refine z_icmp_ge (tgt := 52) B dX8_tick_25 (by decide) (fun h => absurd h (by decide)) (fun _ => ?_)
  refine z_aload_n B dX8_tick_28 rfl 1 rfl ?_
  refine z_dup B dX8_tick_29 rfl ?_
  refine gf_X8_206 (x := 19) B (lKA (hk_K hK 0 rfl rfl)) (rI_at 0 8 rfl) dX8_tick_30 ?_
  refine z_iconst (v := 1) B dX8_tick_33 (by decide) ?_
  refine z_iadd B dX8_tick_34 ?_
  refine z_seti (y := 20) (by decide) ?_
  refine pf_X8_206 (x := 20) (σ' := (ap b σ [(0, 8, 20), (0, 8, 19), (0, 8, 18), (0, 8, 17), (0, 8, 16), (0, 8, 15), (0, 8, 14), (0, 8, 13), (0, 8, 12), (0, 8, 11), (0, 8, 10), (0, 8, 9), (0, 8, 8), (0, 8, 7), (0, 8, 6), (0, 8, 5), (0, 8, 4), (0, 8, 3), (0, 8, 2), (0, 8, 1)] [] [])) B (lKA (hk_K hK 0 rfl rfl)) wI_ap dX8_tick_35 ?_
  refine z_aload_n B dX8_tick_38 rfl 1 rfl ?_
  refine z_cVv (As := []) (rest := []) B cw_X8_240 cx_9 dX8_tick_39 (ci_X8_passTasks_920 l (σ := (ap b σ [(0, 8, 20), (0, 8, 19), (0, 8, 18), (0, 8, 17), (0, 8, 16), (0, 8, 15), (0, 8, 14), (0, 8, 13), (0, 8, 12), (0, 8, 11), (0, 8, 10), (0, 8, 9), (0, 8, 8), (0, 8, 7), (0, 8, 6), (0, 8, 5), (0, 8, 4), (0, 8, 3), (0, 8, 2), (0, 8, 1)] [] [])) (b := b) (lyA hK) (rI_at 4 2 hI_4_2) (rR_at 0 3 hR_0_3)) (lKA (hk_K hK 0 rfl rfl)) rfl (by decide) rfl (Nat.le_of_ble_eq_true rfl) (by decide) (fun u hu => ?_)
  refine z_eqs (σ' := (ap b σ [(0, 8, 20), (0, 8, 19), (0, 8, 18), (0, 8, 17), (0, 8, 16), (0, 8, 15), (0, 8, 14), (0, 8, 13), (0, 8, 12), (0, 8, 11), (0, 8, 10), (0, 8, 9), (0, 8, 8), (0, 8, 7), (0, 8, 6), (0, 8, 5), (0, 8, 4), (0, 8, 3), (0, 8, 2), (0, 8, 1)] [] [])) hu ?_
  show zx p l e _ s m _ below meth c g 3 0 0 _ _ 42 [(2, .int 19), (0, .ref (b + 0)), (1, .int 38)] _
  refine z_aload_n B dX8_tick_42 rfl 1 rfl ?_
  refine z_cVv (As := []) (rest := []) B cw_X8_243 cx_9 dX8_tick_43 (ci_X8_passTimers_921 l (σ := (ap b σ [(0, 8, 20), (0, 8, 19), (0, 8, 18), (0, 8, 17), (0, 8, 16), (0, 8, 15), (0, 8, 14), (0, 8, 13), (0, 8, 12), (0, 8, 11), (0, 8, 10), (0, 8, 9), (0, 8, 8), (0, 8, 7), (0, 8, 6), (0, 8, 5), (0, 8, 4), (0, 8, 3), (0, 8, 2), (0, 8, 1)] [] [])) (b := b) (lyA hK) (rI_at 0 7 hI_0_7)) (lKA (hk_K hK 0 rfl rfl)) rfl (by decide) rfl (Nat.le_of_ble_eq_true rfl) (by decide) (fun u hu => ?_)
  refine z_eqs (σ' := (ap b σ [(0, 8, 20), (0, 8, 19), (0, 8, 18), (0, 8, 17), (0, 8, 16), (0, 8, 15), (0, 8, 14), (0, 8, 13), (0, 8, 12), (0, 8, 11), (0, 8, 10), (0, 8, 9), (0, 8, 8), (0, 8, 7), (0, 8, 6), (0, 8, 5), (0, 8, 4), (0, 8, 3), (0, 8, 2), (0, 8, 1)] [] [])) hu ?_
  show zx p l e _ s m _ below meth c g 3 0 0 _ _ 46 [(2, .int 19), (0, .ref (b + 0)), (1, .int 38)] _
  refine z_iinc (v := 20) (lv' := [(2, .int 20), (0, .ref (b + 0)), (1, .int 38)]) B dX8_tick_46 0 rfl (by decide) (by decide) rfl ?_
  refine z_goto (tgt := 23) B dX8_tick_49 (by decide) ?_
  refine z_iload_n B dX8_tick_23 rfl 0 rfl ?_
  refine z_iload_n B dX8_tick_24 rfl 2 rfl ?_
  refine z_icmp_ge (tgt := 52) B dX8_tick_25 (by decide) (fun h => absurd h (by decide)) (fun _ => ?_)
  refine z_aload_n B dX8_tick_28 rfl 1 rfl ?_
  refine z_dup B dX8_tick_29 rfl ?_
  refine gf_X8_206 (x := 20) B (lKA (hk_K hK 0 rfl rfl)) (rI_at 0 8 rfl) dX8_tick_30 ?_
  refine z_iconst (v := 1) B dX8_tick_33 (by decide) ?_
  refine z_iadd B dX8_tick_34 ?_
  refine z_seti (y := 21) (by decide) ?_
  refine pf_X8_206 (x := 21) (σ' := (ap b σ [(0, 8, 21), (0, 8, 20), (0, 8, 19), (0, 8, 18), (0, 8, 17), (0, 8, 16), (0, 8, 15), (0, 8, 14), (0, 8, 13), (0, 8, 12), (0, 8, 11), (0, 8, 10), (0, 8, 9), (0, 8, 8), (0, 8, 7), (0, 8, 6), (0, 8, 5), (0, 8, 4), (0, 8, 3), (0, 8, 2), (0, 8, 1)] [] [])) B (lKA (hk_K hK 0 rfl rfl)) wI_ap dX8_tick_35 ?_
  refine z_aload_n B dX8_tick_38 rfl 1 rfl ?_
  refine z_cVv (As := []) (rest := []) B cw_X8_240 cx_9 dX8_tick_39 (ci_X8_passTasks_920 l (σ := (ap b σ [(0, 8, 21), (0, 8, 20), (0, 8, 19), (0, 8, 18), (0, 8, 17), (0, 8, 16), (0, 8, 15), (0, 8, 14), (0, 8, 13), (0, 8, 12), (0, 8, 11), (0, 8, 10), (0, 8, 9), (0, 8, 8), (0, 8, 7), (0, 8, 6), (0, 8, 5), (0, 8, 4), (0, 8, 3), (0, 8, 2), (0, 8, 1)] [] [])) (b := b) (lyA hK) (rI_at 4 2 hI_4_2) (rR_at 0 3 hR_0_3)) (lKA (hk_K hK 0 rfl rfl)) rfl (by decide) rfl (Nat.le_of_ble_eq_true rfl) (by decide) (fun u hu => ?_)
  refine z_eqs (σ' := (ap b σ [(0, 8, 21), (0, 8, 20), (0, 8, 19), (0, 8, 18), (0, 8, 17), (0, 8, 16), (0, 8, 15), (0, 8, 14), (0, 8, 13), (0, 8, 12), (0, 8, 11), (0, 8, 10), (0, 8, 9), (0, 8, 8), (0, 8, 7), (0, 8, 6), (0, 8, 5), (0, 8, 4), (0, 8, 3), (0, 8, 2), (0, 8, 1)] [] [])) hu ?_
  show zx p l e _ s m _ below meth c g 3 0 0 _ _ 42 [(2, .int 20), (0, .ref (b + 0)), (1, .int 38)] _
  refine z_aload_n B dX8_tick_42 rfl 1 rfl ?_
  refine z_cVv (As := []) (rest := []) B cw_X8_243 cx_9 dX8_tick_43 (ci_X8_passTimers_921 l (σ := (ap b σ [(0, 8, 21), (0, 8, 20), (0, 8, 19), (0, 8, 18), (0, 8, 17), (0, 8, 16), (0, 8, 15), (0, 8, 14), (0, 8, 13), (0, 8, 12), (0, 8, 11), (0, 8, 10), (0, 8, 9), (0, 8, 8), (0, 8, 7), (0, 8, 6), (0, 8, 5), (0, 8, 4), (0, 8, 3), (0, 8, 2), (0, 8, 1)] [] [])) (b := b) (lyA hK) (rI_at 0 7 hI_0_7)) (lKA (hk_K hK 0 rfl rfl)) rfl (by decide) rfl (Nat.le_of_ble_eq_true rfl) (by decide) (fun u hu => ?_)
  refine z_eqs (σ' := (ap b σ [(0, 8, 21), (0, 8, 20), (0, 8, 19), (0, 8, 18), (0, 8, 17), (0, 8, 16), (0, 8, 15), (0, 8, 14), (0, 8, 13), (0, 8, 12), (0, 8, 11), (0, 8, 10), (0, 8, 9), (0, 8, 8), (0, 8, 7), (0, 8, 6), (0, 8, 5), (0, 8, 4), (0, 8, 3), (0, 8, 2), (0, 8, 1)] [] [])) hu ?_
  show zx p l e _ s m _ below meth c g 3 0 0 _ _ 46 [(2, .int 20), (0, .ref (b + 0)), (1, .int 38)] _
  refine z_iinc (v := 21) (lv' := [(2, .int 21), (0, .ref (b + 0)), (1, .int 38)]) B dX8_tick_46 0 rfl (by decide) (by decide) rfl ?_
  refine z_goto (tgt := 23) B dX8_tick_49 (by decide) ?_
  refine z_iload_n B dX8_tick_23 rfl 0 rfl ?_
  refine z_iload_n B dX8_tick_24 rfl 2 rfl ?_
  refine z_icmp_ge (tgt := 52) B dX8_tick_25 (by decide) (fun h => absurd h (by decide)) (fun _ => ?_)
  refine z_aload_n B dX8_tick_28 rfl 1 rfl ?_
  refine z_dup B dX8_tick_29 rfl ?_
  refine gf_X8_206 (x := 21) B (lKA (hk_K hK 0 rfl rfl)) (rI_at 0 8 rfl) dX8_tick_30 ?_
  refine z_iconst (v := 1) B dX8_tick_33 (by decide) ?_
  refine z_iadd B dX8_tick_34 ?_
  refine z_seti (y := 22) (by decide) ?_
  refine pf_X8_206 (x := 22) (σ' := (ap b σ [(0, 8, 22), (0, 8, 21), (0, 8, 20), (0, 8, 19), (0, 8, 18), (0, 8, 17), (0, 8, 16), (0, 8, 15), (0, 8, 14), (0, 8, 13), (0, 8, 12), (0, 8, 11), (0, 8, 10), (0, 8, 9), (0, 8, 8), (0, 8, 7), (0, 8, 6), (0, 8, 5), (0, 8, 4), (0, 8, 3), (0, 8, 2), (0, 8, 1)] [] [])) B (lKA (hk_K hK 0 rfl rfl)) wI_ap dX8_tick_35 ?_
  refine z_aload_n B dX8_tick_38 rfl 1 rfl ?_
  refine z_cVv (As := []) (rest := []) B cw_X8_240 cx_9 dX8_tick_39 (ci_X8_passTasks_920 l (σ := (ap b σ [(0, 8, 22), (0, 8, 21), (0, 8, 20), (0, 8, 19), (0, 8, 18), (0, 8, 17), (0, 8, 16), (0, 8, 15), (0, 8, 14), (0, 8, 13), (0, 8, 12), (0, 8, 11), (0, 8, 10), (0, 8, 9), (0, 8, 8), (0, 8, 7), (0, 8, 6), (0, 8, 5), (0, 8, 4), (0, 8, 3), (0, 8, 2), (0, 8, 1)] [] [])) (b := b) (lyA hK) (rI_at 4 2 hI_4_2) (rR_at 0 3 hR_0_3)) (lKA (hk_K hK 0 rfl rfl)) rfl (by decide) rfl (Nat.le_of_ble_eq_true rfl) (by decide) (fun u hu => ?_)
  refine z_eqs (σ' := (ap b σ [(0, 8, 22), (0, 8, 21), (0, 8, 20), (0, 8, 19), (0, 8, 18), (0, 8, 17), (0, 8, 16), (0, 8, 15), (0, 8, 14), (0, 8, 13), (0, 8, 12), (0, 8, 11), (0, 8, 10), (0, 8, 9), (0, 8, 8), (0, 8, 7), (0, 8, 6), (0, 8, 5), (0, 8, 4), (0, 8, 3), (0, 8, 2), (0, 8, 1)] [] [])) hu ?_
  show zx p l e _ s m _ below meth c g 3 0 0 _ _ 42 [(2, .int 21), (0, .ref (b + 0)), (1, .int 38)] _
  refine z_aload_n B dX8_tick_42 rfl 1 rfl ?_
  refine z_cVv (As := []) (rest := []) B cw_X8_243 cx_9 dX8_tick_43 (ci_X8_passTimers_921 l (σ := (ap b σ [(0, 8, 22), (0, 8, 21), (0, 8, 20), (0, 8, 19), (0, 8, 18), (0, 8, 17), (0, 8, 16), (0, 8, 15), (0, 8, 14), (0, 8, 13), (0, 8, 12), (0, 8, 11), (0, 8, 10), (0, 8, 9), (0, 8, 8), (0, 8, 7), (0, 8, 6), (0, 8, 5), (0, 8, 4), (0, 8, 3), (0, 8, 2), (0, 8, 1)] [] [])) (b := b) (lyA hK) (rI_at 0 7 hI_0_7)) (lKA (hk_K hK 0 rfl rfl)) rfl (by decide) rfl (Nat.le_of_ble_eq_true rfl) (by decide) (fun u hu => ?_)
  refine z_eqs (σ' := (ap b σ [(0, 8, 22), (0, 8, 21), (0, 8, 20), (0, 8, 19), (0, 8, 18), (0, 8, 17), (0, 8, 16), (0, 8, 15), (0, 8, 14), (0, 8, 13), (0, 8, 12), (0, 8, 11), (0, 8, 10), (0, 8, 9), (0, 8, 8), (0, 8, 7), (0, 8, 6), (0, 8, 5), (0, 8, 4), (0, 8, 3), (0, 8, 2), (0, 8, 1)] [] [])) hu ?_
  show zx p l e _ s m _ below meth c g 3 0 0 _ _ 46 [(2, .int 21), (0, .ref (b + 0)), (1, .int 38)] _
  refine z_iinc (v := 22) (lv' := [(2, .int 22), (0, .ref (b + 0)), (1, .int 38)]) B dX8_tick_46 0 rfl (by decide) (by decide) rfl ?_
  refine z_goto (tgt := 23) B dX8_tick_49 (by decide) ?_
  refine z_iload_n B dX8_tick_23 rfl 0 rfl ?_
  refine z_iload_n B dX8_tick_24 rfl 2 rfl ?_
  refine z_icmp_ge (tgt := 52) B dX8_tick_25 (by decide) (fun h => absurd h (by decide)) (fun _ => ?_)
  refine z_aload_n B dX8_tick_28 rfl 1 rfl ?_
  refine z_dup B dX8_tick_29 rfl ?_
  refine gf_X8_206 (x := 22) B (lKA (hk_K hK 0 rfl rfl)) (rI_at 0 8 rfl) dX8_tick_30 ?_
  refine z_iconst (v := 1) B dX8_tick_33 (by decide) ?_
  refine z_iadd B dX8_tick_34 ?_
  refine z_seti (y := 23) (by decide) ?_
  refine pf_X8_206 (x := 23) (σ' := (ap b σ [(0, 8, 23), (0, 8, 22), (0, 8, 21), (0, 8, 20), (0, 8, 19), (0, 8, 18), (0, 8, 17), (0, 8, 16), (0, 8, 15), (0, 8, 14), (0, 8, 13), (0, 8, 12), (0, 8, 11), (0, 8, 10), (0, 8, 9), (0, 8, 8), (0, 8, 7), (0, 8, 6), (0, 8, 5), (0, 8, 4), (0, 8, 3), (0, 8, 2), (0, 8, 1)] [] [])) B (lKA (hk_K hK 0 rfl rfl)) wI_ap dX8_tick_35 ?_
  refine z_aload_n B dX8_tick_38 rfl 1 rfl ?_
  refine z_cVv (As := []) (rest := []) B cw_X8_240 cx_9 dX8_tick_39 (ci_X8_passTasks_920 l (σ := (ap b σ [(0, 8, 23), (0, 8, 22), (0, 8, 21), (0, 8, 20), (0, 8, 19), (0, 8, 18), (0, 8, 17), (0, 8, 16), (0, 8, 15), (0, 8, 14), (0, 8, 13), (0, 8, 12), (0, 8, 11), (0, 8, 10), (0, 8, 9), (0, 8, 8), (0, 8, 7), (0, 8, 6), (0, 8, 5), (0, 8, 4), (0, 8, 3), (0, 8, 2), (0, 8, 1)] [] [])) (b := b) (lyA hK) (rI_at 4 2 hI_4_2) (rR_at 0 3 hR_0_3)) (lKA (hk_K hK 0 rfl rfl)) rfl (by decide) rfl (Nat.le_of_ble_eq_true rfl) (by decide) (fun u hu => ?_)
  refine z_eqs (σ' := (ap b σ [(0, 8, 23), (0, 8, 22), (0, 8, 21), (0, 8, 20), (0, 8, 19), (0, 8, 18), (0, 8, 17), (0, 8, 16), (0, 8, 15), (0, 8, 14), (0, 8, 13), (0, 8, 12), (0, 8, 11), (0, 8, 10), (0, 8, 9), (0, 8, 8), (0, 8, 7), (0, 8, 6), (0, 8, 5), (0, 8, 4), (0, 8, 3), (0, 8, 2), (0, 8, 1)] [] [])) hu ?_
  show zx p l e _ s m _ below meth c g 3 0 0 _ _ 42 [(2, .int 22), (0, .ref (b + 0)), (1, .int 38)] _
  refine z_aload_n B dX8_tick_42 rfl 1 rfl ?_
  refine z_cVv (As := []) (rest := []) B cw_X8_243 cx_9 dX8_tick_43 (ci_X8_passTimers_921 l (σ := (ap b σ [(0, 8, 23), (0, 8, 22), (0, 8, 21), (0, 8, 20), (0, 8, 19), (0, 8, 18), (0, 8, 17), (0, 8, 16), (0, 8, 15), (0, 8, 14), (0, 8, 13), (0, 8, 12), (0, 8, 11), (0, 8, 10), (0, 8, 9), (0, 8, 8), (0, 8, 7), (0, 8, 6), (0, 8, 5), (0, 8, 4), (0, 8, 3), (0, 8, 2), (0, 8, 1)] [] [])) (b := b) (lyA hK) (rI_at 0 7 hI_0_7)) (lKA (hk_K hK 0 rfl rfl)) rfl (by decide) rfl (Nat.le_of_ble_eq_true rfl) (by decide) (fun u hu => ?_)
  refine z_eqs (σ' := (ap b σ [(0, 8, 23), (0, 8, 22), (0, 8, 21), (0, 8, 20), (0, 8, 19), (0, 8, 18), (0, 8, 17), (0, 8, 16), (0, 8, 15), (0, 8, 14), (0, 8, 13), (0, 8, 12), (0, 8, 11), (0, 8, 10), (0, 8, 9), (0, 8, 8), (0, 8, 7), (0, 8, 6), (0, 8, 5), (0, 8, 4), (0, 8, 3), (0, 8, 2), (0, 8, 1)] [] [])) hu ?_
  show zx p l e _ s m _ below meth c g 3 0 0 _ _ 46 [(2, .int 22), (0, .ref (b + 0)), (1, .int 38)] _
  refine z_iinc (v := 23) (lv' := [(2, .int 23), (0, .ref (b + 0)), (1, .int 38)]) B dX8_tick_46 0 rfl (by decide) (by decide) rfl ?_
  refine z_goto (tgt := 23) B dX8_tick_49 (by decide) ?_
  refine z_iload_n B dX8_tick_23 rfl 0 rfl ?_
  refine z_iload_n B dX8_tick_24 rfl 2 rfl ?_
  refine z_icmp_ge (tgt := 52) B dX8_tick_25 (by decide) (fun h => absurd h (by decide)) (fun _ => ?_)
  refine z_aload_n B dX8_tick_28 rfl 1 rfl ?_
  refine z_dup B dX8_tick_29 rfl ?_
  refine gf_X8_206 (x := 23) B (lKA (hk_K hK 0 rfl rfl)) (rI_at 0 8 rfl) dX8_tick_30 ?_
  refine z_iconst (v := 1) B dX8_tick_33 (by decide) ?_
  refine z_iadd B dX8_tick_34 ?_
  refine z_seti (y := 24) (by decide) ?_
  refine pf_X8_206 (x := 24) (σ' := (ap b σ [(0, 8, 24), (0, 8, 23), (0, 8, 22), (0, 8, 21), (0, 8, 20), (0, 8, 19), (0, 8, 18), (0, 8, 17), (0, 8, 16), (0, 8, 15), (0, 8, 14), (0, 8, 13), (0, 8, 12), (0, 8, 11), (0, 8, 10), (0, 8, 9), (0, 8, 8), (0, 8, 7), (0, 8, 6), (0, 8, 5), (0, 8, 4), (0, 8, 3), (0, 8, 2), (0, 8, 1)] [] [])) B (lKA (hk_K hK 0 rfl rfl)) wI_ap dX8_tick_35 ?_
  refine z_aload_n B dX8_tick_38 rfl 1 rfl ?_
  refine z_cVv (As := []) (rest := []) B cw_X8_240 cx_9 dX8_tick_39 (ci_X8_passTasks_920 l (σ := (ap b σ [(0, 8, 24), (0, 8, 23), (0, 8, 22), (0, 8, 21), (0, 8, 20), (0, 8, 19), (0, 8, 18), (0, 8, 17), (0, 8, 16), (0, 8, 15), (0, 8, 14), (0, 8, 13), (0, 8, 12), (0, 8, 11), (0, 8, 10), (0, 8, 9), (0, 8, 8), (0, 8, 7), (0, 8, 6), (0, 8, 5), (0, 8, 4), (0, 8, 3), (0, 8, 2), (0, 8, 1)] [] [])) (b := b) (lyA hK) (rI_at 4 2 hI_4_2) (rR_at 0 3 hR_0_3)) (lKA (hk_K hK 0 rfl rfl)) rfl (by decide) rfl (Nat.le_of_ble_eq_true rfl) (by decide) (fun u hu => ?_)
  refine z_eqs (σ' := (ap b σ [(0, 8, 24), (0, 8, 23), (0, 8, 22), (0, 8, 21), (0, 8, 20), (0, 8, 19), (0, 8, 18), (0, 8, 17), (0, 8, 16), (0, 8, 15), (0, 8, 14), (0, 8, 13), (0, 8, 12), (0, 8, 11), (0, 8, 10), (0, 8, 9), (0, 8, 8), (0, 8, 7), (0, 8, 6), (0, 8, 5), (0, 8, 4), (0, 8, 3), (0, 8, 2), (0, 8, 1)] [] [])) hu ?_
  show zx p l e _ s m _ below meth c g 3 0 0 _ _ 42 [(2, .int 23), (0, .ref (b + 0)), (1, .int 38)] _
  refine z_aload_n B dX8_tick_42 rfl 1 rfl ?_
  refine z_cVv (As := []) (rest := []) B cw_X8_243 cx_9 dX8_tick_43 (ci_X8_passTimers_921 l (σ := (ap b σ [(0, 8, 24), (0, 8, 23), (0, 8, 22), (0, 8, 21), (0, 8, 20), (0, 8, 19), (0, 8, 18), (0, 8, 17), (0, 8, 16), (0, 8, 15), (0, 8, 14), (0, 8, 13), (0, 8, 12), (0, 8, 11), (0, 8, 10), (0, 8, 9), (0, 8, 8), (0, 8, 7), (0, 8, 6), (0, 8, 5), (0, 8, 4), (0, 8, 3), (0, 8, 2), (0, 8, 1)] [] [])) (b := b) (lyA hK) (rI_at 0 7 hI_0_7)) (lKA (hk_K hK 0 rfl rfl)) rfl (by decide) rfl (Nat.le_of_ble_eq_true rfl) (by decide) (fun u hu => ?_)
  refine z_eqs (σ' := (ap b σ [(0, 8, 24), (0, 8, 23), (0, 8, 22), (0, 8, 21), (0, 8, 20), (0, 8, 19), (0, 8, 18), (0, 8, 17), (0, 8, 16), (0, 8, 15), (0, 8, 14), (0, 8, 13), (0, 8, 12), (0, 8, 11), (0, 8, 10), (0, 8, 9), (0, 8, 8), (0, 8, 7), (0, 8, 6), (0, 8, 5), (0, 8, 4), (0, 8, 3), (0, 8, 2), (0, 8, 1)] [] [])) hu ?_
  show zx p l e _ s m _ below meth c g 3 0 0 _ _ 46 [(2, .int 23), (0, .ref (b + 0)), (1, .int 38)] _
  refine z_iinc (v := 24) (lv' := [(2, .int 24), (0, .ref (b + 0)), (1, .int 38)]) B dX8_tick_46 0 rfl (by decide) (by decide) rfl ?_
  refine z_goto (tgt := 23) B dX8_tick_49 (by decide) ?_
  refine z_iload_n B dX8_tick_23 rfl 0 rfl ?_
  refine z_iload_n B dX8_tick_24 rfl 2 rfl ?_
  refine z_icmp_ge (tgt := 52) B dX8_tick_25 (by decide) (fun h => absurd h (by decide)) (fun _ => ?_)
  refine z_aload_n B dX8_tick_28 rfl 1 rfl ?_
  refine z_dup B dX8_tick_29 rfl ?_
  refine gf_X8_206 (x := 24) B (lKA (hk_K hK 0 rfl rfl)) (rI_at 0 8 rfl) dX8_tick_30 ?_
  refine z_iconst (v := 1) B dX8_tick_33 (by decide) ?_
  refine z_iadd B dX8_tick_34 ?_
  refine z_seti (y := 25) (by decide) ?_
  refine pf_X8_206 (x := 25) (σ' := (ap b σ [(0, 8, 25), (0, 8, 24), (0, 8, 23), (0, 8, 22), (0, 8, 21), (0, 8, 20), (0, 8, 19), (0, 8, 18), (0, 8, 17), (0, 8, 16), (0, 8, 15), (0, 8, 14), (0, 8, 13), (0, 8, 12), (0, 8, 11), (0, 8, 10), (0, 8, 9), (0, 8, 8), (0, 8, 7), (0, 8, 6), (0, 8, 5), (0, 8, 4), (0, 8, 3), (0, 8, 2), (0, 8, 1)] [] [])) B (lKA (hk_K hK 0 rfl rfl)) wI_ap dX8_tick_35 ?_
  refine z_aload_n B dX8_tick_38 rfl 1 rfl ?_
  refine z_cVv (As := []) (rest := []) B cw_X8_240 cx_9 dX8_tick_39 (ci_X8_passTasks_920 l (σ := (ap b σ [(0, 8, 25), (0, 8, 24), (0, 8, 23), (0, 8, 22), (0, 8, 21), (0, 8, 20), (0, 8, 19), (0, 8, 18), (0, 8, 17), (0, 8, 16), (0, 8, 15), (0, 8, 14), (0, 8, 13), (0, 8, 12), (0, 8, 11), (0, 8, 10), (0, 8, 9), (0, 8, 8), (0, 8, 7), (0, 8, 6), (0, 8, 5), (0, 8, 4), (0, 8, 3), (0, 8, 2), (0, 8, 1)] [] [])) (b := b) (lyA hK) (rI_at 4 2 hI_4_2) (rR_at 0 3 hR_0_3)) (lKA (hk_K hK 0 rfl rfl)) rfl (by decide) rfl (Nat.le_of_ble_eq_true rfl) (by decide) (fun u hu => ?_)
  refine z_eqs (σ' := (ap b σ [(0, 8, 25), (0, 8, 24), (0, 8, 23), (0, 8, 22), (0, 8, 21), (0, 8, 20), (0, 8, 19), (0, 8, 18), (0, 8, 17), (0, 8, 16), (0, 8, 15), (0, 8, 14), (0, 8, 13), (0, 8, 12), (0, 8, 11), (0, 8, 10), (0, 8, 9), (0, 8, 8), (0, 8, 7), (0, 8, 6), (0, 8, 5), (0, 8, 4), (0, 8, 3), (0, 8, 2), (0, 8, 1)] [] [])) hu ?_
  show zx p l e _ s m _ below meth c g 3 0 0 _ _ 42 [(2, .int 24), (0, .ref (b + 0)), (1, .int 38)] _
  refine z_aload_n B dX8_tick_42 rfl 1 rfl ?_
  refine z_cVv (As := []) (rest := []) B cw_X8_243 cx_9 dX8_tick_43 (ci_X8_passTimers_921 l (σ := (ap b σ [(0, 8, 25), (0, 8, 24), (0, 8, 23), (0, 8, 22), (0, 8, 21), (0, 8, 20), (0, 8, 19), (0, 8, 18), (0, 8, 17), (0, 8, 16), (0, 8, 15), (0, 8, 14), (0, 8, 13), (0, 8, 12), (0, 8, 11), (0, 8, 10), (0, 8, 9), (0, 8, 8), (0, 8, 7), (0, 8, 6), (0, 8, 5), (0, 8, 4), (0, 8, 3), (0, 8, 2), (0, 8, 1)] [] [])) (b := b) (lyA hK) (rI_at 0 7 hI_0_7)) (lKA (hk_K hK 0 rfl rfl)) rfl (by decide) rfl (Nat.le_of_ble_eq_true rfl) (by decide) (fun u hu => ?_)
  refine z_eqs (σ' := (ap b σ [(0, 8, 25), (0, 8, 24), (0, 8, 23), (0, 8, 22), (0, 8, 21), (0, 8, 20), (0, 8, 19), (0, 8, 18), (0, 8, 17), (0, 8, 16), (0, 8, 15), (0, 8, 14), (0, 8, 13), (0, 8, 12), (0, 8, 11), (0, 8, 10), (0, 8, 9), (0, 8, 8), (0, 8, 7), (0, 8, 6), (0, 8, 5), (0, 8, 4), (0, 8, 3), (0, 8, 2), (0, 8, 1)] [] [])) hu ?_
  show zx p l e _ s m _ below meth c g 3 0 0 _ _ 46 [(2, .int 24), (0, .ref (b + 0)), (1, .int 38)] _
  refine z_iinc (v := 25) (lv' := [(2, .int 25), (0, .ref (b + 0)), (1, .int 38)]) B dX8_tick_46 0 rfl (by decide) (by decide) rfl ?_
  refine z_goto (tgt := 23) B dX8_tick_49 (by decide) ?_
  refine z_iload_n B dX8_tick_23 rfl 0 rfl ?_
  refine z_iload_n B dX8_tick_24 rfl 2 rfl ?_
  refine z_icmp_ge (tgt := 52) B dX8_tick_25 (by decide) (fun h => absurd h (by decide)) (fun _ => ?_)
  refine z_aload_n B dX8_tick_28 rfl 1 rfl ?_
  refine z_dup B dX8_tick_29 rfl ?_
  refine gf_X8_206 (x := 25) B (lKA (hk_K hK 0 rfl rfl)) (rI_at 0 8 rfl) dX8_tick_30 ?_
  refine z_iconst (v := 1) B dX8_tick_33 (by decide) ?_
  refine z_iadd B dX8_tick_34 ?_
  refine z_seti (y := 26) (by decide) ?_
  refine pf_X8_206 (x := 26) (σ' := (ap b σ [(0, 8, 26), (0, 8, 25), (0, 8, 24), (0, 8, 23), (0, 8, 22), (0, 8, 21), (0, 8, 20), (0, 8, 19), (0, 8, 18), (0, 8, 17), (0, 8, 16), (0, 8, 15), (0, 8, 14), (0, 8, 13), (0, 8, 12), (0, 8, 11), (0, 8, 10), (0, 8, 9), (0, 8, 8), (0, 8, 7), (0, 8, 6), (0, 8, 5), (0, 8, 4), (0, 8, 3), (0, 8, 2), (0, 8, 1)] [] [])) B (lKA (hk_K hK 0 rfl rfl)) wI_ap dX8_tick_35 ?_
  refine z_aload_n B dX8_tick_38 rfl 1 rfl ?_
  refine z_cVv (As := []) (rest := []) B cw_X8_240 cx_9 dX8_tick_39 (ci_X8_passTasks_920 l (σ := (ap b σ [(0, 8, 26), (0, 8, 25), (0, 8, 24), (0, 8, 23), (0, 8, 22), (0, 8, 21), (0, 8, 20), (0, 8, 19), (0, 8, 18), (0, 8, 17), (0, 8, 16), (0, 8, 15), (0, 8, 14), (0, 8, 13), (0, 8, 12), (0, 8, 11), (0, 8, 10), (0, 8, 9), (0, 8, 8), (0, 8, 7), (0, 8, 6), (0, 8, 5), (0, 8, 4), (0, 8, 3), (0, 8, 2), (0, 8, 1)] [] [])) (b := b) (lyA hK) (rI_at 4 2 hI_4_2) (rR_at 0 3 hR_0_3)) (lKA (hk_K hK 0 rfl rfl)) rfl (by decide) rfl (Nat.le_of_ble_eq_true rfl) (by decide) (fun u hu => ?_)
  refine z_eqs (σ' := (ap b σ [(0, 8, 26), (0, 8, 25), (0, 8, 24), (0, 8, 23), (0, 8, 22), (0, 8, 21), (0, 8, 20), (0, 8, 19), (0, 8, 18), (0, 8, 17), (0, 8, 16), (0, 8, 15), (0, 8, 14), (0, 8, 13), (0, 8, 12), (0, 8, 11), (0, 8, 10), (0, 8, 9), (0, 8, 8), (0, 8, 7), (0, 8, 6), (0, 8, 5), (0, 8, 4), (0, 8, 3), (0, 8, 2), (0, 8, 1)] [] [])) hu ?_
  show zx p l e _ s m _ below meth c g 3 0 0 _ _ 42 [(2, .int 25), (0, .ref (b + 0)), (1, .int 38)] _
  refine z_aload_n B dX8_tick_42 rfl 1 rfl ?_
  refine z_cVv (As := []) (rest := []) B cw_X8_243 cx_9 dX8_tick_43 (ci_X8_passTimers_921 l (σ := (ap b σ [(0, 8, 26), (0, 8, 25), (0, 8, 24), (0, 8, 23), (0, 8, 22), (0, 8, 21), (0, 8, 20), (0, 8, 19), (0, 8, 18), (0, 8, 17), (0, 8, 16), (0, 8, 15), (0, 8, 14), (0, 8, 13), (0, 8, 12), (0, 8, 11), (0, 8, 10), (0, 8, 9), (0, 8, 8), (0, 8, 7), (0, 8, 6), (0, 8, 5), (0, 8, 4), (0, 8, 3), (0, 8, 2), (0, 8, 1)] [] [])) (b := b) (lyA hK) (rI_at 0 7 hI_0_7)) (lKA (hk_K hK 0 rfl rfl)) rfl (by decide) rfl (Nat.le_of_ble_eq_true rfl) (by decide) (fun u hu => ?_)
  refine z_eqs (σ' := (ap b σ [(0, 8, 26), (0, 8, 25), (0, 8, 24), (0, 8, 23), (0, 8, 22), (0, 8, 21), (0, 8, 20), (0, 8, 19), (0, 8, 18), (0, 8, 17), (0, 8, 16), (0, 8, 15), (0, 8, 14), (0, 8, 13), (0, 8, 12), (0, 8, 11), (0, 8, 10), (0, 8, 9), (0, 8, 8), (0, 8, 7), (0, 8, 6), (0, 8, 5), (0, 8, 4), (0, 8, 3), (0, 8, 2), (0, 8, 1)] [] [])) hu ?_
  show zx p l e _ s m _ below meth c g 3 0 0 _ _ 46 [(2, .int 25), (0, .ref (b + 0)), (1, .int 38)] _
  refine z_iinc (v := 26) (lv' := [(2, .int 26), (0, .ref (b + 0)), (1, .int 38)]) B dX8_tick_46 0 rfl (by decide) (by decide) rfl ?_
  refine z_goto (tgt := 23) B dX8_tick_49 (by decide) ?_
  refine z_iload_n B dX8_tick_23 rfl 0 rfl ?_
  refine z_iload_n B dX8_tick_24 rfl 2 rfl ?_
  refine z_icmp_ge (tgt := 52) B dX8_tick_25 (by decide) (fun h => absurd h (by decide)) (fun _ => ?_)
  refine z_aload_n B dX8_tick_28 rfl 1 rfl ?_
  refine z_dup B dX8_tick_29 rfl ?_
  refine gf_X8_206 (x := 26) B (lKA (hk_K hK 0 rfl rfl)) (rI_at 0 8 rfl) dX8_tick_30 ?_
  refine z_iconst (v := 1) B dX8_tick_33 (by decide) ?_
  refine z_iadd B dX8_tick_34 ?_
  refine z_seti (y := 27) (by decide) ?_
  refine pf_X8_206 (x := 27) (σ' := (ap b σ [(0, 8, 27), (0, 8, 26), (0, 8, 25), (0, 8, 24), (0, 8, 23), (0, 8, 22), (0, 8, 21), (0, 8, 20), (0, 8, 19), (0, 8, 18), (0, 8, 17), (0, 8, 16), (0, 8, 15), (0, 8, 14), (0, 8, 13), (0, 8, 12), (0, 8, 11), (0, 8, 10), (0, 8, 9), (0, 8, 8), (0, 8, 7), (0, 8, 6), (0, 8, 5), (0, 8, 4), (0, 8, 3), (0, 8, 2), (0, 8, 1)] [] [])) B (lKA (hk_K hK 0 rfl rfl)) wI_ap dX8_tick_35 ?_
  refine z_aload_n B dX8_tick_38 rfl 1 rfl ?_
  refine z_cVv (As := []) (rest := []) B cw_X8_240 cx_9 dX8_tick_39 (ci_X8_passTasks_920 l (σ := (ap b σ [(0, 8, 27), (0, 8, 26), (0, 8, 25), (0, 8, 24), (0, 8, 23), (0, 8, 22), (0, 8, 21), (0, 8, 20), (0, 8, 19), (0, 8, 18), (0, 8, 17), (0, 8, 16), (0, 8, 15), (0, 8, 14), (0, 8, 13), (0, 8, 12), (0, 8, 11), (0, 8, 10), (0, 8, 9), (0, 8, 8), (0, 8, 7), (0, 8, 6), (0, 8, 5), (0, 8, 4), (0, 8, 3), (0, 8, 2), (0, 8, 1)] [] [])) (b := b) (lyA hK) (rI_at 4 2 hI_4_2) (rR_at 0 3 hR_0_3)) (lKA (hk_K hK 0 rfl rfl)) rfl (by decide) rfl (Nat.le_of_ble_eq_true rfl) (by decide) (fun u hu => ?_)
  refine z_eqs (σ' := (ap b σ [(0, 8, 27), (0, 8, 26), (0, 8, 25), (0, 8, 24), (0, 8, 23), (0, 8, 22), (0, 8, 21), (0, 8, 20), (0, 8, 19), (0, 8, 18), (0, 8, 17), (0, 8, 16), (0, 8, 15), (0, 8, 14), (0, 8, 13), (0, 8, 12), (0, 8, 11), (0, 8, 10), (0, 8, 9), (0, 8, 8), (0, 8, 7), (0, 8, 6), (0, 8, 5), (0, 8, 4), (0, 8, 3), (0, 8, 2), (0, 8, 1)] [] [])) hu ?_
  show zx p l e _ s m _ below meth c g 3 0 0 _ _ 42 [(2, .int 26), (0, .ref (b + 0)), (1, .int 38)] _
  refine z_aload_n B dX8_tick_42 rfl 1 rfl ?_
  refine z_cVv (As := []) (rest := []) B cw_X8_243 cx_9 dX8_tick_43 (ci_X8_passTimers_921 l (σ := (ap b σ [(0, 8, 27), (0, 8, 26), (0, 8, 25), (0, 8, 24), (0, 8, 23), (0, 8, 22), (0, 8, 21), (0, 8, 20), (0, 8, 19), (0, 8, 18), (0, 8, 17), (0, 8, 16), (0, 8, 15), (0, 8, 14), (0, 8, 13), (0, 8, 12), (0, 8, 11), (0, 8, 10), (0, 8, 9), (0, 8, 8), (0, 8, 7), (0, 8, 6), (0, 8, 5), (0, 8, 4), (0, 8, 3), (0, 8, 2), (0, 8, 1)] [] [])) (b := b) (lyA hK) (rI_at 0 7 hI_0_7)) (lKA (hk_K hK 0 rfl rfl)) rfl (by decide) rfl (Nat.le_of_ble_eq_true rfl) (by decide) (fun u hu => ?_)
  refine z_eqs (σ' := (ap b σ [(0, 8, 27), (0, 8, 26), (0, 8, 25), (0, 8, 24), (0, 8, 23), (0, 8, 22), (0, 8, 21), (0, 8, 20), (0, 8, 19), (0, 8, 18), (0, 8, 17), (0, 8, 16), (0, 8, 15), (0, 8, 14), (0, 8, 13), (0, 8, 12), (0, 8, 11), (0, 8, 10), (0, 8, 9), (0, 8, 8), (0, 8, 7), (0, 8, 6), (0, 8, 5), (0, 8, 4), (0, 8, 3), (0, 8, 2), (0, 8, 1)] [] [])) hu ?_
  show zx p l e _ s m _ below meth c g 3 0 0 _ _ 46 [(2, .int 26), (0, .ref (b + 0)), (1, .int 38)] _
  refine z_iinc (v := 27) (lv' := [(2, .int 27), (0, .ref (b + 0)), (1, .int 38)]) B dX8_tick_46 0 rfl (by decide) (by decide) rfl ?_
  refine z_goto (tgt := 23) B dX8_tick_49 (by decide) ?_
  refine z_iload_n B dX8_tick_23 rfl 0 rfl ?_
  refine z_iload_n B dX8_tick_24 rfl 2 rfl ?_
  refine z_icmp_ge (tgt := 52) B dX8_tick_25 (by decide) (fun h => absurd h (by decide)) (fun _ => ?_)
  refine z_aload_n B dX8_tick_28 rfl 1 rfl ?_
  refine z_dup B dX8_tick_29 rfl ?_
  refine gf_X8_206 (x := 27) B (lKA (hk_K hK 0 rfl rfl)) (rI_at 0 8 rfl) dX8_tick_30 ?_
  refine z_iconst (v := 1) B dX8_tick_33 (by decide) ?_
  refine z_iadd B dX8_tick_34 ?_
  refine z_seti (y := 28) (by decide) ?_
  refine pf_X8_206 (x := 28) (σ' := (ap b σ [(0, 8, 28), (0, 8, 27), (0, 8, 26), (0, 8, 25), (0, 8, 24), (0, 8, 23), (0, 8, 22), (0, 8, 21), (0, 8, 20), (0, 8, 19), (0, 8, 18), (0, 8, 17), (0, 8, 16), (0, 8, 15), (0, 8, 14), (0, 8, 13), (0, 8, 12), (0, 8, 11), (0, 8, 10), (0, 8, 9), (0, 8, 8), (0, 8, 7), (0, 8, 6), (0, 8, 5), (0, 8, 4), (0, 8, 3), (0, 8, 2), (0, 8, 1)] [] [])) B (lKA (hk_K hK 0 rfl rfl)) wI_ap dX8_tick_35 ?_
  refine z_aload_n B dX8_tick_38 rfl 1 rfl ?_
  refine z_cVv (As := []) (rest := []) B cw_X8_240 cx_9 dX8_tick_39 (ci_X8_passTasks_920 l (σ := (ap b σ [(0, 8, 28), (0, 8, 27), (0, 8, 26), (0, 8, 25), (0, 8, 24), (0, 8, 23), (0, 8, 22), (0, 8, 21), (0, 8, 20), (0, 8, 19), (0, 8, 18), (0, 8, 17), (0, 8, 16), (0, 8, 15), (0, 8, 14), (0, 8, 13), (0, 8, 12), (0, 8, 11), (0, 8, 10), (0, 8, 9), (0, 8, 8), (0, 8, 7), (0, 8, 6), (0, 8, 5), (0, 8, 4), (0, 8, 3), (0, 8, 2), (0, 8, 1)] [] [])) (b := b) (lyA hK) (rI_at 4 2 hI_4_2) (rR_at 0 3 hR_0_3)) (lKA (hk_K hK 0 rfl rfl)) rfl (by decide) rfl (Nat.le_of_ble_eq_true rfl) (by decide) (fun u hu => ?_)
  refine z_eqs (σ' := (ap b σ [(0, 8, 28), (0, 8, 27), (0, 8, 26), (0, 8, 25), (0, 8, 24), (0, 8, 23), (0, 8, 22), (0, 8, 21), (0, 8, 20), (0, 8, 19), (0, 8, 18), (0, 8, 17), (0, 8, 16), (0, 8, 15), (0, 8, 14), (0, 8, 13), (0, 8, 12), (0, 8, 11), (0, 8, 10), (0, 8, 9), (0, 8, 8), (0, 8, 7), (0, 8, 6), (0, 8, 5), (0, 8, 4), (0, 8, 3), (0, 8, 2), (0, 8, 1)] [] [])) hu ?_
  show zx p l e _ s m _ below meth c g 3 0 0 _ _ 42 [(2, .int 27), (0, .ref (b + 0)), (1, .int 38)] _
  refine z_aload_n B dX8_tick_42 rfl 1 rfl ?_
  refine z_cVv (As := []) (rest := []) B cw_X8_243 cx_9 dX8_tick_43 (ci_X8_passTimers_921 l (σ := (ap b σ [(0, 8, 28), (0, 8, 27), (0, 8, 26), (0, 8, 25), (0, 8, 24), (0, 8, 23), (0, 8, 22), (0, 8, 21), (0, 8, 20), (0, 8, 19), (0, 8, 18), (0, 8, 17), (0, 8, 16), (0, 8, 15), (0, 8, 14), (0, 8, 13), (0, 8, 12), (0, 8, 11), (0, 8, 10), (0, 8, 9), (0, 8, 8), (0, 8, 7), (0, 8, 6), (0, 8, 5), (0, 8, 4), (0, 8, 3), (0, 8, 2), (0, 8, 1)] [] [])) (b := b) (lyA hK) (rI_at 0 7 hI_0_7)) (lKA (hk_K hK 0 rfl rfl)) rfl (by decide) rfl (Nat.le_of_ble_eq_true rfl) (by decide) (fun u hu => ?_)
  refine z_eqs (σ' := (ap b σ [(0, 8, 28), (0, 8, 27), (0, 8, 26), (0, 8, 25), (0, 8, 24), (0, 8, 23), (0, 8, 22), (0, 8, 21), (0, 8, 20), (0, 8, 19), (0, 8, 18), (0, 8, 17), (0, 8, 16), (0, 8, 15), (0, 8, 14), (0, 8, 13), (0, 8, 12), (0, 8, 11), (0, 8, 10), (0, 8, 9), (0, 8, 8), (0, 8, 7), (0, 8, 6), (0, 8, 5), (0, 8, 4), (0, 8, 3), (0, 8, 2), (0, 8, 1)] [] [])) hu ?_
  show zx p l e _ s m _ below meth c g 3 0 0 _ _ 46 [(2, .int 27), (0, .ref (b + 0)), (1, .int 38)] _
  refine z_iinc (v := 28) (lv' := [(2, .int 28), (0, .ref (b + 0)), (1, .int 38)]) B dX8_tick_46 0 rfl (by decide) (by decide) rfl ?_
  refine z_goto (tgt := 23) B dX8_tick_49 (by decide) ?_
  refine z_iload_n B dX8_tick_23 rfl 0 rfl ?_
  refine z_iload_n B dX8_tick_24 rfl 2 rfl ?_
  refine z_icmp_ge (tgt := 52) B dX8_tick_25 (by decide) (fun h => absurd h (by decide)) (fun _ => ?_)
  refine z_aload_n B dX8_tick_28 rfl 1 rfl ?_
  refine z_dup B dX8_tick_29 rfl ?_
  refine gf_X8_206 (x := 28) B (lKA (hk_K hK 0 rfl rfl)) (rI_at 0 8 rfl) dX8_tick_30 ?_
  refine z_iconst (v := 1) B dX8_tick_33 (by decide) ?_
  refine z_iadd B dX8_tick_34 ?_
  refine z_seti (y := 29) (by decide) ?_
  refine pf_X8_206 (x := 29) (σ' := (ap b σ [(0, 8, 29), (0, 8, 28), (0, 8, 27), (0, 8, 26), (0, 8, 25), (0, 8, 24), (0, 8, 23), (0, 8, 22), (0, 8, 21), (0, 8, 20), (0, 8, 19), (0, 8, 18), (0, 8, 17), (0, 8, 16), (0, 8, 15), (0, 8, 14), (0, 8, 13), (0, 8, 12), (0, 8, 11), (0, 8, 10), (0, 8, 9), (0, 8, 8), (0, 8, 7), (0, 8, 6), (0, 8, 5), (0, 8, 4), (0, 8, 3), (0, 8, 2), (0, 8, 1)] [] [])) B (lKA (hk_K hK 0 rfl rfl)) wI_ap dX8_tick_35 ?_
  refine z_aload_n B dX8_tick_38 rfl 1 rfl ?_
  refine z_cVv (As := []) (rest := []) B cw_X8_240 cx_9 dX8_tick_39 (ci_X8_passTasks_920 l (σ := (ap b σ [(0, 8, 29), (0, 8, 28), (0, 8, 27), (0, 8, 26), (0, 8, 25), (0, 8, 24), (0, 8, 23), (0, 8, 22), (0, 8, 21), (0, 8, 20), (0, 8, 19), (0, 8, 18), (0, 8, 17), (0, 8, 16), (0, 8, 15), (0, 8, 14), (0, 8, 13), (0, 8, 12), (0, 8, 11), (0, 8, 10), (0, 8, 9), (0, 8, 8), (0, 8, 7), (0, 8, 6), (0, 8, 5), (0, 8, 4), (0, 8, 3), (0, 8, 2), (0, 8, 1)] [] [])) (b := b) (lyA hK) (rI_at 4 2 hI_4_2) (rR_at 0 3 hR_0_3)) (lKA (hk_K hK 0 rfl rfl)) rfl (by decide) rfl (Nat.le_of_ble_eq_true rfl) (by decide) (fun u hu => ?_)
  refine z_eqs (σ' := (ap b σ [(0, 8, 29), (0, 8, 28), (0, 8, 27), (0, 8, 26), (0, 8, 25), (0, 8, 24), (0, 8, 23), (0, 8, 22), (0, 8, 21), (0, 8, 20), (0, 8, 19), (0, 8, 18), (0, 8, 17), (0, 8, 16), (0, 8, 15), (0, 8, 14), (0, 8, 13), (0, 8, 12), (0, 8, 11), (0, 8, 10), (0, 8, 9), (0, 8, 8), (0, 8, 7), (0, 8, 6), (0, 8, 5), (0, 8, 4), (0, 8, 3), (0, 8, 2), (0, 8, 1)] [] [])) hu ?_
  show zx p l e _ s m _ below meth c g 3 0 0 _ _ 42 [(2, .int 28), (0, .ref (b + 0)), (1, .int 38)] _
  refine z_aload_n B dX8_tick_42 rfl 1 rfl ?_
  refine z_cVv (As := []) (rest := []) B cw_X8_243 cx_9 dX8_tick_43 (ci_X8_passTimers_921 l (σ := (ap b σ [(0, 8, 29), (0, 8, 28), (0, 8, 27), (0, 8, 26), (0, 8, 25), (0, 8, 24), (0, 8, 23), (0, 8, 22), (0, 8, 21), (0, 8, 20), (0, 8, 19), (0, 8, 18), (0, 8, 17), (0, 8, 16), (0, 8, 15), (0, 8, 14), (0, 8, 13), (0, 8, 12), (0, 8, 11), (0, 8, 10), (0, 8, 9), (0, 8, 8), (0, 8, 7), (0, 8, 6), (0, 8, 5), (0, 8, 4), (0, 8, 3), (0, 8, 2), (0, 8, 1)] [] [])) (b := b) (lyA hK) (rI_at 0 7 hI_0_7)) (lKA (hk_K hK 0 rfl rfl)) rfl (by decide) rfl (Nat.le_of_ble_eq_true rfl) (by decide) (fun u hu => ?_)
  refine z_eqs (σ' := (ap b σ [(0, 8, 29), (0, 8, 28), (0, 8, 27), (0, 8, 26), (0, 8, 25), (0, 8, 24), (0, 8, 23), (0, 8, 22), (0, 8, 21), (0, 8, 20), (0, 8, 19), (0, 8, 18), (0, 8, 17), (0, 8, 16), (0, 8, 15), (0, 8, 14), (0, 8, 13), (0, 8, 12), (0, 8, 11), (0, 8, 10), (0, 8, 9), (0, 8, 8), (0, 8, 7), (0, 8, 6), (0, 8, 5), (0, 8, 4), (0, 8, 3), (0, 8, 2), (0, 8, 1)] [] [])) hu ?_
  show zx p l e _ s m _ below meth c g 3 0 0 _ _ 46 [(2, .int 28), (0, .ref (b + 0)), (1, .int 38)] _
  refine z_iinc (v := 29) (lv' := [(2, .int 29), (0, .ref (b + 0)), (1, .int 38)]) B dX8_tick_46 0 rfl (by decide) (by decide) rfl ?_
  refine z_goto (tgt := 23) B dX8_tick_49 (by decide) ?_
  refine z_iload_n B dX8_tick_23 rfl 0 rfl ?_
  refine z_iload_n B dX8_tick_24 rfl 2 rfl ?_
  refine z_icmp_ge (tgt := 52) B dX8_tick_25 (by decide) (fun h => absurd h (by decide)) (fun _ => ?_)
  refine z_aload_n B dX8_tick_28 rfl 1 rfl ?_
  refine z_dup B dX8_tick_29 rfl ?_
  refine gf_X8_206 (x := 29) B (lKA (hk_K hK 0 rfl rfl)) (rI_at 0 8 rfl) dX8_tick_30 ?_
  refine z_iconst (v := 1) B dX8_tick_33 (by decide) ?_
  refine z_iadd B dX8_tick_34 ?_
  refine z_seti (y := 30) (by decide) ?_
  refine pf_X8_206 (x := 30) (σ' := (ap b σ [(0, 8, 30), (0, 8, 29), (0, 8, 28), (0, 8, 27), (0, 8, 26), (0, 8, 25), (0, 8, 24), (0, 8, 23), (0, 8, 22), (0, 8, 21), (0, 8, 20), (0, 8, 19), (0, 8, 18), (0, 8, 17), (0, 8, 16), (0, 8, 15), (0, 8, 14), (0, 8, 13), (0, 8, 12), (0, 8, 11), (0, 8, 10), (0, 8, 9), (0, 8, 8), (0, 8, 7), (0, 8, 6), (0, 8, 5), (0, 8, 4), (0, 8, 3), (0, 8, 2), (0, 8, 1)] [] [])) B (lKA (hk_K hK 0 rfl rfl)) wI_ap dX8_tick_35 ?_
  refine z_aload_n B dX8_tick_38 rfl 1 rfl ?_
  refine z_cVv (As := []) (rest := []) B cw_X8_240 cx_9 dX8_tick_39 (ci_X8_passTasks_920 l (σ := (ap b σ [(0, 8, 30), (0, 8, 29), (0, 8, 28), (0, 8, 27), (0, 8, 26), (0, 8, 25), (0, 8, 24), (0, 8, 23), (0, 8, 22), (0, 8, 21), (0, 8, 20), (0, 8, 19), (0, 8, 18), (0, 8, 17), (0, 8, 16), (0, 8, 15), (0, 8, 14), (0, 8, 13), (0, 8, 12), (0, 8, 11), (0, 8, 10), (0, 8, 9), (0, 8, 8), (0, 8, 7), (0, 8, 6), (0, 8, 5), (0, 8, 4), (0, 8, 3), (0, 8, 2), (0, 8, 1)] [] [])) (b := b) (lyA hK) (rI_at 4 2 hI_4_2) (rR_at 0 3 hR_0_3)) (lKA (hk_K hK 0 rfl rfl)) rfl (by decide) rfl (Nat.le_of_ble_eq_true rfl) (by decide) (fun u hu => ?_)
  refine z_eqs (σ' := (ap b σ [(0, 8, 30), (0, 8, 29), (0, 8, 28), (0, 8, 27), (0, 8, 26), (0, 8, 25), (0, 8, 24), (0, 8, 23), (0, 8, 22), (0, 8, 21), (0, 8, 20), (0, 8, 19), (0, 8, 18), (0, 8, 17), (0, 8, 16), (0, 8, 15), (0, 8, 14), (0, 8, 13), (0, 8, 12), (0, 8, 11), (0, 8, 10), (0, 8, 9), (0, 8, 8), (0, 8, 7), (0, 8, 6), (0, 8, 5), (0, 8, 4), (0, 8, 3), (0, 8, 2), (0, 8, 1)] [] [])) hu ?_
  show zx p l e _ s m _ below meth c g 3 0 0 _ _ 42 [(2, .int 29), (0, .ref (b + 0)), (1, .int 38)] _
  refine z_aload_n B dX8_tick_42 rfl 1 rfl ?_
  refine z_cVv (As := []) (rest := []) B cw_X8_243 cx_9 dX8_tick_43 (ci_X8_passTimers_921 l (σ := (ap b σ [(0, 8, 30), (0, 8, 29), (0, 8, 28), (0, 8, 27), (0, 8, 26), (0, 8, 25), (0, 8, 24), (0, 8, 23), (0, 8, 22), (0, 8, 21), (0, 8, 20), (0, 8, 19), (0, 8, 18), (0, 8, 17), (0, 8, 16), (0, 8, 15), (0, 8, 14), (0, 8, 13), (0, 8, 12), (0, 8, 11), (0, 8, 10), (0, 8, 9), (0, 8, 8), (0, 8, 7), (0, 8, 6), (0, 8, 5), (0, 8, 4), (0, 8, 3), (0, 8, 2), (0, 8, 1)] [] [])) (b := b) (lyA hK) (rI_at 0 7 hI_0_7)) (lKA (hk_K hK 0 rfl rfl)) rfl (by decide) rfl (Nat.le_of_ble_eq_true rfl) (by decide) (fun u hu => ?_)
  refine z_eqs (σ' := (ap b σ [(0, 8, 30), (0, 8, 29), (0, 8, 28), (0, 8, 27), (0, 8, 26), (0, 8, 25), (0, 8, 24), (0, 8, 23), (0, 8, 22), (0, 8, 21), (0, 8, 20), (0, 8, 19), (0, 8, 18), (0, 8, 17), (0, 8, 16), (0, 8, 15), (0, 8, 14), (0, 8, 13), (0, 8, 12), (0, 8, 11), (0, 8, 10), (0, 8, 9), (0, 8, 8), (0, 8, 7), (0, 8, 6), (0, 8, 5), (0, 8, 4), (0, 8, 3), (0, 8, 2), (0, 8, 1)] [] [])) hu ?_
  show zx p l e _ s m _ below meth c g 3 0 0 _ _ 46 [(2, .int 29), (0, .ref (b + 0)), (1, .int 38)] _
  refine z_iinc (v := 30) (lv' := [(2, .int 30), (0, .ref (b + 0)), (1, .int 38)]) B dX8_tick_46 0 rfl (by decide) (by decide) rfl ?_
  refine z_goto (tgt := 23) B dX8_tick_49 (by decide) ?_
  refine z_iload_n B dX8_tick_23 rfl 0 rfl ?_
  refine z_iload_n B dX8_tick_24 rfl 2 rfl ?_
  refine z_icmp_ge (tgt := 52) B dX8_tick_25 (by decide) (fun h => absurd h (by decide)) (fun _ => ?_)
  refine z_aload_n B dX8_tick_28 rfl 1 rfl ?_
  refine z_dup B dX8_tick_29 rfl ?_
  refine gf_X8_206 (x := 30) B (lKA (hk_K hK 0 rfl rfl)) (rI_at 0 8 rfl) dX8_tick_30 ?_
  refine z_iconst (v := 1) B dX8_tick_33 (by decide) ?_
  refine z_iadd B dX8_tick_34 ?_
  refine z_seti (y := 31) (by decide) ?_
  refine pf_X8_206 (x := 31) (σ' := (ap b σ [(0, 8, 31), (0, 8, 30), (0, 8, 29), (0, 8, 28), (0, 8, 27), (0, 8, 26), (0, 8, 25), (0, 8, 24), (0, 8, 23), (0, 8, 22), (0, 8, 21), (0, 8, 20), (0, 8, 19), (0, 8, 18), (0, 8, 17), (0, 8, 16), (0, 8, 15), (0, 8, 14), (0, 8, 13), (0, 8, 12), (0, 8, 11), (0, 8, 10), (0, 8, 9), (0, 8, 8), (0, 8, 7), (0, 8, 6), (0, 8, 5), (0, 8, 4), (0, 8, 3), (0, 8, 2), (0, 8, 1)] [] [])) B (lKA (hk_K hK 0 rfl rfl)) wI_ap dX8_tick_35 ?_
  refine z_aload_n B dX8_tick_38 rfl 1 rfl ?_
  refine z_cVv (As := []) (rest := []) B cw_X8_240 cx_9 dX8_tick_39 (ci_X8_passTasks_920 l (σ := (ap b σ [(0, 8, 31), (0, 8, 30), (0, 8, 29), (0, 8, 28), (0, 8, 27), (0, 8, 26), (0, 8, 25), (0, 8, 24), (0, 8, 23), (0, 8, 22), (0, 8, 21), (0, 8, 20), (0, 8, 19), (0, 8, 18), (0, 8, 17), (0, 8, 16), (0, 8, 15), (0, 8, 14), (0, 8, 13), (0, 8, 12), (0, 8, 11), (0, 8, 10), (0, 8, 9), (0, 8, 8), (0, 8, 7), (0, 8, 6), (0, 8, 5), (0, 8, 4), (0, 8, 3), (0, 8, 2), (0, 8, 1)] [] [])) (b := b) (lyA hK) (rI_at 4 2 hI_4_2) (rR_at 0 3 hR_0_3)) (lKA (hk_K hK 0 rfl rfl)) rfl (by decide) rfl (Nat.le_of_ble_eq_true rfl) (by decide) (fun u hu => ?_)
  refine z_eqs (σ' := (ap b σ [(0, 8, 31), (0, 8, 30), (0, 8, 29), (0, 8, 28), (0, 8, 27), (0, 8, 26), (0, 8, 25), (0, 8, 24), (0, 8, 23), (0, 8, 22), (0, 8, 21), (0, 8, 20), (0, 8, 19), (0, 8, 18), (0, 8, 17), (0, 8, 16), (0, 8, 15), (0, 8, 14), (0, 8, 13), (0, 8, 12), (0, 8, 11), (0, 8, 10), (0, 8, 9), (0, 8, 8), (0, 8, 7), (0, 8, 6), (0, 8, 5), (0, 8, 4), (0, 8, 3), (0, 8, 2), (0, 8, 1)] [] [])) hu ?_
  show zx p l e _ s m _ below meth c g 3 0 0 _ _ 42 [(2, .int 30), (0, .ref (b + 0)), (1, .int 38)] _
  refine z_aload_n B dX8_tick_42 rfl 1 rfl ?_
  refine z_cVv (As := []) (rest := []) B cw_X8_243 cx_9 dX8_tick_43 (ci_X8_passTimers_921 l (σ := (ap b σ [(0, 8, 31), (0, 8, 30), (0, 8, 29), (0, 8, 28), (0, 8, 27), (0, 8, 26), (0, 8, 25), (0, 8, 24), (0, 8, 23), (0, 8, 22), (0, 8, 21), (0, 8, 20), (0, 8, 19), (0, 8, 18), (0, 8, 17), (0, 8, 16), (0, 8, 15), (0, 8, 14), (0, 8, 13), (0, 8, 12), (0, 8, 11), (0, 8, 10), (0, 8, 9), (0, 8, 8), (0, 8, 7), (0, 8, 6), (0, 8, 5), (0, 8, 4), (0, 8, 3), (0, 8, 2), (0, 8, 1)] [] [])) (b := b) (lyA hK) (rI_at 0 7 hI_0_7)) (lKA (hk_K hK 0 rfl rfl)) rfl (by decide) rfl (Nat.le_of_ble_eq_true rfl) (by decide) (fun u hu => ?_)
  refine z_eqs (σ' := (ap b σ [(0, 8, 31), (0, 8, 30), (0, 8, 29), (0, 8, 28), (0, 8, 27), (0, 8, 26), (0, 8, 25), (0, 8, 24), (0, 8, 23), (0, 8, 22), (0, 8, 21), (0, 8, 20), (0, 8, 19), (0, 8, 18), (0, 8, 17), (0, 8, 16), (0, 8, 15), (0, 8, 14), (0, 8, 13), (0, 8, 12), (0, 8, 11), (0, 8, 10), (0, 8, 9), (0, 8, 8), (0, 8, 7), (0, 8, 6), (0, 8, 5), (0, 8, 4), (0, 8, 3), (0, 8, 2), (0, 8, 1)] [] [])) hu ?_
  show zx p l e _ s m _ below meth c g 3 0 0 _ _ 46 [(2, .int 30), (0, .ref (b + 0)), (1, .int 38)] _
  refine z_iinc (v := 31) (lv' := [(2, .int 31), (0, .ref (b + 0)), (1, .int 38)]) B dX8_tick_46 0 rfl (by decide) (by decide) rfl ?_
  refine z_goto (tgt := 23) B dX8_tick_49 (by decide) ?_
  refine z_iload_n B dX8_tick_23 rfl 0 rfl ?_
  refine z_iload_n B dX8_tick_24 rfl 2 rfl ?_
  refine z_icmp_ge (tgt := 52) B dX8_tick_25 (by decide) (fun h => absurd h (by decide)) (fun _ => ?_)
  refine z_aload_n B dX8_tick_28 rfl 1 rfl ?_
  refine z_dup B dX8_tick_29 rfl ?_
  refine gf_X8_206 (x := 31) B (lKA (hk_K hK 0 rfl rfl)) (rI_at 0 8 rfl) dX8_tick_30 ?_
  refine z_iconst (v := 1) B dX8_tick_33 (by decide) ?_
  refine z_iadd B dX8_tick_34 ?_
  refine z_seti (y := 32) (by decide) ?_
  refine pf_X8_206 (x := 32) (σ' := (ap b σ [(0, 8, 32), (0, 8, 31), (0, 8, 30), (0, 8, 29), (0, 8, 28), (0, 8, 27), (0, 8, 26), (0, 8, 25), (0, 8, 24), (0, 8, 23), (0, 8, 22), (0, 8, 21), (0, 8, 20), (0, 8, 19), (0, 8, 18), (0, 8, 17), (0, 8, 16), (0, 8, 15), (0, 8, 14), (0, 8, 13), (0, 8, 12), (0, 8, 11), (0, 8, 10), (0, 8, 9), (0, 8, 8), (0, 8, 7), (0, 8, 6), (0, 8, 5), (0, 8, 4), (0, 8, 3), (0, 8, 2), (0, 8, 1)] [] [])) B (lKA (hk_K hK 0 rfl rfl)) wI_ap dX8_tick_35 ?_
  refine z_aload_n B dX8_tick_38 rfl 1 rfl ?_
  refine z_cVv (As := []) (rest := []) B cw_X8_240 cx_9 dX8_tick_39 (ci_X8_passTasks_920 l (σ := (ap b σ [(0, 8, 32), (0, 8, 31), (0, 8, 30), (0, 8, 29), (0, 8, 28), (0, 8, 27), (0, 8, 26), (0, 8, 25), (0, 8, 24), (0, 8, 23), (0, 8, 22), (0, 8, 21), (0, 8, 20), (0, 8, 19), (0, 8, 18), (0, 8, 17), (0, 8, 16), (0, 8, 15), (0, 8, 14), (0, 8, 13), (0, 8, 12), (0, 8, 11), (0, 8, 10), (0, 8, 9), (0, 8, 8), (0, 8, 7), (0, 8, 6), (0, 8, 5), (0, 8, 4), (0, 8, 3), (0, 8, 2), (0, 8, 1)] [] [])) (b := b) (lyA hK) (rI_at 4 2 hI_4_2) (rR_at 0 3 hR_0_3)) (lKA (hk_K hK 0 rfl rfl)) rfl (by decide) rfl (Nat.le_of_ble_eq_true rfl) (by decide) (fun u hu => ?_)
  refine z_eqs (σ' := (ap b σ [(0, 8, 32), (0, 8, 31), (0, 8, 30), (0, 8, 29), (0, 8, 28), (0, 8, 27), (0, 8, 26), (0, 8, 25), (0, 8, 24), (0, 8, 23), (0, 8, 22), (0, 8, 21), (0, 8, 20), (0, 8, 19), (0, 8, 18), (0, 8, 17), (0, 8, 16), (0, 8, 15), (0, 8, 14), (0, 8, 13), (0, 8, 12), (0, 8, 11), (0, 8, 10), (0, 8, 9), (0, 8, 8), (0, 8, 7), (0, 8, 6), (0, 8, 5), (0, 8, 4), (0, 8, 3), (0, 8, 2), (0, 8, 1)] [] [])) hu ?_
  show zx p l e _ s m _ below meth c g 3 0 0 _ _ 42 [(2, .int 31), (0, .ref (b + 0)), (1, .int 38)] _
  refine z_aload_n B dX8_tick_42 rfl 1 rfl ?_
  refine z_cVv (As := []) (rest := []) B cw_X8_243 cx_9 dX8_tick_43 (ci_X8_passTimers_921 l (σ := (ap b σ [(0, 8, 32), (0, 8, 31), (0, 8, 30), (0, 8, 29), (0, 8, 28), (0, 8, 27), (0, 8, 26), (0, 8, 25), (0, 8, 24), (0, 8, 23), (0, 8, 22), (0, 8, 21), (0, 8, 20), (0, 8, 19), (0, 8, 18), (0, 8, 17), (0, 8, 16), (0, 8, 15), (0, 8, 14), (0, 8, 13), (0, 8, 12), (0, 8, 11), (0, 8, 10), (0, 8, 9), (0, 8, 8), (0, 8, 7), (0, 8, 6), (0, 8, 5), (0, 8, 4), (0, 8, 3), (0, 8, 2), (0, 8, 1)] [] [])) (b := b) (lyA hK) (rI_at 0 7 hI_0_7)) (lKA (hk_K hK 0 rfl rfl)) rfl (by decide) rfl (Nat.le_of_ble_eq_true rfl) (by decide) (fun u hu => ?_)
  refine z_eqs (σ' := (ap b σ [(0, 8, 32), (0, 8, 31), (0, 8, 30), (0, 8, 29), (0, 8, 28), (0, 8, 27), (0, 8, 26), (0, 8, 25), (0, 8, 24), (0, 8, 23), (0, 8, 22), (0, 8, 21), (0, 8, 20), (0, 8, 19), (0, 8, 18), (0, 8, 17), (0, 8, 16), (0, 8, 15), (0, 8, 14), (0, 8, 13), (0, 8, 12), (0, 8, 11), (0, 8, 10), (0, 8, 9), (0, 8, 8), (0, 8, 7), (0, 8, 6), (0, 8, 5), (0, 8, 4), (0, 8, 3), (0, 8, 2), (0, 8, 1)] [] [])) hu ?_
  show zx p l e _ s m _ below meth c g 3 0 0 _ _ 46 [(2, .int 31), (0, .ref (b + 0)), (1, .int 38)] _
  refine z_iinc (v := 32) (lv' := [(2, .int 32), (0, .ref (b + 0)), (1, .int 38)]) B dX8_tick_46 0 rfl (by decide) (by decide) rfl ?_
  refine z_goto (tgt := 23) B dX8_tick_49 (by decide) ?_
  refine z_iload_n B dX8_tick_23 rfl 0 rfl ?_
  refine z_iload_n B dX8_tick_24 rfl 2 rfl ?_
  refine z_icmp_ge (tgt := 52) B dX8_tick_25 (by decide) (fun h => absurd h (by decide)) (fun _ => ?_)
  refine z_aload_n B dX8_tick_28 rfl 1 rfl ?_
  refine z_dup B dX8_tick_29 rfl ?_
  refine gf_X8_206 (x := 32) B (lKA (hk_K hK 0 rfl rfl)) (rI_at 0 8 rfl) dX8_tick_30 ?_
  refine z_iconst (v := 1) B dX8_tick_33 (by decide) ?_
  refine z_iadd B dX8_tick_34 ?_
  refine z_seti (y := 33) (by decide) ?_
  refine pf_X8_206 (x := 33) (σ' := (ap b σ [(0, 8, 33), (0, 8, 32), (0, 8, 31), (0, 8, 30), (0, 8, 29), (0, 8, 28), (0, 8, 27), (0, 8, 26), (0, 8, 25), (0, 8, 24), (0, 8, 23), (0, 8, 22), (0, 8, 21), (0, 8, 20), (0, 8, 19), (0, 8, 18), (0, 8, 17), (0, 8, 16), (0, 8, 15), (0, 8, 14), (0, 8, 13), (0, 8, 12), (0, 8, 11), (0, 8, 10), (0, 8, 9), (0, 8, 8), (0, 8, 7), (0, 8, 6), (0, 8, 5), (0, 8, 4), (0, 8, 3), (0, 8, 2), (0, 8, 1)] [] [])) B (lKA (hk_K hK 0 rfl rfl)) wI_ap dX8_tick_35 ?_
  refine z_aload_n B dX8_tick_38 rfl 1 rfl ?_
  refine z_cVv (As := []) (rest := []) B cw_X8_240 cx_9 dX8_tick_39 (ci_X8_passTasks_920 l (σ := (ap b σ [(0, 8, 33), (0, 8, 32), (0, 8, 31), (0, 8, 30), (0, 8, 29), (0, 8, 28), (0, 8, 27), (0, 8, 26), (0, 8, 25), (0, 8, 24), (0, 8, 23), (0, 8, 22), (0, 8, 21), (0, 8, 20), (0, 8, 19), (0, 8, 18), (0, 8, 17), (0, 8, 16), (0, 8, 15), (0, 8, 14), (0, 8, 13), (0, 8, 12), (0, 8, 11), (0, 8, 10), (0, 8, 9), (0, 8, 8), (0, 8, 7), (0, 8, 6), (0, 8, 5), (0, 8, 4), (0, 8, 3), (0, 8, 2), (0, 8, 1)] [] [])) (b := b) (lyA hK) (rI_at 4 2 hI_4_2) (rR_at 0 3 hR_0_3)) (lKA (hk_K hK 0 rfl rfl)) rfl (by decide) rfl (Nat.le_of_ble_eq_true rfl) (by decide) (fun u hu => ?_)
  refine z_eqs (σ' := (ap b σ [(0, 8, 33), (0, 8, 32), (0, 8, 31), (0, 8, 30), (0, 8, 29), (0, 8, 28), (0, 8, 27), (0, 8, 26), (0, 8, 25), (0, 8, 24), (0, 8, 23), (0, 8, 22), (0, 8, 21), (0, 8, 20), (0, 8, 19), (0, 8, 18), (0, 8, 17), (0, 8, 16), (0, 8, 15), (0, 8, 14), (0, 8, 13), (0, 8, 12), (0, 8, 11), (0, 8, 10), (0, 8, 9), (0, 8, 8), (0, 8, 7), (0, 8, 6), (0, 8, 5), (0, 8, 4), (0, 8, 3), (0, 8, 2), (0, 8, 1)] [] [])) hu ?_
  show zx p l e _ s m _ below meth c g 3 0 0 _ _ 42 [(2, .int 32), (0, .ref (b + 0)), (1, .int 38)] _
  refine z_aload_n B dX8_tick_42 rfl 1 rfl ?_
  refine z_cVv (As := []) (rest := []) B cw_X8_243 cx_9 dX8_tick_43 (ci_X8_passTimers_921 l (σ := (ap b σ [(0, 8, 33), (0, 8, 32), (0, 8, 31), (0, 8, 30), (0, 8, 29), (0, 8, 28), (0, 8, 27), (0, 8, 26), (0, 8, 25), (0, 8, 24), (0, 8, 23), (0, 8, 22), (0, 8, 21), (0, 8, 20), (0, 8, 19), (0, 8, 18), (0, 8, 17), (0, 8, 16), (0, 8, 15), (0, 8, 14), (0, 8, 13), (0, 8, 12), (0, 8, 11), (0, 8, 10), (0, 8, 9), (0, 8, 8), (0, 8, 7), (0, 8, 6), (0, 8, 5), (0, 8, 4), (0, 8, 3), (0, 8, 2), (0, 8, 1)] [] [])) (b := b) (lyA hK) (rI_at 0 7 hI_0_7)) (lKA (hk_K hK 0 rfl rfl)) rfl (by decide) rfl (Nat.le_of_ble_eq_true rfl) (by decide) (fun u hu => ?_)
  refine z_eqs (σ' := (ap b σ [(0, 8, 33), (0, 8, 32), (0, 8, 31), (0, 8, 30), (0, 8, 29), (0, 8, 28), (0, 8, 27), (0, 8, 26), (0, 8, 25), (0, 8, 24), (0, 8, 23), (0, 8, 22), (0, 8, 21), (0, 8, 20), (0, 8, 19), (0, 8, 18), (0, 8, 17), (0, 8, 16), (0, 8, 15), (0, 8, 14), (0, 8, 13), (0, 8, 12), (0, 8, 11), (0, 8, 10), (0, 8, 9), (0, 8, 8), (0, 8, 7), (0, 8, 6), (0, 8, 5), (0, 8, 4), (0, 8, 3), (0, 8, 2), (0, 8, 1)] [] [])) hu ?_
  show zx p l e _ s m _ below meth c g 3 0 0 _ _ 46 [(2, .int 32), (0, .ref (b + 0)), (1, .int 38)] _
  refine z_iinc (v := 33) (lv' := [(2, .int 33), (0, .ref (b + 0)), (1, .int 38)]) B dX8_tick_46 0 rfl (by decide) (by decide) rfl ?_
  refine z_goto (tgt := 23) B dX8_tick_49 (by decide) ?_
  refine z_iload_n B dX8_tick_23 rfl 0 rfl ?_
  refine z_iload_n B dX8_tick_24 rfl 2 rfl ?_
  refine z_icmp_ge (tgt := 52) B dX8_tick_25 (by decide) (fun h => absurd h (by decide)) (fun _ => ?_)
  refine z_aload_n B dX8_tick_28 rfl 1 rfl ?_
  refine z_dup B dX8_tick_29 rfl ?_
  refine gf_X8_206 (x := 33) B (lKA (hk_K hK 0 rfl rfl)) (rI_at 0 8 rfl) dX8_tick_30 ?_
  refine z_iconst (v := 1) B dX8_tick_33 (by decide) ?_
  refine z_iadd B dX8_tick_34 ?_
  refine z_seti (y := 34) (by decide) ?_
  refine pf_X8_206 (x := 34) (σ' := (ap b σ [(0, 8, 34), (0, 8, 33), (0, 8, 32), (0, 8, 31), (0, 8, 30), (0, 8, 29), (0, 8, 28), (0, 8, 27), (0, 8, 26), (0, 8, 25), (0, 8, 24), (0, 8, 23), (0, 8, 22), (0, 8, 21), (0, 8, 20), (0, 8, 19), (0, 8, 18), (0, 8, 17), (0, 8, 16), (0, 8, 15), (0, 8, 14), (0, 8, 13), (0, 8, 12), (0, 8, 11), (0, 8, 10), (0, 8, 9), (0, 8, 8), (0, 8, 7), (0, 8, 6), (0, 8, 5), (0, 8, 4), (0, 8, 3), (0, 8, 2), (0, 8, 1)] [] [])) B (lKA (hk_K hK 0 rfl rfl)) wI_ap dX8_tick_35 ?_
  refine z_aload_n B dX8_tick_38 rfl 1 rfl ?_
  refine z_cVv (As := []) (rest := []) B cw_X8_240 cx_9 dX8_tick_39 (ci_X8_passTasks_920 l (σ := (ap b σ [(0, 8, 34), (0, 8, 33), (0, 8, 32), (0, 8, 31), (0, 8, 30), (0, 8, 29), (0, 8, 28), (0, 8, 27), (0, 8, 26), (0, 8, 25), (0, 8, 24), (0, 8, 23), (0, 8, 22), (0, 8, 21), (0, 8, 20), (0, 8, 19), (0, 8, 18), (0, 8, 17), (0, 8, 16), (0, 8, 15), (0, 8, 14), (0, 8, 13), (0, 8, 12), (0, 8, 11), (0, 8, 10), (0, 8, 9), (0, 8, 8), (0, 8, 7), (0, 8, 6), (0, 8, 5), (0, 8, 4), (0, 8, 3), (0, 8, 2), (0, 8, 1)] [] [])) (b := b) (lyA hK) (rI_at 4 2 hI_4_2) (rR_at 0 3 hR_0_3)) (lKA (hk_K hK 0 rfl rfl)) rfl (by decide) rfl (Nat.le_of_ble_eq_true rfl) (by decide) (fun u hu => ?_)
  refine z_eqs (σ' := (ap b σ [(0, 8, 34), (0, 8, 33), (0, 8, 32), (0, 8, 31), (0, 8, 30), (0, 8, 29), (0, 8, 28), (0, 8, 27), (0, 8, 26), (0, 8, 25), (0, 8, 24), (0, 8, 23), (0, 8, 22), (0, 8, 21), (0, 8, 20), (0, 8, 19), (0, 8, 18), (0, 8, 17), (0, 8, 16), (0, 8, 15), (0, 8, 14), (0, 8, 13), (0, 8, 12), (0, 8, 11), (0, 8, 10), (0, 8, 9), (0, 8, 8), (0, 8, 7), (0, 8, 6), (0, 8, 5), (0, 8, 4), (0, 8, 3), (0, 8, 2), (0, 8, 1)] [] [])) hu ?_
  show zx p l e _ s m _ below meth c g 3 0 0 _ _ 42 [(2, .int 33), (0, .ref (b + 0)), (1, .int 38)] _
  refine z_aload_n B dX8_tick_42 rfl 1 rfl ?_
  refine z_cVv (As := []) (rest := []) B cw_X8_243 cx_9 dX8_tick_43 (ci_X8_passTimers_921 l (σ := (ap b σ [(0, 8, 34), (0, 8, 33), (0, 8, 32), (0, 8, 31), (0, 8, 30), (0, 8, 29), (0, 8, 28), (0, 8, 27), (0, 8, 26), (0, 8, 25), (0, 8, 24), (0, 8, 23), (0, 8, 22), (0, 8, 21), (0, 8, 20), (0, 8, 19), (0, 8, 18), (0, 8, 17), (0, 8, 16), (0, 8, 15), (0, 8, 14), (0, 8, 13), (0, 8, 12), (0, 8, 11), (0, 8, 10), (0, 8, 9), (0, 8, 8), (0, 8, 7), (0, 8, 6), (0, 8, 5), (0, 8, 4), (0, 8, 3), (0, 8, 2), (0, 8, 1)] [] [])) (b := b) (lyA hK) (rI_at 0 7 hI_0_7)) (lKA (hk_K hK 0 rfl rfl)) rfl (by decide) rfl (Nat.le_of_ble_eq_true rfl) (by decide) (fun u hu => ?_)
  refine z_eqs (σ' := (ap b σ [(0, 8, 34), (0, 8, 33), (0, 8, 32), (0, 8, 31), (0, 8, 30), (0, 8, 29), (0, 8, 28), (0, 8, 27), (0, 8, 26), (0, 8, 25), (0, 8, 24), (0, 8, 23), (0, 8, 22), (0, 8, 21), (0, 8, 20), (0, 8, 19), (0, 8, 18), (0, 8, 17), (0, 8, 16), (0, 8, 15), (0, 8, 14), (0, 8, 13), (0, 8, 12), (0, 8, 11), (0, 8, 10), (0, 8, 9), (0, 8, 8), (0, 8, 7), (0, 8, 6), (0, 8, 5), (0, 8, 4), (0, 8, 3), (0, 8, 2), (0, 8, 1)] [] [])) hu ?_
  show zx p l e _ s m _ below meth c g 3 0 0 _ _ 46 [(2, .int 33), (0, .ref (b + 0)), (1, .int 38)] _
  refine z_iinc (v := 34) (lv' := [(2, .int 34), (0, .ref (b + 0)), (1, .int 38)]) B dX8_tick_46 0 rfl (by decide) (by decide) rfl ?_
  refine z_goto (tgt := 23) B dX8_tick_49 (by decide) ?_
  refine z_iload_n B dX8_tick_23 rfl 0 rfl ?_
  refine z_iload_n B dX8_tick_24 rfl 2 rfl ?_
  refine z_icmp_ge (tgt := 52) B dX8_tick_25 (by decide) (fun h => absurd h (by decide)) (fun _ => ?_)
  refine z_aload_n B dX8_tick_28 rfl 1 rfl ?_
  refine z_dup B dX8_tick_29 rfl ?_
  refine gf_X8_206 (x := 34) B (lKA (hk_K hK 0 rfl rfl)) (rI_at 0 8 rfl) dX8_tick_30 ?_
  refine z_iconst (v := 1) B dX8_tick_33 (by decide) ?_
  refine z_iadd B dX8_tick_34 ?_
  refine z_seti (y := 35) (by decide) ?_
  refine pf_X8_206 (x := 35) (σ' := (ap b σ [(0, 8, 35), (0, 8, 34), (0, 8, 33), (0, 8, 32), (0, 8, 31), (0, 8, 30), (0, 8, 29), (0, 8, 28), (0, 8, 27), (0, 8, 26), (0, 8, 25), (0, 8, 24), (0, 8, 23), (0, 8, 22), (0, 8, 21), (0, 8, 20), (0, 8, 19), (0, 8, 18), (0, 8, 17), (0, 8, 16), (0, 8, 15), (0, 8, 14), (0, 8, 13), (0, 8, 12), (0, 8, 11), (0, 8, 10), (0, 8, 9), (0, 8, 8), (0, 8, 7), (0, 8, 6), (0, 8, 5), (0, 8, 4), (0, 8, 3), (0, 8, 2), (0, 8, 1)] [] [])) B (lKA (hk_K hK 0 rfl rfl)) wI_ap dX8_tick_35 ?_
  refine z_aload_n B dX8_tick_38 rfl 1 rfl ?_
  refine z_cVv (As := []) (rest := []) B cw_X8_240 cx_9 dX8_tick_39 (ci_X8_passTasks_920 l (σ := (ap b σ [(0, 8, 35), (0, 8, 34), (0, 8, 33), (0, 8, 32), (0, 8, 31), (0, 8, 30), (0, 8, 29), (0, 8, 28), (0, 8, 27), (0, 8, 26), (0, 8, 25), (0, 8, 24), (0, 8, 23), (0, 8, 22), (0, 8, 21), (0, 8, 20), (0, 8, 19), (0, 8, 18), (0, 8, 17), (0, 8, 16), (0, 8, 15), (0, 8, 14), (0, 8, 13), (0, 8, 12), (0, 8, 11), (0, 8, 10), (0, 8, 9), (0, 8, 8), (0, 8, 7), (0, 8, 6), (0, 8, 5), (0, 8, 4), (0, 8, 3), (0, 8, 2), (0, 8, 1)] [] [])) (b := b) (lyA hK) (rI_at 4 2 hI_4_2) (rR_at 0 3 hR_0_3)) (lKA (hk_K hK 0 rfl rfl)) rfl (by decide) rfl (Nat.le_of_ble_eq_true rfl) (by decide) (fun u hu => ?_)
  refine z_eqs (σ' := (ap b σ [(0, 8, 35), (0, 8, 34), (0, 8, 33), (0, 8, 32), (0, 8, 31), (0, 8, 30), (0, 8, 29), (0, 8, 28), (0, 8, 27), (0, 8, 26), (0, 8, 25), (0, 8, 24), (0, 8, 23), (0, 8, 22), (0, 8, 21), (0, 8, 20), (0, 8, 19), (0, 8, 18), (0, 8, 17), (0, 8, 16), (0, 8, 15), (0, 8, 14), (0, 8, 13), (0, 8, 12), (0, 8, 11), (0, 8, 10), (0, 8, 9), (0, 8, 8), (0, 8, 7), (0, 8, 6), (0, 8, 5), (0, 8, 4), (0, 8, 3), (0, 8, 2), (0, 8, 1)] [] [])) hu ?_
  show zx p l e _ s m _ below meth c g 3 0 0 _ _ 42 [(2, .int 34), (0, .ref (b + 0)), (1, .int 38)] _
  refine z_aload_n B dX8_tick_42 rfl 1 rfl ?_
  refine z_cVv (As := []) (rest := []) B cw_X8_243 cx_9 dX8_tick_43 (ci_X8_passTimers_921 l (σ := (ap b σ [(0, 8, 35), (0, 8, 34), (0, 8, 33), (0, 8, 32), (0, 8, 31), (0, 8, 30), (0, 8, 29), (0, 8, 28), (0, 8, 27), (0, 8, 26), (0, 8, 25), (0, 8, 24), (0, 8, 23), (0, 8, 22), (0, 8, 21), (0, 8, 20), (0, 8, 19), (0, 8, 18), (0, 8, 17), (0, 8, 16), (0, 8, 15), (0, 8, 14), (0, 8, 13), (0, 8, 12), (0, 8, 11), (0, 8, 10), (0, 8, 9), (0, 8, 8), (0, 8, 7), (0, 8, 6), (0, 8, 5), (0, 8, 4), (0, 8, 3), (0, 8, 2), (0, 8, 1)] [] [])) (b := b) (lyA hK) (rI_at 0 7 hI_0_7)) (lKA (hk_K hK 0 rfl rfl)) rfl (by decide) rfl (Nat.le_of_ble_eq_true rfl) (by decide) (fun u hu => ?_)
  refine z_eqs (σ' := (ap b σ [(0, 8, 35), (0, 8, 34), (0, 8, 33), (0, 8, 32), (0, 8, 31), (0, 8, 30), (0, 8, 29), (0, 8, 28), (0, 8, 27), (0, 8, 26), (0, 8, 25), (0, 8, 24), (0, 8, 23), (0, 8, 22), (0, 8, 21), (0, 8, 20), (0, 8, 19), (0, 8, 18), (0, 8, 17), (0, 8, 16), (0, 8, 15), (0, 8, 14), (0, 8, 13), (0, 8, 12), (0, 8, 11), (0, 8, 10), (0, 8, 9), (0, 8, 8), (0, 8, 7), (0, 8, 6), (0, 8, 5), (0, 8, 4), (0, 8, 3), (0, 8, 2), (0, 8, 1)] [] [])) hu ?_
  show zx p l e _ s m _ below meth c g 3 0 0 _ _ 46 [(2, .int 34), (0, .ref (b + 0)), (1, .int 38)] _
  refine z_iinc (v := 35) (lv' := [(2, .int 35), (0, .ref (b + 0)), (1, .int 38)]) B dX8_tick_46 0 rfl (by decide) (by decide) rfl ?_
  refine z_goto (tgt := 23) B dX8_tick_49 (by decide) ?_
  refine z_iload_n B dX8_tick_23 rfl 0 rfl ?_
  refine z_iload_n B dX8_tick_24 rfl 2 rfl ?_
  refine z_icmp_ge (tgt := 52) B dX8_tick_25 (by decide) (fun h => absurd h (by decide)) (fun _ => ?_)
  refine z_aload_n B dX8_tick_28 rfl 1 rfl ?_
  refine z_dup B dX8_tick_29 rfl ?_
  refine gf_X8_206 (x := 35) B (lKA (hk_K hK 0 rfl rfl)) (rI_at 0 8 rfl) dX8_tick_30 ?_
  refine z_iconst (v := 1) B dX8_tick_33 (by decide) ?_
  refine z_iadd B dX8_tick_34 ?_
  refine z_seti (y := 36) (by decide) ?_
  refine pf_X8_206 (x := 36) (σ' := (ap b σ [(0, 8, 36), (0, 8, 35), (0, 8, 34), (0, 8, 33), (0, 8, 32), (0, 8, 31), (0, 8, 30), (0, 8, 29), (0, 8, 28), (0, 8, 27), (0, 8, 26), (0, 8, 25), (0, 8, 24), (0, 8, 23), (0, 8, 22), (0, 8, 21), (0, 8, 20), (0, 8, 19), (0, 8, 18), (0, 8, 17), (0, 8, 16), (0, 8, 15), (0, 8, 14), (0, 8, 13), (0, 8, 12), (0, 8, 11), (0, 8, 10), (0, 8, 9), (0, 8, 8), (0, 8, 7), (0, 8, 6), (0, 8, 5), (0, 8, 4), (0, 8, 3), (0, 8, 2), (0, 8, 1)] [] [])) B (lKA (hk_K hK 0 rfl rfl)) wI_ap dX8_tick_35 ?_
  refine z_aload_n B dX8_tick_38 rfl 1 rfl ?_
  refine z_cVv (As := []) (rest := []) B cw_X8_240 cx_9 dX8_tick_39 (ci_X8_passTasks_920 l (σ := (ap b σ [(0, 8, 36), (0, 8, 35), (0, 8, 34), (0, 8, 33), (0, 8, 32), (0, 8, 31), (0, 8, 30), (0, 8, 29), (0, 8, 28), (0, 8, 27), (0, 8, 26), (0, 8, 25), (0, 8, 24), (0, 8, 23), (0, 8, 22), (0, 8, 21), (0, 8, 20), (0, 8, 19), (0, 8, 18), (0, 8, 17), (0, 8, 16), (0, 8, 15), (0, 8, 14), (0, 8, 13), (0, 8, 12), (0, 8, 11), (0, 8, 10), (0, 8, 9), (0, 8, 8), (0, 8, 7), (0, 8, 6), (0, 8, 5), (0, 8, 4), (0, 8, 3), (0, 8, 2), (0, 8, 1)] [] [])) (b := b) (lyA hK) (rI_at 4 2 hI_4_2) (rR_at 0 3 hR_0_3)) (lKA (hk_K hK 0 rfl rfl)) rfl (by decide) rfl (Nat.le_of_ble_eq_true rfl) (by decide) (fun u hu => ?_)
  refine z_eqs (σ' := (ap b σ [(0, 8, 36), (0, 8, 35), (0, 8, 34), (0, 8, 33), (0, 8, 32), (0, 8, 31), (0, 8, 30), (0, 8, 29), (0, 8, 28), (0, 8, 27), (0, 8, 26), (0, 8, 25), (0, 8, 24), (0, 8, 23), (0, 8, 22), (0, 8, 21), (0, 8, 20), (0, 8, 19), (0, 8, 18), (0, 8, 17), (0, 8, 16), (0, 8, 15), (0, 8, 14), (0, 8, 13), (0, 8, 12), (0, 8, 11), (0, 8, 10), (0, 8, 9), (0, 8, 8), (0, 8, 7), (0, 8, 6), (0, 8, 5), (0, 8, 4), (0, 8, 3), (0, 8, 2), (0, 8, 1)] [] [])) hu ?_
  show zx p l e _ s m _ below meth c g 3 0 0 _ _ 42 [(2, .int 35), (0, .ref (b + 0)), (1, .int 38)] _
  refine z_aload_n B dX8_tick_42 rfl 1 rfl ?_
  refine z_cVv (As := []) (rest := []) B cw_X8_243 cx_9 dX8_tick_43 (ci_X8_passTimers_921 l (σ := (ap b σ [(0, 8, 36), (0, 8, 35), (0, 8, 34), (0, 8, 33), (0, 8, 32), (0, 8, 31), (0, 8, 30), (0, 8, 29), (0, 8, 28), (0, 8, 27), (0, 8, 26), (0, 8, 25), (0, 8, 24), (0, 8, 23), (0, 8, 22), (0, 8, 21), (0, 8, 20), (0, 8, 19), (0, 8, 18), (0, 8, 17), (0, 8, 16), (0, 8, 15), (0, 8, 14), (0, 8, 13), (0, 8, 12), (0, 8, 11), (0, 8, 10), (0, 8, 9), (0, 8, 8), (0, 8, 7), (0, 8, 6), (0, 8, 5), (0, 8, 4), (0, 8, 3), (0, 8, 2), (0, 8, 1)] [] [])) (b := b) (lyA hK) (rI_at 0 7 hI_0_7)) (lKA (hk_K hK 0 rfl rfl)) rfl (by decide) rfl (Nat.le_of_ble_eq_true rfl) (by decide) (fun u hu => ?_)
  refine z_eqs (σ' := (ap b σ [(0, 8, 36), (0, 8, 35), (0, 8, 34), (0, 8, 33), (0, 8, 32), (0, 8, 31), (0, 8, 30), (0, 8, 29), (0, 8, 28), (0, 8, 27), (0, 8, 26), (0, 8, 25), (0, 8, 24), (0, 8, 23), (0, 8, 22), (0, 8, 21), (0, 8, 20), (0, 8, 19), (0, 8, 18), (0, 8, 17), (0, 8, 16), (0, 8, 15), (0, 8, 14), (0, 8, 13), (0, 8, 12), (0, 8, 11), (0, 8, 10), (0, 8, 9), (0, 8, 8), (0, 8, 7), (0, 8, 6), (0, 8, 5), (0, 8, 4), (0, 8, 3), (0, 8, 2), (0, 8, 1)] [] [])) hu ?_
  show zx p l e _ s m _ below meth c g 3 0 0 _ _ 46 [(2, .int 35), (0, .ref (b + 0)), (1, .int 38)] _
  refine z_iinc (v := 36) (lv' := [(2, .int 36), (0, .ref (b + 0)), (1, .int 38)]) B dX8_tick_46 0 rfl (by decide) (by decide) rfl ?_
  refine z_goto (tgt := 23) B dX8_tick_49 (by decide) ?_
  refine z_iload_n B dX8_tick_23 rfl 0 rfl ?_
  refine z_iload_n B dX8_tick_24 rfl 2 rfl ?_
  refine z_icmp_ge (tgt := 52) B dX8_tick_25 (by decide) (fun h => absurd h (by decide)) (fun _ => ?_)
  refine z_aload_n B dX8_tick_28 rfl 1 rfl ?_
  refine z_dup B dX8_tick_29 rfl ?_
  refine gf_X8_206 (x := 36) B (lKA (hk_K hK 0 rfl rfl)) (rI_at 0 8 rfl) dX8_tick_30 ?_
  refine z_iconst (v := 1) B dX8_tick_33 (by decide) ?_
  refine z_iadd B dX8_tick_34 ?_
  refine z_seti (y := 37) (by decide) ?_
  refine pf_X8_206 (x := 37) (σ' := (ap b σ [(0, 8, 37), (0, 8, 36), (0, 8, 35), (0, 8, 34), (0, 8, 33), (0, 8, 32), (0, 8, 31), (0, 8, 30), (0, 8, 29), (0, 8, 28), (0, 8, 27), (0, 8, 26), (0, 8, 25), (0, 8, 24), (0, 8, 23), (0, 8, 22), (0, 8, 21), (0, 8, 20), (0, 8, 19), (0, 8, 18), (0, 8, 17), (0, 8, 16), (0, 8, 15), (0, 8, 14), (0, 8, 13), (0, 8, 12), (0, 8, 11), (0, 8, 10), (0, 8, 9), (0, 8, 8), (0, 8, 7), (0, 8, 6), (0, 8, 5), (0, 8, 4), (0, 8, 3), (0, 8, 2), (0, 8, 1)] [] [])) B (lKA (hk_K hK 0 rfl rfl)) wI_ap dX8_tick_35 ?_
  refine z_aload_n B dX8_tick_38 rfl 1 rfl ?_
  refine z_cVv (As := []) (rest := []) B cw_X8_240 cx_9 dX8_tick_39 (ci_X8_passTasks_920 l (σ := (ap b σ [(0, 8, 37), (0, 8, 36), (0, 8, 35), (0, 8, 34), (0, 8, 33), (0, 8, 32), (0, 8, 31), (0, 8, 30), (0, 8, 29), (0, 8, 28), (0, 8, 27), (0, 8, 26), (0, 8, 25), (0, 8, 24), (0, 8, 23), (0, 8, 22), (0, 8, 21), (0, 8, 20), (0, 8, 19), (0, 8, 18), (0, 8, 17), (0, 8, 16), (0, 8, 15), (0, 8, 14), (0, 8, 13), (0, 8, 12), (0, 8, 11), (0, 8, 10), (0, 8, 9), (0, 8, 8), (0, 8, 7), (0, 8, 6), (0, 8, 5), (0, 8, 4), (0, 8, 3), (0, 8, 2), (0, 8, 1)] [] [])) (b := b) (lyA hK) (rI_at 4 2 hI_4_2) (rR_at 0 3 hR_0_3)) (lKA (hk_K hK 0 rfl rfl)) rfl (by decide) rfl (Nat.le_of_ble_eq_true rfl) (by decide) (fun u hu => ?_)
  refine z_eqs (σ' := (ap b σ [(0, 8, 37), (0, 8, 36), (0, 8, 35), (0, 8, 34), (0, 8, 33), (0, 8, 32), (0, 8, 31), (0, 8, 30), (0, 8, 29), (0, 8, 28), (0, 8, 27), (0, 8, 26), (0, 8, 25), (0, 8, 24), (0, 8, 23), (0, 8, 22), (0, 8, 21), (0, 8, 20), (0, 8, 19), (0, 8, 18), (0, 8, 17), (0, 8, 16), (0, 8, 15), (0, 8, 14), (0, 8, 13), (0, 8, 12), (0, 8, 11), (0, 8, 10), (0, 8, 9), (0, 8, 8), (0, 8, 7), (0, 8, 6), (0, 8, 5), (0, 8, 4), (0, 8, 3), (0, 8, 2), (0, 8, 1)] [] [])) hu ?_
  show zx p l e _ s m _ below meth c g 3 0 0 _ _ 42 [(2, .int 36), (0, .ref (b + 0)), (1, .int 38)] _
  refine z_aload_n B dX8_tick_42 rfl 1 rfl ?_
  refine z_cVv (As := []) (rest := []) B cw_X8_243 cx_9 dX8_tick_43 (ci_X8_passTimers_921 l (σ := (ap b σ [(0, 8, 37), (0, 8, 36), (0, 8, 35), (0, 8, 34), (0, 8, 33), (0, 8, 32), (0, 8, 31), (0, 8, 30), (0, 8, 29), (0, 8, 28), (0, 8, 27), (0, 8, 26), (0, 8, 25), (0, 8, 24), (0, 8, 23), (0, 8, 22), (0, 8, 21), (0, 8, 20), (0, 8, 19), (0, 8, 18), (0, 8, 17), (0, 8, 16), (0, 8, 15), (0, 8, 14), (0, 8, 13), (0, 8, 12), (0, 8, 11), (0, 8, 10), (0, 8, 9), (0, 8, 8), (0, 8, 7), (0, 8, 6), (0, 8, 5), (0, 8, 4), (0, 8, 3), (0, 8, 2), (0, 8, 1)] [] [])) (b := b) (lyA hK) (rI_at 0 7 hI_0_7)) (lKA (hk_K hK 0 rfl rfl)) rfl (by decide) rfl (Nat.le_of_ble_eq_true rfl) (by decide) (fun u hu => ?_)
  refine z_eqs (σ' := (ap b σ [(0, 8, 37), (0, 8, 36), (0, 8, 35), (0, 8, 34), (0, 8, 33), (0, 8, 32), (0, 8, 31), (0, 8, 30), (0, 8, 29), (0, 8, 28), (0, 8, 27), (0, 8, 26), (0, 8, 25), (0, 8, 24), (0, 8, 23), (0, 8, 22), (0, 8, 21), (0, 8, 20), (0, 8, 19), (0, 8, 18), (0, 8, 17), (0, 8, 16), (0, 8, 15), (0, 8, 14), (0, 8, 13), (0, 8, 12), (0, 8, 11), (0, 8, 10), (0, 8, 9), (0, 8, 8), (0, 8, 7), (0, 8, 6), (0, 8, 5), (0, 8, 4), (0, 8, 3), (0, 8, 2), (0, 8, 1)] [] [])) hu ?_
  show zx p l e _ s m _ below meth c g 3 0 0 _ _ 46 [(2, .int 36), (0, .ref (b + 0)), (1, .int 38)] _
  refine z_iinc (v := 37) (lv' := [(2, .int 37), (0, .ref (b + 0)), (1, .int 38)]) B dX8_tick_46 0 rfl (by decide) (by decide) rfl ?_
  refine z_goto (tgt := 23) B dX8_tick_49 (by decide) ?_
  refine z_iload_n B dX8_tick_23 rfl 0 rfl ?_
  refine z_iload_n B dX8_tick_24 rfl 2 rfl ?_
  refine z_icmp_ge (tgt := 52) B dX8_tick_25 (by decide) (fun h => absurd h (by decide)) (fun _ => ?_)
  refine z_aload_n B dX8_tick_28 rfl 1 rfl ?_
  refine z_dup B dX8_tick_29 rfl ?_
  refine gf_X8_206 (x := 37) B (lKA (hk_K hK 0 rfl rfl)) (rI_at 0 8 rfl) dX8_tick_30 ?_
  refine z_iconst (v := 1) B dX8_tick_33 (by decide) ?_
  refine z_iadd B dX8_tick_34 ?_
  refine z_seti (y := 38) (by decide) ?_
  refine pf_X8_206 (x := 38) (σ' := (ap b σ [(0, 8, 38), (0, 8, 37), (0, 8, 36), (0, 8, 35), (0, 8, 34), (0, 8, 33), (0, 8, 32), (0, 8, 31), (0, 8, 30), (0, 8, 29), (0, 8, 28), (0, 8, 27), (0, 8, 26), (0, 8, 25), (0, 8, 24), (0, 8, 23), (0, 8, 22), (0, 8, 21), (0, 8, 20), (0, 8, 19), (0, 8, 18), (0, 8, 17), (0, 8, 16), (0, 8, 15), (0, 8, 14), (0, 8, 13), (0, 8, 12), (0, 8, 11), (0, 8, 10), (0, 8, 9), (0, 8, 8), (0, 8, 7), (0, 8, 6), (0, 8, 5), (0, 8, 4), (0, 8, 3), (0, 8, 2), (0, 8, 1)] [] [])) B (lKA (hk_K hK 0 rfl rfl)) wI_ap dX8_tick_35 ?_
  refine z_aload_n B dX8_tick_38 rfl 1 rfl ?_
  refine z_cVv (As := []) (rest := []) B cw_X8_240 cx_9 dX8_tick_39 (ci_X8_passTasks_920 l (σ := (ap b σ [(0, 8, 38), (0, 8, 37), (0, 8, 36), (0, 8, 35), (0, 8, 34), (0, 8, 33), (0, 8, 32), (0, 8, 31), (0, 8, 30), (0, 8, 29), (0, 8, 28), (0, 8, 27), (0, 8, 26), (0, 8, 25), (0, 8, 24), (0, 8, 23), (0, 8, 22), (0, 8, 21), (0, 8, 20), (0, 8, 19), (0, 8, 18), (0, 8, 17), (0, 8, 16), (0, 8, 15), (0, 8, 14), (0, 8, 13), (0, 8, 12), (0, 8, 11), (0, 8, 10), (0, 8, 9), (0, 8, 8), (0, 8, 7), (0, 8, 6), (0, 8, 5), (0, 8, 4), (0, 8, 3), (0, 8, 2), (0, 8, 1)] [] [])) (b := b) (lyA hK) (rI_at 4 2 hI_4_2) (rR_at 0 3 hR_0_3)) (lKA (hk_K hK 0 rfl rfl)) rfl (by decide) rfl (Nat.le_of_ble_eq_true rfl) (by decide) (fun u hu => ?_)
  refine z_eqs (σ' := (ap b σ [(0, 8, 38), (0, 8, 37), (0, 8, 36), (0, 8, 35), (0, 8, 34), (0, 8, 33), (0, 8, 32), (0, 8, 31), (0, 8, 30), (0, 8, 29), (0, 8, 28), (0, 8, 27), (0, 8, 26), (0, 8, 25), (0, 8, 24), (0, 8, 23), (0, 8, 22), (0, 8, 21), (0, 8, 20), (0, 8, 19), (0, 8, 18), (0, 8, 17), (0, 8, 16), (0, 8, 15), (0, 8, 14), (0, 8, 13), (0, 8, 12), (0, 8, 11), (0, 8, 10), (0, 8, 9), (0, 8, 8), (0, 8, 7), (0, 8, 6), (0, 8, 5), (0, 8, 4), (0, 8, 3), (0, 8, 2), (0, 8, 1)] [] [])) hu ?_
  show zx p l e _ s m _ below meth c g 3 0 0 _ _ 42 [(2, .int 37), (0, .ref (b + 0)), (1, .int 38)] _
  refine z_aload_n B dX8_tick_42 rfl 1 rfl ?_
  refine z_cVv (As := []) (rest := []) B cw_X8_243 cx_9 dX8_tick_43 (ci_X8_passTimers_921 l (σ := (ap b σ [(0, 8, 38), (0, 8, 37), (0, 8, 36), (0, 8, 35), (0, 8, 34), (0, 8, 33), (0, 8, 32), (0, 8, 31), (0, 8, 30), (0, 8, 29), (0, 8, 28), (0, 8, 27), (0, 8, 26), (0, 8, 25), (0, 8, 24), (0, 8, 23), (0, 8, 22), (0, 8, 21), (0, 8, 20), (0, 8, 19), (0, 8, 18), (0, 8, 17), (0, 8, 16), (0, 8, 15), (0, 8, 14), (0, 8, 13), (0, 8, 12), (0, 8, 11), (0, 8, 10), (0, 8, 9), (0, 8, 8), (0, 8, 7), (0, 8, 6), (0, 8, 5), (0, 8, 4), (0, 8, 3), (0, 8, 2), (0, 8, 1)] [] [])) (b := b) (lyA hK) (rI_at 0 7 hI_0_7)) (lKA (hk_K hK 0 rfl rfl)) rfl (by decide) rfl (Nat.le_of_ble_eq_true rfl) (by decide) (fun u hu => ?_)
  refine z_eqs (σ' := (ap b σ [(0, 8, 38), (0, 8, 37), (0, 8, 36), (0, 8, 35), (0, 8, 34), (0, 8, 33), (0, 8, 32), (0, 8, 31), (0, 8, 30), (0, 8, 29), (0, 8, 28), (0, 8, 27), (0, 8, 26), (0, 8, 25), (0, 8, 24), (0, 8, 23), (0, 8, 22), (0, 8, 21), (0, 8, 20), (0, 8, 19), (0, 8, 18), (0, 8, 17), (0, 8, 16), (0, 8, 15), (0, 8, 14), (0, 8, 13), (0, 8, 12), (0, 8, 11), (0, 8, 10), (0, 8, 9), (0, 8, 8), (0, 8, 7), (0, 8, 6), (0, 8, 5), (0, 8, 4), (0, 8, 3), (0, 8, 2), (0, 8, 1)] [] [])) hu ?_
  show zx p l e _ s m _ below meth c g 3 0 0 _ _ 46 [(2, .int 37), (0, .ref (b + 0)), (1, .int 38)] _
  refine z_iinc (v := 38) (lv' := [(2, .int 38), (0, .ref (b + 0)), (1, .int 38)]) B dX8_tick_46 0 rfl (by decide) (by decide) rfl ?_
  refine z_goto (tgt := 23) B dX8_tick_49 (by decide) ?_
  refine z_iload_n B dX8_tick_23 rfl 0 rfl ?_
  refine z_iload_n B dX8_tick_24 rfl 2 rfl ?_
  refine z_icmp_ge (tgt := 52) B dX8_tick_25 (by decide) (fun _ => ?_) (fun h => absurd (by decide) h)
  refine z_aload_n B dX8_tick_52 rfl 1 rfl ?_
  refine gf_X8_206 (x := 38) B (lKA (hk_K hK 0 rfl rfl)) (rI_at 0 8 rfl) dX8_tick_53 ?_
  exact z_iret B hr (by decide) (by decide) dX8_tick_56 ⟨rfl, rfl⟩
set_option maxRecDepth 100000 in
set_option maxHeartbeats 4000000 in
theorem ci_L_tick_1108 (l : Launch) {g : gx_T} {σ : sx_T} {b : Nat} (hK : lay b σ)   (hI_0_7 : sx_I σ (b + 0) 7 = 0) (hI_0_8 : sx_I σ (b + 0) 8 = 0) (hI_4_2 : sx_I σ (b + 4) 2 = 0) (hR_0_3 : sx_R σ (b + 0) 3 = (some (b + 4))) : Met l yL_tick (.codeWith yL_tick cL_tick 4 (some .int) [(0, 9, 12, 15)] :: lw_g) { frames := 3, cells := 0, slots := 0, locals := 64 } (va_Pc [.ref (b + 0), .int 38, .ref (b + 431)] (zx_w g σ)) (va_Qi (fun r u => r = 0 ∧ u = (ap b σ [(0, 8, 38), (0, 8, 37), (0, 8, 36), (0, 8, 35), (0, 8, 34), (0, 8, 33), (0, 8, 32), (0, 8, 31), (0, 8, 30), (0, 8, 29), (0, 8, 28), (0, 8, 27), (0, 8, 26), (0, 8, 25), (0, 8, 24), (0, 8, 23), (0, 8, 22), (0, 8, 21), (0, 8, 20), (0, 8, 19), (0, 8, 18), (0, 8, 17), (0, 8, 16), (0, 8, 15), (0, 8, 14), (0, 8, 13), (0, 8, 12), (0, 8, 11), (0, 8, 10), (0, 8, 9), (0, 8, 8), (0, 8, 7), (0, 8, 6), (0, 8, 5), (0, 8, 4), (0, 8, 3), (0, 8, 2), (0, 8, 1)] [(431, 0, 38)] [])) (zx_w g) (gx_Q g)) 0 0 (gx_Q g) := by
  refine z_metW (by decide) (Nat.le_of_ble_eq_true rfl) (fun p e s m below meth c B hr htab => ?_)
  refine z_eqs (σ' := (ap b σ [] [] [])) rfl ?_
  show zx p l e _ s m _ below meth c g 4 0 0 _ _ 0 [(0, .ref (b + 0)), (1, .int 38), (2, .ref (b + 431))] []
  refine z_aload_n B dL_tick_0 rfl 2 rfl ?_
  refine z_iconst (v := 0) B dL_tick_1 (by decide) ?_
  refine z_aload_n B dL_tick_2 rfl 0 rfl ?_
  refine z_iload_n B dL_tick_3 rfl 1 rfl ?_
  refine z_cVi (As := [.int 38]) (rest := [.int 0, .ref (b + 431)]) B cw_L_41 cx_9 dL_tick_4 (ci_X8_tick_1107 l (σ := (ap b σ [] [] [])) (b := b) (lyA hK) (rI_at 0 7 hI_0_7) (rI_at 0 8 hI_0_8) (rI_at 4 2 hI_4_2) (rR_at 0 3 hR_0_3)) (lKA (hk_K hK 0 rfl rfl)) rfl (by decide) rfl (Nat.le_of_ble_eq_true rfl) (by decide) (fun r u hu => ?_)
  refine z_eqs (σ' := (ap b σ [(0, 8, 38), (0, 8, 37), (0, 8, 36), (0, 8, 35), (0, 8, 34), (0, 8, 33), (0, 8, 32), (0, 8, 31), (0, 8, 30), (0, 8, 29), (0, 8, 28), (0, 8, 27), (0, 8, 26), (0, 8, 25), (0, 8, 24), (0, 8, 23), (0, 8, 22), (0, 8, 21), (0, 8, 20), (0, 8, 19), (0, 8, 18), (0, 8, 17), (0, 8, 16), (0, 8, 15), (0, 8, 14), (0, 8, 13), (0, 8, 12), (0, 8, 11), (0, 8, 10), (0, 8, 9), (0, 8, 8), (0, 8, 7), (0, 8, 6), (0, 8, 5), (0, 8, 4), (0, 8, 3), (0, 8, 2), (0, 8, 1)] [] [])) (hu.2.trans ap_ap) ?_
  show zx p l e _ s m _ below meth c g 4 0 0 _ _ 7 [(0, .ref (b + 0)), (1, .int 38), (2, .ref (b + 431))] _
  refine z_seti (y := 38) hu.1 ?_
  refine z_i2l (v := 38) B dL_tick_7 (by decide) ?_
  refine z_last (j := 0) (σ' := (ap b σ [(0, 8, 38), (0, 8, 37), (0, 8, 36), (0, 8, 35), (0, 8, 34), (0, 8, 33), (0, 8, 32), (0, 8, 31), (0, 8, 30), (0, 8, 29), (0, 8, 28), (0, 8, 27), (0, 8, 26), (0, 8, 25), (0, 8, 24), (0, 8, 23), (0, 8, 22), (0, 8, 21), (0, 8, 20), (0, 8, 19), (0, 8, 18), (0, 8, 17), (0, 8, 16), (0, 8, 15), (0, 8, 14), (0, 8, 13), (0, 8, 12), (0, 8, 11), (0, 8, 10), (0, 8, 9), (0, 8, 8), (0, 8, 7), (0, 8, 6), (0, 8, 5), (0, 8, 4), (0, 8, 3), (0, 8, 2), (0, 8, 1)] [(431, 0, 38)] [])) B (lKA (hk_K hK 431 rfl rfl)) (by decide) (in_of (lNA (hk_N hK 431 rfl rfl)) (show ¬ ((0 : Int32) < 0 ∨ 1 ≤ (0 : Int32).toNatClampNeg) by decide)) wJ_ap dL_tick_8 ?_
  refine z_goto (tgt := 15) B dL_tick_9 (by decide) ?_
  refine z_iconst (v := 0) B dL_tick_15 (by decide) ?_
  exact z_iret B hr (by decide) (by decide) dL_tick_16 ⟨rfl, rfl⟩
set_option maxRecDepth 100000 in
set_option maxHeartbeats 4000000 in
theorem ci_X9_in_1109 (l : Launch) {g : gx_T} {σ : sx_T} {b : Nat} (hK : lay b σ)    : Met l yX9_in (.code yX9_in cX9_in 3 (some .boolean) :: lw_g) { frames := 0, cells := 0, slots := 0, locals := 0 } (va_Pc [.int 38, .int 1, .int 50] (zx_w g σ)) (va_Qi (fun r u => r = 1 ∧ u = σ) (zx_w g) (gx_Q g)) 0 0 (gx_Q g) := by
  refine z_met (by decide) (Nat.le_of_ble_eq_true rfl) (fun p e s m below meth c B hr hin => ?_)
  refine z_eqs (σ' := (ap b σ [] [] [])) rfl ?_
  show zx p l e _ s m _ below meth c g 3 0 0 _ _ 0 [(0, .int 38), (1, .int 1), (2, .int 50)] []
  refine z_iload_n B dX9_in_0 rfl 0 rfl ?_
  refine z_iload_n B dX9_in_1 rfl 1 rfl ?_
  refine z_icmp_lt (tgt := 14) B dX9_in_2 (by decide) (fun h => absurd h (by decide)) (fun _ => ?_)
  refine z_iload_n B dX9_in_5 rfl 0 rfl ?_
  refine z_iload_n B dX9_in_6 rfl 2 rfl ?_
  refine z_icmp_gt (tgt := 14) B dX9_in_7 (by decide) (fun h => absurd h (by decide)) (fun _ => ?_)
  refine z_iconst (v := 1) B dX9_in_10 (by decide) ?_
  refine z_goto (tgt := 15) B dX9_in_11 (by decide) ?_
  exact z_zret B hr (by decide) (by decide) (by decide) dX9_in_15 ⟨rfl, rfl⟩
set_option maxRecDepth 100000 in
set_option maxHeartbeats 4000000 in
theorem ci_X9_ticks_1110 (l : Launch) {g : gx_T} {σ : sx_T} {b : Nat} (hK : lay b σ)   (hI_405_1 : sx_I σ (b + 405) 1 = 37) (hI_405_6 : sx_I σ (b + 405) 6 = 0) (hI_405_16 : sx_I σ (b + 405) 16 = 0) : Met l yX9_ticks (.code yX9_ticks cX9_ticks 2 none :: lw_g) { frames := 0, cells := 0, slots := 0, locals := 0 } (va_Pc [.ref (b + 405)] (zx_w g σ)) (va_Qv (fun u => u = (ap b σ [(405, 1, 38)] [] [])) (zx_w g) (gx_Q g)) 0 0 (gx_Q g) := by
  refine z_met (by decide) (Nat.le_of_ble_eq_true rfl) (fun p e s m below meth c B hr hin => ?_)
  refine z_eqs (σ' := (ap b σ [] [] [])) rfl ?_
  show zx p l e _ s m _ below meth c g 2 0 0 _ _ 0 [(0, .ref (b + 405))] []
  refine z_aload_n B dX9_ticks_0 rfl 0 rfl ?_
  refine z_dup B dX9_ticks_1 rfl ?_
  refine gf_X9_197 (x := 37) B (lKA (hk_K hK 405 rfl rfl)) (rI_at 405 1 hI_405_1) dX9_ticks_2 ?_
  refine z_iconst (v := 1) B dX9_ticks_5 (by decide) ?_
  refine z_iadd B dX9_ticks_6 ?_
  refine z_seti (y := 38) (by decide) ?_
  refine pf_X9_197 (x := 38) (σ' := (ap b σ [(405, 1, 38)] [] [])) B (lKA (hk_K hK 405 rfl rfl)) wI_ap dX9_ticks_7 ?_
  refine z_iconst (v := 0) B dX9_ticks_10 (by decide) ?_
  refine z_istore_n (lv' := [(1, .int 0), (0, .ref (b + 405))]) B dX9_ticks_11 rfl (by decide) rfl ?_
  refine z_iload_n B dX9_ticks_12 rfl 0 rfl ?_
  refine z_aload_n B dX9_ticks_13 rfl 1 rfl ?_
  refine gf_X9_100 (x := 0) B (lKA (hk_K hK 405 rfl rfl)) (rI_at 405 16 hI_405_16) dX9_ticks_14 ?_
  refine z_icmp_ge (tgt := 104) B dX9_ticks_17 (by decide) (fun _ => ?_) (fun h => absurd (by decide) h)
  refine z_iconst (v := 0) B dX9_ticks_104 (by decide) ?_
  refine z_istore_n (lv' := [(1, .int 0), (0, .ref (b + 405))]) B dX9_ticks_105 rfl (by decide) rfl ?_
  refine z_iload_n B dX9_ticks_106 rfl 0 rfl ?_
  refine z_aload_n B dX9_ticks_107 rfl 1 rfl ?_
  refine gf_X9_93 (x := 0) B (lKA (hk_K hK 405 rfl rfl)) (rI_at 405 6 hI_405_6) dX9_ticks_108 ?_
  refine z_icmp_ge (tgt := 176) B dX9_ticks_111 (by decide) (fun _ => ?_) (fun h => absurd (by decide) h)
  exact z_vret B hr (by decide) (by decide) dX9_ticks_176 rfl
set_option maxRecDepth 100000 in
set_option maxHeartbeats 4000000 in
theorem ci_X9_tick_1111 (l : Launch) {g : gx_T} {σ : sx_T} {b : Nat} (hK : lay b σ)   (hI_405_1 : sx_I σ (b + 405) 1 = 0) (hI_405_6 : sx_I σ (b + 405) 6 = 0) (hI_405_16 : sx_I σ (b + 405) 16 = 0) : Met l yX9_tick (.code yX9_tick cX9_tick 3 (some .int) :: lw_g) { frames := 1, cells := 0, slots := 0, locals := 22 } (va_Pc [.ref (b + 405), .int 38] (zx_w g σ)) (va_Qi (fun r u => r = 38 ∧ u = (ap b σ [(405, 1, 38), (405, 1, 37), (405, 1, 36), (405, 1, 35), (405, 1, 34), (405, 1, 33), (405, 1, 32), (405, 1, 31), (405, 1, 30), (405, 1, 29), (405, 1, 28), (405, 1, 27), (405, 1, 26), (405, 1, 25), (405, 1, 24), (405, 1, 23), (405, 1, 22), (405, 1, 21), (405, 1, 20), (405, 1, 19), (405, 1, 18), (405, 1, 17), (405, 1, 16), (405, 1, 15), (405, 1, 14), (405, 1, 13), (405, 1, 12), (405, 1, 11), (405, 1, 10), (405, 1, 9), (405, 1, 8), (405, 1, 7), (405, 1, 6), (405, 1, 5), (405, 1, 4), (405, 1, 3), (405, 1, 2), (405, 1, 1), (405, 0, 0)] [] [])) (zx_w g) (gx_Q g)) 0 0 (gx_Q g) := by
  refine z_met (by decide) (Nat.le_of_ble_eq_true rfl) (fun p e s m below meth c B hr hin => ?_)
  refine z_eqs (σ' := (ap b σ [] [] [])) rfl ?_
  show zx p l e _ s m _ below meth c g 3 0 0 _ _ 0 [(0, .ref (b + 405)), (1, .int 38)] []
  refine z_aload_n B dX9_tick_0 rfl 0 rfl ?_
  refine z_iload_n B dX9_tick_1 rfl 1 rfl ?_
  refine z_iconst (v := 1) B dX9_tick_2 (by decide) ?_
  refine z_bipush (v := 50) B dX9_tick_3 (by decide) ?_
  refine z_cSi (As := [.int 38, .int 1, .int 50]) (rest := [.ref (b + 405)]) B cw_X9_96 dX9_tick_5 (ci_X9_in_1109 l (σ := (ap b σ [] [] [])) (b := b) (lyA hK) ) rfl (by decide) rfl (Nat.le_of_ble_eq_true rfl) (by decide) (fun r u hu => ?_)
  refine z_eqs (σ' := (ap b σ [] [] [])) hu.2 ?_
  show zx p l e _ s m _ below meth c g 3 0 0 _ _ 8 [(0, .ref (b + 405)), (1, .int 38)] _
  refine z_seti (y := 1) hu.1 ?_
  refine z_cVi (As := [.int 1]) (rest := []) B cw_X9_269 cx_10 dX9_tick_8 (ci_X9_needs_905 l (σ := (ap b σ [] [] [])) (b := b) (lyA hK) ) (lKA (hk_K hK 405 rfl rfl)) rfl (by decide) rfl (Nat.le_of_ble_eq_true rfl) (by decide) (fun r u hu => ?_)
  refine z_eqs (σ' := (ap b σ [(405, 0, 0)] [] [])) (hu.2.trans ap_ap) ?_
  show zx p l e _ s m _ below meth c g 3 0 0 _ _ 11 [(0, .ref (b + 405)), (1, .int 38)] _
  refine z_seti (y := 1) hu.1 ?_
  refine z_if_ne (tgt := 16) B dX9_tick_11 (by decide) (fun _ => ?_) (fun h => absurd h (by decide))
  refine z_iconst (v := 0) B dX9_tick_16 (by decide) ?_
  refine z_istore_n (lv' := [(2, .int 0), (0, .ref (b + 405)), (1, .int 38)]) B dX9_tick_17 rfl (by decide) rfl ?_
  refine z_iload_n B dX9_tick_18 rfl 0 rfl ?_
  refine z_iload_n B dX9_tick_19 rfl 2 rfl ?_
  refine z_icmp_ge (tgt := 33) B dX9_tick_20 (by decide) (fun h => absurd h (by decide)) (fun _ => ?_)
  refine z_aload_n B dX9_tick_23 rfl 1 rfl ?_
  refine z_cVv (As := []) (rest := []) B cw_X9_294 cx_10 dX9_tick_24 (ci_X9_ticks_925 l (σ := (ap b σ [(405, 0, 0)] [] [])) (b := b) (lyA hK) (rI_at 405 1 hI_405_1) (rI_at 405 6 hI_405_6) (rI_at 405 16 hI_405_16)) (lKA (hk_K hK 405 rfl rfl)) rfl (by decide) rfl (Nat.le_of_ble_eq_true rfl) (by decide) (fun u hu => ?_)
  refine z_eqs (σ' := (ap b σ [(405, 1, 1), (405, 0, 0)] [] [])) (hu.trans ap_ap) ?_
  show zx p l e _ s m _ below meth c g 3 0 0 _ _ 27 [(2, .int 0), (0, .ref (b + 405)), (1, .int 38)] _
  refine z_iinc (v := 1) (lv' := [(2, .int 1), (0, .ref (b + 405)), (1, .int 38)]) B dX9_tick_27 0 rfl (by decide) (by decide) rfl ?_
  refine z_goto (tgt := 18) B dX9_tick_30 (by decide) ?_
  refine z_iload_n B dX9_tick_18 rfl 0 rfl ?_
  refine z_iload_n B dX9_tick_19 rfl 2 rfl ?_
  refine z_icmp_ge (tgt := 33) B dX9_tick_20 (by decide) (fun h => absurd h (by decide)) (fun _ => ?_)
  refine z_aload_n B dX9_tick_23 rfl 1 rfl ?_
  refine z_cVv (As := []) (rest := []) B cw_X9_294 cx_10 dX9_tick_24 (ci_X9_ticks_930 l (σ := (ap b σ [(405, 1, 1), (405, 0, 0)] [] [])) (b := b) (lyA hK) (rI_at 405 1 rfl) (rI_at 405 6 hI_405_6) (rI_at 405 16 hI_405_16)) (lKA (hk_K hK 405 rfl rfl)) rfl (by decide) rfl (Nat.le_of_ble_eq_true rfl) (by decide) (fun u hu => ?_)
  refine z_eqs (σ' := (ap b σ [(405, 1, 2), (405, 1, 1), (405, 0, 0)] [] [])) (hu.trans ap_ap) ?_
  show zx p l e _ s m _ below meth c g 3 0 0 _ _ 27 [(2, .int 1), (0, .ref (b + 405)), (1, .int 38)] _
  refine z_iinc (v := 2) (lv' := [(2, .int 2), (0, .ref (b + 405)), (1, .int 38)]) B dX9_tick_27 0 rfl (by decide) (by decide) rfl ?_
  refine z_goto (tgt := 18) B dX9_tick_30 (by decide) ?_
  refine z_iload_n B dX9_tick_18 rfl 0 rfl ?_
  refine z_iload_n B dX9_tick_19 rfl 2 rfl ?_
  refine z_icmp_ge (tgt := 33) B dX9_tick_20 (by decide) (fun h => absurd h (by decide)) (fun _ => ?_)
  refine z_aload_n B dX9_tick_23 rfl 1 rfl ?_
  refine z_cVv (As := []) (rest := []) B cw_X9_294 cx_10 dX9_tick_24 (ci_X9_ticks_935 l (σ := (ap b σ [(405, 1, 2), (405, 1, 1), (405, 0, 0)] [] [])) (b := b) (lyA hK) (rI_at 405 1 rfl) (rI_at 405 6 hI_405_6) (rI_at 405 16 hI_405_16)) (lKA (hk_K hK 405 rfl rfl)) rfl (by decide) rfl (Nat.le_of_ble_eq_true rfl) (by decide) (fun u hu => ?_)
  refine z_eqs (σ' := (ap b σ [(405, 1, 3), (405, 1, 2), (405, 1, 1), (405, 0, 0)] [] [])) (hu.trans ap_ap) ?_
  show zx p l e _ s m _ below meth c g 3 0 0 _ _ 27 [(2, .int 2), (0, .ref (b + 405)), (1, .int 38)] _
  refine z_iinc (v := 3) (lv' := [(2, .int 3), (0, .ref (b + 405)), (1, .int 38)]) B dX9_tick_27 0 rfl (by decide) (by decide) rfl ?_
  refine z_goto (tgt := 18) B dX9_tick_30 (by decide) ?_
  refine z_iload_n B dX9_tick_18 rfl 0 rfl ?_
  refine z_iload_n B dX9_tick_19 rfl 2 rfl ?_
  refine z_icmp_ge (tgt := 33) B dX9_tick_20 (by decide) (fun h => absurd h (by decide)) (fun _ => ?_)
  refine z_aload_n B dX9_tick_23 rfl 1 rfl ?_
  refine z_cVv (As := []) (rest := []) B cw_X9_294 cx_10 dX9_tick_24 (ci_X9_ticks_940 l (σ := (ap b σ [(405, 1, 3), (405, 1, 2), (405, 1, 1), (405, 0, 0)] [] [])) (b := b) (lyA hK) (rI_at 405 1 rfl) (rI_at 405 6 hI_405_6) (rI_at 405 16 hI_405_16)) (lKA (hk_K hK 405 rfl rfl)) rfl (by decide) rfl (Nat.le_of_ble_eq_true rfl) (by decide) (fun u hu => ?_)
  refine z_eqs (σ' := (ap b σ [(405, 1, 4), (405, 1, 3), (405, 1, 2), (405, 1, 1), (405, 0, 0)] [] [])) (hu.trans ap_ap) ?_
  show zx p l e _ s m _ below meth c g 3 0 0 _ _ 27 [(2, .int 3), (0, .ref (b + 405)), (1, .int 38)] _
  refine z_iinc (v := 4) (lv' := [(2, .int 4), (0, .ref (b + 405)), (1, .int 38)]) B dX9_tick_27 0 rfl (by decide) (by decide) rfl ?_
  refine z_goto (tgt := 18) B dX9_tick_30 (by decide) ?_
  refine z_iload_n B dX9_tick_18 rfl 0 rfl ?_
  refine z_iload_n B dX9_tick_19 rfl 2 rfl ?_
  refine z_icmp_ge (tgt := 33) B dX9_tick_20 (by decide) (fun h => absurd h (by decide)) (fun _ => ?_)
  refine z_aload_n B dX9_tick_23 rfl 1 rfl ?_
  refine z_cVv (As := []) (rest := []) B cw_X9_294 cx_10 dX9_tick_24 (ci_X9_ticks_945 l (σ := (ap b σ [(405, 1, 4), (405, 1, 3), (405, 1, 2), (405, 1, 1), (405, 0, 0)] [] [])) (b := b) (lyA hK) (rI_at 405 1 rfl) (rI_at 405 6 hI_405_6) (rI_at 405 16 hI_405_16)) (lKA (hk_K hK 405 rfl rfl)) rfl (by decide) rfl (Nat.le_of_ble_eq_true rfl) (by decide) (fun u hu => ?_)
  refine z_eqs (σ' := (ap b σ [(405, 1, 5), (405, 1, 4), (405, 1, 3), (405, 1, 2), (405, 1, 1), (405, 0, 0)] [] [])) (hu.trans ap_ap) ?_
  show zx p l e _ s m _ below meth c g 3 0 0 _ _ 27 [(2, .int 4), (0, .ref (b + 405)), (1, .int 38)] _
  refine z_iinc (v := 5) (lv' := [(2, .int 5), (0, .ref (b + 405)), (1, .int 38)]) B dX9_tick_27 0 rfl (by decide) (by decide) rfl ?_
  refine z_goto (tgt := 18) B dX9_tick_30 (by decide) ?_
  refine z_iload_n B dX9_tick_18 rfl 0 rfl ?_
  refine z_iload_n B dX9_tick_19 rfl 2 rfl ?_
  refine z_icmp_ge (tgt := 33) B dX9_tick_20 (by decide) (fun h => absurd h (by decide)) (fun _ => ?_)
  refine z_aload_n B dX9_tick_23 rfl 1 rfl ?_
  refine z_cVv (As := []) (rest := []) B cw_X9_294 cx_10 dX9_tick_24 (ci_X9_ticks_950 l (σ := (ap b σ [(405, 1, 5), (405, 1, 4), (405, 1, 3), (405, 1, 2), (405, 1, 1), (405, 0, 0)] [] [])) (b := b) (lyA hK) (rI_at 405 1 rfl) (rI_at 405 6 hI_405_6) (rI_at 405 16 hI_405_16)) (lKA (hk_K hK 405 rfl rfl)) rfl (by decide) rfl (Nat.le_of_ble_eq_true rfl) (by decide) (fun u hu => ?_)
  refine z_eqs (σ' := (ap b σ [(405, 1, 6), (405, 1, 5), (405, 1, 4), (405, 1, 3), (405, 1, 2), (405, 1, 1), (405, 0, 0)] [] [])) (hu.trans ap_ap) ?_
  show zx p l e _ s m _ below meth c g 3 0 0 _ _ 27 [(2, .int 5), (0, .ref (b + 405)), (1, .int 38)] _
  refine z_iinc (v := 6) (lv' := [(2, .int 6), (0, .ref (b + 405)), (1, .int 38)]) B dX9_tick_27 0 rfl (by decide) (by decide) rfl ?_
  refine z_goto (tgt := 18) B dX9_tick_30 (by decide) ?_
  refine z_iload_n B dX9_tick_18 rfl 0 rfl ?_
  refine z_iload_n B dX9_tick_19 rfl 2 rfl ?_
  refine z_icmp_ge (tgt := 33) B dX9_tick_20 (by decide) (fun h => absurd h (by decide)) (fun _ => ?_)
  refine z_aload_n B dX9_tick_23 rfl 1 rfl ?_
  refine z_cVv (As := []) (rest := []) B cw_X9_294 cx_10 dX9_tick_24 (ci_X9_ticks_955 l (σ := (ap b σ [(405, 1, 6), (405, 1, 5), (405, 1, 4), (405, 1, 3), (405, 1, 2), (405, 1, 1), (405, 0, 0)] [] [])) (b := b) (lyA hK) (rI_at 405 1 rfl) (rI_at 405 6 hI_405_6) (rI_at 405 16 hI_405_16)) (lKA (hk_K hK 405 rfl rfl)) rfl (by decide) rfl (Nat.le_of_ble_eq_true rfl) (by decide) (fun u hu => ?_)
  refine z_eqs (σ' := (ap b σ [(405, 1, 7), (405, 1, 6), (405, 1, 5), (405, 1, 4), (405, 1, 3), (405, 1, 2), (405, 1, 1), (405, 0, 0)] [] [])) (hu.trans ap_ap) ?_
  show zx p l e _ s m _ below meth c g 3 0 0 _ _ 27 [(2, .int 6), (0, .ref (b + 405)), (1, .int 38)] _
  refine z_iinc (v := 7) (lv' := [(2, .int 7), (0, .ref (b + 405)), (1, .int 38)]) B dX9_tick_27 0 rfl (by decide) (by decide) rfl ?_
  refine z_goto (tgt := 18) B dX9_tick_30 (by decide) ?_
  refine z_iload_n B dX9_tick_18 rfl 0 rfl ?_
  refine z_iload_n B dX9_tick_19 rfl 2 rfl ?_
  refine z_icmp_ge (tgt := 33) B dX9_tick_20 (by decide) (fun h => absurd h (by decide)) (fun _ => ?_)
  refine z_aload_n B dX9_tick_23 rfl 1 rfl ?_
  refine z_cVv (As := []) (rest := []) B cw_X9_294 cx_10 dX9_tick_24 (ci_X9_ticks_960 l (σ := (ap b σ [(405, 1, 7), (405, 1, 6), (405, 1, 5), (405, 1, 4), (405, 1, 3), (405, 1, 2), (405, 1, 1), (405, 0, 0)] [] [])) (b := b) (lyA hK) (rI_at 405 1 rfl) (rI_at 405 6 hI_405_6) (rI_at 405 16 hI_405_16)) (lKA (hk_K hK 405 rfl rfl)) rfl (by decide) rfl (Nat.le_of_ble_eq_true rfl) (by decide) (fun u hu => ?_)
  refine z_eqs (σ' := (ap b σ [(405, 1, 8), (405, 1, 7), (405, 1, 6), (405, 1, 5), (405, 1, 4), (405, 1, 3), (405, 1, 2), (405, 1, 1), (405, 0, 0)] [] [])) (hu.trans ap_ap) ?_
  show zx p l e _ s m _ below meth c g 3 0 0 _ _ 27 [(2, .int 7), (0, .ref (b + 405)), (1, .int 38)] _
  refine z_iinc (v := 8) (lv' := [(2, .int 8), (0, .ref (b + 405)), (1, .int 38)]) B dX9_tick_27 0 rfl (by decide) (by decide) rfl ?_
  refine z_goto (tgt := 18) B dX9_tick_30 (by decide) ?_
  refine z_iload_n B dX9_tick_18 rfl 0 rfl ?_
  refine z_iload_n B dX9_tick_19 rfl 2 rfl ?_
  refine z_icmp_ge (tgt := 33) B dX9_tick_20 (by decide) (fun h => absurd h (by decide)) (fun _ => ?_)
  refine z_aload_n B dX9_tick_23 rfl 1 rfl ?_
  refine z_cVv (As := []) (rest := []) B cw_X9_294 cx_10 dX9_tick_24 (ci_X9_ticks_965 l (σ := (ap b σ [(405, 1, 8), (405, 1, 7), (405, 1, 6), (405, 1, 5), (405, 1, 4), (405, 1, 3), (405, 1, 2), (405, 1, 1), (405, 0, 0)] [] [])) (b := b) (lyA hK) (rI_at 405 1 rfl) (rI_at 405 6 hI_405_6) (rI_at 405 16 hI_405_16)) (lKA (hk_K hK 405 rfl rfl)) rfl (by decide) rfl (Nat.le_of_ble_eq_true rfl) (by decide) (fun u hu => ?_)
  refine z_eqs (σ' := (ap b σ [(405, 1, 9), (405, 1, 8), (405, 1, 7), (405, 1, 6), (405, 1, 5), (405, 1, 4), (405, 1, 3), (405, 1, 2), (405, 1, 1), (405, 0, 0)] [] [])) (hu.trans ap_ap) ?_
  show zx p l e _ s m _ below meth c g 3 0 0 _ _ 27 [(2, .int 8), (0, .ref (b + 405)), (1, .int 38)] _
  refine z_iinc (v := 9) (lv' := [(2, .int 9), (0, .ref (b + 405)), (1, .int 38)]) B dX9_tick_27 0 rfl (by decide) (by decide) rfl ?_
  refine z_goto (tgt := 18) B dX9_tick_30 (by decide) ?_
  refine z_iload_n B dX9_tick_18 rfl 0 rfl ?_
  refine z_iload_n B dX9_tick_19 rfl 2 rfl ?_
  refine z_icmp_ge (tgt := 33) B dX9_tick_20 (by decide) (fun h => absurd h (by decide)) (fun _ => ?_)
  refine z_aload_n B dX9_tick_23 rfl 1 rfl ?_
  refine z_cVv (As := []) (rest := []) B cw_X9_294 cx_10 dX9_tick_24 (ci_X9_ticks_970 l (σ := (ap b σ [(405, 1, 9), (405, 1, 8), (405, 1, 7), (405, 1, 6), (405, 1, 5), (405, 1, 4), (405, 1, 3), (405, 1, 2), (405, 1, 1), (405, 0, 0)] [] [])) (b := b) (lyA hK) (rI_at 405 1 rfl) (rI_at 405 6 hI_405_6) (rI_at 405 16 hI_405_16)) (lKA (hk_K hK 405 rfl rfl)) rfl (by decide) rfl (Nat.le_of_ble_eq_true rfl) (by decide) (fun u hu => ?_)
  refine z_eqs (σ' := (ap b σ [(405, 1, 10), (405, 1, 9), (405, 1, 8), (405, 1, 7), (405, 1, 6), (405, 1, 5), (405, 1, 4), (405, 1, 3), (405, 1, 2), (405, 1, 1), (405, 0, 0)] [] [])) (hu.trans ap_ap) ?_
  show zx p l e _ s m _ below meth c g 3 0 0 _ _ 27 [(2, .int 9), (0, .ref (b + 405)), (1, .int 38)] _
  refine z_iinc (v := 10) (lv' := [(2, .int 10), (0, .ref (b + 405)), (1, .int 38)]) B dX9_tick_27 0 rfl (by decide) (by decide) rfl ?_
  refine z_goto (tgt := 18) B dX9_tick_30 (by decide) ?_
  refine z_iload_n B dX9_tick_18 rfl 0 rfl ?_
  refine z_iload_n B dX9_tick_19 rfl 2 rfl ?_
  refine z_icmp_ge (tgt := 33) B dX9_tick_20 (by decide) (fun h => absurd h (by decide)) (fun _ => ?_)
  refine z_aload_n B dX9_tick_23 rfl 1 rfl ?_
  refine z_cVv (As := []) (rest := []) B cw_X9_294 cx_10 dX9_tick_24 (ci_X9_ticks_975 l (σ := (ap b σ [(405, 1, 10), (405, 1, 9), (405, 1, 8), (405, 1, 7), (405, 1, 6), (405, 1, 5), (405, 1, 4), (405, 1, 3), (405, 1, 2), (405, 1, 1), (405, 0, 0)] [] [])) (b := b) (lyA hK) (rI_at 405 1 rfl) (rI_at 405 6 hI_405_6) (rI_at 405 16 hI_405_16)) (lKA (hk_K hK 405 rfl rfl)) rfl (by decide) rfl (Nat.le_of_ble_eq_true rfl) (by decide) (fun u hu => ?_)
  refine z_eqs (σ' := (ap b σ [(405, 1, 11), (405, 1, 10), (405, 1, 9), (405, 1, 8), (405, 1, 7), (405, 1, 6), (405, 1, 5), (405, 1, 4), (405, 1, 3), (405, 1, 2), (405, 1, 1), (405, 0, 0)] [] [])) (hu.trans ap_ap) ?_
  show zx p l e _ s m _ below meth c g 3 0 0 _ _ 27 [(2, .int 10), (0, .ref (b + 405)), (1, .int 38)] _
  refine z_iinc (v := 11) (lv' := [(2, .int 11), (0, .ref (b + 405)), (1, .int 38)]) B dX9_tick_27 0 rfl (by decide) (by decide) rfl ?_
  refine z_goto (tgt := 18) B dX9_tick_30 (by decide) ?_
  refine z_iload_n B dX9_tick_18 rfl 0 rfl ?_
  refine z_iload_n B dX9_tick_19 rfl 2 rfl ?_
  refine z_icmp_ge (tgt := 33) B dX9_tick_20 (by decide) (fun h => absurd h (by decide)) (fun _ => ?_)
  refine z_aload_n B dX9_tick_23 rfl 1 rfl ?_
  refine z_cVv (As := []) (rest := []) B cw_X9_294 cx_10 dX9_tick_24 (ci_X9_ticks_980 l (σ := (ap b σ [(405, 1, 11), (405, 1, 10), (405, 1, 9), (405, 1, 8), (405, 1, 7), (405, 1, 6), (405, 1, 5), (405, 1, 4), (405, 1, 3), (405, 1, 2), (405, 1, 1), (405, 0, 0)] [] [])) (b := b) (lyA hK) (rI_at 405 1 rfl) (rI_at 405 6 hI_405_6) (rI_at 405 16 hI_405_16)) (lKA (hk_K hK 405 rfl rfl)) rfl (by decide) rfl (Nat.le_of_ble_eq_true rfl) (by decide) (fun u hu => ?_)
  refine z_eqs (σ' := (ap b σ [(405, 1, 12), (405, 1, 11), (405, 1, 10), (405, 1, 9), (405, 1, 8), (405, 1, 7), (405, 1, 6), (405, 1, 5), (405, 1, 4), (405, 1, 3), (405, 1, 2), (405, 1, 1), (405, 0, 0)] [] [])) (hu.trans ap_ap) ?_
  show zx p l e _ s m _ below meth c g 3 0 0 _ _ 27 [(2, .int 11), (0, .ref (b + 405)), (1, .int 38)] _
  refine z_iinc (v := 12) (lv' := [(2, .int 12), (0, .ref (b + 405)), (1, .int 38)]) B dX9_tick_27 0 rfl (by decide) (by decide) rfl ?_
  refine z_goto (tgt := 18) B dX9_tick_30 (by decide) ?_
  refine z_iload_n B dX9_tick_18 rfl 0 rfl ?_
  refine z_iload_n B dX9_tick_19 rfl 2 rfl ?_
  refine z_icmp_ge (tgt := 33) B dX9_tick_20 (by decide) (fun h => absurd h (by decide)) (fun _ => ?_)
  refine z_aload_n B dX9_tick_23 rfl 1 rfl ?_
  refine z_cVv (As := []) (rest := []) B cw_X9_294 cx_10 dX9_tick_24 (ci_X9_ticks_985 l (σ := (ap b σ [(405, 1, 12), (405, 1, 11), (405, 1, 10), (405, 1, 9), (405, 1, 8), (405, 1, 7), (405, 1, 6), (405, 1, 5), (405, 1, 4), (405, 1, 3), (405, 1, 2), (405, 1, 1), (405, 0, 0)] [] [])) (b := b) (lyA hK) (rI_at 405 1 rfl) (rI_at 405 6 hI_405_6) (rI_at 405 16 hI_405_16)) (lKA (hk_K hK 405 rfl rfl)) rfl (by decide) rfl (Nat.le_of_ble_eq_true rfl) (by decide) (fun u hu => ?_)
  refine z_eqs (σ' := (ap b σ [(405, 1, 13), (405, 1, 12), (405, 1, 11), (405, 1, 10), (405, 1, 9), (405, 1, 8), (405, 1, 7), (405, 1, 6), (405, 1, 5), (405, 1, 4), (405, 1, 3), (405, 1, 2), (405, 1, 1), (405, 0, 0)] [] [])) (hu.trans ap_ap) ?_
  show zx p l e _ s m _ below meth c g 3 0 0 _ _ 27 [(2, .int 12), (0, .ref (b + 405)), (1, .int 38)] _
  refine z_iinc (v := 13) (lv' := [(2, .int 13), (0, .ref (b + 405)), (1, .int 38)]) B dX9_tick_27 0 rfl (by decide) (by decide) rfl ?_
  refine z_goto (tgt := 18) B dX9_tick_30 (by decide) ?_
  refine z_iload_n B dX9_tick_18 rfl 0 rfl ?_
  refine z_iload_n B dX9_tick_19 rfl 2 rfl ?_
  refine z_icmp_ge (tgt := 33) B dX9_tick_20 (by decide) (fun h => absurd h (by decide)) (fun _ => ?_)
  refine z_aload_n B dX9_tick_23 rfl 1 rfl ?_
  refine z_cVv (As := []) (rest := []) B cw_X9_294 cx_10 dX9_tick_24 (ci_X9_ticks_990 l (σ := (ap b σ [(405, 1, 13), (405, 1, 12), (405, 1, 11), (405, 1, 10), (405, 1, 9), (405, 1, 8), (405, 1, 7), (405, 1, 6), (405, 1, 5), (405, 1, 4), (405, 1, 3), (405, 1, 2), (405, 1, 1), (405, 0, 0)] [] [])) (b := b) (lyA hK) (rI_at 405 1 rfl) (rI_at 405 6 hI_405_6) (rI_at 405 16 hI_405_16)) (lKA (hk_K hK 405 rfl rfl)) rfl (by decide) rfl (Nat.le_of_ble_eq_true rfl) (by decide) (fun u hu => ?_)
  refine z_eqs (σ' := (ap b σ [(405, 1, 14), (405, 1, 13), (405, 1, 12), (405, 1, 11), (405, 1, 10), (405, 1, 9), (405, 1, 8), (405, 1, 7), (405, 1, 6), (405, 1, 5), (405, 1, 4), (405, 1, 3), (405, 1, 2), (405, 1, 1), (405, 0, 0)] [] [])) (hu.trans ap_ap) ?_
  show zx p l e _ s m _ below meth c g 3 0 0 _ _ 27 [(2, .int 13), (0, .ref (b + 405)), (1, .int 38)] _
  refine z_iinc (v := 14) (lv' := [(2, .int 14), (0, .ref (b + 405)), (1, .int 38)]) B dX9_tick_27 0 rfl (by decide) (by decide) rfl ?_
  refine z_goto (tgt := 18) B dX9_tick_30 (by decide) ?_
  refine z_iload_n B dX9_tick_18 rfl 0 rfl ?_
  refine z_iload_n B dX9_tick_19 rfl 2 rfl ?_
  refine z_icmp_ge (tgt := 33) B dX9_tick_20 (by decide) (fun h => absurd h (by decide)) (fun _ => ?_)
  refine z_aload_n B dX9_tick_23 rfl 1 rfl ?_
  refine z_cVv (As := []) (rest := []) B cw_X9_294 cx_10 dX9_tick_24 (ci_X9_ticks_995 l (σ := (ap b σ [(405, 1, 14), (405, 1, 13), (405, 1, 12), (405, 1, 11), (405, 1, 10), (405, 1, 9), (405, 1, 8), (405, 1, 7), (405, 1, 6), (405, 1, 5), (405, 1, 4), (405, 1, 3), (405, 1, 2), (405, 1, 1), (405, 0, 0)] [] [])) (b := b) (lyA hK) (rI_at 405 1 rfl) (rI_at 405 6 hI_405_6) (rI_at 405 16 hI_405_16)) (lKA (hk_K hK 405 rfl rfl)) rfl (by decide) rfl (Nat.le_of_ble_eq_true rfl) (by decide) (fun u hu => ?_)
  refine z_eqs (σ' := (ap b σ [(405, 1, 15), (405, 1, 14), (405, 1, 13), (405, 1, 12), (405, 1, 11), (405, 1, 10), (405, 1, 9), (405, 1, 8), (405, 1, 7), (405, 1, 6), (405, 1, 5), (405, 1, 4), (405, 1, 3), (405, 1, 2), (405, 1, 1), (405, 0, 0)] [] [])) (hu.trans ap_ap) ?_
  show zx p l e _ s m _ below meth c g 3 0 0 _ _ 27 [(2, .int 14), (0, .ref (b + 405)), (1, .int 38)] _
  refine z_iinc (v := 15) (lv' := [(2, .int 15), (0, .ref (b + 405)), (1, .int 38)]) B dX9_tick_27 0 rfl (by decide) (by decide) rfl ?_
  refine z_goto (tgt := 18) B dX9_tick_30 (by decide) ?_
  refine z_iload_n B dX9_tick_18 rfl 0 rfl ?_
  refine z_iload_n B dX9_tick_19 rfl 2 rfl ?_
  refine z_icmp_ge (tgt := 33) B dX9_tick_20 (by decide) (fun h => absurd h (by decide)) (fun _ => ?_)
  refine z_aload_n B dX9_tick_23 rfl 1 rfl ?_
  refine z_cVv (As := []) (rest := []) B cw_X9_294 cx_10 dX9_tick_24 (ci_X9_ticks_1000 l (σ := (ap b σ [(405, 1, 15), (405, 1, 14), (405, 1, 13), (405, 1, 12), (405, 1, 11), (405, 1, 10), (405, 1, 9), (405, 1, 8), (405, 1, 7), (405, 1, 6), (405, 1, 5), (405, 1, 4), (405, 1, 3), (405, 1, 2), (405, 1, 1), (405, 0, 0)] [] [])) (b := b) (lyA hK) (rI_at 405 1 rfl) (rI_at 405 6 hI_405_6) (rI_at 405 16 hI_405_16)) (lKA (hk_K hK 405 rfl rfl)) rfl (by decide) rfl (Nat.le_of_ble_eq_true rfl) (by decide) (fun u hu => ?_)
  refine z_eqs (σ' := (ap b σ [(405, 1, 16), (405, 1, 15), (405, 1, 14), (405, 1, 13), (405, 1, 12), (405, 1, 11), (405, 1, 10), (405, 1, 9), (405, 1, 8), (405, 1, 7), (405, 1, 6), (405, 1, 5), (405, 1, 4), (405, 1, 3), (405, 1, 2), (405, 1, 1), (405, 0, 0)] [] [])) (hu.trans ap_ap) ?_
  show zx p l e _ s m _ below meth c g 3 0 0 _ _ 27 [(2, .int 15), (0, .ref (b + 405)), (1, .int 38)] _
  refine z_iinc (v := 16) (lv' := [(2, .int 16), (0, .ref (b + 405)), (1, .int 38)]) B dX9_tick_27 0 rfl (by decide) (by decide) rfl ?_
  refine z_goto (tgt := 18) B dX9_tick_30 (by decide) ?_
  refine z_iload_n B dX9_tick_18 rfl 0 rfl ?_
  refine z_iload_n B dX9_tick_19 rfl 2 rfl ?_
  refine z_icmp_ge (tgt := 33) B dX9_tick_20 (by decide) (fun h => absurd h (by decide)) (fun _ => ?_)
  refine z_aload_n B dX9_tick_23 rfl 1 rfl ?_
  refine z_cVv (As := []) (rest := []) B cw_X9_294 cx_10 dX9_tick_24 (ci_X9_ticks_1005 l (σ := (ap b σ [(405, 1, 16), (405, 1, 15), (405, 1, 14), (405, 1, 13), (405, 1, 12), (405, 1, 11), (405, 1, 10), (405, 1, 9), (405, 1, 8), (405, 1, 7), (405, 1, 6), (405, 1, 5), (405, 1, 4), (405, 1, 3), (405, 1, 2), (405, 1, 1), (405, 0, 0)] [] [])) (b := b) (lyA hK) (rI_at 405 1 rfl) (rI_at 405 6 hI_405_6) (rI_at 405 16 hI_405_16)) (lKA (hk_K hK 405 rfl rfl)) rfl (by decide) rfl (Nat.le_of_ble_eq_true rfl) (by decide) (fun u hu => ?_)
  refine z_eqs (σ' := (ap b σ [(405, 1, 17), (405, 1, 16), (405, 1, 15), (405, 1, 14), (405, 1, 13), (405, 1, 12), (405, 1, 11), (405, 1, 10), (405, 1, 9), (405, 1, 8), (405, 1, 7), (405, 1, 6), (405, 1, 5), (405, 1, 4), (405, 1, 3), (405, 1, 2), (405, 1, 1), (405, 0, 0)] [] [])) (hu.trans ap_ap) ?_
  show zx p l e _ s m _ below meth c g 3 0 0 _ _ 27 [(2, .int 16), (0, .ref (b + 405)), (1, .int 38)] _
  refine z_iinc (v := 17) (lv' := [(2, .int 17), (0, .ref (b + 405)), (1, .int 38)]) B dX9_tick_27 0 rfl (by decide) (by decide) rfl ?_
  refine z_goto (tgt := 18) B dX9_tick_30 (by decide) ?_
  refine z_iload_n B dX9_tick_18 rfl 0 rfl ?_
  refine z_iload_n B dX9_tick_19 rfl 2 rfl ?_
  refine z_icmp_ge (tgt := 33) B dX9_tick_20 (by decide) (fun h => absurd h (by decide)) (fun _ => ?_)
  refine z_aload_n B dX9_tick_23 rfl 1 rfl ?_
  refine z_cVv (As := []) (rest := []) B cw_X9_294 cx_10 dX9_tick_24 (ci_X9_ticks_1010 l (σ := (ap b σ [(405, 1, 17), (405, 1, 16), (405, 1, 15), (405, 1, 14), (405, 1, 13), (405, 1, 12), (405, 1, 11), (405, 1, 10), (405, 1, 9), (405, 1, 8), (405, 1, 7), (405, 1, 6), (405, 1, 5), (405, 1, 4), (405, 1, 3), (405, 1, 2), (405, 1, 1), (405, 0, 0)] [] [])) (b := b) (lyA hK) (rI_at 405 1 rfl) (rI_at 405 6 hI_405_6) (rI_at 405 16 hI_405_16)) (lKA (hk_K hK 405 rfl rfl)) rfl (by decide) rfl (Nat.le_of_ble_eq_true rfl) (by decide) (fun u hu => ?_)
  refine z_eqs (σ' := (ap b σ [(405, 1, 18), (405, 1, 17), (405, 1, 16), (405, 1, 15), (405, 1, 14), (405, 1, 13), (405, 1, 12), (405, 1, 11), (405, 1, 10), (405, 1, 9), (405, 1, 8), (405, 1, 7), (405, 1, 6), (405, 1, 5), (405, 1, 4), (405, 1, 3), (405, 1, 2), (405, 1, 1), (405, 0, 0)] [] [])) (hu.trans ap_ap) ?_
  show zx p l e _ s m _ below meth c g 3 0 0 _ _ 27 [(2, .int 17), (0, .ref (b + 405)), (1, .int 38)] _
  refine z_iinc (v := 18) (lv' := [(2, .int 18), (0, .ref (b + 405)), (1, .int 38)]) B dX9_tick_27 0 rfl (by decide) (by decide) rfl ?_
  refine z_goto (tgt := 18) B dX9_tick_30 (by decide) ?_
  refine z_iload_n B dX9_tick_18 rfl 0 rfl ?_
  refine z_iload_n B dX9_tick_19 rfl 2 rfl ?_
  refine z_icmp_ge (tgt := 33) B dX9_tick_20 (by decide) (fun h => absurd h (by decide)) (fun _ => ?_)
  refine z_aload_n B dX9_tick_23 rfl 1 rfl ?_
  refine z_cVv (As := []) (rest := []) B cw_X9_294 cx_10 dX9_tick_24 (ci_X9_ticks_1015 l (σ := (ap b σ [(405, 1, 18), (405, 1, 17), (405, 1, 16), (405, 1, 15), (405, 1, 14), (405, 1, 13), (405, 1, 12), (405, 1, 11), (405, 1, 10), (405, 1, 9), (405, 1, 8), (405, 1, 7), (405, 1, 6), (405, 1, 5), (405, 1, 4), (405, 1, 3), (405, 1, 2), (405, 1, 1), (405, 0, 0)] [] [])) (b := b) (lyA hK) (rI_at 405 1 rfl) (rI_at 405 6 hI_405_6) (rI_at 405 16 hI_405_16)) (lKA (hk_K hK 405 rfl rfl)) rfl (by decide) rfl (Nat.le_of_ble_eq_true rfl) (by decide) (fun u hu => ?_)
  refine z_eqs (σ' := (ap b σ [(405, 1, 19), (405, 1, 18), (405, 1, 17), (405, 1, 16), (405, 1, 15), (405, 1, 14), (405, 1, 13), (405, 1, 12), (405, 1, 11), (405, 1, 10), (405, 1, 9), (405, 1, 8), (405, 1, 7), (405, 1, 6), (405, 1, 5), (405, 1, 4), (405, 1, 3), (405, 1, 2), (405, 1, 1), (405, 0, 0)] [] [])) (hu.trans ap_ap) ?_
  show zx p l e _ s m _ below meth c g 3 0 0 _ _ 27 [(2, .int 18), (0, .ref (b + 405)), (1, .int 38)] _
  refine z_iinc (v := 19) (lv' := [(2, .int 19), (0, .ref (b + 405)), (1, .int 38)]) B dX9_tick_27 0 rfl (by decide) (by decide) rfl ?_
  refine z_goto (tgt := 18) B dX9_tick_30 (by decide) ?_
  refine z_iload_n B dX9_tick_18 rfl 0 rfl ?_
  refine z_iload_n B dX9_tick_19 rfl 2 rfl ?_
  refine z_icmp_ge (tgt := 33) B dX9_tick_20 (by decide) (fun h => absurd h (by decide)) (fun _ => ?_)
  refine z_aload_n B dX9_tick_23 rfl 1 rfl ?_
  refine z_cVv (As := []) (rest := []) B cw_X9_294 cx_10 dX9_tick_24 (ci_X9_ticks_1020 l (σ := (ap b σ [(405, 1, 19), (405, 1, 18), (405, 1, 17), (405, 1, 16), (405, 1, 15), (405, 1, 14), (405, 1, 13), (405, 1, 12), (405, 1, 11), (405, 1, 10), (405, 1, 9), (405, 1, 8), (405, 1, 7), (405, 1, 6), (405, 1, 5), (405, 1, 4), (405, 1, 3), (405, 1, 2), (405, 1, 1), (405, 0, 0)] [] [])) (b := b) (lyA hK) (rI_at 405 1 rfl) (rI_at 405 6 hI_405_6) (rI_at 405 16 hI_405_16)) (lKA (hk_K hK 405 rfl rfl)) rfl (by decide) rfl (Nat.le_of_ble_eq_true rfl) (by decide) (fun u hu => ?_)
  refine z_eqs (σ' := (ap b σ [(405, 1, 20), (405, 1, 19), (405, 1, 18), (405, 1, 17), (405, 1, 16), (405, 1, 15), (405, 1, 14), (405, 1, 13), (405, 1, 12), (405, 1, 11), (405, 1, 10), (405, 1, 9), (405, 1, 8), (405, 1, 7), (405, 1, 6), (405, 1, 5), (405, 1, 4), (405, 1, 3), (405, 1, 2), (405, 1, 1), (405, 0, 0)] [] [])) (hu.trans ap_ap) ?_
  show zx p l e _ s m _ below meth c g 3 0 0 _ _ 27 [(2, .int 19), (0, .ref (b + 405)), (1, .int 38)] _
  refine z_iinc (v := 20) (lv' := [(2, .int 20), (0, .ref (b + 405)), (1, .int 38)]) B dX9_tick_27 0 rfl (by decide) (by decide) rfl ?_
  refine z_goto (tgt := 18) B dX9_tick_30 (by decide) ?_
  refine z_iload_n B dX9_tick_18 rfl 0 rfl ?_
  refine z_iload_n B dX9_tick_19 rfl 2 rfl ?_
  refine z_icmp_ge (tgt := 33) B dX9_tick_20 (by decide) (fun h => absurd h (by decide)) (fun _ => ?_)
  refine z_aload_n B dX9_tick_23 rfl 1 rfl ?_
  refine z_cVv (As := []) (rest := []) B cw_X9_294 cx_10 dX9_tick_24 (ci_X9_ticks_1025 l (σ := (ap b σ [(405, 1, 20), (405, 1, 19), (405, 1, 18), (405, 1, 17), (405, 1, 16), (405, 1, 15), (405, 1, 14), (405, 1, 13), (405, 1, 12), (405, 1, 11), (405, 1, 10), (405, 1, 9), (405, 1, 8), (405, 1, 7), (405, 1, 6), (405, 1, 5), (405, 1, 4), (405, 1, 3), (405, 1, 2), (405, 1, 1), (405, 0, 0)] [] [])) (b := b) (lyA hK) (rI_at 405 1 rfl) (rI_at 405 6 hI_405_6) (rI_at 405 16 hI_405_16)) (lKA (hk_K hK 405 rfl rfl)) rfl (by decide) rfl (Nat.le_of_ble_eq_true rfl) (by decide) (fun u hu => ?_)
  refine z_eqs (σ' := (ap b σ [(405, 1, 21), (405, 1, 20), (405, 1, 19), (405, 1, 18), (405, 1, 17), (405, 1, 16), (405, 1, 15), (405, 1, 14), (405, 1, 13), (405, 1, 12), (405, 1, 11), (405, 1, 10), (405, 1, 9), (405, 1, 8), (405, 1, 7), (405, 1, 6), (405, 1, 5), (405, 1, 4), (405, 1, 3), (405, 1, 2), (405, 1, 1), (405, 0, 0)] [] [])) (hu.trans ap_ap) ?_
  show zx p l e _ s m _ below meth c g 3 0 0 _ _ 27 [(2, .int 20), (0, .ref (b + 405)), (1, .int 38)] _
  refine z_iinc (v := 21) (lv' := [(2, .int 21), (0, .ref (b + 405)), (1, .int 38)]) B dX9_tick_27 0 rfl (by decide) (by decide) rfl ?_
  refine z_goto (tgt := 18) B dX9_tick_30 (by decide) ?_
  refine z_iload_n B dX9_tick_18 rfl 0 rfl ?_
  refine z_iload_n B dX9_tick_19 rfl 2 rfl ?_
  refine z_icmp_ge (tgt := 33) B dX9_tick_20 (by decide) (fun h => absurd h (by decide)) (fun _ => ?_)
  refine z_aload_n B dX9_tick_23 rfl 1 rfl ?_
  refine z_cVv (As := []) (rest := []) B cw_X9_294 cx_10 dX9_tick_24 (ci_X9_ticks_1030 l (σ := (ap b σ [(405, 1, 21), (405, 1, 20), (405, 1, 19), (405, 1, 18), (405, 1, 17), (405, 1, 16), (405, 1, 15), (405, 1, 14), (405, 1, 13), (405, 1, 12), (405, 1, 11), (405, 1, 10), (405, 1, 9), (405, 1, 8), (405, 1, 7), (405, 1, 6), (405, 1, 5), (405, 1, 4), (405, 1, 3), (405, 1, 2), (405, 1, 1), (405, 0, 0)] [] [])) (b := b) (lyA hK) (rI_at 405 1 rfl) (rI_at 405 6 hI_405_6) (rI_at 405 16 hI_405_16)) (lKA (hk_K hK 405 rfl rfl)) rfl (by decide) rfl (Nat.le_of_ble_eq_true rfl) (by decide) (fun u hu => ?_)
  refine z_eqs (σ' := (ap b σ [(405, 1, 22), (405, 1, 21), (405, 1, 20), (405, 1, 19), (405, 1, 18), (405, 1, 17), (405, 1, 16), (405, 1, 15), (405, 1, 14), (405, 1, 13), (405, 1, 12), (405, 1, 11), (405, 1, 10), (405, 1, 9), (405, 1, 8), (405, 1, 7), (405, 1, 6), (405, 1, 5), (405, 1, 4), (405, 1, 3), (405, 1, 2), (405, 1, 1), (405, 0, 0)] [] [])) (hu.trans ap_ap) ?_
  show zx p l e _ s m _ below meth c g 3 0 0 _ _ 27 [(2, .int 21), (0, .ref (b + 405)), (1, .int 38)] _
  refine z_iinc (v := 22) (lv' := [(2, .int 22), (0, .ref (b + 405)), (1, .int 38)]) B dX9_tick_27 0 rfl (by decide) (by decide) rfl ?_
  refine z_goto (tgt := 18) B dX9_tick_30 (by decide) ?_
  refine z_iload_n B dX9_tick_18 rfl 0 rfl ?_
  refine z_iload_n B dX9_tick_19 rfl 2 rfl ?_
  refine z_icmp_ge (tgt := 33) B dX9_tick_20 (by decide) (fun h => absurd h (by decide)) (fun _ => ?_)
  refine z_aload_n B dX9_tick_23 rfl 1 rfl ?_
  refine z_cVv (As := []) (rest := []) B cw_X9_294 cx_10 dX9_tick_24 (ci_X9_ticks_1035 l (σ := (ap b σ [(405, 1, 22), (405, 1, 21), (405, 1, 20), (405, 1, 19), (405, 1, 18), (405, 1, 17), (405, 1, 16), (405, 1, 15), (405, 1, 14), (405, 1, 13), (405, 1, 12), (405, 1, 11), (405, 1, 10), (405, 1, 9), (405, 1, 8), (405, 1, 7), (405, 1, 6), (405, 1, 5), (405, 1, 4), (405, 1, 3), (405, 1, 2), (405, 1, 1), (405, 0, 0)] [] [])) (b := b) (lyA hK) (rI_at 405 1 rfl) (rI_at 405 6 hI_405_6) (rI_at 405 16 hI_405_16)) (lKA (hk_K hK 405 rfl rfl)) rfl (by decide) rfl (Nat.le_of_ble_eq_true rfl) (by decide) (fun u hu => ?_)
  refine z_eqs (σ' := (ap b σ [(405, 1, 23), (405, 1, 22), (405, 1, 21), (405, 1, 20), (405, 1, 19), (405, 1, 18), (405, 1, 17), (405, 1, 16), (405, 1, 15), (405, 1, 14), (405, 1, 13), (405, 1, 12), (405, 1, 11), (405, 1, 10), (405, 1, 9), (405, 1, 8), (405, 1, 7), (405, 1, 6), (405, 1, 5), (405, 1, 4), (405, 1, 3), (405, 1, 2), (405, 1, 1), (405, 0, 0)] [] [])) (hu.trans ap_ap) ?_
  show zx p l e _ s m _ below meth c g 3 0 0 _ _ 27 [(2, .int 22), (0, .ref (b + 405)), (1, .int 38)] _
  refine z_iinc (v := 23) (lv' := [(2, .int 23), (0, .ref (b + 405)), (1, .int 38)]) B dX9_tick_27 0 rfl (by decide) (by decide) rfl ?_
  refine z_goto (tgt := 18) B dX9_tick_30 (by decide) ?_
  refine z_iload_n B dX9_tick_18 rfl 0 rfl ?_
  refine z_iload_n B dX9_tick_19 rfl 2 rfl ?_
  refine z_icmp_ge (tgt := 33) B dX9_tick_20 (by decide) (fun h => absurd h (by decide)) (fun _ => ?_)
  refine z_aload_n B dX9_tick_23 rfl 1 rfl ?_
  refine z_cVv (As := []) (rest := []) B cw_X9_294 cx_10 dX9_tick_24 (ci_X9_ticks_1040 l (σ := (ap b σ [(405, 1, 23), (405, 1, 22), (405, 1, 21), (405, 1, 20), (405, 1, 19), (405, 1, 18), (405, 1, 17), (405, 1, 16), (405, 1, 15), (405, 1, 14), (405, 1, 13), (405, 1, 12), (405, 1, 11), (405, 1, 10), (405, 1, 9), (405, 1, 8), (405, 1, 7), (405, 1, 6), (405, 1, 5), (405, 1, 4), (405, 1, 3), (405, 1, 2), (405, 1, 1), (405, 0, 0)] [] [])) (b := b) (lyA hK) (rI_at 405 1 rfl) (rI_at 405 6 hI_405_6) (rI_at 405 16 hI_405_16)) (lKA (hk_K hK 405 rfl rfl)) rfl (by decide) rfl (Nat.le_of_ble_eq_true rfl) (by decide) (fun u hu => ?_)
  refine z_eqs (σ' := (ap b σ [(405, 1, 24), (405, 1, 23), (405, 1, 22), (405, 1, 21), (405, 1, 20), (405, 1, 19), (405, 1, 18), (405, 1, 17), (405, 1, 16), (405, 1, 15), (405, 1, 14), (405, 1, 13), (405, 1, 12), (405, 1, 11), (405, 1, 10), (405, 1, 9), (405, 1, 8), (405, 1, 7), (405, 1, 6), (405, 1, 5), (405, 1, 4), (405, 1, 3), (405, 1, 2), (405, 1, 1), (405, 0, 0)] [] [])) (hu.trans ap_ap) ?_
  show zx p l e _ s m _ below meth c g 3 0 0 _ _ 27 [(2, .int 23), (0, .ref (b + 405)), (1, .int 38)] _
  refine z_iinc (v := 24) (lv' := [(2, .int 24), (0, .ref (b + 405)), (1, .int 38)]) B dX9_tick_27 0 rfl (by decide) (by decide) rfl ?_
  refine z_goto (tgt := 18) B dX9_tick_30 (by decide) ?_
  refine z_iload_n B dX9_tick_18 rfl 0 rfl ?_
  refine z_iload_n B dX9_tick_19 rfl 2 rfl ?_
  refine z_icmp_ge (tgt := 33) B dX9_tick_20 (by decide) (fun h => absurd h (by decide)) (fun _ => ?_)
  refine z_aload_n B dX9_tick_23 rfl 1 rfl ?_
  refine z_cVv (As := []) (rest := []) B cw_X9_294 cx_10 dX9_tick_24 (ci_X9_ticks_1045 l (σ := (ap b σ [(405, 1, 24), (405, 1, 23), (405, 1, 22), (405, 1, 21), (405, 1, 20), (405, 1, 19), (405, 1, 18), (405, 1, 17), (405, 1, 16), (405, 1, 15), (405, 1, 14), (405, 1, 13), (405, 1, 12), (405, 1, 11), (405, 1, 10), (405, 1, 9), (405, 1, 8), (405, 1, 7), (405, 1, 6), (405, 1, 5), (405, 1, 4), (405, 1, 3), (405, 1, 2), (405, 1, 1), (405, 0, 0)] [] [])) (b := b) (lyA hK) (rI_at 405 1 rfl) (rI_at 405 6 hI_405_6) (rI_at 405 16 hI_405_16)) (lKA (hk_K hK 405 rfl rfl)) rfl (by decide) rfl (Nat.le_of_ble_eq_true rfl) (by decide) (fun u hu => ?_)
  refine z_eqs (σ' := (ap b σ [(405, 1, 25), (405, 1, 24), (405, 1, 23), (405, 1, 22), (405, 1, 21), (405, 1, 20), (405, 1, 19), (405, 1, 18), (405, 1, 17), (405, 1, 16), (405, 1, 15), (405, 1, 14), (405, 1, 13), (405, 1, 12), (405, 1, 11), (405, 1, 10), (405, 1, 9), (405, 1, 8), (405, 1, 7), (405, 1, 6), (405, 1, 5), (405, 1, 4), (405, 1, 3), (405, 1, 2), (405, 1, 1), (405, 0, 0)] [] [])) (hu.trans ap_ap) ?_
  show zx p l e _ s m _ below meth c g 3 0 0 _ _ 27 [(2, .int 24), (0, .ref (b + 405)), (1, .int 38)] _
  refine z_iinc (v := 25) (lv' := [(2, .int 25), (0, .ref (b + 405)), (1, .int 38)]) B dX9_tick_27 0 rfl (by decide) (by decide) rfl ?_
  refine z_goto (tgt := 18) B dX9_tick_30 (by decide) ?_
  refine z_iload_n B dX9_tick_18 rfl 0 rfl ?_
  refine z_iload_n B dX9_tick_19 rfl 2 rfl ?_
  refine z_icmp_ge (tgt := 33) B dX9_tick_20 (by decide) (fun h => absurd h (by decide)) (fun _ => ?_)
  refine z_aload_n B dX9_tick_23 rfl 1 rfl ?_
  refine z_cVv (As := []) (rest := []) B cw_X9_294 cx_10 dX9_tick_24 (ci_X9_ticks_1050 l (σ := (ap b σ [(405, 1, 25), (405, 1, 24), (405, 1, 23), (405, 1, 22), (405, 1, 21), (405, 1, 20), (405, 1, 19), (405, 1, 18), (405, 1, 17), (405, 1, 16), (405, 1, 15), (405, 1, 14), (405, 1, 13), (405, 1, 12), (405, 1, 11), (405, 1, 10), (405, 1, 9), (405, 1, 8), (405, 1, 7), (405, 1, 6), (405, 1, 5), (405, 1, 4), (405, 1, 3), (405, 1, 2), (405, 1, 1), (405, 0, 0)] [] [])) (b := b) (lyA hK) (rI_at 405 1 rfl) (rI_at 405 6 hI_405_6) (rI_at 405 16 hI_405_16)) (lKA (hk_K hK 405 rfl rfl)) rfl (by decide) rfl (Nat.le_of_ble_eq_true rfl) (by decide) (fun u hu => ?_)
  refine z_eqs (σ' := (ap b σ [(405, 1, 26), (405, 1, 25), (405, 1, 24), (405, 1, 23), (405, 1, 22), (405, 1, 21), (405, 1, 20), (405, 1, 19), (405, 1, 18), (405, 1, 17), (405, 1, 16), (405, 1, 15), (405, 1, 14), (405, 1, 13), (405, 1, 12), (405, 1, 11), (405, 1, 10), (405, 1, 9), (405, 1, 8), (405, 1, 7), (405, 1, 6), (405, 1, 5), (405, 1, 4), (405, 1, 3), (405, 1, 2), (405, 1, 1), (405, 0, 0)] [] [])) (hu.trans ap_ap) ?_
  show zx p l e _ s m _ below meth c g 3 0 0 _ _ 27 [(2, .int 25), (0, .ref (b + 405)), (1, .int 38)] _
  refine z_iinc (v := 26) (lv' := [(2, .int 26), (0, .ref (b + 405)), (1, .int 38)]) B dX9_tick_27 0 rfl (by decide) (by decide) rfl ?_
  refine z_goto (tgt := 18) B dX9_tick_30 (by decide) ?_
  refine z_iload_n B dX9_tick_18 rfl 0 rfl ?_
  refine z_iload_n B dX9_tick_19 rfl 2 rfl ?_
  refine z_icmp_ge (tgt := 33) B dX9_tick_20 (by decide) (fun h => absurd h (by decide)) (fun _ => ?_)
  refine z_aload_n B dX9_tick_23 rfl 1 rfl ?_
  refine z_cVv (As := []) (rest := []) B cw_X9_294 cx_10 dX9_tick_24 (ci_X9_ticks_1055 l (σ := (ap b σ [(405, 1, 26), (405, 1, 25), (405, 1, 24), (405, 1, 23), (405, 1, 22), (405, 1, 21), (405, 1, 20), (405, 1, 19), (405, 1, 18), (405, 1, 17), (405, 1, 16), (405, 1, 15), (405, 1, 14), (405, 1, 13), (405, 1, 12), (405, 1, 11), (405, 1, 10), (405, 1, 9), (405, 1, 8), (405, 1, 7), (405, 1, 6), (405, 1, 5), (405, 1, 4), (405, 1, 3), (405, 1, 2), (405, 1, 1), (405, 0, 0)] [] [])) (b := b) (lyA hK) (rI_at 405 1 rfl) (rI_at 405 6 hI_405_6) (rI_at 405 16 hI_405_16)) (lKA (hk_K hK 405 rfl rfl)) rfl (by decide) rfl (Nat.le_of_ble_eq_true rfl) (by decide) (fun u hu => ?_)
  refine z_eqs (σ' := (ap b σ [(405, 1, 27), (405, 1, 26), (405, 1, 25), (405, 1, 24), (405, 1, 23), (405, 1, 22), (405, 1, 21), (405, 1, 20), (405, 1, 19), (405, 1, 18), (405, 1, 17), (405, 1, 16), (405, 1, 15), (405, 1, 14), (405, 1, 13), (405, 1, 12), (405, 1, 11), (405, 1, 10), (405, 1, 9), (405, 1, 8), (405, 1, 7), (405, 1, 6), (405, 1, 5), (405, 1, 4), (405, 1, 3), (405, 1, 2), (405, 1, 1), (405, 0, 0)] [] [])) (hu.trans ap_ap) ?_
  show zx p l e _ s m _ below meth c g 3 0 0 _ _ 27 [(2, .int 26), (0, .ref (b + 405)), (1, .int 38)] _
  refine z_iinc (v := 27) (lv' := [(2, .int 27), (0, .ref (b + 405)), (1, .int 38)]) B dX9_tick_27 0 rfl (by decide) (by decide) rfl ?_
  refine z_goto (tgt := 18) B dX9_tick_30 (by decide) ?_
  refine z_iload_n B dX9_tick_18 rfl 0 rfl ?_
  refine z_iload_n B dX9_tick_19 rfl 2 rfl ?_
  refine z_icmp_ge (tgt := 33) B dX9_tick_20 (by decide) (fun h => absurd h (by decide)) (fun _ => ?_)
  refine z_aload_n B dX9_tick_23 rfl 1 rfl ?_
  refine z_cVv (As := []) (rest := []) B cw_X9_294 cx_10 dX9_tick_24 (ci_X9_ticks_1060 l (σ := (ap b σ [(405, 1, 27), (405, 1, 26), (405, 1, 25), (405, 1, 24), (405, 1, 23), (405, 1, 22), (405, 1, 21), (405, 1, 20), (405, 1, 19), (405, 1, 18), (405, 1, 17), (405, 1, 16), (405, 1, 15), (405, 1, 14), (405, 1, 13), (405, 1, 12), (405, 1, 11), (405, 1, 10), (405, 1, 9), (405, 1, 8), (405, 1, 7), (405, 1, 6), (405, 1, 5), (405, 1, 4), (405, 1, 3), (405, 1, 2), (405, 1, 1), (405, 0, 0)] [] [])) (b := b) (lyA hK) (rI_at 405 1 rfl) (rI_at 405 6 hI_405_6) (rI_at 405 16 hI_405_16)) (lKA (hk_K hK 405 rfl rfl)) rfl (by decide) rfl (Nat.le_of_ble_eq_true rfl) (by decide) (fun u hu => ?_)
  refine z_eqs (σ' := (ap b σ [(405, 1, 28), (405, 1, 27), (405, 1, 26), (405, 1, 25), (405, 1, 24), (405, 1, 23), (405, 1, 22), (405, 1, 21), (405, 1, 20), (405, 1, 19), (405, 1, 18), (405, 1, 17), (405, 1, 16), (405, 1, 15), (405, 1, 14), (405, 1, 13), (405, 1, 12), (405, 1, 11), (405, 1, 10), (405, 1, 9), (405, 1, 8), (405, 1, 7), (405, 1, 6), (405, 1, 5), (405, 1, 4), (405, 1, 3), (405, 1, 2), (405, 1, 1), (405, 0, 0)] [] [])) (hu.trans ap_ap) ?_
  show zx p l e _ s m _ below meth c g 3 0 0 _ _ 27 [(2, .int 27), (0, .ref (b + 405)), (1, .int 38)] _
  refine z_iinc (v := 28) (lv' := [(2, .int 28), (0, .ref (b + 405)), (1, .int 38)]) B dX9_tick_27 0 rfl (by decide) (by decide) rfl ?_
  refine z_goto (tgt := 18) B dX9_tick_30 (by decide) ?_
  refine z_iload_n B dX9_tick_18 rfl 0 rfl ?_
  refine z_iload_n B dX9_tick_19 rfl 2 rfl ?_
  refine z_icmp_ge (tgt := 33) B dX9_tick_20 (by decide) (fun h => absurd h (by decide)) (fun _ => ?_)
  refine z_aload_n B dX9_tick_23 rfl 1 rfl ?_
  refine z_cVv (As := []) (rest := []) B cw_X9_294 cx_10 dX9_tick_24 (ci_X9_ticks_1065 l (σ := (ap b σ [(405, 1, 28), (405, 1, 27), (405, 1, 26), (405, 1, 25), (405, 1, 24), (405, 1, 23), (405, 1, 22), (405, 1, 21), (405, 1, 20), (405, 1, 19), (405, 1, 18), (405, 1, 17), (405, 1, 16), (405, 1, 15), (405, 1, 14), (405, 1, 13), (405, 1, 12), (405, 1, 11), (405, 1, 10), (405, 1, 9), (405, 1, 8), (405, 1, 7), (405, 1, 6), (405, 1, 5), (405, 1, 4), (405, 1, 3), (405, 1, 2), (405, 1, 1), (405, 0, 0)] [] [])) (b := b) (lyA hK) (rI_at 405 1 rfl) (rI_at 405 6 hI_405_6) (rI_at 405 16 hI_405_16)) (lKA (hk_K hK 405 rfl rfl)) rfl (by decide) rfl (Nat.le_of_ble_eq_true rfl) (by decide) (fun u hu => ?_)
  refine z_eqs (σ' := (ap b σ [(405, 1, 29), (405, 1, 28), (405, 1, 27), (405, 1, 26), (405, 1, 25), (405, 1, 24), (405, 1, 23), (405, 1, 22), (405, 1, 21), (405, 1, 20), (405, 1, 19), (405, 1, 18), (405, 1, 17), (405, 1, 16), (405, 1, 15), (405, 1, 14), (405, 1, 13), (405, 1, 12), (405, 1, 11), (405, 1, 10), (405, 1, 9), (405, 1, 8), (405, 1, 7), (405, 1, 6), (405, 1, 5), (405, 1, 4), (405, 1, 3), (405, 1, 2), (405, 1, 1), (405, 0, 0)] [] [])) (hu.trans ap_ap) ?_
  show zx p l e _ s m _ below meth c g 3 0 0 _ _ 27 [(2, .int 28), (0, .ref (b + 405)), (1, .int 38)] _
  refine z_iinc (v := 29) (lv' := [(2, .int 29), (0, .ref (b + 405)), (1, .int 38)]) B dX9_tick_27 0 rfl (by decide) (by decide) rfl ?_
  refine z_goto (tgt := 18) B dX9_tick_30 (by decide) ?_
  refine z_iload_n B dX9_tick_18 rfl 0 rfl ?_
  refine z_iload_n B dX9_tick_19 rfl 2 rfl ?_
  refine z_icmp_ge (tgt := 33) B dX9_tick_20 (by decide) (fun h => absurd h (by decide)) (fun _ => ?_)
  refine z_aload_n B dX9_tick_23 rfl 1 rfl ?_
  refine z_cVv (As := []) (rest := []) B cw_X9_294 cx_10 dX9_tick_24 (ci_X9_ticks_1070 l (σ := (ap b σ [(405, 1, 29), (405, 1, 28), (405, 1, 27), (405, 1, 26), (405, 1, 25), (405, 1, 24), (405, 1, 23), (405, 1, 22), (405, 1, 21), (405, 1, 20), (405, 1, 19), (405, 1, 18), (405, 1, 17), (405, 1, 16), (405, 1, 15), (405, 1, 14), (405, 1, 13), (405, 1, 12), (405, 1, 11), (405, 1, 10), (405, 1, 9), (405, 1, 8), (405, 1, 7), (405, 1, 6), (405, 1, 5), (405, 1, 4), (405, 1, 3), (405, 1, 2), (405, 1, 1), (405, 0, 0)] [] [])) (b := b) (lyA hK) (rI_at 405 1 rfl) (rI_at 405 6 hI_405_6) (rI_at 405 16 hI_405_16)) (lKA (hk_K hK 405 rfl rfl)) rfl (by decide) rfl (Nat.le_of_ble_eq_true rfl) (by decide) (fun u hu => ?_)
  refine z_eqs (σ' := (ap b σ [(405, 1, 30), (405, 1, 29), (405, 1, 28), (405, 1, 27), (405, 1, 26), (405, 1, 25), (405, 1, 24), (405, 1, 23), (405, 1, 22), (405, 1, 21), (405, 1, 20), (405, 1, 19), (405, 1, 18), (405, 1, 17), (405, 1, 16), (405, 1, 15), (405, 1, 14), (405, 1, 13), (405, 1, 12), (405, 1, 11), (405, 1, 10), (405, 1, 9), (405, 1, 8), (405, 1, 7), (405, 1, 6), (405, 1, 5), (405, 1, 4), (405, 1, 3), (405, 1, 2), (405, 1, 1), (405, 0, 0)] [] [])) (hu.trans ap_ap) ?_
  show zx p l e _ s m _ below meth c g 3 0 0 _ _ 27 [(2, .int 29), (0, .ref (b + 405)), (1, .int 38)] _
  refine z_iinc (v := 30) (lv' := [(2, .int 30), (0, .ref (b + 405)), (1, .int 38)]) B dX9_tick_27 0 rfl (by decide) (by decide) rfl ?_
  refine z_goto (tgt := 18) B dX9_tick_30 (by decide) ?_
  refine z_iload_n B dX9_tick_18 rfl 0 rfl ?_
  refine z_iload_n B dX9_tick_19 rfl 2 rfl ?_
  refine z_icmp_ge (tgt := 33) B dX9_tick_20 (by decide) (fun h => absurd h (by decide)) (fun _ => ?_)
  refine z_aload_n B dX9_tick_23 rfl 1 rfl ?_
  refine z_cVv (As := []) (rest := []) B cw_X9_294 cx_10 dX9_tick_24 (ci_X9_ticks_1075 l (σ := (ap b σ [(405, 1, 30), (405, 1, 29), (405, 1, 28), (405, 1, 27), (405, 1, 26), (405, 1, 25), (405, 1, 24), (405, 1, 23), (405, 1, 22), (405, 1, 21), (405, 1, 20), (405, 1, 19), (405, 1, 18), (405, 1, 17), (405, 1, 16), (405, 1, 15), (405, 1, 14), (405, 1, 13), (405, 1, 12), (405, 1, 11), (405, 1, 10), (405, 1, 9), (405, 1, 8), (405, 1, 7), (405, 1, 6), (405, 1, 5), (405, 1, 4), (405, 1, 3), (405, 1, 2), (405, 1, 1), (405, 0, 0)] [] [])) (b := b) (lyA hK) (rI_at 405 1 rfl) (rI_at 405 6 hI_405_6) (rI_at 405 16 hI_405_16)) (lKA (hk_K hK 405 rfl rfl)) rfl (by decide) rfl (Nat.le_of_ble_eq_true rfl) (by decide) (fun u hu => ?_)
  refine z_eqs (σ' := (ap b σ [(405, 1, 31), (405, 1, 30), (405, 1, 29), (405, 1, 28), (405, 1, 27), (405, 1, 26), (405, 1, 25), (405, 1, 24), (405, 1, 23), (405, 1, 22), (405, 1, 21), (405, 1, 20), (405, 1, 19), (405, 1, 18), (405, 1, 17), (405, 1, 16), (405, 1, 15), (405, 1, 14), (405, 1, 13), (405, 1, 12), (405, 1, 11), (405, 1, 10), (405, 1, 9), (405, 1, 8), (405, 1, 7), (405, 1, 6), (405, 1, 5), (405, 1, 4), (405, 1, 3), (405, 1, 2), (405, 1, 1), (405, 0, 0)] [] [])) (hu.trans ap_ap) ?_
  show zx p l e _ s m _ below meth c g 3 0 0 _ _ 27 [(2, .int 30), (0, .ref (b + 405)), (1, .int 38)] _
  refine z_iinc (v := 31) (lv' := [(2, .int 31), (0, .ref (b + 405)), (1, .int 38)]) B dX9_tick_27 0 rfl (by decide) (by decide) rfl ?_
  refine z_goto (tgt := 18) B dX9_tick_30 (by decide) ?_
  refine z_iload_n B dX9_tick_18 rfl 0 rfl ?_
  refine z_iload_n B dX9_tick_19 rfl 2 rfl ?_
  refine z_icmp_ge (tgt := 33) B dX9_tick_20 (by decide) (fun h => absurd h (by decide)) (fun _ => ?_)
  refine z_aload_n B dX9_tick_23 rfl 1 rfl ?_
  refine z_cVv (As := []) (rest := []) B cw_X9_294 cx_10 dX9_tick_24 (ci_X9_ticks_1080 l (σ := (ap b σ [(405, 1, 31), (405, 1, 30), (405, 1, 29), (405, 1, 28), (405, 1, 27), (405, 1, 26), (405, 1, 25), (405, 1, 24), (405, 1, 23), (405, 1, 22), (405, 1, 21), (405, 1, 20), (405, 1, 19), (405, 1, 18), (405, 1, 17), (405, 1, 16), (405, 1, 15), (405, 1, 14), (405, 1, 13), (405, 1, 12), (405, 1, 11), (405, 1, 10), (405, 1, 9), (405, 1, 8), (405, 1, 7), (405, 1, 6), (405, 1, 5), (405, 1, 4), (405, 1, 3), (405, 1, 2), (405, 1, 1), (405, 0, 0)] [] [])) (b := b) (lyA hK) (rI_at 405 1 rfl) (rI_at 405 6 hI_405_6) (rI_at 405 16 hI_405_16)) (lKA (hk_K hK 405 rfl rfl)) rfl (by decide) rfl (Nat.le_of_ble_eq_true rfl) (by decide) (fun u hu => ?_)
  refine z_eqs (σ' := (ap b σ [(405, 1, 32), (405, 1, 31), (405, 1, 30), (405, 1, 29), (405, 1, 28), (405, 1, 27), (405, 1, 26), (405, 1, 25), (405, 1, 24), (405, 1, 23), (405, 1, 22), (405, 1, 21), (405, 1, 20), (405, 1, 19), (405, 1, 18), (405, 1, 17), (405, 1, 16), (405, 1, 15), (405, 1, 14), (405, 1, 13), (405, 1, 12), (405, 1, 11), (405, 1, 10), (405, 1, 9), (405, 1, 8), (405, 1, 7), (405, 1, 6), (405, 1, 5), (405, 1, 4), (405, 1, 3), (405, 1, 2), (405, 1, 1), (405, 0, 0)] [] [])) (hu.trans ap_ap) ?_
  show zx p l e _ s m _ below meth c g 3 0 0 _ _ 27 [(2, .int 31), (0, .ref (b + 405)), (1, .int 38)] _
  refine z_iinc (v := 32) (lv' := [(2, .int 32), (0, .ref (b + 405)), (1, .int 38)]) B dX9_tick_27 0 rfl (by decide) (by decide) rfl ?_
  refine z_goto (tgt := 18) B dX9_tick_30 (by decide) ?_
  refine z_iload_n B dX9_tick_18 rfl 0 rfl ?_
  refine z_iload_n B dX9_tick_19 rfl 2 rfl ?_
  refine z_icmp_ge (tgt := 33) B dX9_tick_20 (by decide) (fun h => absurd h (by decide)) (fun _ => ?_)
  refine z_aload_n B dX9_tick_23 rfl 1 rfl ?_
  refine z_cVv (As := []) (rest := []) B cw_X9_294 cx_10 dX9_tick_24 (ci_X9_ticks_1085 l (σ := (ap b σ [(405, 1, 32), (405, 1, 31), (405, 1, 30), (405, 1, 29), (405, 1, 28), (405, 1, 27), (405, 1, 26), (405, 1, 25), (405, 1, 24), (405, 1, 23), (405, 1, 22), (405, 1, 21), (405, 1, 20), (405, 1, 19), (405, 1, 18), (405, 1, 17), (405, 1, 16), (405, 1, 15), (405, 1, 14), (405, 1, 13), (405, 1, 12), (405, 1, 11), (405, 1, 10), (405, 1, 9), (405, 1, 8), (405, 1, 7), (405, 1, 6), (405, 1, 5), (405, 1, 4), (405, 1, 3), (405, 1, 2), (405, 1, 1), (405, 0, 0)] [] [])) (b := b) (lyA hK) (rI_at 405 1 rfl) (rI_at 405 6 hI_405_6) (rI_at 405 16 hI_405_16)) (lKA (hk_K hK 405 rfl rfl)) rfl (by decide) rfl (Nat.le_of_ble_eq_true rfl) (by decide) (fun u hu => ?_)
  refine z_eqs (σ' := (ap b σ [(405, 1, 33), (405, 1, 32), (405, 1, 31), (405, 1, 30), (405, 1, 29), (405, 1, 28), (405, 1, 27), (405, 1, 26), (405, 1, 25), (405, 1, 24), (405, 1, 23), (405, 1, 22), (405, 1, 21), (405, 1, 20), (405, 1, 19), (405, 1, 18), (405, 1, 17), (405, 1, 16), (405, 1, 15), (405, 1, 14), (405, 1, 13), (405, 1, 12), (405, 1, 11), (405, 1, 10), (405, 1, 9), (405, 1, 8), (405, 1, 7), (405, 1, 6), (405, 1, 5), (405, 1, 4), (405, 1, 3), (405, 1, 2), (405, 1, 1), (405, 0, 0)] [] [])) (hu.trans ap_ap) ?_
  show zx p l e _ s m _ below meth c g 3 0 0 _ _ 27 [(2, .int 32), (0, .ref (b + 405)), (1, .int 38)] _
  refine z_iinc (v := 33) (lv' := [(2, .int 33), (0, .ref (b + 405)), (1, .int 38)]) B dX9_tick_27 0 rfl (by decide) (by decide) rfl ?_
  refine z_goto (tgt := 18) B dX9_tick_30 (by decide) ?_
  refine z_iload_n B dX9_tick_18 rfl 0 rfl ?_
  refine z_iload_n B dX9_tick_19 rfl 2 rfl ?_
  refine z_icmp_ge (tgt := 33) B dX9_tick_20 (by decide) (fun h => absurd h (by decide)) (fun _ => ?_)
  refine z_aload_n B dX9_tick_23 rfl 1 rfl ?_
  refine z_cVv (As := []) (rest := []) B cw_X9_294 cx_10 dX9_tick_24 (ci_X9_ticks_1090 l (σ := (ap b σ [(405, 1, 33), (405, 1, 32), (405, 1, 31), (405, 1, 30), (405, 1, 29), (405, 1, 28), (405, 1, 27), (405, 1, 26), (405, 1, 25), (405, 1, 24), (405, 1, 23), (405, 1, 22), (405, 1, 21), (405, 1, 20), (405, 1, 19), (405, 1, 18), (405, 1, 17), (405, 1, 16), (405, 1, 15), (405, 1, 14), (405, 1, 13), (405, 1, 12), (405, 1, 11), (405, 1, 10), (405, 1, 9), (405, 1, 8), (405, 1, 7), (405, 1, 6), (405, 1, 5), (405, 1, 4), (405, 1, 3), (405, 1, 2), (405, 1, 1), (405, 0, 0)] [] [])) (b := b) (lyA hK) (rI_at 405 1 rfl) (rI_at 405 6 hI_405_6) (rI_at 405 16 hI_405_16)) (lKA (hk_K hK 405 rfl rfl)) rfl (by decide) rfl (Nat.le_of_ble_eq_true rfl) (by decide) (fun u hu => ?_)
  refine z_eqs (σ' := (ap b σ [(405, 1, 34), (405, 1, 33), (405, 1, 32), (405, 1, 31), (405, 1, 30), (405, 1, 29), (405, 1, 28), (405, 1, 27), (405, 1, 26), (405, 1, 25), (405, 1, 24), (405, 1, 23), (405, 1, 22), (405, 1, 21), (405, 1, 20), (405, 1, 19), (405, 1, 18), (405, 1, 17), (405, 1, 16), (405, 1, 15), (405, 1, 14), (405, 1, 13), (405, 1, 12), (405, 1, 11), (405, 1, 10), (405, 1, 9), (405, 1, 8), (405, 1, 7), (405, 1, 6), (405, 1, 5), (405, 1, 4), (405, 1, 3), (405, 1, 2), (405, 1, 1), (405, 0, 0)] [] [])) (hu.trans ap_ap) ?_
  show zx p l e _ s m _ below meth c g 3 0 0 _ _ 27 [(2, .int 33), (0, .ref (b + 405)), (1, .int 38)] _
  refine z_iinc (v := 34) (lv' := [(2, .int 34), (0, .ref (b + 405)), (1, .int 38)]) B dX9_tick_27 0 rfl (by decide) (by decide) rfl ?_
  refine z_goto (tgt := 18) B dX9_tick_30 (by decide) ?_
  refine z_iload_n B dX9_tick_18 rfl 0 rfl ?_
  refine z_iload_n B dX9_tick_19 rfl 2 rfl ?_
  refine z_icmp_ge (tgt := 33) B dX9_tick_20 (by decide) (fun h => absurd h (by decide)) (fun _ => ?_)
  refine z_aload_n B dX9_tick_23 rfl 1 rfl ?_
  refine z_cVv (As := []) (rest := []) B cw_X9_294 cx_10 dX9_tick_24 (ci_X9_ticks_1095 l (σ := (ap b σ [(405, 1, 34), (405, 1, 33), (405, 1, 32), (405, 1, 31), (405, 1, 30), (405, 1, 29), (405, 1, 28), (405, 1, 27), (405, 1, 26), (405, 1, 25), (405, 1, 24), (405, 1, 23), (405, 1, 22), (405, 1, 21), (405, 1, 20), (405, 1, 19), (405, 1, 18), (405, 1, 17), (405, 1, 16), (405, 1, 15), (405, 1, 14), (405, 1, 13), (405, 1, 12), (405, 1, 11), (405, 1, 10), (405, 1, 9), (405, 1, 8), (405, 1, 7), (405, 1, 6), (405, 1, 5), (405, 1, 4), (405, 1, 3), (405, 1, 2), (405, 1, 1), (405, 0, 0)] [] [])) (b := b) (lyA hK) (rI_at 405 1 rfl) (rI_at 405 6 hI_405_6) (rI_at 405 16 hI_405_16)) (lKA (hk_K hK 405 rfl rfl)) rfl (by decide) rfl (Nat.le_of_ble_eq_true rfl) (by decide) (fun u hu => ?_)
  refine z_eqs (σ' := (ap b σ [(405, 1, 35), (405, 1, 34), (405, 1, 33), (405, 1, 32), (405, 1, 31), (405, 1, 30), (405, 1, 29), (405, 1, 28), (405, 1, 27), (405, 1, 26), (405, 1, 25), (405, 1, 24), (405, 1, 23), (405, 1, 22), (405, 1, 21), (405, 1, 20), (405, 1, 19), (405, 1, 18), (405, 1, 17), (405, 1, 16), (405, 1, 15), (405, 1, 14), (405, 1, 13), (405, 1, 12), (405, 1, 11), (405, 1, 10), (405, 1, 9), (405, 1, 8), (405, 1, 7), (405, 1, 6), (405, 1, 5), (405, 1, 4), (405, 1, 3), (405, 1, 2), (405, 1, 1), (405, 0, 0)] [] [])) (hu.trans ap_ap) ?_
  show zx p l e _ s m _ below meth c g 3 0 0 _ _ 27 [(2, .int 34), (0, .ref (b + 405)), (1, .int 38)] _
  refine z_iinc (v := 35) (lv' := [(2, .int 35), (0, .ref (b + 405)), (1, .int 38)]) B dX9_tick_27 0 rfl (by decide) (by decide) rfl ?_
  refine z_goto (tgt := 18) B dX9_tick_30 (by decide) ?_
  refine z_iload_n B dX9_tick_18 rfl 0 rfl ?_
  refine z_iload_n B dX9_tick_19 rfl 2 rfl ?_
  refine z_icmp_ge (tgt := 33) B dX9_tick_20 (by decide) (fun h => absurd h (by decide)) (fun _ => ?_)
  refine z_aload_n B dX9_tick_23 rfl 1 rfl ?_
  refine z_cVv (As := []) (rest := []) B cw_X9_294 cx_10 dX9_tick_24 (ci_X9_ticks_1100 l (σ := (ap b σ [(405, 1, 35), (405, 1, 34), (405, 1, 33), (405, 1, 32), (405, 1, 31), (405, 1, 30), (405, 1, 29), (405, 1, 28), (405, 1, 27), (405, 1, 26), (405, 1, 25), (405, 1, 24), (405, 1, 23), (405, 1, 22), (405, 1, 21), (405, 1, 20), (405, 1, 19), (405, 1, 18), (405, 1, 17), (405, 1, 16), (405, 1, 15), (405, 1, 14), (405, 1, 13), (405, 1, 12), (405, 1, 11), (405, 1, 10), (405, 1, 9), (405, 1, 8), (405, 1, 7), (405, 1, 6), (405, 1, 5), (405, 1, 4), (405, 1, 3), (405, 1, 2), (405, 1, 1), (405, 0, 0)] [] [])) (b := b) (lyA hK) (rI_at 405 1 rfl) (rI_at 405 6 hI_405_6) (rI_at 405 16 hI_405_16)) (lKA (hk_K hK 405 rfl rfl)) rfl (by decide) rfl (Nat.le_of_ble_eq_true rfl) (by decide) (fun u hu => ?_)
  refine z_eqs (σ' := (ap b σ [(405, 1, 36), (405, 1, 35), (405, 1, 34), (405, 1, 33), (405, 1, 32), (405, 1, 31), (405, 1, 30), (405, 1, 29), (405, 1, 28), (405, 1, 27), (405, 1, 26), (405, 1, 25), (405, 1, 24), (405, 1, 23), (405, 1, 22), (405, 1, 21), (405, 1, 20), (405, 1, 19), (405, 1, 18), (405, 1, 17), (405, 1, 16), (405, 1, 15), (405, 1, 14), (405, 1, 13), (405, 1, 12), (405, 1, 11), (405, 1, 10), (405, 1, 9), (405, 1, 8), (405, 1, 7), (405, 1, 6), (405, 1, 5), (405, 1, 4), (405, 1, 3), (405, 1, 2), (405, 1, 1), (405, 0, 0)] [] [])) (hu.trans ap_ap) ?_
  show zx p l e _ s m _ below meth c g 3 0 0 _ _ 27 [(2, .int 35), (0, .ref (b + 405)), (1, .int 38)] _
  refine z_iinc (v := 36) (lv' := [(2, .int 36), (0, .ref (b + 405)), (1, .int 38)]) B dX9_tick_27 0 rfl (by decide) (by decide) rfl ?_
  refine z_goto (tgt := 18) B dX9_tick_30 (by decide) ?_
  refine z_iload_n B dX9_tick_18 rfl 0 rfl ?_
  refine z_iload_n B dX9_tick_19 rfl 2 rfl ?_
  refine z_icmp_ge (tgt := 33) B dX9_tick_20 (by decide) (fun h => absurd h (by decide)) (fun _ => ?_)
  refine z_aload_n B dX9_tick_23 rfl 1 rfl ?_
  refine z_cVv (As := []) (rest := []) B cw_X9_294 cx_10 dX9_tick_24 (ci_X9_ticks_1105 l (σ := (ap b σ [(405, 1, 36), (405, 1, 35), (405, 1, 34), (405, 1, 33), (405, 1, 32), (405, 1, 31), (405, 1, 30), (405, 1, 29), (405, 1, 28), (405, 1, 27), (405, 1, 26), (405, 1, 25), (405, 1, 24), (405, 1, 23), (405, 1, 22), (405, 1, 21), (405, 1, 20), (405, 1, 19), (405, 1, 18), (405, 1, 17), (405, 1, 16), (405, 1, 15), (405, 1, 14), (405, 1, 13), (405, 1, 12), (405, 1, 11), (405, 1, 10), (405, 1, 9), (405, 1, 8), (405, 1, 7), (405, 1, 6), (405, 1, 5), (405, 1, 4), (405, 1, 3), (405, 1, 2), (405, 1, 1), (405, 0, 0)] [] [])) (b := b) (lyA hK) (rI_at 405 1 rfl) (rI_at 405 6 hI_405_6) (rI_at 405 16 hI_405_16)) (lKA (hk_K hK 405 rfl rfl)) rfl (by decide) rfl (Nat.le_of_ble_eq_true rfl) (by decide) (fun u hu => ?_)
  refine z_eqs (σ' := (ap b σ [(405, 1, 37), (405, 1, 36), (405, 1, 35), (405, 1, 34), (405, 1, 33), (405, 1, 32), (405, 1, 31), (405, 1, 30), (405, 1, 29), (405, 1, 28), (405, 1, 27), (405, 1, 26), (405, 1, 25), (405, 1, 24), (405, 1, 23), (405, 1, 22), (405, 1, 21), (405, 1, 20), (405, 1, 19), (405, 1, 18), (405, 1, 17), (405, 1, 16), (405, 1, 15), (405, 1, 14), (405, 1, 13), (405, 1, 12), (405, 1, 11), (405, 1, 10), (405, 1, 9), (405, 1, 8), (405, 1, 7), (405, 1, 6), (405, 1, 5), (405, 1, 4), (405, 1, 3), (405, 1, 2), (405, 1, 1), (405, 0, 0)] [] [])) (hu.trans ap_ap) ?_
  show zx p l e _ s m _ below meth c g 3 0 0 _ _ 27 [(2, .int 36), (0, .ref (b + 405)), (1, .int 38)] _
  refine z_iinc (v := 37) (lv' := [(2, .int 37), (0, .ref (b + 405)), (1, .int 38)]) B dX9_tick_27 0 rfl (by decide) (by decide) rfl ?_
  refine z_goto (tgt := 18) B dX9_tick_30 (by decide) ?_
  refine z_iload_n B dX9_tick_18 rfl 0 rfl ?_
  refine z_iload_n B dX9_tick_19 rfl 2 rfl ?_
  refine z_icmp_ge (tgt := 33) B dX9_tick_20 (by decide) (fun h => absurd h (by decide)) (fun _ => ?_)
  refine z_aload_n B dX9_tick_23 rfl 1 rfl ?_
  refine z_cVv (As := []) (rest := []) B cw_X9_294 cx_10 dX9_tick_24 (ci_X9_ticks_1110 l (σ := (ap b σ [(405, 1, 37), (405, 1, 36), (405, 1, 35), (405, 1, 34), (405, 1, 33), (405, 1, 32), (405, 1, 31), (405, 1, 30), (405, 1, 29), (405, 1, 28), (405, 1, 27), (405, 1, 26), (405, 1, 25), (405, 1, 24), (405, 1, 23), (405, 1, 22), (405, 1, 21), (405, 1, 20), (405, 1, 19), (405, 1, 18), (405, 1, 17), (405, 1, 16), (405, 1, 15), (405, 1, 14), (405, 1, 13), (405, 1, 12), (405, 1, 11), (405, 1, 10), (405, 1, 9), (405, 1, 8), (405, 1, 7), (405, 1, 6), (405, 1, 5), (405, 1, 4), (405, 1, 3), (405, 1, 2), (405, 1, 1), (405, 0, 0)] [] [])) (b := b) (lyA hK) (rI_at 405 1 rfl) (rI_at 405 6 hI_405_6) (rI_at 405 16 hI_405_16)) (lKA (hk_K hK 405 rfl rfl)) rfl (by decide) rfl (Nat.le_of_ble_eq_true rfl) (by decide) (fun u hu => ?_)
  refine z_eqs (σ' := (ap b σ [(405, 1, 38), (405, 1, 37), (405, 1, 36), (405, 1, 35), (405, 1, 34), (405, 1, 33), (405, 1, 32), (405, 1, 31), (405, 1, 30), (405, 1, 29), (405, 1, 28), (405, 1, 27), (405, 1, 26), (405, 1, 25), (405, 1, 24), (405, 1, 23), (405, 1, 22), (405, 1, 21), (405, 1, 20), (405, 1, 19), (405, 1, 18), (405, 1, 17), (405, 1, 16), (405, 1, 15), (405, 1, 14), (405, 1, 13), (405, 1, 12), (405, 1, 11), (405, 1, 10), (405, 1, 9), (405, 1, 8), (405, 1, 7), (405, 1, 6), (405, 1, 5), (405, 1, 4), (405, 1, 3), (405, 1, 2), (405, 1, 1), (405, 0, 0)] [] [])) (hu.trans ap_ap) ?_
  show zx p l e _ s m _ below meth c g 3 0 0 _ _ 27 [(2, .int 37), (0, .ref (b + 405)), (1, .int 38)] _
  refine z_iinc (v := 38) (lv' := [(2, .int 38), (0, .ref (b + 405)), (1, .int 38)]) B dX9_tick_27 0 rfl (by decide) (by decide) rfl ?_
  refine z_goto (tgt := 18) B dX9_tick_30 (by decide) ?_
  refine z_iload_n B dX9_tick_18 rfl 0 rfl ?_
  refine z_iload_n B dX9_tick_19 rfl 2 rfl ?_
  refine z_icmp_ge (tgt := 33) B dX9_tick_20 (by decide) (fun _ => ?_) (fun h => absurd (by decide) h)
  refine z_aload_n B dX9_tick_33 rfl 1 rfl ?_
  refine gf_X9_197 (x := 38) B (lKA (hk_K hK 405 rfl rfl)) (rI_at 405 1 rfl) dX9_tick_34 ?_
  exact z_iret B hr (by decide) (by decide) dX9_tick_37 ⟨rfl, rfl⟩
set_option maxRecDepth 100000 in
set_option maxHeartbeats 4000000 in
theorem ci_X8_tick_1112 (l : Launch) {g : gx_T} {σ : sx_T} {b : Nat} (hK : lay b σ)   (hI_0_7 : sx_I σ (b + 0) 7 = 0) (hI_0_8 : sx_I σ (b + 0) 8 = 0) (hI_4_2 : sx_I σ (b + 4) 2 = 0) (hR_0_3 : sx_R σ (b + 0) 3 = (some (b + 4))) : Met l yX8_tick (.code yX8_tick cX8_tick 3 (some .int) :: lw_g) { frames := 2, cells := 0, slots := 0, locals := 42 } (va_Pc [.ref (b + 0), .int 39] (zx_w g σ)) (va_Qi (fun r u => r = 39 ∧ u = (ap b σ [(0, 8, 39), (0, 8, 38), (0, 8, 37), (0, 8, 36), (0, 8, 35), (0, 8, 34), (0, 8, 33), (0, 8, 32), (0, 8, 31), (0, 8, 30), (0, 8, 29), (0, 8, 28), (0, 8, 27), (0, 8, 26), (0, 8, 25), (0, 8, 24), (0, 8, 23), (0, 8, 22), (0, 8, 21), (0, 8, 20), (0, 8, 19), (0, 8, 18), (0, 8, 17), (0, 8, 16), (0, 8, 15), (0, 8, 14), (0, 8, 13), (0, 8, 12), (0, 8, 11), (0, 8, 10), (0, 8, 9), (0, 8, 8), (0, 8, 7), (0, 8, 6), (0, 8, 5), (0, 8, 4), (0, 8, 3), (0, 8, 2), (0, 8, 1)] [] [])) (zx_w g) (gx_Q g)) 0 0 (gx_Q g) := by
  refine z_met (by decide) (Nat.le_of_ble_eq_true rfl) (fun p e s m below meth c B hr hin => ?_)
  refine z_eqs (σ' := (ap b σ [] [] [])) rfl ?_
  show zx p l e _ s m _ below meth c g 3 0 0 _ _ 0 [(0, .ref (b + 0)), (1, .int 39)] []
  refine z_iload_n B dX8_tick_0 rfl 1 rfl ?_
  refine z_iconst (v := 1) B dX8_tick_1 (by decide) ?_
  refine z_icmp_lt (tgt := 11) B dX8_tick_2 (by decide) (fun h => absurd h (by decide)) (fun _ => ?_)
  refine z_iload_n B dX8_tick_5 rfl 1 rfl ?_
  refine z_bipush (v := 50) B dX8_tick_6 (by decide) ?_
  refine z_icmp_le (tgt := 21) B dX8_tick_8 (by decide) (fun _ => ?_) (fun h => absurd (by decide) h)
  refine z_iconst (v := 0) B dX8_tick_21 (by decide) ?_
  refine z_istore_n (lv' := [(2, .int 0), (0, .ref (b + 0)), (1, .int 39)]) B dX8_tick_22 rfl (by decide) rfl ?_
  refine z_iload_n B dX8_tick_23 rfl 0 rfl ?_
  refine z_iload_n B dX8_tick_24 rfl 2 rfl ?_
  refine z_icmp_ge (tgt := 52) B dX8_tick_25 (by decide) (fun h => absurd h (by decide)) (fun _ => ?_)
  refine z_aload_n B dX8_tick_28 rfl 1 rfl ?_
  refine z_dup B dX8_tick_29 rfl ?_
  refine gf_X8_206 (x := 0) B (lKA (hk_K hK 0 rfl rfl)) (rI_at 0 8 hI_0_8) dX8_tick_30 ?_
  refine z_iconst (v := 1) B dX8_tick_33 (by decide) ?_
  refine z_iadd B dX8_tick_34 ?_
  refine z_seti (y := 1) (by decide) ?_
  refine pf_X8_206 (x := 1) (σ' := (ap b σ [(0, 8, 1)] [] [])) B (lKA (hk_K hK 0 rfl rfl)) wI_ap dX8_tick_35 ?_
  refine z_aload_n B dX8_tick_38 rfl 1 rfl ?_
  refine z_cVv (As := []) (rest := []) B cw_X8_240 cx_9 dX8_tick_39 (ci_X8_passTasks_920 l (σ := (ap b σ [(0, 8, 1)] [] [])) (b := b) (lyA hK) (rI_at 4 2 hI_4_2) (rR_at 0 3 hR_0_3)) (lKA (hk_K hK 0 rfl rfl)) rfl (by decide) rfl (Nat.le_of_ble_eq_true rfl) (by decide) (fun u hu => ?_)
  refine z_eqs (σ' := (ap b σ [(0, 8, 1)] [] [])) hu ?_
  show zx p l e _ s m _ below meth c g 3 0 0 _ _ 42 [(2, .int 0), (0, .ref (b + 0)), (1, .int 39)] _
  refine z_aload_n B dX8_tick_42 rfl 1 rfl ?_
  refine z_cVv (As := []) (rest := []) B cw_X8_243 cx_9 dX8_tick_43 (ci_X8_passTimers_921 l (σ := (ap b σ [(0, 8, 1)] [] [])) (b := b) (lyA hK) (rI_at 0 7 hI_0_7)) (lKA (hk_K hK 0 rfl rfl)) rfl (by decide) rfl (Nat.le_of_ble_eq_true rfl) (by decide) (fun u hu => ?_)
  refine z_eqs (σ' := (ap b σ [(0, 8, 1)] [] [])) hu ?_
  show zx p l e _ s m _ below meth c g 3 0 0 _ _ 46 [(2, .int 0), (0, .ref (b + 0)), (1, .int 39)] _
  refine z_iinc (v := 1) (lv' := [(2, .int 1), (0, .ref (b + 0)), (1, .int 39)]) B dX8_tick_46 0 rfl (by decide) (by decide) rfl ?_
  refine z_goto (tgt := 23) B dX8_tick_49 (by decide) ?_
  refine z_iload_n B dX8_tick_23 rfl 0 rfl ?_
  refine z_iload_n B dX8_tick_24 rfl 2 rfl ?_
  refine z_icmp_ge (tgt := 52) B dX8_tick_25 (by decide) (fun h => absurd h (by decide)) (fun _ => ?_)
  refine z_aload_n B dX8_tick_28 rfl 1 rfl ?_
  refine z_dup B dX8_tick_29 rfl ?_
  refine gf_X8_206 (x := 1) B (lKA (hk_K hK 0 rfl rfl)) (rI_at 0 8 rfl) dX8_tick_30 ?_
  refine z_iconst (v := 1) B dX8_tick_33 (by decide) ?_
  refine z_iadd B dX8_tick_34 ?_
  refine z_seti (y := 2) (by decide) ?_
  refine pf_X8_206 (x := 2) (σ' := (ap b σ [(0, 8, 2), (0, 8, 1)] [] [])) B (lKA (hk_K hK 0 rfl rfl)) wI_ap dX8_tick_35 ?_
  refine z_aload_n B dX8_tick_38 rfl 1 rfl ?_
  refine z_cVv (As := []) (rest := []) B cw_X8_240 cx_9 dX8_tick_39 (ci_X8_passTasks_920 l (σ := (ap b σ [(0, 8, 2), (0, 8, 1)] [] [])) (b := b) (lyA hK) (rI_at 4 2 hI_4_2) (rR_at 0 3 hR_0_3)) (lKA (hk_K hK 0 rfl rfl)) rfl (by decide) rfl (Nat.le_of_ble_eq_true rfl) (by decide) (fun u hu => ?_)
  refine z_eqs (σ' := (ap b σ [(0, 8, 2), (0, 8, 1)] [] [])) hu ?_
  show zx p l e _ s m _ below meth c g 3 0 0 _ _ 42 [(2, .int 1), (0, .ref (b + 0)), (1, .int 39)] _
  refine z_aload_n B dX8_tick_42 rfl 1 rfl ?_
  refine z_cVv (As := []) (rest := []) B cw_X8_243 cx_9 dX8_tick_43 (ci_X8_passTimers_921 l (σ := (ap b σ [(0, 8, 2), (0, 8, 1)] [] [])) (b := b) (lyA hK) (rI_at 0 7 hI_0_7)) (lKA (hk_K hK 0 rfl rfl)) rfl (by decide) rfl (Nat.le_of_ble_eq_true rfl) (by decide) (fun u hu => ?_)
  refine z_eqs (σ' := (ap b σ [(0, 8, 2), (0, 8, 1)] [] [])) hu ?_
  show zx p l e _ s m _ below meth c g 3 0 0 _ _ 46 [(2, .int 1), (0, .ref (b + 0)), (1, .int 39)] _
  refine z_iinc (v := 2) (lv' := [(2, .int 2), (0, .ref (b + 0)), (1, .int 39)]) B dX8_tick_46 0 rfl (by decide) (by decide) rfl ?_
  refine z_goto (tgt := 23) B dX8_tick_49 (by decide) ?_
  refine z_iload_n B dX8_tick_23 rfl 0 rfl ?_
  refine z_iload_n B dX8_tick_24 rfl 2 rfl ?_
  refine z_icmp_ge (tgt := 52) B dX8_tick_25 (by decide) (fun h => absurd h (by decide)) (fun _ => ?_)
  refine z_aload_n B dX8_tick_28 rfl 1 rfl ?_
  refine z_dup B dX8_tick_29 rfl ?_
  refine gf_X8_206 (x := 2) B (lKA (hk_K hK 0 rfl rfl)) (rI_at 0 8 rfl) dX8_tick_30 ?_
  refine z_iconst (v := 1) B dX8_tick_33 (by decide) ?_
  refine z_iadd B dX8_tick_34 ?_
  refine z_seti (y := 3) (by decide) ?_
  refine pf_X8_206 (x := 3) (σ' := (ap b σ [(0, 8, 3), (0, 8, 2), (0, 8, 1)] [] [])) B (lKA (hk_K hK 0 rfl rfl)) wI_ap dX8_tick_35 ?_
  refine z_aload_n B dX8_tick_38 rfl 1 rfl ?_
  refine z_cVv (As := []) (rest := []) B cw_X8_240 cx_9 dX8_tick_39 (ci_X8_passTasks_920 l (σ := (ap b σ [(0, 8, 3), (0, 8, 2), (0, 8, 1)] [] [])) (b := b) (lyA hK) (rI_at 4 2 hI_4_2) (rR_at 0 3 hR_0_3)) (lKA (hk_K hK 0 rfl rfl)) rfl (by decide) rfl (Nat.le_of_ble_eq_true rfl) (by decide) (fun u hu => ?_)
  refine z_eqs (σ' := (ap b σ [(0, 8, 3), (0, 8, 2), (0, 8, 1)] [] [])) hu ?_
  show zx p l e _ s m _ below meth c g 3 0 0 _ _ 42 [(2, .int 2), (0, .ref (b + 0)), (1, .int 39)] _
  refine z_aload_n B dX8_tick_42 rfl 1 rfl ?_
  refine z_cVv (As := []) (rest := []) B cw_X8_243 cx_9 dX8_tick_43 (ci_X8_passTimers_921 l (σ := (ap b σ [(0, 8, 3), (0, 8, 2), (0, 8, 1)] [] [])) (b := b) (lyA hK) (rI_at 0 7 hI_0_7)) (lKA (hk_K hK 0 rfl rfl)) rfl (by decide) rfl (Nat.le_of_ble_eq_true rfl) (by decide) (fun u hu => ?_)
  refine z_eqs (σ' := (ap b σ [(0, 8, 3), (0, 8, 2), (0, 8, 1)] [] [])) hu ?_
  show zx p l e _ s m _ below meth c g 3 0 0 _ _ 46 [(2, .int 2), (0, .ref (b + 0)), (1, .int 39)] _
  refine z_iinc (v := 3) (lv' := [(2, .int 3), (0, .ref (b + 0)), (1, .int 39)]) B dX8_tick_46 0 rfl (by decide) (by decide) rfl ?_
  refine z_goto (tgt := 23) B dX8_tick_49 (by decide) ?_
  refine z_iload_n B dX8_tick_23 rfl 0 rfl ?_
  refine z_iload_n B dX8_tick_24 rfl 2 rfl ?_
  refine z_icmp_ge (tgt := 52) B dX8_tick_25 (by decide) (fun h => absurd h (by decide)) (fun _ => ?_)
  refine z_aload_n B dX8_tick_28 rfl 1 rfl ?_
  refine z_dup B dX8_tick_29 rfl ?_
  refine gf_X8_206 (x := 3) B (lKA (hk_K hK 0 rfl rfl)) (rI_at 0 8 rfl) dX8_tick_30 ?_
  refine z_iconst (v := 1) B dX8_tick_33 (by decide) ?_
  refine z_iadd B dX8_tick_34 ?_
  refine z_seti (y := 4) (by decide) ?_
  refine pf_X8_206 (x := 4) (σ' := (ap b σ [(0, 8, 4), (0, 8, 3), (0, 8, 2), (0, 8, 1)] [] [])) B (lKA (hk_K hK 0 rfl rfl)) wI_ap dX8_tick_35 ?_
  refine z_aload_n B dX8_tick_38 rfl 1 rfl ?_
  refine z_cVv (As := []) (rest := []) B cw_X8_240 cx_9 dX8_tick_39 (ci_X8_passTasks_920 l (σ := (ap b σ [(0, 8, 4), (0, 8, 3), (0, 8, 2), (0, 8, 1)] [] [])) (b := b) (lyA hK) (rI_at 4 2 hI_4_2) (rR_at 0 3 hR_0_3)) (lKA (hk_K hK 0 rfl rfl)) rfl (by decide) rfl (Nat.le_of_ble_eq_true rfl) (by decide) (fun u hu => ?_)
  refine z_eqs (σ' := (ap b σ [(0, 8, 4), (0, 8, 3), (0, 8, 2), (0, 8, 1)] [] [])) hu ?_
  show zx p l e _ s m _ below meth c g 3 0 0 _ _ 42 [(2, .int 3), (0, .ref (b + 0)), (1, .int 39)] _
  refine z_aload_n B dX8_tick_42 rfl 1 rfl ?_
  refine z_cVv (As := []) (rest := []) B cw_X8_243 cx_9 dX8_tick_43 (ci_X8_passTimers_921 l (σ := (ap b σ [(0, 8, 4), (0, 8, 3), (0, 8, 2), (0, 8, 1)] [] [])) (b := b) (lyA hK) (rI_at 0 7 hI_0_7)) (lKA (hk_K hK 0 rfl rfl)) rfl (by decide) rfl (Nat.le_of_ble_eq_true rfl) (by decide) (fun u hu => ?_)
  refine z_eqs (σ' := (ap b σ [(0, 8, 4), (0, 8, 3), (0, 8, 2), (0, 8, 1)] [] [])) hu ?_
  show zx p l e _ s m _ below meth c g 3 0 0 _ _ 46 [(2, .int 3), (0, .ref (b + 0)), (1, .int 39)] _
  refine z_iinc (v := 4) (lv' := [(2, .int 4), (0, .ref (b + 0)), (1, .int 39)]) B dX8_tick_46 0 rfl (by decide) (by decide) rfl ?_
  refine z_goto (tgt := 23) B dX8_tick_49 (by decide) ?_
  refine z_iload_n B dX8_tick_23 rfl 0 rfl ?_
  refine z_iload_n B dX8_tick_24 rfl 2 rfl ?_
  refine z_icmp_ge (tgt := 52) B dX8_tick_25 (by decide) (fun h => absurd h (by decide)) (fun _ => ?_)
  refine z_aload_n B dX8_tick_28 rfl 1 rfl ?_
  refine z_dup B dX8_tick_29 rfl ?_
  refine gf_X8_206 (x := 4) B (lKA (hk_K hK 0 rfl rfl)) (rI_at 0 8 rfl) dX8_tick_30 ?_
  refine z_iconst (v := 1) B dX8_tick_33 (by decide) ?_
  refine z_iadd B dX8_tick_34 ?_
  refine z_seti (y := 5) (by decide) ?_
  refine pf_X8_206 (x := 5) (σ' := (ap b σ [(0, 8, 5), (0, 8, 4), (0, 8, 3), (0, 8, 2), (0, 8, 1)] [] [])) B (lKA (hk_K hK 0 rfl rfl)) wI_ap dX8_tick_35 ?_
  refine z_aload_n B dX8_tick_38 rfl 1 rfl ?_
  refine z_cVv (As := []) (rest := []) B cw_X8_240 cx_9 dX8_tick_39 (ci_X8_passTasks_920 l (σ := (ap b σ [(0, 8, 5), (0, 8, 4), (0, 8, 3), (0, 8, 2), (0, 8, 1)] [] [])) (b := b) (lyA hK) (rI_at 4 2 hI_4_2) (rR_at 0 3 hR_0_3)) (lKA (hk_K hK 0 rfl rfl)) rfl (by decide) rfl (Nat.le_of_ble_eq_true rfl) (by decide) (fun u hu => ?_)
  refine z_eqs (σ' := (ap b σ [(0, 8, 5), (0, 8, 4), (0, 8, 3), (0, 8, 2), (0, 8, 1)] [] [])) hu ?_
  show zx p l e _ s m _ below meth c g 3 0 0 _ _ 42 [(2, .int 4), (0, .ref (b + 0)), (1, .int 39)] _
  refine z_aload_n B dX8_tick_42 rfl 1 rfl ?_
  refine z_cVv (As := []) (rest := []) B cw_X8_243 cx_9 dX8_tick_43 (ci_X8_passTimers_921 l (σ := (ap b σ [(0, 8, 5), (0, 8, 4), (0, 8, 3), (0, 8, 2), (0, 8, 1)] [] [])) (b := b) (lyA hK) (rI_at 0 7 hI_0_7)) (lKA (hk_K hK 0 rfl rfl)) rfl (by decide) rfl (Nat.le_of_ble_eq_true rfl) (by decide) (fun u hu => ?_)
  refine z_eqs (σ' := (ap b σ [(0, 8, 5), (0, 8, 4), (0, 8, 3), (0, 8, 2), (0, 8, 1)] [] [])) hu ?_
  show zx p l e _ s m _ below meth c g 3 0 0 _ _ 46 [(2, .int 4), (0, .ref (b + 0)), (1, .int 39)] _
  refine z_iinc (v := 5) (lv' := [(2, .int 5), (0, .ref (b + 0)), (1, .int 39)]) B dX8_tick_46 0 rfl (by decide) (by decide) rfl ?_
  refine z_goto (tgt := 23) B dX8_tick_49 (by decide) ?_
  refine z_iload_n B dX8_tick_23 rfl 0 rfl ?_
  refine z_iload_n B dX8_tick_24 rfl 2 rfl ?_
  refine z_icmp_ge (tgt := 52) B dX8_tick_25 (by decide) (fun h => absurd h (by decide)) (fun _ => ?_)
  refine z_aload_n B dX8_tick_28 rfl 1 rfl ?_
  refine z_dup B dX8_tick_29 rfl ?_
  refine gf_X8_206 (x := 5) B (lKA (hk_K hK 0 rfl rfl)) (rI_at 0 8 rfl) dX8_tick_30 ?_
  refine z_iconst (v := 1) B dX8_tick_33 (by decide) ?_
  refine z_iadd B dX8_tick_34 ?_
  refine z_seti (y := 6) (by decide) ?_
  refine pf_X8_206 (x := 6) (σ' := (ap b σ [(0, 8, 6), (0, 8, 5), (0, 8, 4), (0, 8, 3), (0, 8, 2), (0, 8, 1)] [] [])) B (lKA (hk_K hK 0 rfl rfl)) wI_ap dX8_tick_35 ?_
  refine z_aload_n B dX8_tick_38 rfl 1 rfl ?_
  refine z_cVv (As := []) (rest := []) B cw_X8_240 cx_9 dX8_tick_39 (ci_X8_passTasks_920 l (σ := (ap b σ [(0, 8, 6), (0, 8, 5), (0, 8, 4), (0, 8, 3), (0, 8, 2), (0, 8, 1)] [] [])) (b := b) (lyA hK) (rI_at 4 2 hI_4_2) (rR_at 0 3 hR_0_3)) (lKA (hk_K hK 0 rfl rfl)) rfl (by decide) rfl (Nat.le_of_ble_eq_true rfl) (by decide) (fun u hu => ?_)
  refine z_eqs (σ' := (ap b σ [(0, 8, 6), (0, 8, 5), (0, 8, 4), (0, 8, 3), (0, 8, 2), (0, 8, 1)] [] [])) hu ?_
  show zx p l e _ s m _ below meth c g 3 0 0 _ _ 42 [(2, .int 5), (0, .ref (b + 0)), (1, .int 39)] _
  refine z_aload_n B dX8_tick_42 rfl 1 rfl ?_
  refine z_cVv (As := []) (rest := []) B cw_X8_243 cx_9 dX8_tick_43 (ci_X8_passTimers_921 l (σ := (ap b σ [(0, 8, 6), (0, 8, 5), (0, 8, 4), (0, 8, 3), (0, 8, 2), (0, 8, 1)] [] [])) (b := b) (lyA hK) (rI_at 0 7 hI_0_7)) (lKA (hk_K hK 0 rfl rfl)) rfl (by decide) rfl (Nat.le_of_ble_eq_true rfl) (by decide) (fun u hu => ?_)
  refine z_eqs (σ' := (ap b σ [(0, 8, 6), (0, 8, 5), (0, 8, 4), (0, 8, 3), (0, 8, 2), (0, 8, 1)] [] [])) hu ?_
  show zx p l e _ s m _ below meth c g 3 0 0 _ _ 46 [(2, .int 5), (0, .ref (b + 0)), (1, .int 39)] _
  refine z_iinc (v := 6) (lv' := [(2, .int 6), (0, .ref (b + 0)), (1, .int 39)]) B dX8_tick_46 0 rfl (by decide) (by decide) rfl ?_
  refine z_goto (tgt := 23) B dX8_tick_49 (by decide) ?_
  refine z_iload_n B dX8_tick_23 rfl 0 rfl ?_
  refine z_iload_n B dX8_tick_24 rfl 2 rfl ?_
  refine z_icmp_ge (tgt := 52) B dX8_tick_25 (by decide) (fun h => absurd h (by decide)) (fun _ => ?_)
  refine z_aload_n B dX8_tick_28 rfl 1 rfl ?_
  refine z_dup B dX8_tick_29 rfl ?_
  refine gf_X8_206 (x := 6) B (lKA (hk_K hK 0 rfl rfl)) (rI_at 0 8 rfl) dX8_tick_30 ?_
  refine z_iconst (v := 1) B dX8_tick_33 (by decide) ?_
  refine z_iadd B dX8_tick_34 ?_
  refine z_seti (y := 7) (by decide) ?_
  refine pf_X8_206 (x := 7) (σ' := (ap b σ [(0, 8, 7), (0, 8, 6), (0, 8, 5), (0, 8, 4), (0, 8, 3), (0, 8, 2), (0, 8, 1)] [] [])) B (lKA (hk_K hK 0 rfl rfl)) wI_ap dX8_tick_35 ?_
  refine z_aload_n B dX8_tick_38 rfl 1 rfl ?_
  refine z_cVv (As := []) (rest := []) B cw_X8_240 cx_9 dX8_tick_39 (ci_X8_passTasks_920 l (σ := (ap b σ [(0, 8, 7), (0, 8, 6), (0, 8, 5), (0, 8, 4), (0, 8, 3), (0, 8, 2), (0, 8, 1)] [] [])) (b := b) (lyA hK) (rI_at 4 2 hI_4_2) (rR_at 0 3 hR_0_3)) (lKA (hk_K hK 0 rfl rfl)) rfl (by decide) rfl (Nat.le_of_ble_eq_true rfl) (by decide) (fun u hu => ?_)
  refine z_eqs (σ' := (ap b σ [(0, 8, 7), (0, 8, 6), (0, 8, 5), (0, 8, 4), (0, 8, 3), (0, 8, 2), (0, 8, 1)] [] [])) hu ?_
  show zx p l e _ s m _ below meth c g 3 0 0 _ _ 42 [(2, .int 6), (0, .ref (b + 0)), (1, .int 39)] _
  refine z_aload_n B dX8_tick_42 rfl 1 rfl ?_
  refine z_cVv (As := []) (rest := []) B cw_X8_243 cx_9 dX8_tick_43 (ci_X8_passTimers_921 l (σ := (ap b σ [(0, 8, 7), (0, 8, 6), (0, 8, 5), (0, 8, 4), (0, 8, 3), (0, 8, 2), (0, 8, 1)] [] [])) (b := b) (lyA hK) (rI_at 0 7 hI_0_7)) (lKA (hk_K hK 0 rfl rfl)) rfl (by decide) rfl (Nat.le_of_ble_eq_true rfl) (by decide) (fun u hu => ?_)
  refine z_eqs (σ' := (ap b σ [(0, 8, 7), (0, 8, 6), (0, 8, 5), (0, 8, 4), (0, 8, 3), (0, 8, 2), (0, 8, 1)] [] [])) hu ?_
  show zx p l e _ s m _ below meth c g 3 0 0 _ _ 46 [(2, .int 6), (0, .ref (b + 0)), (1, .int 39)] _
  refine z_iinc (v := 7) (lv' := [(2, .int 7), (0, .ref (b + 0)), (1, .int 39)]) B dX8_tick_46 0 rfl (by decide) (by decide) rfl ?_
  refine z_goto (tgt := 23) B dX8_tick_49 (by decide) ?_
  refine z_iload_n B dX8_tick_23 rfl 0 rfl ?_
  refine z_iload_n B dX8_tick_24 rfl 2 rfl ?_
  refine z_icmp_ge (tgt := 52) B dX8_tick_25 (by decide) (fun h => absurd h (by decide)) (fun _ => ?_)
  refine z_aload_n B dX8_tick_28 rfl 1 rfl ?_
  refine z_dup B dX8_tick_29 rfl ?_
  refine gf_X8_206 (x := 7) B (lKA (hk_K hK 0 rfl rfl)) (rI_at 0 8 rfl) dX8_tick_30 ?_
  refine z_iconst (v := 1) B dX8_tick_33 (by decide) ?_
  refine z_iadd B dX8_tick_34 ?_
  refine z_seti (y := 8) (by decide) ?_
  refine pf_X8_206 (x := 8) (σ' := (ap b σ [(0, 8, 8), (0, 8, 7), (0, 8, 6), (0, 8, 5), (0, 8, 4), (0, 8, 3), (0, 8, 2), (0, 8, 1)] [] [])) B (lKA (hk_K hK 0 rfl rfl)) wI_ap dX8_tick_35 ?_
  refine z_aload_n B dX8_tick_38 rfl 1 rfl ?_
  refine z_cVv (As := []) (rest := []) B cw_X8_240 cx_9 dX8_tick_39 (ci_X8_passTasks_920 l (σ := (ap b σ [(0, 8, 8), (0, 8, 7), (0, 8, 6), (0, 8, 5), (0, 8, 4), (0, 8, 3), (0, 8, 2), (0, 8, 1)] [] [])) (b := b) (lyA hK) (rI_at 4 2 hI_4_2) (rR_at 0 3 hR_0_3)) (lKA (hk_K hK 0 rfl rfl)) rfl (by decide) rfl (Nat.le_of_ble_eq_true rfl) (by decide) (fun u hu => ?_)
  refine z_eqs (σ' := (ap b σ [(0, 8, 8), (0, 8, 7), (0, 8, 6), (0, 8, 5), (0, 8, 4), (0, 8, 3), (0, 8, 2), (0, 8, 1)] [] [])) hu ?_
  show zx p l e _ s m _ below meth c g 3 0 0 _ _ 42 [(2, .int 7), (0, .ref (b + 0)), (1, .int 39)] _
  refine z_aload_n B dX8_tick_42 rfl 1 rfl ?_
  refine z_cVv (As := []) (rest := []) B cw_X8_243 cx_9 dX8_tick_43 (ci_X8_passTimers_921 l (σ := (ap b σ [(0, 8, 8), (0, 8, 7), (0, 8, 6), (0, 8, 5), (0, 8, 4), (0, 8, 3), (0, 8, 2), (0, 8, 1)] [] [])) (b := b) (lyA hK) (rI_at 0 7 hI_0_7)) (lKA (hk_K hK 0 rfl rfl)) rfl (by decide) rfl (Nat.le_of_ble_eq_true rfl) (by decide) (fun u hu => ?_)
  refine z_eqs (σ' := (ap b σ [(0, 8, 8), (0, 8, 7), (0, 8, 6), (0, 8, 5), (0, 8, 4), (0, 8, 3), (0, 8, 2), (0, 8, 1)] [] [])) hu ?_
  show zx p l e _ s m _ below meth c g 3 0 0 _ _ 46 [(2, .int 7), (0, .ref (b + 0)), (1, .int 39)] _
  refine z_iinc (v := 8) (lv' := [(2, .int 8), (0, .ref (b + 0)), (1, .int 39)]) B dX8_tick_46 0 rfl (by decide) (by decide) rfl ?_
  refine z_goto (tgt := 23) B dX8_tick_49 (by decide) ?_
  refine z_iload_n B dX8_tick_23 rfl 0 rfl ?_
  refine z_iload_n B dX8_tick_24 rfl 2 rfl ?_
  refine z_icmp_ge (tgt := 52) B dX8_tick_25 (by decide) (fun h => absurd h (by decide)) (fun _ => ?_)
  refine z_aload_n B dX8_tick_28 rfl 1 rfl ?_
  refine z_dup B dX8_tick_29 rfl ?_
  refine gf_X8_206 (x := 8) B (lKA (hk_K hK 0 rfl rfl)) (rI_at 0 8 rfl) dX8_tick_30 ?_
  refine z_iconst (v := 1) B dX8_tick_33 (by decide) ?_
  refine z_iadd B dX8_tick_34 ?_
  refine z_seti (y := 9) (by decide) ?_
  refine pf_X8_206 (x := 9) (σ' := (ap b σ [(0, 8, 9), (0, 8, 8), (0, 8, 7), (0, 8, 6), (0, 8, 5), (0, 8, 4), (0, 8, 3), (0, 8, 2), (0, 8, 1)] [] [])) B (lKA (hk_K hK 0 rfl rfl)) wI_ap dX8_tick_35 ?_
  refine z_aload_n B dX8_tick_38 rfl 1 rfl ?_
  refine z_cVv (As := []) (rest := []) B cw_X8_240 cx_9 dX8_tick_39 (ci_X8_passTasks_920 l (σ := (ap b σ [(0, 8, 9), (0, 8, 8), (0, 8, 7), (0, 8, 6), (0, 8, 5), (0, 8, 4), (0, 8, 3), (0, 8, 2), (0, 8, 1)] [] [])) (b := b) (lyA hK) (rI_at 4 2 hI_4_2) (rR_at 0 3 hR_0_3)) (lKA (hk_K hK 0 rfl rfl)) rfl (by decide) rfl (Nat.le_of_ble_eq_true rfl) (by decide) (fun u hu => ?_)
  refine z_eqs (σ' := (ap b σ [(0, 8, 9), (0, 8, 8), (0, 8, 7), (0, 8, 6), (0, 8, 5), (0, 8, 4), (0, 8, 3), (0, 8, 2), (0, 8, 1)] [] [])) hu ?_
  show zx p l e _ s m _ below meth c g 3 0 0 _ _ 42 [(2, .int 8), (0, .ref (b + 0)), (1, .int 39)] _
  refine z_aload_n B dX8_tick_42 rfl 1 rfl ?_
  refine z_cVv (As := []) (rest := []) B cw_X8_243 cx_9 dX8_tick_43 (ci_X8_passTimers_921 l (σ := (ap b σ [(0, 8, 9), (0, 8, 8), (0, 8, 7), (0, 8, 6), (0, 8, 5), (0, 8, 4), (0, 8, 3), (0, 8, 2), (0, 8, 1)] [] [])) (b := b) (lyA hK) (rI_at 0 7 hI_0_7)) (lKA (hk_K hK 0 rfl rfl)) rfl (by decide) rfl (Nat.le_of_ble_eq_true rfl) (by decide) (fun u hu => ?_)
  refine z_eqs (σ' := (ap b σ [(0, 8, 9), (0, 8, 8), (0, 8, 7), (0, 8, 6), (0, 8, 5), (0, 8, 4), (0, 8, 3), (0, 8, 2), (0, 8, 1)] [] [])) hu ?_
  show zx p l e _ s m _ below meth c g 3 0 0 _ _ 46 [(2, .int 8), (0, .ref (b + 0)), (1, .int 39)] _
  refine z_iinc (v := 9) (lv' := [(2, .int 9), (0, .ref (b + 0)), (1, .int 39)]) B dX8_tick_46 0 rfl (by decide) (by decide) rfl ?_
  refine z_goto (tgt := 23) B dX8_tick_49 (by decide) ?_
  refine z_iload_n B dX8_tick_23 rfl 0 rfl ?_
  refine z_iload_n B dX8_tick_24 rfl 2 rfl ?_
  refine z_icmp_ge (tgt := 52) B dX8_tick_25 (by decide) (fun h => absurd h (by decide)) (fun _ => ?_)
  refine z_aload_n B dX8_tick_28 rfl 1 rfl ?_
  refine z_dup B dX8_tick_29 rfl ?_
  refine gf_X8_206 (x := 9) B (lKA (hk_K hK 0 rfl rfl)) (rI_at 0 8 rfl) dX8_tick_30 ?_
  refine z_iconst (v := 1) B dX8_tick_33 (by decide) ?_
  refine z_iadd B dX8_tick_34 ?_
  refine z_seti (y := 10) (by decide) ?_
  refine pf_X8_206 (x := 10) (σ' := (ap b σ [(0, 8, 10), (0, 8, 9), (0, 8, 8), (0, 8, 7), (0, 8, 6), (0, 8, 5), (0, 8, 4), (0, 8, 3), (0, 8, 2), (0, 8, 1)] [] [])) B (lKA (hk_K hK 0 rfl rfl)) wI_ap dX8_tick_35 ?_
  refine z_aload_n B dX8_tick_38 rfl 1 rfl ?_
  refine z_cVv (As := []) (rest := []) B cw_X8_240 cx_9 dX8_tick_39 (ci_X8_passTasks_920 l (σ := (ap b σ [(0, 8, 10), (0, 8, 9), (0, 8, 8), (0, 8, 7), (0, 8, 6), (0, 8, 5), (0, 8, 4), (0, 8, 3), (0, 8, 2), (0, 8, 1)] [] [])) (b := b) (lyA hK) (rI_at 4 2 hI_4_2) (rR_at 0 3 hR_0_3)) (lKA (hk_K hK 0 rfl rfl)) rfl (by decide) rfl (Nat.le_of_ble_eq_true rfl) (by decide) (fun u hu => ?_)
  refine z_eqs (σ' := (ap b σ [(0, 8, 10), (0, 8, 9), (0, 8, 8), (0, 8, 7), (0, 8, 6), (0, 8, 5), (0, 8, 4), (0, 8, 3), (0, 8, 2), (0, 8, 1)] [] [])) hu ?_
  show zx p l e _ s m _ below meth c g 3 0 0 _ _ 42 [(2, .int 9), (0, .ref (b + 0)), (1, .int 39)] _
  refine z_aload_n B dX8_tick_42 rfl 1 rfl ?_
  refine z_cVv (As := []) (rest := []) B cw_X8_243 cx_9 dX8_tick_43 (ci_X8_passTimers_921 l (σ := (ap b σ [(0, 8, 10), (0, 8, 9), (0, 8, 8), (0, 8, 7), (0, 8, 6), (0, 8, 5), (0, 8, 4), (0, 8, 3), (0, 8, 2), (0, 8, 1)] [] [])) (b := b) (lyA hK) (rI_at 0 7 hI_0_7)) (lKA (hk_K hK 0 rfl rfl)) rfl (by decide) rfl (Nat.le_of_ble_eq_true rfl) (by decide) (fun u hu => ?_)
  refine z_eqs (σ' := (ap b σ [(0, 8, 10), (0, 8, 9), (0, 8, 8), (0, 8, 7), (0, 8, 6), (0, 8, 5), (0, 8, 4), (0, 8, 3), (0, 8, 2), (0, 8, 1)] [] [])) hu ?_
  show zx p l e _ s m _ below meth c g 3 0 0 _ _ 46 [(2, .int 9), (0, .ref (b + 0)), (1, .int 39)] _
  refine z_iinc (v := 10) (lv' := [(2, .int 10), (0, .ref (b + 0)), (1, .int 39)]) B dX8_tick_46 0 rfl (by decide) (by decide) rfl ?_
  refine z_goto (tgt := 23) B dX8_tick_49 (by decide) ?_
  refine z_iload_n B dX8_tick_23 rfl 0 rfl ?_
  refine z_iload_n B dX8_tick_24 rfl 2 rfl ?_
  refine z_icmp_ge (tgt := 52) B dX8_tick_25 (by decide) (fun h => absurd h (by decide)) (fun _ => ?_)
  refine z_aload_n B dX8_tick_28 rfl 1 rfl ?_
  refine z_dup B dX8_tick_29 rfl ?_
  refine gf_X8_206 (x := 10) B (lKA (hk_K hK 0 rfl rfl)) (rI_at 0 8 rfl) dX8_tick_30 ?_
  refine z_iconst (v := 1) B dX8_tick_33 (by decide) ?_
  refine z_iadd B dX8_tick_34 ?_
  refine z_seti (y := 11) (by decide) ?_
  refine pf_X8_206 (x := 11) (σ' := (ap b σ [(0, 8, 11), (0, 8, 10), (0, 8, 9), (0, 8, 8), (0, 8, 7), (0, 8, 6), (0, 8, 5), (0, 8, 4), (0, 8, 3), (0, 8, 2), (0, 8, 1)] [] [])) B (lKA (hk_K hK 0 rfl rfl)) wI_ap dX8_tick_35 ?_
  refine z_aload_n B dX8_tick_38 rfl 1 rfl ?_
  refine z_cVv (As := []) (rest := []) B cw_X8_240 cx_9 dX8_tick_39 (ci_X8_passTasks_920 l (σ := (ap b σ [(0, 8, 11), (0, 8, 10), (0, 8, 9), (0, 8, 8), (0, 8, 7), (0, 8, 6), (0, 8, 5), (0, 8, 4), (0, 8, 3), (0, 8, 2), (0, 8, 1)] [] [])) (b := b) (lyA hK) (rI_at 4 2 hI_4_2) (rR_at 0 3 hR_0_3)) (lKA (hk_K hK 0 rfl rfl)) rfl (by decide) rfl (Nat.le_of_ble_eq_true rfl) (by decide) (fun u hu => ?_)
  refine z_eqs (σ' := (ap b σ [(0, 8, 11), (0, 8, 10), (0, 8, 9), (0, 8, 8), (0, 8, 7), (0, 8, 6), (0, 8, 5), (0, 8, 4), (0, 8, 3), (0, 8, 2), (0, 8, 1)] [] [])) hu ?_
  show zx p l e _ s m _ below meth c g 3 0 0 _ _ 42 [(2, .int 10), (0, .ref (b + 0)), (1, .int 39)] _
  refine z_aload_n B dX8_tick_42 rfl 1 rfl ?_
  refine z_cVv (As := []) (rest := []) B cw_X8_243 cx_9 dX8_tick_43 (ci_X8_passTimers_921 l (σ := (ap b σ [(0, 8, 11), (0, 8, 10), (0, 8, 9), (0, 8, 8), (0, 8, 7), (0, 8, 6), (0, 8, 5), (0, 8, 4), (0, 8, 3), (0, 8, 2), (0, 8, 1)] [] [])) (b := b) (lyA hK) (rI_at 0 7 hI_0_7)) (lKA (hk_K hK 0 rfl rfl)) rfl (by decide) rfl (Nat.le_of_ble_eq_true rfl) (by decide) (fun u hu => ?_)
  refine z_eqs (σ' := (ap b σ [(0, 8, 11), (0, 8, 10), (0, 8, 9), (0, 8, 8), (0, 8, 7), (0, 8, 6), (0, 8, 5), (0, 8, 4), (0, 8, 3), (0, 8, 2), (0, 8, 1)] [] [])) hu ?_
  show zx p l e _ s m _ below meth c g 3 0 0 _ _ 46 [(2, .int 10), (0, .ref (b + 0)), (1, .int 39)] _
  refine z_iinc (v := 11) (lv' := [(2, .int 11), (0, .ref (b + 0)), (1, .int 39)]) B dX8_tick_46 0 rfl (by decide) (by decide) rfl ?_
  refine z_goto (tgt := 23) B dX8_tick_49 (by decide) ?_
  refine z_iload_n B dX8_tick_23 rfl 0 rfl ?_
  refine z_iload_n B dX8_tick_24 rfl 2 rfl ?_
  refine z_icmp_ge (tgt := 52) B dX8_tick_25 (by decide) (fun h => absurd h (by decide)) (fun _ => ?_)
  refine z_aload_n B dX8_tick_28 rfl 1 rfl ?_
  refine z_dup B dX8_tick_29 rfl ?_
  refine gf_X8_206 (x := 11) B (lKA (hk_K hK 0 rfl rfl)) (rI_at 0 8 rfl) dX8_tick_30 ?_
  refine z_iconst (v := 1) B dX8_tick_33 (by decide) ?_
  refine z_iadd B dX8_tick_34 ?_
  refine z_seti (y := 12) (by decide) ?_
  refine pf_X8_206 (x := 12) (σ' := (ap b σ [(0, 8, 12), (0, 8, 11), (0, 8, 10), (0, 8, 9), (0, 8, 8), (0, 8, 7), (0, 8, 6), (0, 8, 5), (0, 8, 4), (0, 8, 3), (0, 8, 2), (0, 8, 1)] [] [])) B (lKA (hk_K hK 0 rfl rfl)) wI_ap dX8_tick_35 ?_
  refine z_aload_n B dX8_tick_38 rfl 1 rfl ?_
  refine z_cVv (As := []) (rest := []) B cw_X8_240 cx_9 dX8_tick_39 (ci_X8_passTasks_920 l (σ := (ap b σ [(0, 8, 12), (0, 8, 11), (0, 8, 10), (0, 8, 9), (0, 8, 8), (0, 8, 7), (0, 8, 6), (0, 8, 5), (0, 8, 4), (0, 8, 3), (0, 8, 2), (0, 8, 1)] [] [])) (b := b) (lyA hK) (rI_at 4 2 hI_4_2) (rR_at 0 3 hR_0_3)) (lKA (hk_K hK 0 rfl rfl)) rfl (by decide) rfl (Nat.le_of_ble_eq_true rfl) (by decide) (fun u hu => ?_)
  refine z_eqs (σ' := (ap b σ [(0, 8, 12), (0, 8, 11), (0, 8, 10), (0, 8, 9), (0, 8, 8), (0, 8, 7), (0, 8, 6), (0, 8, 5), (0, 8, 4), (0, 8, 3), (0, 8, 2), (0, 8, 1)] [] [])) hu ?_
  show zx p l e _ s m _ below meth c g 3 0 0 _ _ 42 [(2, .int 11), (0, .ref (b + 0)), (1, .int 39)] _
  refine z_aload_n B dX8_tick_42 rfl 1 rfl ?_
  refine z_cVv (As := []) (rest := []) B cw_X8_243 cx_9 dX8_tick_43 (ci_X8_passTimers_921 l (σ := (ap b σ [(0, 8, 12), (0, 8, 11), (0, 8, 10), (0, 8, 9), (0, 8, 8), (0, 8, 7), (0, 8, 6), (0, 8, 5), (0, 8, 4), (0, 8, 3), (0, 8, 2), (0, 8, 1)] [] [])) (b := b) (lyA hK) (rI_at 0 7 hI_0_7)) (lKA (hk_K hK 0 rfl rfl)) rfl (by decide) rfl (Nat.le_of_ble_eq_true rfl) (by decide) (fun u hu => ?_)
  refine z_eqs (σ' := (ap b σ [(0, 8, 12), (0, 8, 11), (0, 8, 10), (0, 8, 9), (0, 8, 8), (0, 8, 7), (0, 8, 6), (0, 8, 5), (0, 8, 4), (0, 8, 3), (0, 8, 2), (0, 8, 1)] [] [])) hu ?_
  show zx p l e _ s m _ below meth c g 3 0 0 _ _ 46 [(2, .int 11), (0, .ref (b + 0)), (1, .int 39)] _
  refine z_iinc (v := 12) (lv' := [(2, .int 12), (0, .ref (b + 0)), (1, .int 39)]) B dX8_tick_46 0 rfl (by decide) (by decide) rfl ?_
  refine z_goto (tgt := 23) B dX8_tick_49 (by decide) ?_
  refine z_iload_n B dX8_tick_23 rfl 0 rfl ?_
  refine z_iload_n B dX8_tick_24 rfl 2 rfl ?_
  refine z_icmp_ge (tgt := 52) B dX8_tick_25 (by decide) (fun h => absurd h (by decide)) (fun _ => ?_)
  refine z_aload_n B dX8_tick_28 rfl 1 rfl ?_
  refine z_dup B dX8_tick_29 rfl ?_
  refine gf_X8_206 (x := 12) B (lKA (hk_K hK 0 rfl rfl)) (rI_at 0 8 rfl) dX8_tick_30 ?_
  refine z_iconst (v := 1) B dX8_tick_33 (by decide) ?_
  refine z_iadd B dX8_tick_34 ?_
  refine z_seti (y := 13) (by decide) ?_
  refine pf_X8_206 (x := 13) (σ' := (ap b σ [(0, 8, 13), (0, 8, 12), (0, 8, 11), (0, 8, 10), (0, 8, 9), (0, 8, 8), (0, 8, 7), (0, 8, 6), (0, 8, 5), (0, 8, 4), (0, 8, 3), (0, 8, 2), (0, 8, 1)] [] [])) B (lKA (hk_K hK 0 rfl rfl)) wI_ap dX8_tick_35 ?_
  refine z_aload_n B dX8_tick_38 rfl 1 rfl ?_
  refine z_cVv (As := []) (rest := []) B cw_X8_240 cx_9 dX8_tick_39 (ci_X8_passTasks_920 l (σ := (ap b σ [(0, 8, 13), (0, 8, 12), (0, 8, 11), (0, 8, 10), (0, 8, 9), (0, 8, 8), (0, 8, 7), (0, 8, 6), (0, 8, 5), (0, 8, 4), (0, 8, 3), (0, 8, 2), (0, 8, 1)] [] [])) (b := b) (lyA hK) (rI_at 4 2 hI_4_2) (rR_at 0 3 hR_0_3)) (lKA (hk_K hK 0 rfl rfl)) rfl (by decide) rfl (Nat.le_of_ble_eq_true rfl) (by decide) (fun u hu => ?_)
  refine z_eqs (σ' := (ap b σ [(0, 8, 13), (0, 8, 12), (0, 8, 11), (0, 8, 10), (0, 8, 9), (0, 8, 8), (0, 8, 7), (0, 8, 6), (0, 8, 5), (0, 8, 4), (0, 8, 3), (0, 8, 2), (0, 8, 1)] [] [])) hu ?_
  show zx p l e _ s m _ below meth c g 3 0 0 _ _ 42 [(2, .int 12), (0, .ref (b + 0)), (1, .int 39)] _
  refine z_aload_n B dX8_tick_42 rfl 1 rfl ?_
  refine z_cVv (As := []) (rest := []) B cw_X8_243 cx_9 dX8_tick_43 (ci_X8_passTimers_921 l (σ := (ap b σ [(0, 8, 13), (0, 8, 12), (0, 8, 11), (0, 8, 10), (0, 8, 9), (0, 8, 8), (0, 8, 7), (0, 8, 6), (0, 8, 5), (0, 8, 4), (0, 8, 3), (0, 8, 2), (0, 8, 1)] [] [])) (b := b) (lyA hK) (rI_at 0 7 hI_0_7)) (lKA (hk_K hK 0 rfl rfl)) rfl (by decide) rfl (Nat.le_of_ble_eq_true rfl) (by decide) (fun u hu => ?_)
  refine z_eqs (σ' := (ap b σ [(0, 8, 13), (0, 8, 12), (0, 8, 11), (0, 8, 10), (0, 8, 9), (0, 8, 8), (0, 8, 7), (0, 8, 6), (0, 8, 5), (0, 8, 4), (0, 8, 3), (0, 8, 2), (0, 8, 1)] [] [])) hu ?_
  show zx p l e _ s m _ below meth c g 3 0 0 _ _ 46 [(2, .int 12), (0, .ref (b + 0)), (1, .int 39)] _
  refine z_iinc (v := 13) (lv' := [(2, .int 13), (0, .ref (b + 0)), (1, .int 39)]) B dX8_tick_46 0 rfl (by decide) (by decide) rfl ?_
  refine z_goto (tgt := 23) B dX8_tick_49 (by decide) ?_
  refine z_iload_n B dX8_tick_23 rfl 0 rfl ?_
  refine z_iload_n B dX8_tick_24 rfl 2 rfl ?_
  refine z_icmp_ge (tgt := 52) B dX8_tick_25 (by decide) (fun h => absurd h (by decide)) (fun _ => ?_)
  refine z_aload_n B dX8_tick_28 rfl 1 rfl ?_
  refine z_dup B dX8_tick_29 rfl ?_
  refine gf_X8_206 (x := 13) B (lKA (hk_K hK 0 rfl rfl)) (rI_at 0 8 rfl) dX8_tick_30 ?_
  refine z_iconst (v := 1) B dX8_tick_33 (by decide) ?_
  refine z_iadd B dX8_tick_34 ?_
  refine z_seti (y := 14) (by decide) ?_
  refine pf_X8_206 (x := 14) (σ' := (ap b σ [(0, 8, 14), (0, 8, 13), (0, 8, 12), (0, 8, 11), (0, 8, 10), (0, 8, 9), (0, 8, 8), (0, 8, 7), (0, 8, 6), (0, 8, 5), (0, 8, 4), (0, 8, 3), (0, 8, 2), (0, 8, 1)] [] [])) B (lKA (hk_K hK 0 rfl rfl)) wI_ap dX8_tick_35 ?_
  refine z_aload_n B dX8_tick_38 rfl 1 rfl ?_
  refine z_cVv (As := []) (rest := []) B cw_X8_240 cx_9 dX8_tick_39 (ci_X8_passTasks_920 l (σ := (ap b σ [(0, 8, 14), (0, 8, 13), (0, 8, 12), (0, 8, 11), (0, 8, 10), (0, 8, 9), (0, 8, 8), (0, 8, 7), (0, 8, 6), (0, 8, 5), (0, 8, 4), (0, 8, 3), (0, 8, 2), (0, 8, 1)] [] [])) (b := b) (lyA hK) (rI_at 4 2 hI_4_2) (rR_at 0 3 hR_0_3)) (lKA (hk_K hK 0 rfl rfl)) rfl (by decide) rfl (Nat.le_of_ble_eq_true rfl) (by decide) (fun u hu => ?_)
  refine z_eqs (σ' := (ap b σ [(0, 8, 14), (0, 8, 13), (0, 8, 12), (0, 8, 11), (0, 8, 10), (0, 8, 9), (0, 8, 8), (0, 8, 7), (0, 8, 6), (0, 8, 5), (0, 8, 4), (0, 8, 3), (0, 8, 2), (0, 8, 1)] [] [])) hu ?_
  show zx p l e _ s m _ below meth c g 3 0 0 _ _ 42 [(2, .int 13), (0, .ref (b + 0)), (1, .int 39)] _
  refine z_aload_n B dX8_tick_42 rfl 1 rfl ?_
  refine z_cVv (As := []) (rest := []) B cw_X8_243 cx_9 dX8_tick_43 (ci_X8_passTimers_921 l (σ := (ap b σ [(0, 8, 14), (0, 8, 13), (0, 8, 12), (0, 8, 11), (0, 8, 10), (0, 8, 9), (0, 8, 8), (0, 8, 7), (0, 8, 6), (0, 8, 5), (0, 8, 4), (0, 8, 3), (0, 8, 2), (0, 8, 1)] [] [])) (b := b) (lyA hK) (rI_at 0 7 hI_0_7)) (lKA (hk_K hK 0 rfl rfl)) rfl (by decide) rfl (Nat.le_of_ble_eq_true rfl) (by decide) (fun u hu => ?_)
  refine z_eqs (σ' := (ap b σ [(0, 8, 14), (0, 8, 13), (0, 8, 12), (0, 8, 11), (0, 8, 10), (0, 8, 9), (0, 8, 8), (0, 8, 7), (0, 8, 6), (0, 8, 5), (0, 8, 4), (0, 8, 3), (0, 8, 2), (0, 8, 1)] [] [])) hu ?_
  show zx p l e _ s m _ below meth c g 3 0 0 _ _ 46 [(2, .int 13), (0, .ref (b + 0)), (1, .int 39)] _
  refine z_iinc (v := 14) (lv' := [(2, .int 14), (0, .ref (b + 0)), (1, .int 39)]) B dX8_tick_46 0 rfl (by decide) (by decide) rfl ?_
  refine z_goto (tgt := 23) B dX8_tick_49 (by decide) ?_
  refine z_iload_n B dX8_tick_23 rfl 0 rfl ?_
  refine z_iload_n B dX8_tick_24 rfl 2 rfl ?_
  refine z_icmp_ge (tgt := 52) B dX8_tick_25 (by decide) (fun h => absurd h (by decide)) (fun _ => ?_)
  refine z_aload_n B dX8_tick_28 rfl 1 rfl ?_
  refine z_dup B dX8_tick_29 rfl ?_
  refine gf_X8_206 (x := 14) B (lKA (hk_K hK 0 rfl rfl)) (rI_at 0 8 rfl) dX8_tick_30 ?_
  refine z_iconst (v := 1) B dX8_tick_33 (by decide) ?_
  refine z_iadd B dX8_tick_34 ?_
  refine z_seti (y := 15) (by decide) ?_
  refine pf_X8_206 (x := 15) (σ' := (ap b σ [(0, 8, 15), (0, 8, 14), (0, 8, 13), (0, 8, 12), (0, 8, 11), (0, 8, 10), (0, 8, 9), (0, 8, 8), (0, 8, 7), (0, 8, 6), (0, 8, 5), (0, 8, 4), (0, 8, 3), (0, 8, 2), (0, 8, 1)] [] [])) B (lKA (hk_K hK 0 rfl rfl)) wI_ap dX8_tick_35 ?_
  refine z_aload_n B dX8_tick_38 rfl 1 rfl ?_
  refine z_cVv (As := []) (rest := []) B cw_X8_240 cx_9 dX8_tick_39 (ci_X8_passTasks_920 l (σ := (ap b σ [(0, 8, 15), (0, 8, 14), (0, 8, 13), (0, 8, 12), (0, 8, 11), (0, 8, 10), (0, 8, 9), (0, 8, 8), (0, 8, 7), (0, 8, 6), (0, 8, 5), (0, 8, 4), (0, 8, 3), (0, 8, 2), (0, 8, 1)] [] [])) (b := b) (lyA hK) (rI_at 4 2 hI_4_2) (rR_at 0 3 hR_0_3)) (lKA (hk_K hK 0 rfl rfl)) rfl (by decide) rfl (Nat.le_of_ble_eq_true rfl) (by decide) (fun u hu => ?_)
  refine z_eqs (σ' := (ap b σ [(0, 8, 15), (0, 8, 14), (0, 8, 13), (0, 8, 12), (0, 8, 11), (0, 8, 10), (0, 8, 9), (0, 8, 8), (0, 8, 7), (0, 8, 6), (0, 8, 5), (0, 8, 4), (0, 8, 3), (0, 8, 2), (0, 8, 1)] [] [])) hu ?_
  show zx p l e _ s m _ below meth c g 3 0 0 _ _ 42 [(2, .int 14), (0, .ref (b + 0)), (1, .int 39)] _
  refine z_aload_n B dX8_tick_42 rfl 1 rfl ?_
  refine z_cVv (As := []) (rest := []) B cw_X8_243 cx_9 dX8_tick_43 (ci_X8_passTimers_921 l (σ := (ap b σ [(0, 8, 15), (0, 8, 14), (0, 8, 13), (0, 8, 12), (0, 8, 11), (0, 8, 10), (0, 8, 9), (0, 8, 8), (0, 8, 7), (0, 8, 6), (0, 8, 5), (0, 8, 4), (0, 8, 3), (0, 8, 2), (0, 8, 1)] [] [])) (b := b) (lyA hK) (rI_at 0 7 hI_0_7)) (lKA (hk_K hK 0 rfl rfl)) rfl (by decide) rfl (Nat.le_of_ble_eq_true rfl) (by decide) (fun u hu => ?_)
  refine z_eqs (σ' := (ap b σ [(0, 8, 15), (0, 8, 14), (0, 8, 13), (0, 8, 12), (0, 8, 11), (0, 8, 10), (0, 8, 9), (0, 8, 8), (0, 8, 7), (0, 8, 6), (0, 8, 5), (0, 8, 4), (0, 8, 3), (0, 8, 2), (0, 8, 1)] [] [])) hu ?_
  show zx p l e _ s m _ below meth c g 3 0 0 _ _ 46 [(2, .int 14), (0, .ref (b + 0)), (1, .int 39)] _
  refine z_iinc (v := 15) (lv' := [(2, .int 15), (0, .ref (b + 0)), (1, .int 39)]) B dX8_tick_46 0 rfl (by decide) (by decide) rfl ?_
  refine z_goto (tgt := 23) B dX8_tick_49 (by decide) ?_
  refine z_iload_n B dX8_tick_23 rfl 0 rfl ?_
  refine z_iload_n B dX8_tick_24 rfl 2 rfl ?_
  refine z_icmp_ge (tgt := 52) B dX8_tick_25 (by decide) (fun h => absurd h (by decide)) (fun _ => ?_)
  refine z_aload_n B dX8_tick_28 rfl 1 rfl ?_
  refine z_dup B dX8_tick_29 rfl ?_
  refine gf_X8_206 (x := 15) B (lKA (hk_K hK 0 rfl rfl)) (rI_at 0 8 rfl) dX8_tick_30 ?_
  refine z_iconst (v := 1) B dX8_tick_33 (by decide) ?_
  refine z_iadd B dX8_tick_34 ?_
  refine z_seti (y := 16) (by decide) ?_
  refine pf_X8_206 (x := 16) (σ' := (ap b σ [(0, 8, 16), (0, 8, 15), (0, 8, 14), (0, 8, 13), (0, 8, 12), (0, 8, 11), (0, 8, 10), (0, 8, 9), (0, 8, 8), (0, 8, 7), (0, 8, 6), (0, 8, 5), (0, 8, 4), (0, 8, 3), (0, 8, 2), (0, 8, 1)] [] [])) B (lKA (hk_K hK 0 rfl rfl)) wI_ap dX8_tick_35 ?_
  refine z_aload_n B dX8_tick_38 rfl 1 rfl ?_
  refine z_cVv (As := []) (rest := []) B cw_X8_240 cx_9 dX8_tick_39 (ci_X8_passTasks_920 l (σ := (ap b σ [(0, 8, 16), (0, 8, 15), (0, 8, 14), (0, 8, 13), (0, 8, 12), (0, 8, 11), (0, 8, 10), (0, 8, 9), (0, 8, 8), (0, 8, 7), (0, 8, 6), (0, 8, 5), (0, 8, 4), (0, 8, 3), (0, 8, 2), (0, 8, 1)] [] [])) (b := b) (lyA hK) (rI_at 4 2 hI_4_2) (rR_at 0 3 hR_0_3)) (lKA (hk_K hK 0 rfl rfl)) rfl (by decide) rfl (Nat.le_of_ble_eq_true rfl) (by decide) (fun u hu => ?_)
  refine z_eqs (σ' := (ap b σ [(0, 8, 16), (0, 8, 15), (0, 8, 14), (0, 8, 13), (0, 8, 12), (0, 8, 11), (0, 8, 10), (0, 8, 9), (0, 8, 8), (0, 8, 7), (0, 8, 6), (0, 8, 5), (0, 8, 4), (0, 8, 3), (0, 8, 2), (0, 8, 1)] [] [])) hu ?_
  show zx p l e _ s m _ below meth c g 3 0 0 _ _ 42 [(2, .int 15), (0, .ref (b + 0)), (1, .int 39)] _
  refine z_aload_n B dX8_tick_42 rfl 1 rfl ?_
  refine z_cVv (As := []) (rest := []) B cw_X8_243 cx_9 dX8_tick_43 (ci_X8_passTimers_921 l (σ := (ap b σ [(0, 8, 16), (0, 8, 15), (0, 8, 14), (0, 8, 13), (0, 8, 12), (0, 8, 11), (0, 8, 10), (0, 8, 9), (0, 8, 8), (0, 8, 7), (0, 8, 6), (0, 8, 5), (0, 8, 4), (0, 8, 3), (0, 8, 2), (0, 8, 1)] [] [])) (b := b) (lyA hK) (rI_at 0 7 hI_0_7)) (lKA (hk_K hK 0 rfl rfl)) rfl (by decide) rfl (Nat.le_of_ble_eq_true rfl) (by decide) (fun u hu => ?_)
  refine z_eqs (σ' := (ap b σ [(0, 8, 16), (0, 8, 15), (0, 8, 14), (0, 8, 13), (0, 8, 12), (0, 8, 11), (0, 8, 10), (0, 8, 9), (0, 8, 8), (0, 8, 7), (0, 8, 6), (0, 8, 5), (0, 8, 4), (0, 8, 3), (0, 8, 2), (0, 8, 1)] [] [])) hu ?_
  show zx p l e _ s m _ below meth c g 3 0 0 _ _ 46 [(2, .int 15), (0, .ref (b + 0)), (1, .int 39)] _
  refine z_iinc (v := 16) (lv' := [(2, .int 16), (0, .ref (b + 0)), (1, .int 39)]) B dX8_tick_46 0 rfl (by decide) (by decide) rfl ?_
  refine z_goto (tgt := 23) B dX8_tick_49 (by decide) ?_
  refine z_iload_n B dX8_tick_23 rfl 0 rfl ?_
  refine z_iload_n B dX8_tick_24 rfl 2 rfl ?_
  refine z_icmp_ge (tgt := 52) B dX8_tick_25 (by decide) (fun h => absurd h (by decide)) (fun _ => ?_)
  refine z_aload_n B dX8_tick_28 rfl 1 rfl ?_
  refine z_dup B dX8_tick_29 rfl ?_
  refine gf_X8_206 (x := 16) B (lKA (hk_K hK 0 rfl rfl)) (rI_at 0 8 rfl) dX8_tick_30 ?_
  refine z_iconst (v := 1) B dX8_tick_33 (by decide) ?_
  refine z_iadd B dX8_tick_34 ?_
  refine z_seti (y := 17) (by decide) ?_
  refine pf_X8_206 (x := 17) (σ' := (ap b σ [(0, 8, 17), (0, 8, 16), (0, 8, 15), (0, 8, 14), (0, 8, 13), (0, 8, 12), (0, 8, 11), (0, 8, 10), (0, 8, 9), (0, 8, 8), (0, 8, 7), (0, 8, 6), (0, 8, 5), (0, 8, 4), (0, 8, 3), (0, 8, 2), (0, 8, 1)] [] [])) B (lKA (hk_K hK 0 rfl rfl)) wI_ap dX8_tick_35 ?_
  refine z_aload_n B dX8_tick_38 rfl 1 rfl ?_
  refine z_cVv (As := []) (rest := []) B cw_X8_240 cx_9 dX8_tick_39 (ci_X8_passTasks_920 l (σ := (ap b σ [(0, 8, 17), (0, 8, 16), (0, 8, 15), (0, 8, 14), (0, 8, 13), (0, 8, 12), (0, 8, 11), (0, 8, 10), (0, 8, 9), (0, 8, 8), (0, 8, 7), (0, 8, 6), (0, 8, 5), (0, 8, 4), (0, 8, 3), (0, 8, 2), (0, 8, 1)] [] [])) (b := b) (lyA hK) (rI_at 4 2 hI_4_2) (rR_at 0 3 hR_0_3)) (lKA (hk_K hK 0 rfl rfl)) rfl (by decide) rfl (Nat.le_of_ble_eq_true rfl) (by decide) (fun u hu => ?_)
  refine z_eqs (σ' := (ap b σ [(0, 8, 17), (0, 8, 16), (0, 8, 15), (0, 8, 14), (0, 8, 13), (0, 8, 12), (0, 8, 11), (0, 8, 10), (0, 8, 9), (0, 8, 8), (0, 8, 7), (0, 8, 6), (0, 8, 5), (0, 8, 4), (0, 8, 3), (0, 8, 2), (0, 8, 1)] [] [])) hu ?_
  show zx p l e _ s m _ below meth c g 3 0 0 _ _ 42 [(2, .int 16), (0, .ref (b + 0)), (1, .int 39)] _
  refine z_aload_n B dX8_tick_42 rfl 1 rfl ?_
  refine z_cVv (As := []) (rest := []) B cw_X8_243 cx_9 dX8_tick_43 (ci_X8_passTimers_921 l (σ := (ap b σ [(0, 8, 17), (0, 8, 16), (0, 8, 15), (0, 8, 14), (0, 8, 13), (0, 8, 12), (0, 8, 11), (0, 8, 10), (0, 8, 9), (0, 8, 8), (0, 8, 7), (0, 8, 6), (0, 8, 5), (0, 8, 4), (0, 8, 3), (0, 8, 2), (0, 8, 1)] [] [])) (b := b) (lyA hK) (rI_at 0 7 hI_0_7)) (lKA (hk_K hK 0 rfl rfl)) rfl (by decide) rfl (Nat.le_of_ble_eq_true rfl) (by decide) (fun u hu => ?_)
  refine z_eqs (σ' := (ap b σ [(0, 8, 17), (0, 8, 16), (0, 8, 15), (0, 8, 14), (0, 8, 13), (0, 8, 12), (0, 8, 11), (0, 8, 10), (0, 8, 9), (0, 8, 8), (0, 8, 7), (0, 8, 6), (0, 8, 5), (0, 8, 4), (0, 8, 3), (0, 8, 2), (0, 8, 1)] [] [])) hu ?_
  show zx p l e _ s m _ below meth c g 3 0 0 _ _ 46 [(2, .int 16), (0, .ref (b + 0)), (1, .int 39)] _
  refine z_iinc (v := 17) (lv' := [(2, .int 17), (0, .ref (b + 0)), (1, .int 39)]) B dX8_tick_46 0 rfl (by decide) (by decide) rfl ?_
  refine z_goto (tgt := 23) B dX8_tick_49 (by decide) ?_
  refine z_iload_n B dX8_tick_23 rfl 0 rfl ?_
  refine z_iload_n B dX8_tick_24 rfl 2 rfl ?_
  refine z_icmp_ge (tgt := 52) B dX8_tick_25 (by decide) (fun h => absurd h (by decide)) (fun _ => ?_)
  refine z_aload_n B dX8_tick_28 rfl 1 rfl ?_
  refine z_dup B dX8_tick_29 rfl ?_
  refine gf_X8_206 (x := 17) B (lKA (hk_K hK 0 rfl rfl)) (rI_at 0 8 rfl) dX8_tick_30 ?_
  refine z_iconst (v := 1) B dX8_tick_33 (by decide) ?_
  refine z_iadd B dX8_tick_34 ?_
  refine z_seti (y := 18) (by decide) ?_
  refine pf_X8_206 (x := 18) (σ' := (ap b σ [(0, 8, 18), (0, 8, 17), (0, 8, 16), (0, 8, 15), (0, 8, 14), (0, 8, 13), (0, 8, 12), (0, 8, 11), (0, 8, 10), (0, 8, 9), (0, 8, 8), (0, 8, 7), (0, 8, 6), (0, 8, 5), (0, 8, 4), (0, 8, 3), (0, 8, 2), (0, 8, 1)] [] [])) B (lKA (hk_K hK 0 rfl rfl)) wI_ap dX8_tick_35 ?_
  refine z_aload_n B dX8_tick_38 rfl 1 rfl ?_
  refine z_cVv (As := []) (rest := []) B cw_X8_240 cx_9 dX8_tick_39 (ci_X8_passTasks_920 l (σ := (ap b σ [(0, 8, 18), (0, 8, 17), (0, 8, 16), (0, 8, 15), (0, 8, 14), (0, 8, 13), (0, 8, 12), (0, 8, 11), (0, 8, 10), (0, 8, 9), (0, 8, 8), (0, 8, 7), (0, 8, 6), (0, 8, 5), (0, 8, 4), (0, 8, 3), (0, 8, 2), (0, 8, 1)] [] [])) (b := b) (lyA hK) (rI_at 4 2 hI_4_2) (rR_at 0 3 hR_0_3)) (lKA (hk_K hK 0 rfl rfl)) rfl (by decide) rfl (Nat.le_of_ble_eq_true rfl) (by decide) (fun u hu => ?_)
  refine z_eqs (σ' := (ap b σ [(0, 8, 18), (0, 8, 17), (0, 8, 16), (0, 8, 15), (0, 8, 14), (0, 8, 13), (0, 8, 12), (0, 8, 11), (0, 8, 10), (0, 8, 9), (0, 8, 8), (0, 8, 7), (0, 8, 6), (0, 8, 5), (0, 8, 4), (0, 8, 3), (0, 8, 2), (0, 8, 1)] [] [])) hu ?_
  show zx p l e _ s m _ below meth c g 3 0 0 _ _ 42 [(2, .int 17), (0, .ref (b + 0)), (1, .int 39)] _
  refine z_aload_n B dX8_tick_42 rfl 1 rfl ?_
  refine z_cVv (As := []) (rest := []) B cw_X8_243 cx_9 dX8_tick_43 (ci_X8_passTimers_921 l (σ := (ap b σ [(0, 8, 18), (0, 8, 17), (0, 8, 16), (0, 8, 15), (0, 8, 14), (0, 8, 13), (0, 8, 12), (0, 8, 11), (0, 8, 10), (0, 8, 9), (0, 8, 8), (0, 8, 7), (0, 8, 6), (0, 8, 5), (0, 8, 4), (0, 8, 3), (0, 8, 2), (0, 8, 1)] [] [])) (b := b) (lyA hK) (rI_at 0 7 hI_0_7)) (lKA (hk_K hK 0 rfl rfl)) rfl (by decide) rfl (Nat.le_of_ble_eq_true rfl) (by decide) (fun u hu => ?_)
  refine z_eqs (σ' := (ap b σ [(0, 8, 18), (0, 8, 17), (0, 8, 16), (0, 8, 15), (0, 8, 14), (0, 8, 13), (0, 8, 12), (0, 8, 11), (0, 8, 10), (0, 8, 9), (0, 8, 8), (0, 8, 7), (0, 8, 6), (0, 8, 5), (0, 8, 4), (0, 8, 3), (0, 8, 2), (0, 8, 1)] [] [])) hu ?_
  show zx p l e _ s m _ below meth c g 3 0 0 _ _ 46 [(2, .int 17), (0, .ref (b + 0)), (1, .int 39)] _
  refine z_iinc (v := 18) (lv' := [(2, .int 18), (0, .ref (b + 0)), (1, .int 39)]) B dX8_tick_46 0 rfl (by decide) (by decide) rfl ?_
  refine z_goto (tgt := 23) B dX8_tick_49 (by decide) ?_
  refine z_iload_n B dX8_tick_23 rfl 0 rfl ?_
  refine z_iload_n B dX8_tick_24 rfl 2 rfl ?_
  refine z_icmp_ge (tgt := 52) B dX8_tick_25 (by decide) (fun h => absurd h (by decide)) (fun _ => ?_)
  refine z_aload_n B dX8_tick_28 rfl 1 rfl ?_
  refine z_dup B dX8_tick_29 rfl ?_
  refine gf_X8_206 (x := 18) B (lKA (hk_K hK 0 rfl rfl)) (rI_at 0 8 rfl) dX8_tick_30 ?_
  refine z_iconst (v := 1) B dX8_tick_33 (by decide) ?_
  refine z_iadd B dX8_tick_34 ?_
  refine z_seti (y := 19) (by decide) ?_
  refine pf_X8_206 (x := 19) (σ' := (ap b σ [(0, 8, 19), (0, 8, 18), (0, 8, 17), (0, 8, 16), (0, 8, 15), (0, 8, 14), (0, 8, 13), (0, 8, 12), (0, 8, 11), (0, 8, 10), (0, 8, 9), (0, 8, 8), (0, 8, 7), (0, 8, 6), (0, 8, 5), (0, 8, 4), (0, 8, 3), (0, 8, 2), (0, 8, 1)] [] [])) B (lKA (hk_K hK 0 rfl rfl)) wI_ap dX8_tick_35 ?_
  refine z_aload_n B dX8_tick_38 rfl 1 rfl ?_
  refine z_cVv (As := []) (rest := []) B cw_X8_240 cx_9 dX8_tick_39 (ci_X8_passTasks_920 l (σ := (ap b σ [(0, 8, 19), (0, 8, 18), (0, 8, 17), (0, 8, 16), (0, 8, 15), (0, 8, 14), (0, 8, 13), (0, 8, 12), (0, 8, 11), (0, 8, 10), (0, 8, 9), (0, 8, 8), (0, 8, 7), (0, 8, 6), (0, 8, 5), (0, 8, 4), (0, 8, 3), (0, 8, 2), (0, 8, 1)] [] [])) (b := b) (lyA hK) (rI_at 4 2 hI_4_2) (rR_at 0 3 hR_0_3)) (lKA (hk_K hK 0 rfl rfl)) rfl (by decide) rfl (Nat.le_of_ble_eq_true rfl) (by decide) (fun u hu => ?_)
  refine z_eqs (σ' := (ap b σ [(0, 8, 19), (0, 8, 18), (0, 8, 17), (0, 8, 16), (0, 8, 15), (0, 8, 14), (0, 8, 13), (0, 8, 12), (0, 8, 11), (0, 8, 10), (0, 8, 9), (0, 8, 8), (0, 8, 7), (0, 8, 6), (0, 8, 5), (0, 8, 4), (0, 8, 3), (0, 8, 2), (0, 8, 1)] [] [])) hu ?_
  show zx p l e _ s m _ below meth c g 3 0 0 _ _ 42 [(2, .int 18), (0, .ref (b + 0)), (1, .int 39)] _
  refine z_aload_n B dX8_tick_42 rfl 1 rfl ?_
  refine z_cVv (As := []) (rest := []) B cw_X8_243 cx_9 dX8_tick_43 (ci_X8_passTimers_921 l (σ := (ap b σ [(0, 8, 19), (0, 8, 18), (0, 8, 17), (0, 8, 16), (0, 8, 15), (0, 8, 14), (0, 8, 13), (0, 8, 12), (0, 8, 11), (0, 8, 10), (0, 8, 9), (0, 8, 8), (0, 8, 7), (0, 8, 6), (0, 8, 5), (0, 8, 4), (0, 8, 3), (0, 8, 2), (0, 8, 1)] [] [])) (b := b) (lyA hK) (rI_at 0 7 hI_0_7)) (lKA (hk_K hK 0 rfl rfl)) rfl (by decide) rfl (Nat.le_of_ble_eq_true rfl) (by decide) (fun u hu => ?_)
  refine z_eqs (σ' := (ap b σ [(0, 8, 19), (0, 8, 18), (0, 8, 17), (0, 8, 16), (0, 8, 15), (0, 8, 14), (0, 8, 13), (0, 8, 12), (0, 8, 11), (0, 8, 10), (0, 8, 9), (0, 8, 8), (0, 8, 7), (0, 8, 6), (0, 8, 5), (0, 8, 4), (0, 8, 3), (0, 8, 2), (0, 8, 1)] [] [])) hu ?_
  show zx p l e _ s m _ below meth c g 3 0 0 _ _ 46 [(2, .int 18), (0, .ref (b + 0)), (1, .int 39)] _
  refine z_iinc (v := 19) (lv' := [(2, .int 19), (0, .ref (b + 0)), (1, .int 39)]) B dX8_tick_46 0 rfl (by decide) (by decide) rfl ?_
  refine z_goto (tgt := 23) B dX8_tick_49 (by decide) ?_
  refine z_iload_n B dX8_tick_23 rfl 0 rfl ?_
  refine z_iload_n B dX8_tick_24 rfl 2 rfl ?_
  refine z_icmp_ge (tgt := 52) B dX8_tick_25 (by decide) (fun h => absurd h (by decide)) (fun _ => ?_)
  refine z_aload_n B dX8_tick_28 rfl 1 rfl ?_
  refine z_dup B dX8_tick_29 rfl ?_
  refine gf_X8_206 (x := 19) B (lKA (hk_K hK 0 rfl rfl)) (rI_at 0 8 rfl) dX8_tick_30 ?_
  refine z_iconst (v := 1) B dX8_tick_33 (by decide) ?_
  refine z_iadd B dX8_tick_34 ?_
  refine z_seti (y := 20) (by decide) ?_
  refine pf_X8_206 (x := 20) (σ' := (ap b σ [(0, 8, 20), (0, 8, 19), (0, 8, 18), (0, 8, 17), (0, 8, 16), (0, 8, 15), (0, 8, 14), (0, 8, 13), (0, 8, 12), (0, 8, 11), (0, 8, 10), (0, 8, 9), (0, 8, 8), (0, 8, 7), (0, 8, 6), (0, 8, 5), (0, 8, 4), (0, 8, 3), (0, 8, 2), (0, 8, 1)] [] [])) B (lKA (hk_K hK 0 rfl rfl)) wI_ap dX8_tick_35 ?_
  refine z_aload_n B dX8_tick_38 rfl 1 rfl ?_
  refine z_cVv (As := []) (rest := []) B cw_X8_240 cx_9 dX8_tick_39 (ci_X8_passTasks_920 l (σ := (ap b σ [(0, 8, 20), (0, 8, 19), (0, 8, 18), (0, 8, 17), (0, 8, 16), (0, 8, 15), (0, 8, 14), (0, 8, 13), (0, 8, 12), (0, 8, 11), (0, 8, 10), (0, 8, 9), (0, 8, 8), (0, 8, 7), (0, 8, 6), (0, 8, 5), (0, 8, 4), (0, 8, 3), (0, 8, 2), (0, 8, 1)] [] [])) (b := b) (lyA hK) (rI_at 4 2 hI_4_2) (rR_at 0 3 hR_0_3)) (lKA (hk_K hK 0 rfl rfl)) rfl (by decide) rfl (Nat.le_of_ble_eq_true rfl) (by decide) (fun u hu => ?_)
  refine z_eqs (σ' := (ap b σ [(0, 8, 20), (0, 8, 19), (0, 8, 18), (0, 8, 17), (0, 8, 16), (0, 8, 15), (0, 8, 14), (0, 8, 13), (0, 8, 12), (0, 8, 11), (0, 8, 10), (0, 8, 9), (0, 8, 8), (0, 8, 7), (0, 8, 6), (0, 8, 5), (0, 8, 4), (0, 8, 3), (0, 8, 2), (0, 8, 1)] [] [])) hu ?_
  show zx p l e _ s m _ below meth c g 3 0 0 _ _ 42 [(2, .int 19), (0, .ref (b + 0)), (1, .int 39)] _
  refine z_aload_n B dX8_tick_42 rfl 1 rfl ?_
  refine z_cVv (As := []) (rest := []) B cw_X8_243 cx_9 dX8_tick_43 (ci_X8_passTimers_921 l (σ := (ap b σ [(0, 8, 20), (0, 8, 19), (0, 8, 18), (0, 8, 17), (0, 8, 16), (0, 8, 15), (0, 8, 14), (0, 8, 13), (0, 8, 12), (0, 8, 11), (0, 8, 10), (0, 8, 9), (0, 8, 8), (0, 8, 7), (0, 8, 6), (0, 8, 5), (0, 8, 4), (0, 8, 3), (0, 8, 2), (0, 8, 1)] [] [])) (b := b) (lyA hK) (rI_at 0 7 hI_0_7)) (lKA (hk_K hK 0 rfl rfl)) rfl (by decide) rfl (Nat.le_of_ble_eq_true rfl) (by decide) (fun u hu => ?_)
  refine z_eqs (σ' := (ap b σ [(0, 8, 20), (0, 8, 19), (0, 8, 18), (0, 8, 17), (0, 8, 16), (0, 8, 15), (0, 8, 14), (0, 8, 13), (0, 8, 12), (0, 8, 11), (0, 8, 10), (0, 8, 9), (0, 8, 8), (0, 8, 7), (0, 8, 6), (0, 8, 5), (0, 8, 4), (0, 8, 3), (0, 8, 2), (0, 8, 1)] [] [])) hu ?_
  show zx p l e _ s m _ below meth c g 3 0 0 _ _ 46 [(2, .int 19), (0, .ref (b + 0)), (1, .int 39)] _
  refine z_iinc (v := 20) (lv' := [(2, .int 20), (0, .ref (b + 0)), (1, .int 39)]) B dX8_tick_46 0 rfl (by decide) (by decide) rfl ?_
  refine z_goto (tgt := 23) B dX8_tick_49 (by decide) ?_
  refine z_iload_n B dX8_tick_23 rfl 0 rfl ?_
  refine z_iload_n B dX8_tick_24 rfl 2 rfl ?_
  refine z_icmp_ge (tgt := 52) B dX8_tick_25 (by decide) (fun h => absurd h (by decide)) (fun _ => ?_)
  refine z_aload_n B dX8_tick_28 rfl 1 rfl ?_
  refine z_dup B dX8_tick_29 rfl ?_
  refine gf_X8_206 (x := 20) B (lKA (hk_K hK 0 rfl rfl)) (rI_at 0 8 rfl) dX8_tick_30 ?_
  refine z_iconst (v := 1) B dX8_tick_33 (by decide) ?_
  refine z_iadd B dX8_tick_34 ?_
  refine z_seti (y := 21) (by decide) ?_
  refine pf_X8_206 (x := 21) (σ' := (ap b σ [(0, 8, 21), (0, 8, 20), (0, 8, 19), (0, 8, 18), (0, 8, 17), (0, 8, 16), (0, 8, 15), (0, 8, 14), (0, 8, 13), (0, 8, 12), (0, 8, 11), (0, 8, 10), (0, 8, 9), (0, 8, 8), (0, 8, 7), (0, 8, 6), (0, 8, 5), (0, 8, 4), (0, 8, 3), (0, 8, 2), (0, 8, 1)] [] [])) B (lKA (hk_K hK 0 rfl rfl)) wI_ap dX8_tick_35 ?_
  refine z_aload_n B dX8_tick_38 rfl 1 rfl ?_
  refine z_cVv (As := []) (rest := []) B cw_X8_240 cx_9 dX8_tick_39 (ci_X8_passTasks_920 l (σ := (ap b σ [(0, 8, 21), (0, 8, 20), (0, 8, 19), (0, 8, 18), (0, 8, 17), (0, 8, 16), (0, 8, 15), (0, 8, 14), (0, 8, 13), (0, 8, 12), (0, 8, 11), (0, 8, 10), (0, 8, 9), (0, 8, 8), (0, 8, 7), (0, 8, 6), (0, 8, 5), (0, 8, 4), (0, 8, 3), (0, 8, 2), (0, 8, 1)] [] [])) (b := b) (lyA hK) (rI_at 4 2 hI_4_2) (rR_at 0 3 hR_0_3)) (lKA (hk_K hK 0 rfl rfl)) rfl (by decide) rfl (Nat.le_of_ble_eq_true rfl) (by decide) (fun u hu => ?_)
  refine z_eqs (σ' := (ap b σ [(0, 8, 21), (0, 8, 20), (0, 8, 19), (0, 8, 18), (0, 8, 17), (0, 8, 16), (0, 8, 15), (0, 8, 14), (0, 8, 13), (0, 8, 12), (0, 8, 11), (0, 8, 10), (0, 8, 9), (0, 8, 8), (0, 8, 7), (0, 8, 6), (0, 8, 5), (0, 8, 4), (0, 8, 3), (0, 8, 2), (0, 8, 1)] [] [])) hu ?_
  show zx p l e _ s m _ below meth c g 3 0 0 _ _ 42 [(2, .int 20), (0, .ref (b + 0)), (1, .int 39)] _
  refine z_aload_n B dX8_tick_42 rfl 1 rfl ?_
  refine z_cVv (As := []) (rest := []) B cw_X8_243 cx_9 dX8_tick_43 (ci_X8_passTimers_921 l (σ := (ap b σ [(0, 8, 21), (0, 8, 20), (0, 8, 19), (0, 8, 18), (0, 8, 17), (0, 8, 16), (0, 8, 15), (0, 8, 14), (0, 8, 13), (0, 8, 12), (0, 8, 11), (0, 8, 10), (0, 8, 9), (0, 8, 8), (0, 8, 7), (0, 8, 6), (0, 8, 5), (0, 8, 4), (0, 8, 3), (0, 8, 2), (0, 8, 1)] [] [])) (b := b) (lyA hK) (rI_at 0 7 hI_0_7)) (lKA (hk_K hK 0 rfl rfl)) rfl (by decide) rfl (Nat.le_of_ble_eq_true rfl) (by decide) (fun u hu => ?_)
  refine z_eqs (σ' := (ap b σ [(0, 8, 21), (0, 8, 20), (0, 8, 19), (0, 8, 18), (0, 8, 17), (0, 8, 16), (0, 8, 15), (0, 8, 14), (0, 8, 13), (0, 8, 12), (0, 8, 11), (0, 8, 10), (0, 8, 9), (0, 8, 8), (0, 8, 7), (0, 8, 6), (0, 8, 5), (0, 8, 4), (0, 8, 3), (0, 8, 2), (0, 8, 1)] [] [])) hu ?_
  show zx p l e _ s m _ below meth c g 3 0 0 _ _ 46 [(2, .int 20), (0, .ref (b + 0)), (1, .int 39)] _
  refine z_iinc (v := 21) (lv' := [(2, .int 21), (0, .ref (b + 0)), (1, .int 39)]) B dX8_tick_46 0 rfl (by decide) (by decide) rfl ?_
  refine z_goto (tgt := 23) B dX8_tick_49 (by decide) ?_
  refine z_iload_n B dX8_tick_23 rfl 0 rfl ?_
  refine z_iload_n B dX8_tick_24 rfl 2 rfl ?_
  refine z_icmp_ge (tgt := 52) B dX8_tick_25 (by decide) (fun h => absurd h (by decide)) (fun _ => ?_)
  refine z_aload_n B dX8_tick_28 rfl 1 rfl ?_
  refine z_dup B dX8_tick_29 rfl ?_
  refine gf_X8_206 (x := 21) B (lKA (hk_K hK 0 rfl rfl)) (rI_at 0 8 rfl) dX8_tick_30 ?_
  refine z_iconst (v := 1) B dX8_tick_33 (by decide) ?_
  refine z_iadd B dX8_tick_34 ?_
  refine z_seti (y := 22) (by decide) ?_
  refine pf_X8_206 (x := 22) (σ' := (ap b σ [(0, 8, 22), (0, 8, 21), (0, 8, 20), (0, 8, 19), (0, 8, 18), (0, 8, 17), (0, 8, 16), (0, 8, 15), (0, 8, 14), (0, 8, 13), (0, 8, 12), (0, 8, 11), (0, 8, 10), (0, 8, 9), (0, 8, 8), (0, 8, 7), (0, 8, 6), (0, 8, 5), (0, 8, 4), (0, 8, 3), (0, 8, 2), (0, 8, 1)] [] [])) B (lKA (hk_K hK 0 rfl rfl)) wI_ap dX8_tick_35 ?_
  refine z_aload_n B dX8_tick_38 rfl 1 rfl ?_
  refine z_cVv (As := []) (rest := []) B cw_X8_240 cx_9 dX8_tick_39 (ci_X8_passTasks_920 l (σ := (ap b σ [(0, 8, 22), (0, 8, 21), (0, 8, 20), (0, 8, 19), (0, 8, 18), (0, 8, 17), (0, 8, 16), (0, 8, 15), (0, 8, 14), (0, 8, 13), (0, 8, 12), (0, 8, 11), (0, 8, 10), (0, 8, 9), (0, 8, 8), (0, 8, 7), (0, 8, 6), (0, 8, 5), (0, 8, 4), (0, 8, 3), (0, 8, 2), (0, 8, 1)] [] [])) (b := b) (lyA hK) (rI_at 4 2 hI_4_2) (rR_at 0 3 hR_0_3)) (lKA (hk_K hK 0 rfl rfl)) rfl (by decide) rfl (Nat.le_of_ble_eq_true rfl) (by decide) (fun u hu => ?_)
  refine z_eqs (σ' := (ap b σ [(0, 8, 22), (0, 8, 21), (0, 8, 20), (0, 8, 19), (0, 8, 18), (0, 8, 17), (0, 8, 16), (0, 8, 15), (0, 8, 14), (0, 8, 13), (0, 8, 12), (0, 8, 11), (0, 8, 10), (0, 8, 9), (0, 8, 8), (0, 8, 7), (0, 8, 6), (0, 8, 5), (0, 8, 4), (0, 8, 3), (0, 8, 2), (0, 8, 1)] [] [])) hu ?_
  show zx p l e _ s m _ below meth c g 3 0 0 _ _ 42 [(2, .int 21), (0, .ref (b + 0)), (1, .int 39)] _
  refine z_aload_n B dX8_tick_42 rfl 1 rfl ?_
  refine z_cVv (As := []) (rest := []) B cw_X8_243 cx_9 dX8_tick_43 (ci_X8_passTimers_921 l (σ := (ap b σ [(0, 8, 22), (0, 8, 21), (0, 8, 20), (0, 8, 19), (0, 8, 18), (0, 8, 17), (0, 8, 16), (0, 8, 15), (0, 8, 14), (0, 8, 13), (0, 8, 12), (0, 8, 11), (0, 8, 10), (0, 8, 9), (0, 8, 8), (0, 8, 7), (0, 8, 6), (0, 8, 5), (0, 8, 4), (0, 8, 3), (0, 8, 2), (0, 8, 1)] [] [])) (b := b) (lyA hK) (rI_at 0 7 hI_0_7)) (lKA (hk_K hK 0 rfl rfl)) rfl (by decide) rfl (Nat.le_of_ble_eq_true rfl) (by decide) (fun u hu => ?_)
  refine z_eqs (σ' := (ap b σ [(0, 8, 22), (0, 8, 21), (0, 8, 20), (0, 8, 19), (0, 8, 18), (0, 8, 17), (0, 8, 16), (0, 8, 15), (0, 8, 14), (0, 8, 13), (0, 8, 12), (0, 8, 11), (0, 8, 10), (0, 8, 9), (0, 8, 8), (0, 8, 7), (0, 8, 6), (0, 8, 5), (0, 8, 4), (0, 8, 3), (0, 8, 2), (0, 8, 1)] [] [])) hu ?_
  show zx p l e _ s m _ below meth c g 3 0 0 _ _ 46 [(2, .int 21), (0, .ref (b + 0)), (1, .int 39)] _
  refine z_iinc (v := 22) (lv' := [(2, .int 22), (0, .ref (b + 0)), (1, .int 39)]) B dX8_tick_46 0 rfl (by decide) (by decide) rfl ?_
  refine z_goto (tgt := 23) B dX8_tick_49 (by decide) ?_
  refine z_iload_n B dX8_tick_23 rfl 0 rfl ?_
  refine z_iload_n B dX8_tick_24 rfl 2 rfl ?_
  refine z_icmp_ge (tgt := 52) B dX8_tick_25 (by decide) (fun h => absurd h (by decide)) (fun _ => ?_)
  refine z_aload_n B dX8_tick_28 rfl 1 rfl ?_
  refine z_dup B dX8_tick_29 rfl ?_
  refine gf_X8_206 (x := 22) B (lKA (hk_K hK 0 rfl rfl)) (rI_at 0 8 rfl) dX8_tick_30 ?_
  refine z_iconst (v := 1) B dX8_tick_33 (by decide) ?_
  refine z_iadd B dX8_tick_34 ?_
  refine z_seti (y := 23) (by decide) ?_
  refine pf_X8_206 (x := 23) (σ' := (ap b σ [(0, 8, 23), (0, 8, 22), (0, 8, 21), (0, 8, 20), (0, 8, 19), (0, 8, 18), (0, 8, 17), (0, 8, 16), (0, 8, 15), (0, 8, 14), (0, 8, 13), (0, 8, 12), (0, 8, 11), (0, 8, 10), (0, 8, 9), (0, 8, 8), (0, 8, 7), (0, 8, 6), (0, 8, 5), (0, 8, 4), (0, 8, 3), (0, 8, 2), (0, 8, 1)] [] [])) B (lKA (hk_K hK 0 rfl rfl)) wI_ap dX8_tick_35 ?_
  refine z_aload_n B dX8_tick_38 rfl 1 rfl ?_
  refine z_cVv (As := []) (rest := []) B cw_X8_240 cx_9 dX8_tick_39 (ci_X8_passTasks_920 l (σ := (ap b σ [(0, 8, 23), (0, 8, 22), (0, 8, 21), (0, 8, 20), (0, 8, 19), (0, 8, 18), (0, 8, 17), (0, 8, 16), (0, 8, 15), (0, 8, 14), (0, 8, 13), (0, 8, 12), (0, 8, 11), (0, 8, 10), (0, 8, 9), (0, 8, 8), (0, 8, 7), (0, 8, 6), (0, 8, 5), (0, 8, 4), (0, 8, 3), (0, 8, 2), (0, 8, 1)] [] [])) (b := b) (lyA hK) (rI_at 4 2 hI_4_2) (rR_at 0 3 hR_0_3)) (lKA (hk_K hK 0 rfl rfl)) rfl (by decide) rfl (Nat.le_of_ble_eq_true rfl) (by decide) (fun u hu => ?_)
  refine z_eqs (σ' := (ap b σ [(0, 8, 23), (0, 8, 22), (0, 8, 21), (0, 8, 20), (0, 8, 19), (0, 8, 18), (0, 8, 17), (0, 8, 16), (0, 8, 15), (0, 8, 14), (0, 8, 13), (0, 8, 12), (0, 8, 11), (0, 8, 10), (0, 8, 9), (0, 8, 8), (0, 8, 7), (0, 8, 6), (0, 8, 5), (0, 8, 4), (0, 8, 3), (0, 8, 2), (0, 8, 1)] [] [])) hu ?_
  show zx p l e _ s m _ below meth c g 3 0 0 _ _ 42 [(2, .int 22), (0, .ref (b + 0)), (1, .int 39)] _
  refine z_aload_n B dX8_tick_42 rfl 1 rfl ?_
  refine z_cVv (As := []) (rest := []) B cw_X8_243 cx_9 dX8_tick_43 (ci_X8_passTimers_921 l (σ := (ap b σ [(0, 8, 23), (0, 8, 22), (0, 8, 21), (0, 8, 20), (0, 8, 19), (0, 8, 18), (0, 8, 17), (0, 8, 16), (0, 8, 15), (0, 8, 14), (0, 8, 13), (0, 8, 12), (0, 8, 11), (0, 8, 10), (0, 8, 9), (0, 8, 8), (0, 8, 7), (0, 8, 6), (0, 8, 5), (0, 8, 4), (0, 8, 3), (0, 8, 2), (0, 8, 1)] [] [])) (b := b) (lyA hK) (rI_at 0 7 hI_0_7)) (lKA (hk_K hK 0 rfl rfl)) rfl (by decide) rfl (Nat.le_of_ble_eq_true rfl) (by decide) (fun u hu => ?_)
  refine z_eqs (σ' := (ap b σ [(0, 8, 23), (0, 8, 22), (0, 8, 21), (0, 8, 20), (0, 8, 19), (0, 8, 18), (0, 8, 17), (0, 8, 16), (0, 8, 15), (0, 8, 14), (0, 8, 13), (0, 8, 12), (0, 8, 11), (0, 8, 10), (0, 8, 9), (0, 8, 8), (0, 8, 7), (0, 8, 6), (0, 8, 5), (0, 8, 4), (0, 8, 3), (0, 8, 2), (0, 8, 1)] [] [])) hu ?_
  show zx p l e _ s m _ below meth c g 3 0 0 _ _ 46 [(2, .int 22), (0, .ref (b + 0)), (1, .int 39)] _
  refine z_iinc (v := 23) (lv' := [(2, .int 23), (0, .ref (b + 0)), (1, .int 39)]) B dX8_tick_46 0 rfl (by decide) (by decide) rfl ?_
  refine z_goto (tgt := 23) B dX8_tick_49 (by decide) ?_
  refine z_iload_n B dX8_tick_23 rfl 0 rfl ?_
  refine z_iload_n B dX8_tick_24 rfl 2 rfl ?_
  refine z_icmp_ge (tgt := 52) B dX8_tick_25 (by decide) (fun h => absurd h (by decide)) (fun _ => ?_)
  refine z_aload_n B dX8_tick_28 rfl 1 rfl ?_
  refine z_dup B dX8_tick_29 rfl ?_
  refine gf_X8_206 (x := 23) B (lKA (hk_K hK 0 rfl rfl)) (rI_at 0 8 rfl) dX8_tick_30 ?_
  refine z_iconst (v := 1) B dX8_tick_33 (by decide) ?_
  refine z_iadd B dX8_tick_34 ?_
  refine z_seti (y := 24) (by decide) ?_
  refine pf_X8_206 (x := 24) (σ' := (ap b σ [(0, 8, 24), (0, 8, 23), (0, 8, 22), (0, 8, 21), (0, 8, 20), (0, 8, 19), (0, 8, 18), (0, 8, 17), (0, 8, 16), (0, 8, 15), (0, 8, 14), (0, 8, 13), (0, 8, 12), (0, 8, 11), (0, 8, 10), (0, 8, 9), (0, 8, 8), (0, 8, 7), (0, 8, 6), (0, 8, 5), (0, 8, 4), (0, 8, 3), (0, 8, 2), (0, 8, 1)] [] [])) B (lKA (hk_K hK 0 rfl rfl)) wI_ap dX8_tick_35 ?_
  refine z_aload_n B dX8_tick_38 rfl 1 rfl ?_
  refine z_cVv (As := []) (rest := []) B cw_X8_240 cx_9 dX8_tick_39 (ci_X8_passTasks_920 l (σ := (ap b σ [(0, 8, 24), (0, 8, 23), (0, 8, 22), (0, 8, 21), (0, 8, 20), (0, 8, 19), (0, 8, 18), (0, 8, 17), (0, 8, 16), (0, 8, 15), (0, 8, 14), (0, 8, 13), (0, 8, 12), (0, 8, 11), (0, 8, 10), (0, 8, 9), (0, 8, 8), (0, 8, 7), (0, 8, 6), (0, 8, 5), (0, 8, 4), (0, 8, 3), (0, 8, 2), (0, 8, 1)] [] [])) (b := b) (lyA hK) (rI_at 4 2 hI_4_2) (rR_at 0 3 hR_0_3)) (lKA (hk_K hK 0 rfl rfl)) rfl (by decide) rfl (Nat.le_of_ble_eq_true rfl) (by decide) (fun u hu => ?_)
  refine z_eqs (σ' := (ap b σ [(0, 8, 24), (0, 8, 23), (0, 8, 22), (0, 8, 21), (0, 8, 20), (0, 8, 19), (0, 8, 18), (0, 8, 17), (0, 8, 16), (0, 8, 15), (0, 8, 14), (0, 8, 13), (0, 8, 12), (0, 8, 11), (0, 8, 10), (0, 8, 9), (0, 8, 8), (0, 8, 7), (0, 8, 6), (0, 8, 5), (0, 8, 4), (0, 8, 3), (0, 8, 2), (0, 8, 1)] [] [])) hu ?_
  show zx p l e _ s m _ below meth c g 3 0 0 _ _ 42 [(2, .int 23), (0, .ref (b + 0)), (1, .int 39)] _
  refine z_aload_n B dX8_tick_42 rfl 1 rfl ?_
  refine z_cVv (As := []) (rest := []) B cw_X8_243 cx_9 dX8_tick_43 (ci_X8_passTimers_921 l (σ := (ap b σ [(0, 8, 24), (0, 8, 23), (0, 8, 22), (0, 8, 21), (0, 8, 20), (0, 8, 19), (0, 8, 18), (0, 8, 17), (0, 8, 16), (0, 8, 15), (0, 8, 14), (0, 8, 13), (0, 8, 12), (0, 8, 11), (0, 8, 10), (0, 8, 9), (0, 8, 8), (0, 8, 7), (0, 8, 6), (0, 8, 5), (0, 8, 4), (0, 8, 3), (0, 8, 2), (0, 8, 1)] [] [])) (b := b) (lyA hK) (rI_at 0 7 hI_0_7)) (lKA (hk_K hK 0 rfl rfl)) rfl (by decide) rfl (Nat.le_of_ble_eq_true rfl) (by decide) (fun u hu => ?_)
  refine z_eqs (σ' := (ap b σ [(0, 8, 24), (0, 8, 23), (0, 8, 22), (0, 8, 21), (0, 8, 20), (0, 8, 19), (0, 8, 18), (0, 8, 17), (0, 8, 16), (0, 8, 15), (0, 8, 14), (0, 8, 13), (0, 8, 12), (0, 8, 11), (0, 8, 10), (0, 8, 9), (0, 8, 8), (0, 8, 7), (0, 8, 6), (0, 8, 5), (0, 8, 4), (0, 8, 3), (0, 8, 2), (0, 8, 1)] [] [])) hu ?_
  show zx p l e _ s m _ below meth c g 3 0 0 _ _ 46 [(2, .int 23), (0, .ref (b + 0)), (1, .int 39)] _
  refine z_iinc (v := 24) (lv' := [(2, .int 24), (0, .ref (b + 0)), (1, .int 39)]) B dX8_tick_46 0 rfl (by decide) (by decide) rfl ?_
  refine z_goto (tgt := 23) B dX8_tick_49 (by decide) ?_
  refine z_iload_n B dX8_tick_23 rfl 0 rfl ?_
  refine z_iload_n B dX8_tick_24 rfl 2 rfl ?_
  refine z_icmp_ge (tgt := 52) B dX8_tick_25 (by decide) (fun h => absurd h (by decide)) (fun _ => ?_)
  refine z_aload_n B dX8_tick_28 rfl 1 rfl ?_
  refine z_dup B dX8_tick_29 rfl ?_
  refine gf_X8_206 (x := 24) B (lKA (hk_K hK 0 rfl rfl)) (rI_at 0 8 rfl) dX8_tick_30 ?_
  refine z_iconst (v := 1) B dX8_tick_33 (by decide) ?_
  refine z_iadd B dX8_tick_34 ?_
  refine z_seti (y := 25) (by decide) ?_
  refine pf_X8_206 (x := 25) (σ' := (ap b σ [(0, 8, 25), (0, 8, 24), (0, 8, 23), (0, 8, 22), (0, 8, 21), (0, 8, 20), (0, 8, 19), (0, 8, 18), (0, 8, 17), (0, 8, 16), (0, 8, 15), (0, 8, 14), (0, 8, 13), (0, 8, 12), (0, 8, 11), (0, 8, 10), (0, 8, 9), (0, 8, 8), (0, 8, 7), (0, 8, 6), (0, 8, 5), (0, 8, 4), (0, 8, 3), (0, 8, 2), (0, 8, 1)] [] [])) B (lKA (hk_K hK 0 rfl rfl)) wI_ap dX8_tick_35 ?_
  refine z_aload_n B dX8_tick_38 rfl 1 rfl ?_
  refine z_cVv (As := []) (rest := []) B cw_X8_240 cx_9 dX8_tick_39 (ci_X8_passTasks_920 l (σ := (ap b σ [(0, 8, 25), (0, 8, 24), (0, 8, 23), (0, 8, 22), (0, 8, 21), (0, 8, 20), (0, 8, 19), (0, 8, 18), (0, 8, 17), (0, 8, 16), (0, 8, 15), (0, 8, 14), (0, 8, 13), (0, 8, 12), (0, 8, 11), (0, 8, 10), (0, 8, 9), (0, 8, 8), (0, 8, 7), (0, 8, 6), (0, 8, 5), (0, 8, 4), (0, 8, 3), (0, 8, 2), (0, 8, 1)] [] [])) (b := b) (lyA hK) (rI_at 4 2 hI_4_2) (rR_at 0 3 hR_0_3)) (lKA (hk_K hK 0 rfl rfl)) rfl (by decide) rfl (Nat.le_of_ble_eq_true rfl) (by decide) (fun u hu => ?_)
  refine z_eqs (σ' := (ap b σ [(0, 8, 25), (0, 8, 24), (0, 8, 23), (0, 8, 22), (0, 8, 21), (0, 8, 20), (0, 8, 19), (0, 8, 18), (0, 8, 17), (0, 8, 16), (0, 8, 15), (0, 8, 14), (0, 8, 13), (0, 8, 12), (0, 8, 11), (0, 8, 10), (0, 8, 9), (0, 8, 8), (0, 8, 7), (0, 8, 6), (0, 8, 5), (0, 8, 4), (0, 8, 3), (0, 8, 2), (0, 8, 1)] [] [])) hu ?_
  show zx p l e _ s m _ below meth c g 3 0 0 _ _ 42 [(2, .int 24), (0, .ref (b + 0)), (1, .int 39)] _
  refine z_aload_n B dX8_tick_42 rfl 1 rfl ?_
  refine z_cVv (As := []) (rest := []) B cw_X8_243 cx_9 dX8_tick_43 (ci_X8_passTimers_921 l (σ := (ap b σ [(0, 8, 25), (0, 8, 24), (0, 8, 23), (0, 8, 22), (0, 8, 21), (0, 8, 20), (0, 8, 19), (0, 8, 18), (0, 8, 17), (0, 8, 16), (0, 8, 15), (0, 8, 14), (0, 8, 13), (0, 8, 12), (0, 8, 11), (0, 8, 10), (0, 8, 9), (0, 8, 8), (0, 8, 7), (0, 8, 6), (0, 8, 5), (0, 8, 4), (0, 8, 3), (0, 8, 2), (0, 8, 1)] [] [])) (b := b) (lyA hK) (rI_at 0 7 hI_0_7)) (lKA (hk_K hK 0 rfl rfl)) rfl (by decide) rfl (Nat.le_of_ble_eq_true rfl) (by decide) (fun u hu => ?_)
  refine z_eqs (σ' := (ap b σ [(0, 8, 25), (0, 8, 24), (0, 8, 23), (0, 8, 22), (0, 8, 21), (0, 8, 20), (0, 8, 19), (0, 8, 18), (0, 8, 17), (0, 8, 16), (0, 8, 15), (0, 8, 14), (0, 8, 13), (0, 8, 12), (0, 8, 11), (0, 8, 10), (0, 8, 9), (0, 8, 8), (0, 8, 7), (0, 8, 6), (0, 8, 5), (0, 8, 4), (0, 8, 3), (0, 8, 2), (0, 8, 1)] [] [])) hu ?_
  show zx p l e _ s m _ below meth c g 3 0 0 _ _ 46 [(2, .int 24), (0, .ref (b + 0)), (1, .int 39)] _
  refine z_iinc (v := 25) (lv' := [(2, .int 25), (0, .ref (b + 0)), (1, .int 39)]) B dX8_tick_46 0 rfl (by decide) (by decide) rfl ?_
  refine z_goto (tgt := 23) B dX8_tick_49 (by decide) ?_
  refine z_iload_n B dX8_tick_23 rfl 0 rfl ?_
  refine z_iload_n B dX8_tick_24 rfl 2 rfl ?_
  refine z_icmp_ge (tgt := 52) B dX8_tick_25 (by decide) (fun h => absurd h (by decide)) (fun _ => ?_)
  refine z_aload_n B dX8_tick_28 rfl 1 rfl ?_
  refine z_dup B dX8_tick_29 rfl ?_
  refine gf_X8_206 (x := 25) B (lKA (hk_K hK 0 rfl rfl)) (rI_at 0 8 rfl) dX8_tick_30 ?_
  refine z_iconst (v := 1) B dX8_tick_33 (by decide) ?_
  refine z_iadd B dX8_tick_34 ?_
  refine z_seti (y := 26) (by decide) ?_
  refine pf_X8_206 (x := 26) (σ' := (ap b σ [(0, 8, 26), (0, 8, 25), (0, 8, 24), (0, 8, 23), (0, 8, 22), (0, 8, 21), (0, 8, 20), (0, 8, 19), (0, 8, 18), (0, 8, 17), (0, 8, 16), (0, 8, 15), (0, 8, 14), (0, 8, 13), (0, 8, 12), (0, 8, 11), (0, 8, 10), (0, 8, 9), (0, 8, 8), (0, 8, 7), (0, 8, 6), (0, 8, 5), (0, 8, 4), (0, 8, 3), (0, 8, 2), (0, 8, 1)] [] [])) B (lKA (hk_K hK 0 rfl rfl)) wI_ap dX8_tick_35 ?_
  refine z_aload_n B dX8_tick_38 rfl 1 rfl ?_
  refine z_cVv (As := []) (rest := []) B cw_X8_240 cx_9 dX8_tick_39 (ci_X8_passTasks_920 l (σ := (ap b σ [(0, 8, 26), (0, 8, 25), (0, 8, 24), (0, 8, 23), (0, 8, 22), (0, 8, 21), (0, 8, 20), (0, 8, 19), (0, 8, 18), (0, 8, 17), (0, 8, 16), (0, 8, 15), (0, 8, 14), (0, 8, 13), (0, 8, 12), (0, 8, 11), (0, 8, 10), (0, 8, 9), (0, 8, 8), (0, 8, 7), (0, 8, 6), (0, 8, 5), (0, 8, 4), (0, 8, 3), (0, 8, 2), (0, 8, 1)] [] [])) (b := b) (lyA hK) (rI_at 4 2 hI_4_2) (rR_at 0 3 hR_0_3)) (lKA (hk_K hK 0 rfl rfl)) rfl (by decide) rfl (Nat.le_of_ble_eq_true rfl) (by decide) (fun u hu => ?_)
  refine z_eqs (σ' := (ap b σ [(0, 8, 26), (0, 8, 25), (0, 8, 24), (0, 8, 23), (0, 8, 22), (0, 8, 21), (0, 8, 20), (0, 8, 19), (0, 8, 18), (0, 8, 17), (0, 8, 16), (0, 8, 15), (0, 8, 14), (0, 8, 13), (0, 8, 12), (0, 8, 11), (0, 8, 10), (0, 8, 9), (0, 8, 8), (0, 8, 7), (0, 8, 6), (0, 8, 5), (0, 8, 4), (0, 8, 3), (0, 8, 2), (0, 8, 1)] [] [])) hu ?_
  show zx p l e _ s m _ below meth c g 3 0 0 _ _ 42 [(2, .int 25), (0, .ref (b + 0)), (1, .int 39)] _
  refine z_aload_n B dX8_tick_42 rfl 1 rfl ?_
  refine z_cVv (As := []) (rest := []) B cw_X8_243 cx_9 dX8_tick_43 (ci_X8_passTimers_921 l (σ := (ap b σ [(0, 8, 26), (0, 8, 25), (0, 8, 24), (0, 8, 23), (0, 8, 22), (0, 8, 21), (0, 8, 20), (0, 8, 19), (0, 8, 18), (0, 8, 17), (0, 8, 16), (0, 8, 15), (0, 8, 14), (0, 8, 13), (0, 8, 12), (0, 8, 11), (0, 8, 10), (0, 8, 9), (0, 8, 8), (0, 8, 7), (0, 8, 6), (0, 8, 5), (0, 8, 4), (0, 8, 3), (0, 8, 2), (0, 8, 1)] [] [])) (b := b) (lyA hK) (rI_at 0 7 hI_0_7)) (lKA (hk_K hK 0 rfl rfl)) rfl (by decide) rfl (Nat.le_of_ble_eq_true rfl) (by decide) (fun u hu => ?_)
  refine z_eqs (σ' := (ap b σ [(0, 8, 26), (0, 8, 25), (0, 8, 24), (0, 8, 23), (0, 8, 22), (0, 8, 21), (0, 8, 20), (0, 8, 19), (0, 8, 18), (0, 8, 17), (0, 8, 16), (0, 8, 15), (0, 8, 14), (0, 8, 13), (0, 8, 12), (0, 8, 11), (0, 8, 10), (0, 8, 9), (0, 8, 8), (0, 8, 7), (0, 8, 6), (0, 8, 5), (0, 8, 4), (0, 8, 3), (0, 8, 2), (0, 8, 1)] [] [])) hu ?_
  show zx p l e _ s m _ below meth c g 3 0 0 _ _ 46 [(2, .int 25), (0, .ref (b + 0)), (1, .int 39)] _
  refine z_iinc (v := 26) (lv' := [(2, .int 26), (0, .ref (b + 0)), (1, .int 39)]) B dX8_tick_46 0 rfl (by decide) (by decide) rfl ?_
  refine z_goto (tgt := 23) B dX8_tick_49 (by decide) ?_
  refine z_iload_n B dX8_tick_23 rfl 0 rfl ?_
  refine z_iload_n B dX8_tick_24 rfl 2 rfl ?_
  refine z_icmp_ge (tgt := 52) B dX8_tick_25 (by decide) (fun h => absurd h (by decide)) (fun _ => ?_)
  refine z_aload_n B dX8_tick_28 rfl 1 rfl ?_
  refine z_dup B dX8_tick_29 rfl ?_
  refine gf_X8_206 (x := 26) B (lKA (hk_K hK 0 rfl rfl)) (rI_at 0 8 rfl) dX8_tick_30 ?_
  refine z_iconst (v := 1) B dX8_tick_33 (by decide) ?_
  refine z_iadd B dX8_tick_34 ?_
  refine z_seti (y := 27) (by decide) ?_
  refine pf_X8_206 (x := 27) (σ' := (ap b σ [(0, 8, 27), (0, 8, 26), (0, 8, 25), (0, 8, 24), (0, 8, 23), (0, 8, 22), (0, 8, 21), (0, 8, 20), (0, 8, 19), (0, 8, 18), (0, 8, 17), (0, 8, 16), (0, 8, 15), (0, 8, 14), (0, 8, 13), (0, 8, 12), (0, 8, 11), (0, 8, 10), (0, 8, 9), (0, 8, 8), (0, 8, 7), (0, 8, 6), (0, 8, 5), (0, 8, 4), (0, 8, 3), (0, 8, 2), (0, 8, 1)] [] [])) B (lKA (hk_K hK 0 rfl rfl)) wI_ap dX8_tick_35 ?_
  refine z_aload_n B dX8_tick_38 rfl 1 rfl ?_
  refine z_cVv (As := []) (rest := []) B cw_X8_240 cx_9 dX8_tick_39 (ci_X8_passTasks_920 l (σ := (ap b σ [(0, 8, 27), (0, 8, 26), (0, 8, 25), (0, 8, 24), (0, 8, 23), (0, 8, 22), (0, 8, 21), (0, 8, 20), (0, 8, 19), (0, 8, 18), (0, 8, 17), (0, 8, 16), (0, 8, 15), (0, 8, 14), (0, 8, 13), (0, 8, 12), (0, 8, 11), (0, 8, 10), (0, 8, 9), (0, 8, 8), (0, 8, 7), (0, 8, 6), (0, 8, 5), (0, 8, 4), (0, 8, 3), (0, 8, 2), (0, 8, 1)] [] [])) (b := b) (lyA hK) (rI_at 4 2 hI_4_2) (rR_at 0 3 hR_0_3)) (lKA (hk_K hK 0 rfl rfl)) rfl (by decide) rfl (Nat.le_of_ble_eq_true rfl) (by decide) (fun u hu => ?_)
  refine z_eqs (σ' := (ap b σ [(0, 8, 27), (0, 8, 26), (0, 8, 25), (0, 8, 24), (0, 8, 23), (0, 8, 22), (0, 8, 21), (0, 8, 20), (0, 8, 19), (0, 8, 18), (0, 8, 17), (0, 8, 16), (0, 8, 15), (0, 8, 14), (0, 8, 13), (0, 8, 12), (0, 8, 11), (0, 8, 10), (0, 8, 9), (0, 8, 8), (0, 8, 7), (0, 8, 6), (0, 8, 5), (0, 8, 4), (0, 8, 3), (0, 8, 2), (0, 8, 1)] [] [])) hu ?_
  show zx p l e _ s m _ below meth c g 3 0 0 _ _ 42 [(2, .int 26), (0, .ref (b + 0)), (1, .int 39)] _
  refine z_aload_n B dX8_tick_42 rfl 1 rfl ?_
  refine z_cVv (As := []) (rest := []) B cw_X8_243 cx_9 dX8_tick_43 (ci_X8_passTimers_921 l (σ := (ap b σ [(0, 8, 27), (0, 8, 26), (0, 8, 25), (0, 8, 24), (0, 8, 23), (0, 8, 22), (0, 8, 21), (0, 8, 20), (0, 8, 19), (0, 8, 18), (0, 8, 17), (0, 8, 16), (0, 8, 15), (0, 8, 14), (0, 8, 13), (0, 8, 12), (0, 8, 11), (0, 8, 10), (0, 8, 9), (0, 8, 8), (0, 8, 7), (0, 8, 6), (0, 8, 5), (0, 8, 4), (0, 8, 3), (0, 8, 2), (0, 8, 1)] [] [])) (b := b) (lyA hK) (rI_at 0 7 hI_0_7)) (lKA (hk_K hK 0 rfl rfl)) rfl (by decide) rfl (Nat.le_of_ble_eq_true rfl) (by decide) (fun u hu => ?_)
  refine z_eqs (σ' := (ap b σ [(0, 8, 27), (0, 8, 26), (0, 8, 25), (0, 8, 24), (0, 8, 23), (0, 8, 22), (0, 8, 21), (0, 8, 20), (0, 8, 19), (0, 8, 18), (0, 8, 17), (0, 8, 16), (0, 8, 15), (0, 8, 14), (0, 8, 13), (0, 8, 12), (0, 8, 11), (0, 8, 10), (0, 8, 9), (0, 8, 8), (0, 8, 7), (0, 8, 6), (0, 8, 5), (0, 8, 4), (0, 8, 3), (0, 8, 2), (0, 8, 1)] [] [])) hu ?_
  show zx p l e _ s m _ below meth c g 3 0 0 _ _ 46 [(2, .int 26), (0, .ref (b + 0)), (1, .int 39)] _
  refine z_iinc (v := 27) (lv' := [(2, .int 27), (0, .ref (b + 0)), (1, .int 39)]) B dX8_tick_46 0 rfl (by decide) (by decide) rfl ?_
  refine z_goto (tgt := 23) B dX8_tick_49 (by decide) ?_
  refine z_iload_n B dX8_tick_23 rfl 0 rfl ?_
  refine z_iload_n B dX8_tick_24 rfl 2 rfl ?_
  refine z_icmp_ge (tgt := 52) B dX8_tick_25 (by decide) (fun h => absurd h (by decide)) (fun _ => ?_)
  refine z_aload_n B dX8_tick_28 rfl 1 rfl ?_
  refine z_dup B dX8_tick_29 rfl ?_
  refine gf_X8_206 (x := 27) B (lKA (hk_K hK 0 rfl rfl)) (rI_at 0 8 rfl) dX8_tick_30 ?_
  refine z_iconst (v := 1) B dX8_tick_33 (by decide) ?_
  refine z_iadd B dX8_tick_34 ?_
  refine z_seti (y := 28) (by decide) ?_
  refine pf_X8_206 (x := 28) (σ' := (ap b σ [(0, 8, 28), (0, 8, 27), (0, 8, 26), (0, 8, 25), (0, 8, 24), (0, 8, 23), (0, 8, 22), (0, 8, 21), (0, 8, 20), (0, 8, 19), (0, 8, 18), (0, 8, 17), (0, 8, 16), (0, 8, 15), (0, 8, 14), (0, 8, 13), (0, 8, 12), (0, 8, 11), (0, 8, 10), (0, 8, 9), (0, 8, 8), (0, 8, 7), (0, 8, 6), (0, 8, 5), (0, 8, 4), (0, 8, 3), (0, 8, 2), (0, 8, 1)] [] [])) B (lKA (hk_K hK 0 rfl rfl)) wI_ap dX8_tick_35 ?_
  refine z_aload_n B dX8_tick_38 rfl 1 rfl ?_
  refine z_cVv (As := []) (rest := []) B cw_X8_240 cx_9 dX8_tick_39 (ci_X8_passTasks_920 l (σ := (ap b σ [(0, 8, 28), (0, 8, 27), (0, 8, 26), (0, 8, 25), (0, 8, 24), (0, 8, 23), (0, 8, 22), (0, 8, 21), (0, 8, 20), (0, 8, 19), (0, 8, 18), (0, 8, 17), (0, 8, 16), (0, 8, 15), (0, 8, 14), (0, 8, 13), (0, 8, 12), (0, 8, 11), (0, 8, 10), (0, 8, 9), (0, 8, 8), (0, 8, 7), (0, 8, 6), (0, 8, 5), (0, 8, 4), (0, 8, 3), (0, 8, 2), (0, 8, 1)] [] [])) (b := b) (lyA hK) (rI_at 4 2 hI_4_2) (rR_at 0 3 hR_0_3)) (lKA (hk_K hK 0 rfl rfl)) rfl (by decide) rfl (Nat.le_of_ble_eq_true rfl) (by decide) (fun u hu => ?_)
  refine z_eqs (σ' := (ap b σ [(0, 8, 28), (0, 8, 27), (0, 8, 26), (0, 8, 25), (0, 8, 24), (0, 8, 23), (0, 8, 22), (0, 8, 21), (0, 8, 20), (0, 8, 19), (0, 8, 18), (0, 8, 17), (0, 8, 16), (0, 8, 15), (0, 8, 14), (0, 8, 13), (0, 8, 12), (0, 8, 11), (0, 8, 10), (0, 8, 9), (0, 8, 8), (0, 8, 7), (0, 8, 6), (0, 8, 5), (0, 8, 4), (0, 8, 3), (0, 8, 2), (0, 8, 1)] [] [])) hu ?_
  show zx p l e _ s m _ below meth c g 3 0 0 _ _ 42 [(2, .int 27), (0, .ref (b + 0)), (1, .int 39)] _
  refine z_aload_n B dX8_tick_42 rfl 1 rfl ?_
  refine z_cVv (As := []) (rest := []) B cw_X8_243 cx_9 dX8_tick_43 (ci_X8_passTimers_921 l (σ := (ap b σ [(0, 8, 28), (0, 8, 27), (0, 8, 26), (0, 8, 25), (0, 8, 24), (0, 8, 23), (0, 8, 22), (0, 8, 21), (0, 8, 20), (0, 8, 19), (0, 8, 18), (0, 8, 17), (0, 8, 16), (0, 8, 15), (0, 8, 14), (0, 8, 13), (0, 8, 12), (0, 8, 11), (0, 8, 10), (0, 8, 9), (0, 8, 8), (0, 8, 7), (0, 8, 6), (0, 8, 5), (0, 8, 4), (0, 8, 3), (0, 8, 2), (0, 8, 1)] [] [])) (b := b) (lyA hK) (rI_at 0 7 hI_0_7)) (lKA (hk_K hK 0 rfl rfl)) rfl (by decide) rfl (Nat.le_of_ble_eq_true rfl) (by decide) (fun u hu => ?_)
  refine z_eqs (σ' := (ap b σ [(0, 8, 28), (0, 8, 27), (0, 8, 26), (0, 8, 25), (0, 8, 24), (0, 8, 23), (0, 8, 22), (0, 8, 21), (0, 8, 20), (0, 8, 19), (0, 8, 18), (0, 8, 17), (0, 8, 16), (0, 8, 15), (0, 8, 14), (0, 8, 13), (0, 8, 12), (0, 8, 11), (0, 8, 10), (0, 8, 9), (0, 8, 8), (0, 8, 7), (0, 8, 6), (0, 8, 5), (0, 8, 4), (0, 8, 3), (0, 8, 2), (0, 8, 1)] [] [])) hu ?_
  show zx p l e _ s m _ below meth c g 3 0 0 _ _ 46 [(2, .int 27), (0, .ref (b + 0)), (1, .int 39)] _
  refine z_iinc (v := 28) (lv' := [(2, .int 28), (0, .ref (b + 0)), (1, .int 39)]) B dX8_tick_46 0 rfl (by decide) (by decide) rfl ?_
  refine z_goto (tgt := 23) B dX8_tick_49 (by decide) ?_
  refine z_iload_n B dX8_tick_23 rfl 0 rfl ?_
  refine z_iload_n B dX8_tick_24 rfl 2 rfl ?_
  refine z_icmp_ge (tgt := 52) B dX8_tick_25 (by decide) (fun h => absurd h (by decide)) (fun _ => ?_)
  refine z_aload_n B dX8_tick_28 rfl 1 rfl ?_
  refine z_dup B dX8_tick_29 rfl ?_
  refine gf_X8_206 (x := 28) B (lKA (hk_K hK 0 rfl rfl)) (rI_at 0 8 rfl) dX8_tick_30 ?_
  refine z_iconst (v := 1) B dX8_tick_33 (by decide) ?_
  refine z_iadd B dX8_tick_34 ?_
  refine z_seti (y := 29) (by decide) ?_
  refine pf_X8_206 (x := 29) (σ' := (ap b σ [(0, 8, 29), (0, 8, 28), (0, 8, 27), (0, 8, 26), (0, 8, 25), (0, 8, 24), (0, 8, 23), (0, 8, 22), (0, 8, 21), (0, 8, 20), (0, 8, 19), (0, 8, 18), (0, 8, 17), (0, 8, 16), (0, 8, 15), (0, 8, 14), (0, 8, 13), (0, 8, 12), (0, 8, 11), (0, 8, 10), (0, 8, 9), (0, 8, 8), (0, 8, 7), (0, 8, 6), (0, 8, 5), (0, 8, 4), (0, 8, 3), (0, 8, 2), (0, 8, 1)] [] [])) B (lKA (hk_K hK 0 rfl rfl)) wI_ap dX8_tick_35 ?_
  refine z_aload_n B dX8_tick_38 rfl 1 rfl ?_
  refine z_cVv (As := []) (rest := []) B cw_X8_240 cx_9 dX8_tick_39 (ci_X8_passTasks_920 l (σ := (ap b σ [(0, 8, 29), (0, 8, 28), (0, 8, 27), (0, 8, 26), (0, 8, 25), (0, 8, 24), (0, 8, 23), (0, 8, 22), (0, 8, 21), (0, 8, 20), (0, 8, 19), (0, 8, 18), (0, 8, 17), (0, 8, 16), (0, 8, 15), (0, 8, 14), (0, 8, 13), (0, 8, 12), (0, 8, 11), (0, 8, 10), (0, 8, 9), (0, 8, 8), (0, 8, 7), (0, 8, 6), (0, 8, 5), (0, 8, 4), (0, 8, 3), (0, 8, 2), (0, 8, 1)] [] [])) (b := b) (lyA hK) (rI_at 4 2 hI_4_2) (rR_at 0 3 hR_0_3)) (lKA (hk_K hK 0 rfl rfl)) rfl (by decide) rfl (Nat.le_of_ble_eq_true rfl) (by decide) (fun u hu => ?_)
  refine z_eqs (σ' := (ap b σ [(0, 8, 29), (0, 8, 28), (0, 8, 27), (0, 8, 26), (0, 8, 25), (0, 8, 24), (0, 8, 23), (0, 8, 22), (0, 8, 21), (0, 8, 20), (0, 8, 19), (0, 8, 18), (0, 8, 17), (0, 8, 16), (0, 8, 15), (0, 8, 14), (0, 8, 13), (0, 8, 12), (0, 8, 11), (0, 8, 10), (0, 8, 9), (0, 8, 8), (0, 8, 7), (0, 8, 6), (0, 8, 5), (0, 8, 4), (0, 8, 3), (0, 8, 2), (0, 8, 1)] [] [])) hu ?_
  show zx p l e _ s m _ below meth c g 3 0 0 _ _ 42 [(2, .int 28), (0, .ref (b + 0)), (1, .int 39)] _
  refine z_aload_n B dX8_tick_42 rfl 1 rfl ?_
  refine z_cVv (As := []) (rest := []) B cw_X8_243 cx_9 dX8_tick_43 (ci_X8_passTimers_921 l (σ := (ap b σ [(0, 8, 29), (0, 8, 28), (0, 8, 27), (0, 8, 26), (0, 8, 25), (0, 8, 24), (0, 8, 23), (0, 8, 22), (0, 8, 21), (0, 8, 20), (0, 8, 19), (0, 8, 18), (0, 8, 17), (0, 8, 16), (0, 8, 15), (0, 8, 14), (0, 8, 13), (0, 8, 12), (0, 8, 11), (0, 8, 10), (0, 8, 9), (0, 8, 8), (0, 8, 7), (0, 8, 6), (0, 8, 5), (0, 8, 4), (0, 8, 3), (0, 8, 2), (0, 8, 1)] [] [])) (b := b) (lyA hK) (rI_at 0 7 hI_0_7)) (lKA (hk_K hK 0 rfl rfl)) rfl (by decide) rfl (Nat.le_of_ble_eq_true rfl) (by decide) (fun u hu => ?_)
  refine z_eqs (σ' := (ap b σ [(0, 8, 29), (0, 8, 28), (0, 8, 27), (0, 8, 26), (0, 8, 25), (0, 8, 24), (0, 8, 23), (0, 8, 22), (0, 8, 21), (0, 8, 20), (0, 8, 19), (0, 8, 18), (0, 8, 17), (0, 8, 16), (0, 8, 15), (0, 8, 14), (0, 8, 13), (0, 8, 12), (0, 8, 11), (0, 8, 10), (0, 8, 9), (0, 8, 8), (0, 8, 7), (0, 8, 6), (0, 8, 5), (0, 8, 4), (0, 8, 3), (0, 8, 2), (0, 8, 1)] [] [])) hu ?_
  show zx p l e _ s m _ below meth c g 3 0 0 _ _ 46 [(2, .int 28), (0, .ref (b + 0)), (1, .int 39)] _
  refine z_iinc (v := 29) (lv' := [(2, .int 29), (0, .ref (b + 0)), (1, .int 39)]) B dX8_tick_46 0 rfl (by decide) (by decide) rfl ?_
  refine z_goto (tgt := 23) B dX8_tick_49 (by decide) ?_
  refine z_iload_n B dX8_tick_23 rfl 0 rfl ?_
  refine z_iload_n B dX8_tick_24 rfl 2 rfl ?_
  refine z_icmp_ge (tgt := 52) B dX8_tick_25 (by decide) (fun h => absurd h (by decide)) (fun _ => ?_)
  refine z_aload_n B dX8_tick_28 rfl 1 rfl ?_
  refine z_dup B dX8_tick_29 rfl ?_
  refine gf_X8_206 (x := 29) B (lKA (hk_K hK 0 rfl rfl)) (rI_at 0 8 rfl) dX8_tick_30 ?_
  refine z_iconst (v := 1) B dX8_tick_33 (by decide) ?_
  refine z_iadd B dX8_tick_34 ?_
  refine z_seti (y := 30) (by decide) ?_
  refine pf_X8_206 (x := 30) (σ' := (ap b σ [(0, 8, 30), (0, 8, 29), (0, 8, 28), (0, 8, 27), (0, 8, 26), (0, 8, 25), (0, 8, 24), (0, 8, 23), (0, 8, 22), (0, 8, 21), (0, 8, 20), (0, 8, 19), (0, 8, 18), (0, 8, 17), (0, 8, 16), (0, 8, 15), (0, 8, 14), (0, 8, 13), (0, 8, 12), (0, 8, 11), (0, 8, 10), (0, 8, 9), (0, 8, 8), (0, 8, 7), (0, 8, 6), (0, 8, 5), (0, 8, 4), (0, 8, 3), (0, 8, 2), (0, 8, 1)] [] [])) B (lKA (hk_K hK 0 rfl rfl)) wI_ap dX8_tick_35 ?_
  refine z_aload_n B dX8_tick_38 rfl 1 rfl ?_
  refine z_cVv (As := []) (rest := []) B cw_X8_240 cx_9 dX8_tick_39 (ci_X8_passTasks_920 l (σ := (ap b σ [(0, 8, 30), (0, 8, 29), (0, 8, 28), (0, 8, 27), (0, 8, 26), (0, 8, 25), (0, 8, 24), (0, 8, 23), (0, 8, 22), (0, 8, 21), (0, 8, 20), (0, 8, 19), (0, 8, 18), (0, 8, 17), (0, 8, 16), (0, 8, 15), (0, 8, 14), (0, 8, 13), (0, 8, 12), (0, 8, 11), (0, 8, 10), (0, 8, 9), (0, 8, 8), (0, 8, 7), (0, 8, 6), (0, 8, 5), (0, 8, 4), (0, 8, 3), (0, 8, 2), (0, 8, 1)] [] [])) (b := b) (lyA hK) (rI_at 4 2 hI_4_2) (rR_at 0 3 hR_0_3)) (lKA (hk_K hK 0 rfl rfl)) rfl (by decide) rfl (Nat.le_of_ble_eq_true rfl) (by decide) (fun u hu => ?_)
  refine z_eqs (σ' := (ap b σ [(0, 8, 30), (0, 8, 29), (0, 8, 28), (0, 8, 27), (0, 8, 26), (0, 8, 25), (0, 8, 24), (0, 8, 23), (0, 8, 22), (0, 8, 21), (0, 8, 20), (0, 8, 19), (0, 8, 18), (0, 8, 17), (0, 8, 16), (0, 8, 15), (0, 8, 14), (0, 8, 13), (0, 8, 12), (0, 8, 11), (0, 8, 10), (0, 8, 9), (0, 8, 8), (0, 8, 7), (0, 8, 6), (0, 8, 5), (0, 8, 4), (0, 8, 3), (0, 8, 2), (0, 8, 1)] [] [])) hu ?_
  show zx p l e _ s m _ below meth c g 3 0 0 _ _ 42 [(2, .int 29), (0, .ref (b + 0)), (1, .int 39)] _
  refine z_aload_n B dX8_tick_42 rfl 1 rfl ?_
  refine z_cVv (As := []) (rest := []) B cw_X8_243 cx_9 dX8_tick_43 (ci_X8_passTimers_921 l (σ := (ap b σ [(0, 8, 30), (0, 8, 29), (0, 8, 28), (0, 8, 27), (0, 8, 26), (0, 8, 25), (0, 8, 24), (0, 8, 23), (0, 8, 22), (0, 8, 21), (0, 8, 20), (0, 8, 19), (0, 8, 18), (0, 8, 17), (0, 8, 16), (0, 8, 15), (0, 8, 14), (0, 8, 13), (0, 8, 12), (0, 8, 11), (0, 8, 10), (0, 8, 9), (0, 8, 8), (0, 8, 7), (0, 8, 6), (0, 8, 5), (0, 8, 4), (0, 8, 3), (0, 8, 2), (0, 8, 1)] [] [])) (b := b) (lyA hK) (rI_at 0 7 hI_0_7)) (lKA (hk_K hK 0 rfl rfl)) rfl (by decide) rfl (Nat.le_of_ble_eq_true rfl) (by decide) (fun u hu => ?_)
  refine z_eqs (σ' := (ap b σ [(0, 8, 30), (0, 8, 29), (0, 8, 28), (0, 8, 27), (0, 8, 26), (0, 8, 25), (0, 8, 24), (0, 8, 23), (0, 8, 22), (0, 8, 21), (0, 8, 20), (0, 8, 19), (0, 8, 18), (0, 8, 17), (0, 8, 16), (0, 8, 15), (0, 8, 14), (0, 8, 13), (0, 8, 12), (0, 8, 11), (0, 8, 10), (0, 8, 9), (0, 8, 8), (0, 8, 7), (0, 8, 6), (0, 8, 5), (0, 8, 4), (0, 8, 3), (0, 8, 2), (0, 8, 1)] [] [])) hu ?_
  show zx p l e _ s m _ below meth c g 3 0 0 _ _ 46 [(2, .int 29), (0, .ref (b + 0)), (1, .int 39)] _
  refine z_iinc (v := 30) (lv' := [(2, .int 30), (0, .ref (b + 0)), (1, .int 39)]) B dX8_tick_46 0 rfl (by decide) (by decide) rfl ?_
  refine z_goto (tgt := 23) B dX8_tick_49 (by decide) ?_
  refine z_iload_n B dX8_tick_23 rfl 0 rfl ?_
  refine z_iload_n B dX8_tick_24 rfl 2 rfl ?_
  refine z_icmp_ge (tgt := 52) B dX8_tick_25 (by decide) (fun h => absurd h (by decide)) (fun _ => ?_)
  refine z_aload_n B dX8_tick_28 rfl 1 rfl ?_
  refine z_dup B dX8_tick_29 rfl ?_
  refine gf_X8_206 (x := 30) B (lKA (hk_K hK 0 rfl rfl)) (rI_at 0 8 rfl) dX8_tick_30 ?_
  refine z_iconst (v := 1) B dX8_tick_33 (by decide) ?_
  refine z_iadd B dX8_tick_34 ?_
  refine z_seti (y := 31) (by decide) ?_
  refine pf_X8_206 (x := 31) (σ' := (ap b σ [(0, 8, 31), (0, 8, 30), (0, 8, 29), (0, 8, 28), (0, 8, 27), (0, 8, 26), (0, 8, 25), (0, 8, 24), (0, 8, 23), (0, 8, 22), (0, 8, 21), (0, 8, 20), (0, 8, 19), (0, 8, 18), (0, 8, 17), (0, 8, 16), (0, 8, 15), (0, 8, 14), (0, 8, 13), (0, 8, 12), (0, 8, 11), (0, 8, 10), (0, 8, 9), (0, 8, 8), (0, 8, 7), (0, 8, 6), (0, 8, 5), (0, 8, 4), (0, 8, 3), (0, 8, 2), (0, 8, 1)] [] [])) B (lKA (hk_K hK 0 rfl rfl)) wI_ap dX8_tick_35 ?_
  refine z_aload_n B dX8_tick_38 rfl 1 rfl ?_
  refine z_cVv (As := []) (rest := []) B cw_X8_240 cx_9 dX8_tick_39 (ci_X8_passTasks_920 l (σ := (ap b σ [(0, 8, 31), (0, 8, 30), (0, 8, 29), (0, 8, 28), (0, 8, 27), (0, 8, 26), (0, 8, 25), (0, 8, 24), (0, 8, 23), (0, 8, 22), (0, 8, 21), (0, 8, 20), (0, 8, 19), (0, 8, 18), (0, 8, 17), (0, 8, 16), (0, 8, 15), (0, 8, 14), (0, 8, 13), (0, 8, 12), (0, 8, 11), (0, 8, 10), (0, 8, 9), (0, 8, 8), (0, 8, 7), (0, 8, 6), (0, 8, 5), (0, 8, 4), (0, 8, 3), (0, 8, 2), (0, 8, 1)] [] [])) (b := b) (lyA hK) (rI_at 4 2 hI_4_2) (rR_at 0 3 hR_0_3)) (lKA (hk_K hK 0 rfl rfl)) rfl (by decide) rfl (Nat.le_of_ble_eq_true rfl) (by decide) (fun u hu => ?_)
  refine z_eqs (σ' := (ap b σ [(0, 8, 31), (0, 8, 30), (0, 8, 29), (0, 8, 28), (0, 8, 27), (0, 8, 26), (0, 8, 25), (0, 8, 24), (0, 8, 23), (0, 8, 22), (0, 8, 21), (0, 8, 20), (0, 8, 19), (0, 8, 18), (0, 8, 17), (0, 8, 16), (0, 8, 15), (0, 8, 14), (0, 8, 13), (0, 8, 12), (0, 8, 11), (0, 8, 10), (0, 8, 9), (0, 8, 8), (0, 8, 7), (0, 8, 6), (0, 8, 5), (0, 8, 4), (0, 8, 3), (0, 8, 2), (0, 8, 1)] [] [])) hu ?_
  show zx p l e _ s m _ below meth c g 3 0 0 _ _ 42 [(2, .int 30), (0, .ref (b + 0)), (1, .int 39)] _
  refine z_aload_n B dX8_tick_42 rfl 1 rfl ?_
  refine z_cVv (As := []) (rest := []) B cw_X8_243 cx_9 dX8_tick_43 (ci_X8_passTimers_921 l (σ := (ap b σ [(0, 8, 31), (0, 8, 30), (0, 8, 29), (0, 8, 28), (0, 8, 27), (0, 8, 26), (0, 8, 25), (0, 8, 24), (0, 8, 23), (0, 8, 22), (0, 8, 21), (0, 8, 20), (0, 8, 19), (0, 8, 18), (0, 8, 17), (0, 8, 16), (0, 8, 15), (0, 8, 14), (0, 8, 13), (0, 8, 12), (0, 8, 11), (0, 8, 10), (0, 8, 9), (0, 8, 8), (0, 8, 7), (0, 8, 6), (0, 8, 5), (0, 8, 4), (0, 8, 3), (0, 8, 2), (0, 8, 1)] [] [])) (b := b) (lyA hK) (rI_at 0 7 hI_0_7)) (lKA (hk_K hK 0 rfl rfl)) rfl (by decide) rfl (Nat.le_of_ble_eq_true rfl) (by decide) (fun u hu => ?_)
  refine z_eqs (σ' := (ap b σ [(0, 8, 31), (0, 8, 30), (0, 8, 29), (0, 8, 28), (0, 8, 27), (0, 8, 26), (0, 8, 25), (0, 8, 24), (0, 8, 23), (0, 8, 22), (0, 8, 21), (0, 8, 20), (0, 8, 19), (0, 8, 18), (0, 8, 17), (0, 8, 16), (0, 8, 15), (0, 8, 14), (0, 8, 13), (0, 8, 12), (0, 8, 11), (0, 8, 10), (0, 8, 9), (0, 8, 8), (0, 8, 7), (0, 8, 6), (0, 8, 5), (0, 8, 4), (0, 8, 3), (0, 8, 2), (0, 8, 1)] [] [])) hu ?_
  show zx p l e _ s m _ below meth c g 3 0 0 _ _ 46 [(2, .int 30), (0, .ref (b + 0)), (1, .int 39)] _
  refine z_iinc (v := 31) (lv' := [(2, .int 31), (0, .ref (b + 0)), (1, .int 39)]) B dX8_tick_46 0 rfl (by decide) (by decide) rfl ?_
  refine z_goto (tgt := 23) B dX8_tick_49 (by decide) ?_
  refine z_iload_n B dX8_tick_23 rfl 0 rfl ?_
  refine z_iload_n B dX8_tick_24 rfl 2 rfl ?_
  refine z_icmp_ge (tgt := 52) B dX8_tick_25 (by decide) (fun h => absurd h (by decide)) (fun _ => ?_)
  refine z_aload_n B dX8_tick_28 rfl 1 rfl ?_
  refine z_dup B dX8_tick_29 rfl ?_
  refine gf_X8_206 (x := 31) B (lKA (hk_K hK 0 rfl rfl)) (rI_at 0 8 rfl) dX8_tick_30 ?_
  refine z_iconst (v := 1) B dX8_tick_33 (by decide) ?_
  refine z_iadd B dX8_tick_34 ?_
  refine z_seti (y := 32) (by decide) ?_
  refine pf_X8_206 (x := 32) (σ' := (ap b σ [(0, 8, 32), (0, 8, 31), (0, 8, 30), (0, 8, 29), (0, 8, 28), (0, 8, 27), (0, 8, 26), (0, 8, 25), (0, 8, 24), (0, 8, 23), (0, 8, 22), (0, 8, 21), (0, 8, 20), (0, 8, 19), (0, 8, 18), (0, 8, 17), (0, 8, 16), (0, 8, 15), (0, 8, 14), (0, 8, 13), (0, 8, 12), (0, 8, 11), (0, 8, 10), (0, 8, 9), (0, 8, 8), (0, 8, 7), (0, 8, 6), (0, 8, 5), (0, 8, 4), (0, 8, 3), (0, 8, 2), (0, 8, 1)] [] [])) B (lKA (hk_K hK 0 rfl rfl)) wI_ap dX8_tick_35 ?_
  refine z_aload_n B dX8_tick_38 rfl 1 rfl ?_
  refine z_cVv (As := []) (rest := []) B cw_X8_240 cx_9 dX8_tick_39 (ci_X8_passTasks_920 l (σ := (ap b σ [(0, 8, 32), (0, 8, 31), (0, 8, 30), (0, 8, 29), (0, 8, 28), (0, 8, 27), (0, 8, 26), (0, 8, 25), (0, 8, 24), (0, 8, 23), (0, 8, 22), (0, 8, 21), (0, 8, 20), (0, 8, 19), (0, 8, 18), (0, 8, 17), (0, 8, 16), (0, 8, 15), (0, 8, 14), (0, 8, 13), (0, 8, 12), (0, 8, 11), (0, 8, 10), (0, 8, 9), (0, 8, 8), (0, 8, 7), (0, 8, 6), (0, 8, 5), (0, 8, 4), (0, 8, 3), (0, 8, 2), (0, 8, 1)] [] [])) (b := b) (lyA hK) (rI_at 4 2 hI_4_2) (rR_at 0 3 hR_0_3)) (lKA (hk_K hK 0 rfl rfl)) rfl (by decide) rfl (Nat.le_of_ble_eq_true rfl) (by decide) (fun u hu => ?_)
  refine z_eqs (σ' := (ap b σ [(0, 8, 32), (0, 8, 31), (0, 8, 30), (0, 8, 29), (0, 8, 28), (0, 8, 27), (0, 8, 26), (0, 8, 25), (0, 8, 24), (0, 8, 23), (0, 8, 22), (0, 8, 21), (0, 8, 20), (0, 8, 19), (0, 8, 18), (0, 8, 17), (0, 8, 16), (0, 8, 15), (0, 8, 14), (0, 8, 13), (0, 8, 12), (0, 8, 11), (0, 8, 10), (0, 8, 9), (0, 8, 8), (0, 8, 7), (0, 8, 6), (0, 8, 5), (0, 8, 4), (0, 8, 3), (0, 8, 2), (0, 8, 1)] [] [])) hu ?_
  show zx p l e _ s m _ below meth c g 3 0 0 _ _ 42 [(2, .int 31), (0, .ref (b + 0)), (1, .int 39)] _
  refine z_aload_n B dX8_tick_42 rfl 1 rfl ?_
  refine z_cVv (As := []) (rest := []) B cw_X8_243 cx_9 dX8_tick_43 (ci_X8_passTimers_921 l (σ := (ap b σ [(0, 8, 32), (0, 8, 31), (0, 8, 30), (0, 8, 29), (0, 8, 28), (0, 8, 27), (0, 8, 26), (0, 8, 25), (0, 8, 24), (0, 8, 23), (0, 8, 22), (0, 8, 21), (0, 8, 20), (0, 8, 19), (0, 8, 18), (0, 8, 17), (0, 8, 16), (0, 8, 15), (0, 8, 14), (0, 8, 13), (0, 8, 12), (0, 8, 11), (0, 8, 10), (0, 8, 9), (0, 8, 8), (0, 8, 7), (0, 8, 6), (0, 8, 5), (0, 8, 4), (0, 8, 3), (0, 8, 2), (0, 8, 1)] [] [])) (b := b) (lyA hK) (rI_at 0 7 hI_0_7)) (lKA (hk_K hK 0 rfl rfl)) rfl (by decide) rfl (Nat.le_of_ble_eq_true rfl) (by decide) (fun u hu => ?_)
  refine z_eqs (σ' := (ap b σ [(0, 8, 32), (0, 8, 31), (0, 8, 30), (0, 8, 29), (0, 8, 28), (0, 8, 27), (0, 8, 26), (0, 8, 25), (0, 8, 24), (0, 8, 23), (0, 8, 22), (0, 8, 21), (0, 8, 20), (0, 8, 19), (0, 8, 18), (0, 8, 17), (0, 8, 16), (0, 8, 15), (0, 8, 14), (0, 8, 13), (0, 8, 12), (0, 8, 11), (0, 8, 10), (0, 8, 9), (0, 8, 8), (0, 8, 7), (0, 8, 6), (0, 8, 5), (0, 8, 4), (0, 8, 3), (0, 8, 2), (0, 8, 1)] [] [])) hu ?_
  show zx p l e _ s m _ below meth c g 3 0 0 _ _ 46 [(2, .int 31), (0, .ref (b + 0)), (1, .int 39)] _
  refine z_iinc (v := 32) (lv' := [(2, .int 32), (0, .ref (b + 0)), (1, .int 39)]) B dX8_tick_46 0 rfl (by decide) (by decide) rfl ?_
  refine z_goto (tgt := 23) B dX8_tick_49 (by decide) ?_
  refine z_iload_n B dX8_tick_23 rfl 0 rfl ?_
  refine z_iload_n B dX8_tick_24 rfl 2 rfl ?_
  refine z_icmp_ge (tgt := 52) B dX8_tick_25 (by decide) (fun h => absurd h (by decide)) (fun _ => ?_)
  refine z_aload_n B dX8_tick_28 rfl 1 rfl ?_
  refine z_dup B dX8_tick_29 rfl ?_
  refine gf_X8_206 (x := 32) B (lKA (hk_K hK 0 rfl rfl)) (rI_at 0 8 rfl) dX8_tick_30 ?_
  refine z_iconst (v := 1) B dX8_tick_33 (by decide) ?_
  refine z_iadd B dX8_tick_34 ?_
  refine z_seti (y := 33) (by decide) ?_
  refine pf_X8_206 (x := 33) (σ' := (ap b σ [(0, 8, 33), (0, 8, 32), (0, 8, 31), (0, 8, 30), (0, 8, 29), (0, 8, 28), (0, 8, 27), (0, 8, 26), (0, 8, 25), (0, 8, 24), (0, 8, 23), (0, 8, 22), (0, 8, 21), (0, 8, 20), (0, 8, 19), (0, 8, 18), (0, 8, 17), (0, 8, 16), (0, 8, 15), (0, 8, 14), (0, 8, 13), (0, 8, 12), (0, 8, 11), (0, 8, 10), (0, 8, 9), (0, 8, 8), (0, 8, 7), (0, 8, 6), (0, 8, 5), (0, 8, 4), (0, 8, 3), (0, 8, 2), (0, 8, 1)] [] [])) B (lKA (hk_K hK 0 rfl rfl)) wI_ap dX8_tick_35 ?_
  refine z_aload_n B dX8_tick_38 rfl 1 rfl ?_
  refine z_cVv (As := []) (rest := []) B cw_X8_240 cx_9 dX8_tick_39 (ci_X8_passTasks_920 l (σ := (ap b σ [(0, 8, 33), (0, 8, 32), (0, 8, 31), (0, 8, 30), (0, 8, 29), (0, 8, 28), (0, 8, 27), (0, 8, 26), (0, 8, 25), (0, 8, 24), (0, 8, 23), (0, 8, 22), (0, 8, 21), (0, 8, 20), (0, 8, 19), (0, 8, 18), (0, 8, 17), (0, 8, 16), (0, 8, 15), (0, 8, 14), (0, 8, 13), (0, 8, 12), (0, 8, 11), (0, 8, 10), (0, 8, 9), (0, 8, 8), (0, 8, 7), (0, 8, 6), (0, 8, 5), (0, 8, 4), (0, 8, 3), (0, 8, 2), (0, 8, 1)] [] [])) (b := b) (lyA hK) (rI_at 4 2 hI_4_2) (rR_at 0 3 hR_0_3)) (lKA (hk_K hK 0 rfl rfl)) rfl (by decide) rfl (Nat.le_of_ble_eq_true rfl) (by decide) (fun u hu => ?_)
  refine z_eqs (σ' := (ap b σ [(0, 8, 33), (0, 8, 32), (0, 8, 31), (0, 8, 30), (0, 8, 29), (0, 8, 28), (0, 8, 27), (0, 8, 26), (0, 8, 25), (0, 8, 24), (0, 8, 23), (0, 8, 22), (0, 8, 21), (0, 8, 20), (0, 8, 19), (0, 8, 18), (0, 8, 17), (0, 8, 16), (0, 8, 15), (0, 8, 14), (0, 8, 13), (0, 8, 12), (0, 8, 11), (0, 8, 10), (0, 8, 9), (0, 8, 8), (0, 8, 7), (0, 8, 6), (0, 8, 5), (0, 8, 4), (0, 8, 3), (0, 8, 2), (0, 8, 1)] [] [])) hu ?_
  show zx p l e _ s m _ below meth c g 3 0 0 _ _ 42 [(2, .int 32), (0, .ref (b + 0)), (1, .int 39)] _
  refine z_aload_n B dX8_tick_42 rfl 1 rfl ?_
  refine z_cVv (As := []) (rest := []) B cw_X8_243 cx_9 dX8_tick_43 (ci_X8_passTimers_921 l (σ := (ap b σ [(0, 8, 33), (0, 8, 32), (0, 8, 31), (0, 8, 30), (0, 8, 29), (0, 8, 28), (0, 8, 27), (0, 8, 26), (0, 8, 25), (0, 8, 24), (0, 8, 23), (0, 8, 22), (0, 8, 21), (0, 8, 20), (0, 8, 19), (0, 8, 18), (0, 8, 17), (0, 8, 16), (0, 8, 15), (0, 8, 14), (0, 8, 13), (0, 8, 12), (0, 8, 11), (0, 8, 10), (0, 8, 9), (0, 8, 8), (0, 8, 7), (0, 8, 6), (0, 8, 5), (0, 8, 4), (0, 8, 3), (0, 8, 2), (0, 8, 1)] [] [])) (b := b) (lyA hK) (rI_at 0 7 hI_0_7)) (lKA (hk_K hK 0 rfl rfl)) rfl (by decide) rfl (Nat.le_of_ble_eq_true rfl) (by decide) (fun u hu => ?_)
  refine z_eqs (σ' := (ap b σ [(0, 8, 33), (0, 8, 32), (0, 8, 31), (0, 8, 30), (0, 8, 29), (0, 8, 28), (0, 8, 27), (0, 8, 26), (0, 8, 25), (0, 8, 24), (0, 8, 23), (0, 8, 22), (0, 8, 21), (0, 8, 20), (0, 8, 19), (0, 8, 18), (0, 8, 17), (0, 8, 16), (0, 8, 15), (0, 8, 14), (0, 8, 13), (0, 8, 12), (0, 8, 11), (0, 8, 10), (0, 8, 9), (0, 8, 8), (0, 8, 7), (0, 8, 6), (0, 8, 5), (0, 8, 4), (0, 8, 3), (0, 8, 2), (0, 8, 1)] [] [])) hu ?_
  show zx p l e _ s m _ below meth c g 3 0 0 _ _ 46 [(2, .int 32), (0, .ref (b + 0)), (1, .int 39)] _
  refine z_iinc (v := 33) (lv' := [(2, .int 33), (0, .ref (b + 0)), (1, .int 39)]) B dX8_tick_46 0 rfl (by decide) (by decide) rfl ?_
  refine z_goto (tgt := 23) B dX8_tick_49 (by decide) ?_
  refine z_iload_n B dX8_tick_23 rfl 0 rfl ?_
  refine z_iload_n B dX8_tick_24 rfl 2 rfl ?_
  refine z_icmp_ge (tgt := 52) B dX8_tick_25 (by decide) (fun h => absurd h (by decide)) (fun _ => ?_)
  refine z_aload_n B dX8_tick_28 rfl 1 rfl ?_
  refine z_dup B dX8_tick_29 rfl ?_
  refine gf_X8_206 (x := 33) B (lKA (hk_K hK 0 rfl rfl)) (rI_at 0 8 rfl) dX8_tick_30 ?_
  refine z_iconst (v := 1) B dX8_tick_33 (by decide) ?_
  refine z_iadd B dX8_tick_34 ?_
  refine z_seti (y := 34) (by decide) ?_
  refine pf_X8_206 (x := 34) (σ' := (ap b σ [(0, 8, 34), (0, 8, 33), (0, 8, 32), (0, 8, 31), (0, 8, 30), (0, 8, 29), (0, 8, 28), (0, 8, 27), (0, 8, 26), (0, 8, 25), (0, 8, 24), (0, 8, 23), (0, 8, 22), (0, 8, 21), (0, 8, 20), (0, 8, 19), (0, 8, 18), (0, 8, 17), (0, 8, 16), (0, 8, 15), (0, 8, 14), (0, 8, 13), (0, 8, 12), (0, 8, 11), (0, 8, 10), (0, 8, 9), (0, 8, 8), (0, 8, 7), (0, 8, 6), (0, 8, 5), (0, 8, 4), (0, 8, 3), (0, 8, 2), (0, 8, 1)] [] [])) B (lKA (hk_K hK 0 rfl rfl)) wI_ap dX8_tick_35 ?_
  refine z_aload_n B dX8_tick_38 rfl 1 rfl ?_
  refine z_cVv (As := []) (rest := []) B cw_X8_240 cx_9 dX8_tick_39 (ci_X8_passTasks_920 l (σ := (ap b σ [(0, 8, 34), (0, 8, 33), (0, 8, 32), (0, 8, 31), (0, 8, 30), (0, 8, 29), (0, 8, 28), (0, 8, 27), (0, 8, 26), (0, 8, 25), (0, 8, 24), (0, 8, 23), (0, 8, 22), (0, 8, 21), (0, 8, 20), (0, 8, 19), (0, 8, 18), (0, 8, 17), (0, 8, 16), (0, 8, 15), (0, 8, 14), (0, 8, 13), (0, 8, 12), (0, 8, 11), (0, 8, 10), (0, 8, 9), (0, 8, 8), (0, 8, 7), (0, 8, 6), (0, 8, 5), (0, 8, 4), (0, 8, 3), (0, 8, 2), (0, 8, 1)] [] [])) (b := b) (lyA hK) (rI_at 4 2 hI_4_2) (rR_at 0 3 hR_0_3)) (lKA (hk_K hK 0 rfl rfl)) rfl (by decide) rfl (Nat.le_of_ble_eq_true rfl) (by decide) (fun u hu => ?_)
  refine z_eqs (σ' := (ap b σ [(0, 8, 34), (0, 8, 33), (0, 8, 32), (0, 8, 31), (0, 8, 30), (0, 8, 29), (0, 8, 28), (0, 8, 27), (0, 8, 26), (0, 8, 25), (0, 8, 24), (0, 8, 23), (0, 8, 22), (0, 8, 21), (0, 8, 20), (0, 8, 19), (0, 8, 18), (0, 8, 17), (0, 8, 16), (0, 8, 15), (0, 8, 14), (0, 8, 13), (0, 8, 12), (0, 8, 11), (0, 8, 10), (0, 8, 9), (0, 8, 8), (0, 8, 7), (0, 8, 6), (0, 8, 5), (0, 8, 4), (0, 8, 3), (0, 8, 2), (0, 8, 1)] [] [])) hu ?_
  show zx p l e _ s m _ below meth c g 3 0 0 _ _ 42 [(2, .int 33), (0, .ref (b + 0)), (1, .int 39)] _
  refine z_aload_n B dX8_tick_42 rfl 1 rfl ?_
  refine z_cVv (As := []) (rest := []) B cw_X8_243 cx_9 dX8_tick_43 (ci_X8_passTimers_921 l (σ := (ap b σ [(0, 8, 34), (0, 8, 33), (0, 8, 32), (0, 8, 31), (0, 8, 30), (0, 8, 29), (0, 8, 28), (0, 8, 27), (0, 8, 26), (0, 8, 25), (0, 8, 24), (0, 8, 23), (0, 8, 22), (0, 8, 21), (0, 8, 20), (0, 8, 19), (0, 8, 18), (0, 8, 17), (0, 8, 16), (0, 8, 15), (0, 8, 14), (0, 8, 13), (0, 8, 12), (0, 8, 11), (0, 8, 10), (0, 8, 9), (0, 8, 8), (0, 8, 7), (0, 8, 6), (0, 8, 5), (0, 8, 4), (0, 8, 3), (0, 8, 2), (0, 8, 1)] [] [])) (b := b) (lyA hK) (rI_at 0 7 hI_0_7)) (lKA (hk_K hK 0 rfl rfl)) rfl (by decide) rfl (Nat.le_of_ble_eq_true rfl) (by decide) (fun u hu => ?_)
  refine z_eqs (σ' := (ap b σ [(0, 8, 34), (0, 8, 33), (0, 8, 32), (0, 8, 31), (0, 8, 30), (0, 8, 29), (0, 8, 28), (0, 8, 27), (0, 8, 26), (0, 8, 25), (0, 8, 24), (0, 8, 23), (0, 8, 22), (0, 8, 21), (0, 8, 20), (0, 8, 19), (0, 8, 18), (0, 8, 17), (0, 8, 16), (0, 8, 15), (0, 8, 14), (0, 8, 13), (0, 8, 12), (0, 8, 11), (0, 8, 10), (0, 8, 9), (0, 8, 8), (0, 8, 7), (0, 8, 6), (0, 8, 5), (0, 8, 4), (0, 8, 3), (0, 8, 2), (0, 8, 1)] [] [])) hu ?_
  show zx p l e _ s m _ below meth c g 3 0 0 _ _ 46 [(2, .int 33), (0, .ref (b + 0)), (1, .int 39)] _
  refine z_iinc (v := 34) (lv' := [(2, .int 34), (0, .ref (b + 0)), (1, .int 39)]) B dX8_tick_46 0 rfl (by decide) (by decide) rfl ?_
  refine z_goto (tgt := 23) B dX8_tick_49 (by decide) ?_
  refine z_iload_n B dX8_tick_23 rfl 0 rfl ?_
  refine z_iload_n B dX8_tick_24 rfl 2 rfl ?_
  refine z_icmp_ge (tgt := 52) B dX8_tick_25 (by decide) (fun h => absurd h (by decide)) (fun _ => ?_)
  refine z_aload_n B dX8_tick_28 rfl 1 rfl ?_
  refine z_dup B dX8_tick_29 rfl ?_
  refine gf_X8_206 (x := 34) B (lKA (hk_K hK 0 rfl rfl)) (rI_at 0 8 rfl) dX8_tick_30 ?_
  refine z_iconst (v := 1) B dX8_tick_33 (by decide) ?_
  refine z_iadd B dX8_tick_34 ?_
  refine z_seti (y := 35) (by decide) ?_
  refine pf_X8_206 (x := 35) (σ' := (ap b σ [(0, 8, 35), (0, 8, 34), (0, 8, 33), (0, 8, 32), (0, 8, 31), (0, 8, 30), (0, 8, 29), (0, 8, 28), (0, 8, 27), (0, 8, 26), (0, 8, 25), (0, 8, 24), (0, 8, 23), (0, 8, 22), (0, 8, 21), (0, 8, 20), (0, 8, 19), (0, 8, 18), (0, 8, 17), (0, 8, 16), (0, 8, 15), (0, 8, 14), (0, 8, 13), (0, 8, 12), (0, 8, 11), (0, 8, 10), (0, 8, 9), (0, 8, 8), (0, 8, 7), (0, 8, 6), (0, 8, 5), (0, 8, 4), (0, 8, 3), (0, 8, 2), (0, 8, 1)] [] [])) B (lKA (hk_K hK 0 rfl rfl)) wI_ap dX8_tick_35 ?_
  refine z_aload_n B dX8_tick_38 rfl 1 rfl ?_
  refine z_cVv (As := []) (rest := []) B cw_X8_240 cx_9 dX8_tick_39 (ci_X8_passTasks_920 l (σ := (ap b σ [(0, 8, 35), (0, 8, 34), (0, 8, 33), (0, 8, 32), (0, 8, 31), (0, 8, 30), (0, 8, 29), (0, 8, 28), (0, 8, 27), (0, 8, 26), (0, 8, 25), (0, 8, 24), (0, 8, 23), (0, 8, 22), (0, 8, 21), (0, 8, 20), (0, 8, 19), (0, 8, 18), (0, 8, 17), (0, 8, 16), (0, 8, 15), (0, 8, 14), (0, 8, 13), (0, 8, 12), (0, 8, 11), (0, 8, 10), (0, 8, 9), (0, 8, 8), (0, 8, 7), (0, 8, 6), (0, 8, 5), (0, 8, 4), (0, 8, 3), (0, 8, 2), (0, 8, 1)] [] [])) (b := b) (lyA hK) (rI_at 4 2 hI_4_2) (rR_at 0 3 hR_0_3)) (lKA (hk_K hK 0 rfl rfl)) rfl (by decide) rfl (Nat.le_of_ble_eq_true rfl) (by decide) (fun u hu => ?_)
  refine z_eqs (σ' := (ap b σ [(0, 8, 35), (0, 8, 34), (0, 8, 33), (0, 8, 32), (0, 8, 31), (0, 8, 30), (0, 8, 29), (0, 8, 28), (0, 8, 27), (0, 8, 26), (0, 8, 25), (0, 8, 24), (0, 8, 23), (0, 8, 22), (0, 8, 21), (0, 8, 20), (0, 8, 19), (0, 8, 18), (0, 8, 17), (0, 8, 16), (0, 8, 15), (0, 8, 14), (0, 8, 13), (0, 8, 12), (0, 8, 11), (0, 8, 10), (0, 8, 9), (0, 8, 8), (0, 8, 7), (0, 8, 6), (0, 8, 5), (0, 8, 4), (0, 8, 3), (0, 8, 2), (0, 8, 1)] [] [])) hu ?_
  show zx p l e _ s m _ below meth c g 3 0 0 _ _ 42 [(2, .int 34), (0, .ref (b + 0)), (1, .int 39)] _
  refine z_aload_n B dX8_tick_42 rfl 1 rfl ?_
  refine z_cVv (As := []) (rest := []) B cw_X8_243 cx_9 dX8_tick_43 (ci_X8_passTimers_921 l (σ := (ap b σ [(0, 8, 35), (0, 8, 34), (0, 8, 33), (0, 8, 32), (0, 8, 31), (0, 8, 30), (0, 8, 29), (0, 8, 28), (0, 8, 27), (0, 8, 26), (0, 8, 25), (0, 8, 24), (0, 8, 23), (0, 8, 22), (0, 8, 21), (0, 8, 20), (0, 8, 19), (0, 8, 18), (0, 8, 17), (0, 8, 16), (0, 8, 15), (0, 8, 14), (0, 8, 13), (0, 8, 12), (0, 8, 11), (0, 8, 10), (0, 8, 9), (0, 8, 8), (0, 8, 7), (0, 8, 6), (0, 8, 5), (0, 8, 4), (0, 8, 3), (0, 8, 2), (0, 8, 1)] [] [])) (b := b) (lyA hK) (rI_at 0 7 hI_0_7)) (lKA (hk_K hK 0 rfl rfl)) rfl (by decide) rfl (Nat.le_of_ble_eq_true rfl) (by decide) (fun u hu => ?_)
  refine z_eqs (σ' := (ap b σ [(0, 8, 35), (0, 8, 34), (0, 8, 33), (0, 8, 32), (0, 8, 31), (0, 8, 30), (0, 8, 29), (0, 8, 28), (0, 8, 27), (0, 8, 26), (0, 8, 25), (0, 8, 24), (0, 8, 23), (0, 8, 22), (0, 8, 21), (0, 8, 20), (0, 8, 19), (0, 8, 18), (0, 8, 17), (0, 8, 16), (0, 8, 15), (0, 8, 14), (0, 8, 13), (0, 8, 12), (0, 8, 11), (0, 8, 10), (0, 8, 9), (0, 8, 8), (0, 8, 7), (0, 8, 6), (0, 8, 5), (0, 8, 4), (0, 8, 3), (0, 8, 2), (0, 8, 1)] [] [])) hu ?_
  show zx p l e _ s m _ below meth c g 3 0 0 _ _ 46 [(2, .int 34), (0, .ref (b + 0)), (1, .int 39)] _
  refine z_iinc (v := 35) (lv' := [(2, .int 35), (0, .ref (b + 0)), (1, .int 39)]) B dX8_tick_46 0 rfl (by decide) (by decide) rfl ?_
  refine z_goto (tgt := 23) B dX8_tick_49 (by decide) ?_
  refine z_iload_n B dX8_tick_23 rfl 0 rfl ?_
  refine z_iload_n B dX8_tick_24 rfl 2 rfl ?_
  refine z_icmp_ge (tgt := 52) B dX8_tick_25 (by decide) (fun h => absurd h (by decide)) (fun _ => ?_)
  refine z_aload_n B dX8_tick_28 rfl 1 rfl ?_
  refine z_dup B dX8_tick_29 rfl ?_
  refine gf_X8_206 (x := 35) B (lKA (hk_K hK 0 rfl rfl)) (rI_at 0 8 rfl) dX8_tick_30 ?_
  refine z_iconst (v := 1) B dX8_tick_33 (by decide) ?_
  refine z_iadd B dX8_tick_34 ?_
  refine z_seti (y := 36) (by decide) ?_
  refine pf_X8_206 (x := 36) (σ' := (ap b σ [(0, 8, 36), (0, 8, 35), (0, 8, 34), (0, 8, 33), (0, 8, 32), (0, 8, 31), (0, 8, 30), (0, 8, 29), (0, 8, 28), (0, 8, 27), (0, 8, 26), (0, 8, 25), (0, 8, 24), (0, 8, 23), (0, 8, 22), (0, 8, 21), (0, 8, 20), (0, 8, 19), (0, 8, 18), (0, 8, 17), (0, 8, 16), (0, 8, 15), (0, 8, 14), (0, 8, 13), (0, 8, 12), (0, 8, 11), (0, 8, 10), (0, 8, 9), (0, 8, 8), (0, 8, 7), (0, 8, 6), (0, 8, 5), (0, 8, 4), (0, 8, 3), (0, 8, 2), (0, 8, 1)] [] [])) B (lKA (hk_K hK 0 rfl rfl)) wI_ap dX8_tick_35 ?_
  refine z_aload_n B dX8_tick_38 rfl 1 rfl ?_
  refine z_cVv (As := []) (rest := []) B cw_X8_240 cx_9 dX8_tick_39 (ci_X8_passTasks_920 l (σ := (ap b σ [(0, 8, 36), (0, 8, 35), (0, 8, 34), (0, 8, 33), (0, 8, 32), (0, 8, 31), (0, 8, 30), (0, 8, 29), (0, 8, 28), (0, 8, 27), (0, 8, 26), (0, 8, 25), (0, 8, 24), (0, 8, 23), (0, 8, 22), (0, 8, 21), (0, 8, 20), (0, 8, 19), (0, 8, 18), (0, 8, 17), (0, 8, 16), (0, 8, 15), (0, 8, 14), (0, 8, 13), (0, 8, 12), (0, 8, 11), (0, 8, 10), (0, 8, 9), (0, 8, 8), (0, 8, 7), (0, 8, 6), (0, 8, 5), (0, 8, 4), (0, 8, 3), (0, 8, 2), (0, 8, 1)] [] [])) (b := b) (lyA hK) (rI_at 4 2 hI_4_2) (rR_at 0 3 hR_0_3)) (lKA (hk_K hK 0 rfl rfl)) rfl (by decide) rfl (Nat.le_of_ble_eq_true rfl) (by decide) (fun u hu => ?_)
  refine z_eqs (σ' := (ap b σ [(0, 8, 36), (0, 8, 35), (0, 8, 34), (0, 8, 33), (0, 8, 32), (0, 8, 31), (0, 8, 30), (0, 8, 29), (0, 8, 28), (0, 8, 27), (0, 8, 26), (0, 8, 25), (0, 8, 24), (0, 8, 23), (0, 8, 22), (0, 8, 21), (0, 8, 20), (0, 8, 19), (0, 8, 18), (0, 8, 17), (0, 8, 16), (0, 8, 15), (0, 8, 14), (0, 8, 13), (0, 8, 12), (0, 8, 11), (0, 8, 10), (0, 8, 9), (0, 8, 8), (0, 8, 7), (0, 8, 6), (0, 8, 5), (0, 8, 4), (0, 8, 3), (0, 8, 2), (0, 8, 1)] [] [])) hu ?_
  show zx p l e _ s m _ below meth c g 3 0 0 _ _ 42 [(2, .int 35), (0, .ref (b + 0)), (1, .int 39)] _
  refine z_aload_n B dX8_tick_42 rfl 1 rfl ?_
  refine z_cVv (As := []) (rest := []) B cw_X8_243 cx_9 dX8_tick_43 (ci_X8_passTimers_921 l (σ := (ap b σ [(0, 8, 36), (0, 8, 35), (0, 8, 34), (0, 8, 33), (0, 8, 32), (0, 8, 31), (0, 8, 30), (0, 8, 29), (0, 8, 28), (0, 8, 27), (0, 8, 26), (0, 8, 25), (0, 8, 24), (0, 8, 23), (0, 8, 22), (0, 8, 21), (0, 8, 20), (0, 8, 19), (0, 8, 18), (0, 8, 17), (0, 8, 16), (0, 8, 15), (0, 8, 14), (0, 8, 13), (0, 8, 12), (0, 8, 11), (0, 8, 10), (0, 8, 9), (0, 8, 8), (0, 8, 7), (0, 8, 6), (0, 8, 5), (0, 8, 4), (0, 8, 3), (0, 8, 2), (0, 8, 1)] [] [])) (b := b) (lyA hK) (rI_at 0 7 hI_0_7)) (lKA (hk_K hK 0 rfl rfl)) rfl (by decide) rfl (Nat.le_of_ble_eq_true rfl) (by decide) (fun u hu => ?_)
  refine z_eqs (σ' := (ap b σ [(0, 8, 36), (0, 8, 35), (0, 8, 34), (0, 8, 33), (0, 8, 32), (0, 8, 31), (0, 8, 30), (0, 8, 29), (0, 8, 28), (0, 8, 27), (0, 8, 26), (0, 8, 25), (0, 8, 24), (0, 8, 23), (0, 8, 22), (0, 8, 21), (0, 8, 20), (0, 8, 19), (0, 8, 18), (0, 8, 17), (0, 8, 16), (0, 8, 15), (0, 8, 14), (0, 8, 13), (0, 8, 12), (0, 8, 11), (0, 8, 10), (0, 8, 9), (0, 8, 8), (0, 8, 7), (0, 8, 6), (0, 8, 5), (0, 8, 4), (0, 8, 3), (0, 8, 2), (0, 8, 1)] [] [])) hu ?_
  show zx p l e _ s m _ below meth c g 3 0 0 _ _ 46 [(2, .int 35), (0, .ref (b + 0)), (1, .int 39)] _
  refine z_iinc (v := 36) (lv' := [(2, .int 36), (0, .ref (b + 0)), (1, .int 39)]) B dX8_tick_46 0 rfl (by decide) (by decide) rfl ?_
  refine z_goto (tgt := 23) B dX8_tick_49 (by decide) ?_
  refine z_iload_n B dX8_tick_23 rfl 0 rfl ?_
  refine z_iload_n B dX8_tick_24 rfl 2 rfl ?_
  refine z_icmp_ge (tgt := 52) B dX8_tick_25 (by decide) (fun h => absurd h (by decide)) (fun _ => ?_)
  refine z_aload_n B dX8_tick_28 rfl 1 rfl ?_
  refine z_dup B dX8_tick_29 rfl ?_
  refine gf_X8_206 (x := 36) B (lKA (hk_K hK 0 rfl rfl)) (rI_at 0 8 rfl) dX8_tick_30 ?_
  refine z_iconst (v := 1) B dX8_tick_33 (by decide) ?_
  refine z_iadd B dX8_tick_34 ?_
  refine z_seti (y := 37) (by decide) ?_
  refine pf_X8_206 (x := 37) (σ' := (ap b σ [(0, 8, 37), (0, 8, 36), (0, 8, 35), (0, 8, 34), (0, 8, 33), (0, 8, 32), (0, 8, 31), (0, 8, 30), (0, 8, 29), (0, 8, 28), (0, 8, 27), (0, 8, 26), (0, 8, 25), (0, 8, 24), (0, 8, 23), (0, 8, 22), (0, 8, 21), (0, 8, 20), (0, 8, 19), (0, 8, 18), (0, 8, 17), (0, 8, 16), (0, 8, 15), (0, 8, 14), (0, 8, 13), (0, 8, 12), (0, 8, 11), (0, 8, 10), (0, 8, 9), (0, 8, 8), (0, 8, 7), (0, 8, 6), (0, 8, 5), (0, 8, 4), (0, 8, 3), (0, 8, 2), (0, 8, 1)] [] [])) B (lKA (hk_K hK 0 rfl rfl)) wI_ap dX8_tick_35 ?_
  refine z_aload_n B dX8_tick_38 rfl 1 rfl ?_
  refine z_cVv (As := []) (rest := []) B cw_X8_240 cx_9 dX8_tick_39 (ci_X8_passTasks_920 l (σ := (ap b σ [(0, 8, 37), (0, 8, 36), (0, 8, 35), (0, 8, 34), (0, 8, 33), (0, 8, 32), (0, 8, 31), (0, 8, 30), (0, 8, 29), (0, 8, 28), (0, 8, 27), (0, 8, 26), (0, 8, 25), (0, 8, 24), (0, 8, 23), (0, 8, 22), (0, 8, 21), (0, 8, 20), (0, 8, 19), (0, 8, 18), (0, 8, 17), (0, 8, 16), (0, 8, 15), (0, 8, 14), (0, 8, 13), (0, 8, 12), (0, 8, 11), (0, 8, 10), (0, 8, 9), (0, 8, 8), (0, 8, 7), (0, 8, 6), (0, 8, 5), (0, 8, 4), (0, 8, 3), (0, 8, 2), (0, 8, 1)] [] [])) (b := b) (lyA hK) (rI_at 4 2 hI_4_2) (rR_at 0 3 hR_0_3)) (lKA (hk_K hK 0 rfl rfl)) rfl (by decide) rfl (Nat.le_of_ble_eq_true rfl) (by decide) (fun u hu => ?_)
  refine z_eqs (σ' := (ap b σ [(0, 8, 37), (0, 8, 36), (0, 8, 35), (0, 8, 34), (0, 8, 33), (0, 8, 32), (0, 8, 31), (0, 8, 30), (0, 8, 29), (0, 8, 28), (0, 8, 27), (0, 8, 26), (0, 8, 25), (0, 8, 24), (0, 8, 23), (0, 8, 22), (0, 8, 21), (0, 8, 20), (0, 8, 19), (0, 8, 18), (0, 8, 17), (0, 8, 16), (0, 8, 15), (0, 8, 14), (0, 8, 13), (0, 8, 12), (0, 8, 11), (0, 8, 10), (0, 8, 9), (0, 8, 8), (0, 8, 7), (0, 8, 6), (0, 8, 5), (0, 8, 4), (0, 8, 3), (0, 8, 2), (0, 8, 1)] [] [])) hu ?_
  show zx p l e _ s m _ below meth c g 3 0 0 _ _ 42 [(2, .int 36), (0, .ref (b + 0)), (1, .int 39)] _
  refine z_aload_n B dX8_tick_42 rfl 1 rfl ?_
  refine z_cVv (As := []) (rest := []) B cw_X8_243 cx_9 dX8_tick_43 (ci_X8_passTimers_921 l (σ := (ap b σ [(0, 8, 37), (0, 8, 36), (0, 8, 35), (0, 8, 34), (0, 8, 33), (0, 8, 32), (0, 8, 31), (0, 8, 30), (0, 8, 29), (0, 8, 28), (0, 8, 27), (0, 8, 26), (0, 8, 25), (0, 8, 24), (0, 8, 23), (0, 8, 22), (0, 8, 21), (0, 8, 20), (0, 8, 19), (0, 8, 18), (0, 8, 17), (0, 8, 16), (0, 8, 15), (0, 8, 14), (0, 8, 13), (0, 8, 12), (0, 8, 11), (0, 8, 10), (0, 8, 9), (0, 8, 8), (0, 8, 7), (0, 8, 6), (0, 8, 5), (0, 8, 4), (0, 8, 3), (0, 8, 2), (0, 8, 1)] [] [])) (b := b) (lyA hK) (rI_at 0 7 hI_0_7)) (lKA (hk_K hK 0 rfl rfl)) rfl (by decide) rfl (Nat.le_of_ble_eq_true rfl) (by decide) (fun u hu => ?_)
  refine z_eqs (σ' := (ap b σ [(0, 8, 37), (0, 8, 36), (0, 8, 35), (0, 8, 34), (0, 8, 33), (0, 8, 32), (0, 8, 31), (0, 8, 30), (0, 8, 29), (0, 8, 28), (0, 8, 27), (0, 8, 26), (0, 8, 25), (0, 8, 24), (0, 8, 23), (0, 8, 22), (0, 8, 21), (0, 8, 20), (0, 8, 19), (0, 8, 18), (0, 8, 17), (0, 8, 16), (0, 8, 15), (0, 8, 14), (0, 8, 13), (0, 8, 12), (0, 8, 11), (0, 8, 10), (0, 8, 9), (0, 8, 8), (0, 8, 7), (0, 8, 6), (0, 8, 5), (0, 8, 4), (0, 8, 3), (0, 8, 2), (0, 8, 1)] [] [])) hu ?_
  show zx p l e _ s m _ below meth c g 3 0 0 _ _ 46 [(2, .int 36), (0, .ref (b + 0)), (1, .int 39)] _
  refine z_iinc (v := 37) (lv' := [(2, .int 37), (0, .ref (b + 0)), (1, .int 39)]) B dX8_tick_46 0 rfl (by decide) (by decide) rfl ?_
  refine z_goto (tgt := 23) B dX8_tick_49 (by decide) ?_
  refine z_iload_n B dX8_tick_23 rfl 0 rfl ?_
  refine z_iload_n B dX8_tick_24 rfl 2 rfl ?_
  refine z_icmp_ge (tgt := 52) B dX8_tick_25 (by decide) (fun h => absurd h (by decide)) (fun _ => ?_)
  refine z_aload_n B dX8_tick_28 rfl 1 rfl ?_
  refine z_dup B dX8_tick_29 rfl ?_
  refine gf_X8_206 (x := 37) B (lKA (hk_K hK 0 rfl rfl)) (rI_at 0 8 rfl) dX8_tick_30 ?_
  refine z_iconst (v := 1) B dX8_tick_33 (by decide) ?_
  refine z_iadd B dX8_tick_34 ?_
  refine z_seti (y := 38) (by decide) ?_
  refine pf_X8_206 (x := 38) (σ' := (ap b σ [(0, 8, 38), (0, 8, 37), (0, 8, 36), (0, 8, 35), (0, 8, 34), (0, 8, 33), (0, 8, 32), (0, 8, 31), (0, 8, 30), (0, 8, 29), (0, 8, 28), (0, 8, 27), (0, 8, 26), (0, 8, 25), (0, 8, 24), (0, 8, 23), (0, 8, 22), (0, 8, 21), (0, 8, 20), (0, 8, 19), (0, 8, 18), (0, 8, 17), (0, 8, 16), (0, 8, 15), (0, 8, 14), (0, 8, 13), (0, 8, 12), (0, 8, 11), (0, 8, 10), (0, 8, 9), (0, 8, 8), (0, 8, 7), (0, 8, 6), (0, 8, 5), (0, 8, 4), (0, 8, 3), (0, 8, 2), (0, 8, 1)] [] [])) B (lKA (hk_K hK 0 rfl rfl)) wI_ap dX8_tick_35 ?_
  refine z_aload_n B dX8_tick_38 rfl 1 rfl ?_
  refine z_cVv (As := []) (rest := []) B cw_X8_240 cx_9 dX8_tick_39 (ci_X8_passTasks_920 l (σ := (ap b σ [(0, 8, 38), (0, 8, 37), (0, 8, 36), (0, 8, 35), (0, 8, 34), (0, 8, 33), (0, 8, 32), (0, 8, 31), (0, 8, 30), (0, 8, 29), (0, 8, 28), (0, 8, 27), (0, 8, 26), (0, 8, 25), (0, 8, 24), (0, 8, 23), (0, 8, 22), (0, 8, 21), (0, 8, 20), (0, 8, 19), (0, 8, 18), (0, 8, 17), (0, 8, 16), (0, 8, 15), (0, 8, 14), (0, 8, 13), (0, 8, 12), (0, 8, 11), (0, 8, 10), (0, 8, 9), (0, 8, 8), (0, 8, 7), (0, 8, 6), (0, 8, 5), (0, 8, 4), (0, 8, 3), (0, 8, 2), (0, 8, 1)] [] [])) (b := b) (lyA hK) (rI_at 4 2 hI_4_2) (rR_at 0 3 hR_0_3)) (lKA (hk_K hK 0 rfl rfl)) rfl (by decide) rfl (Nat.le_of_ble_eq_true rfl) (by decide) (fun u hu => ?_)
  refine z_eqs (σ' := (ap b σ [(0, 8, 38), (0, 8, 37), (0, 8, 36), (0, 8, 35), (0, 8, 34), (0, 8, 33), (0, 8, 32), (0, 8, 31), (0, 8, 30), (0, 8, 29), (0, 8, 28), (0, 8, 27), (0, 8, 26), (0, 8, 25), (0, 8, 24), (0, 8, 23), (0, 8, 22), (0, 8, 21), (0, 8, 20), (0, 8, 19), (0, 8, 18), (0, 8, 17), (0, 8, 16), (0, 8, 15), (0, 8, 14), (0, 8, 13), (0, 8, 12), (0, 8, 11), (0, 8, 10), (0, 8, 9), (0, 8, 8), (0, 8, 7), (0, 8, 6), (0, 8, 5), (0, 8, 4), (0, 8, 3), (0, 8, 2), (0, 8, 1)] [] [])) hu ?_
  show zx p l e _ s m _ below meth c g 3 0 0 _ _ 42 [(2, .int 37), (0, .ref (b + 0)), (1, .int 39)] _
  refine z_aload_n B dX8_tick_42 rfl 1 rfl ?_
  refine z_cVv (As := []) (rest := []) B cw_X8_243 cx_9 dX8_tick_43 (ci_X8_passTimers_921 l (σ := (ap b σ [(0, 8, 38), (0, 8, 37), (0, 8, 36), (0, 8, 35), (0, 8, 34), (0, 8, 33), (0, 8, 32), (0, 8, 31), (0, 8, 30), (0, 8, 29), (0, 8, 28), (0, 8, 27), (0, 8, 26), (0, 8, 25), (0, 8, 24), (0, 8, 23), (0, 8, 22), (0, 8, 21), (0, 8, 20), (0, 8, 19), (0, 8, 18), (0, 8, 17), (0, 8, 16), (0, 8, 15), (0, 8, 14), (0, 8, 13), (0, 8, 12), (0, 8, 11), (0, 8, 10), (0, 8, 9), (0, 8, 8), (0, 8, 7), (0, 8, 6), (0, 8, 5), (0, 8, 4), (0, 8, 3), (0, 8, 2), (0, 8, 1)] [] [])) (b := b) (lyA hK) (rI_at 0 7 hI_0_7)) (lKA (hk_K hK 0 rfl rfl)) rfl (by decide) rfl (Nat.le_of_ble_eq_true rfl) (by decide) (fun u hu => ?_)
  refine z_eqs (σ' := (ap b σ [(0, 8, 38), (0, 8, 37), (0, 8, 36), (0, 8, 35), (0, 8, 34), (0, 8, 33), (0, 8, 32), (0, 8, 31), (0, 8, 30), (0, 8, 29), (0, 8, 28), (0, 8, 27), (0, 8, 26), (0, 8, 25), (0, 8, 24), (0, 8, 23), (0, 8, 22), (0, 8, 21), (0, 8, 20), (0, 8, 19), (0, 8, 18), (0, 8, 17), (0, 8, 16), (0, 8, 15), (0, 8, 14), (0, 8, 13), (0, 8, 12), (0, 8, 11), (0, 8, 10), (0, 8, 9), (0, 8, 8), (0, 8, 7), (0, 8, 6), (0, 8, 5), (0, 8, 4), (0, 8, 3), (0, 8, 2), (0, 8, 1)] [] [])) hu ?_
  show zx p l e _ s m _ below meth c g 3 0 0 _ _ 46 [(2, .int 37), (0, .ref (b + 0)), (1, .int 39)] _
  refine z_iinc (v := 38) (lv' := [(2, .int 38), (0, .ref (b + 0)), (1, .int 39)]) B dX8_tick_46 0 rfl (by decide) (by decide) rfl ?_
  refine z_goto (tgt := 23) B dX8_tick_49 (by decide) ?_
  refine z_iload_n B dX8_tick_23 rfl 0 rfl ?_
  refine z_iload_n B dX8_tick_24 rfl 2 rfl ?_
  refine z_icmp_ge (tgt := 52) B dX8_tick_25 (by decide) (fun h => absurd h (by decide)) (fun _ => ?_)
  refine z_aload_n B dX8_tick_28 rfl 1 rfl ?_
  refine z_dup B dX8_tick_29 rfl ?_
  refine gf_X8_206 (x := 38) B (lKA (hk_K hK 0 rfl rfl)) (rI_at 0 8 rfl) dX8_tick_30 ?_
  refine z_iconst (v := 1) B dX8_tick_33 (by decide) ?_
  refine z_iadd B dX8_tick_34 ?_
  refine z_seti (y := 39) (by decide) ?_
  refine pf_X8_206 (x := 39) (σ' := (ap b σ [(0, 8, 39), (0, 8, 38), (0, 8, 37), (0, 8, 36), (0, 8, 35), (0, 8, 34), (0, 8, 33), (0, 8, 32), (0, 8, 31), (0, 8, 30), (0, 8, 29), (0, 8, 28), (0, 8, 27), (0, 8, 26), (0, 8, 25), (0, 8, 24), (0, 8, 23), (0, 8, 22), (0, 8, 21), (0, 8, 20), (0, 8, 19), (0, 8, 18), (0, 8, 17), (0, 8, 16), (0, 8, 15), (0, 8, 14), (0, 8, 13), (0, 8, 12), (0, 8, 11), (0, 8, 10), (0, 8, 9), (0, 8, 8), (0, 8, 7), (0, 8, 6), (0, 8, 5), (0, 8, 4), (0, 8, 3), (0, 8, 2), (0, 8, 1)] [] [])) B (lKA (hk_K hK 0 rfl rfl)) wI_ap dX8_tick_35 ?_
  refine z_aload_n B dX8_tick_38 rfl 1 rfl ?_
  refine z_cVv (As := []) (rest := []) B cw_X8_240 cx_9 dX8_tick_39 (ci_X8_passTasks_920 l (σ := (ap b σ [(0, 8, 39), (0, 8, 38), (0, 8, 37), (0, 8, 36), (0, 8, 35), (0, 8, 34), (0, 8, 33), (0, 8, 32), (0, 8, 31), (0, 8, 30), (0, 8, 29), (0, 8, 28), (0, 8, 27), (0, 8, 26), (0, 8, 25), (0, 8, 24), (0, 8, 23), (0, 8, 22), (0, 8, 21), (0, 8, 20), (0, 8, 19), (0, 8, 18), (0, 8, 17), (0, 8, 16), (0, 8, 15), (0, 8, 14), (0, 8, 13), (0, 8, 12), (0, 8, 11), (0, 8, 10), (0, 8, 9), (0, 8, 8), (0, 8, 7), (0, 8, 6), (0, 8, 5), (0, 8, 4), (0, 8, 3), (0, 8, 2), (0, 8, 1)] [] [])) (b := b) (lyA hK) (rI_at 4 2 hI_4_2) (rR_at 0 3 hR_0_3)) (lKA (hk_K hK 0 rfl rfl)) rfl (by decide) rfl (Nat.le_of_ble_eq_true rfl) (by decide) (fun u hu => ?_)
  refine z_eqs (σ' := (ap b σ [(0, 8, 39), (0, 8, 38), (0, 8, 37), (0, 8, 36), (0, 8, 35), (0, 8, 34), (0, 8, 33), (0, 8, 32), (0, 8, 31), (0, 8, 30), (0, 8, 29), (0, 8, 28), (0, 8, 27), (0, 8, 26), (0, 8, 25), (0, 8, 24), (0, 8, 23), (0, 8, 22), (0, 8, 21), (0, 8, 20), (0, 8, 19), (0, 8, 18), (0, 8, 17), (0, 8, 16), (0, 8, 15), (0, 8, 14), (0, 8, 13), (0, 8, 12), (0, 8, 11), (0, 8, 10), (0, 8, 9), (0, 8, 8), (0, 8, 7), (0, 8, 6), (0, 8, 5), (0, 8, 4), (0, 8, 3), (0, 8, 2), (0, 8, 1)] [] [])) hu ?_
  show zx p l e _ s m _ below meth c g 3 0 0 _ _ 42 [(2, .int 38), (0, .ref (b + 0)), (1, .int 39)] _
  refine z_aload_n B dX8_tick_42 rfl 1 rfl ?_
  refine z_cVv (As := []) (rest := []) B cw_X8_243 cx_9 dX8_tick_43 (ci_X8_passTimers_921 l (σ := (ap b σ [(0, 8, 39), (0, 8, 38), (0, 8, 37), (0, 8, 36), (0, 8, 35), (0, 8, 34), (0, 8, 33), (0, 8, 32), (0, 8, 31), (0, 8, 30), (0, 8, 29), (0, 8, 28), (0, 8, 27), (0, 8, 26), (0, 8, 25), (0, 8, 24), (0, 8, 23), (0, 8, 22), (0, 8, 21), (0, 8, 20), (0, 8, 19), (0, 8, 18), (0, 8, 17), (0, 8, 16), (0, 8, 15), (0, 8, 14), (0, 8, 13), (0, 8, 12), (0, 8, 11), (0, 8, 10), (0, 8, 9), (0, 8, 8), (0, 8, 7), (0, 8, 6), (0, 8, 5), (0, 8, 4), (0, 8, 3), (0, 8, 2), (0, 8, 1)] [] [])) (b := b) (lyA hK) (rI_at 0 7 hI_0_7)) (lKA (hk_K hK 0 rfl rfl)) rfl (by decide) rfl (Nat.le_of_ble_eq_true rfl) (by decide) (fun u hu => ?_)
  refine z_eqs (σ' := (ap b σ [(0, 8, 39), (0, 8, 38), (0, 8, 37), (0, 8, 36), (0, 8, 35), (0, 8, 34), (0, 8, 33), (0, 8, 32), (0, 8, 31), (0, 8, 30), (0, 8, 29), (0, 8, 28), (0, 8, 27), (0, 8, 26), (0, 8, 25), (0, 8, 24), (0, 8, 23), (0, 8, 22), (0, 8, 21), (0, 8, 20), (0, 8, 19), (0, 8, 18), (0, 8, 17), (0, 8, 16), (0, 8, 15), (0, 8, 14), (0, 8, 13), (0, 8, 12), (0, 8, 11), (0, 8, 10), (0, 8, 9), (0, 8, 8), (0, 8, 7), (0, 8, 6), (0, 8, 5), (0, 8, 4), (0, 8, 3), (0, 8, 2), (0, 8, 1)] [] [])) hu ?_
  show zx p l e _ s m _ below meth c g 3 0 0 _ _ 46 [(2, .int 38), (0, .ref (b + 0)), (1, .int 39)] _
  refine z_iinc (v := 39) (lv' := [(2, .int 39), (0, .ref (b + 0)), (1, .int 39)]) B dX8_tick_46 0 rfl (by decide) (by decide) rfl ?_
  refine z_goto (tgt := 23) B dX8_tick_49 (by decide) ?_
  refine z_iload_n B dX8_tick_23 rfl 0 rfl ?_
  refine z_iload_n B dX8_tick_24 rfl 2 rfl ?_
  refine z_icmp_ge (tgt := 52) B dX8_tick_25 (by decide) (fun _ => ?_) (fun h => absurd (by decide) h)
  refine z_aload_n B dX8_tick_52 rfl 1 rfl ?_
  refine gf_X8_206 (x := 39) B (lKA (hk_K hK 0 rfl rfl)) (rI_at 0 8 rfl) dX8_tick_53 ?_
  exact z_iret B hr (by decide) (by decide) dX8_tick_56 ⟨rfl, rfl⟩
set_option maxRecDepth 100000 in
set_option maxHeartbeats 4000000 in
theorem ci_L_tick_1113 (l : Launch) {g : gx_T} {σ : sx_T} {b : Nat} (hK : lay b σ)   (hI_0_7 : sx_I σ (b + 0) 7 = 0) (hI_0_8 : sx_I σ (b + 0) 8 = 0) (hI_4_2 : sx_I σ (b + 4) 2 = 0) (hR_0_3 : sx_R σ (b + 0) 3 = (some (b + 4))) : Met l yL_tick (.codeWith yL_tick cL_tick 4 (some .int) [(0, 9, 12, 15)] :: lw_g) { frames := 3, cells := 0, slots := 0, locals := 64 } (va_Pc [.ref (b + 0), .int 39, .ref (b + 431)] (zx_w g σ)) (va_Qi (fun r u => r = 0 ∧ u = (ap b σ [(0, 8, 39), (0, 8, 38), (0, 8, 37), (0, 8, 36), (0, 8, 35), (0, 8, 34), (0, 8, 33), (0, 8, 32), (0, 8, 31), (0, 8, 30), (0, 8, 29), (0, 8, 28), (0, 8, 27), (0, 8, 26), (0, 8, 25), (0, 8, 24), (0, 8, 23), (0, 8, 22), (0, 8, 21), (0, 8, 20), (0, 8, 19), (0, 8, 18), (0, 8, 17), (0, 8, 16), (0, 8, 15), (0, 8, 14), (0, 8, 13), (0, 8, 12), (0, 8, 11), (0, 8, 10), (0, 8, 9), (0, 8, 8), (0, 8, 7), (0, 8, 6), (0, 8, 5), (0, 8, 4), (0, 8, 3), (0, 8, 2), (0, 8, 1)] [(431, 0, 39)] [])) (zx_w g) (gx_Q g)) 0 0 (gx_Q g) := by
  refine z_metW (by decide) (Nat.le_of_ble_eq_true rfl) (fun p e s m below meth c B hr htab => ?_)
  refine z_eqs (σ' := (ap b σ [] [] [])) rfl ?_
  show zx p l e _ s m _ below meth c g 4 0 0 _ _ 0 [(0, .ref (b + 0)), (1, .int 39), (2, .ref (b + 431))] []
  refine z_aload_n B dL_tick_0 rfl 2 rfl ?_
  refine z_iconst (v := 0) B dL_tick_1 (by decide) ?_
  refine z_aload_n B dL_tick_2 rfl 0 rfl ?_
  refine z_iload_n B dL_tick_3 rfl 1 rfl ?_
  refine z_cVi (As := [.int 39]) (rest := [.int 0, .ref (b + 431)]) B cw_L_41 cx_9 dL_tick_4 (ci_X8_tick_1112 l (σ := (ap b σ [] [] [])) (b := b) (lyA hK) (rI_at 0 7 hI_0_7) (rI_at 0 8 hI_0_8) (rI_at 4 2 hI_4_2) (rR_at 0 3 hR_0_3)) (lKA (hk_K hK 0 rfl rfl)) rfl (by decide) rfl (Nat.le_of_ble_eq_true rfl) (by decide) (fun r u hu => ?_)
  refine z_eqs (σ' := (ap b σ [(0, 8, 39), (0, 8, 38), (0, 8, 37), (0, 8, 36), (0, 8, 35), (0, 8, 34), (0, 8, 33), (0, 8, 32), (0, 8, 31), (0, 8, 30), (0, 8, 29), (0, 8, 28), (0, 8, 27), (0, 8, 26), (0, 8, 25), (0, 8, 24), (0, 8, 23), (0, 8, 22), (0, 8, 21), (0, 8, 20), (0, 8, 19), (0, 8, 18), (0, 8, 17), (0, 8, 16), (0, 8, 15), (0, 8, 14), (0, 8, 13), (0, 8, 12), (0, 8, 11), (0, 8, 10), (0, 8, 9), (0, 8, 8), (0, 8, 7), (0, 8, 6), (0, 8, 5), (0, 8, 4), (0, 8, 3), (0, 8, 2), (0, 8, 1)] [] [])) (hu.2.trans ap_ap) ?_
  show zx p l e _ s m _ below meth c g 4 0 0 _ _ 7 [(0, .ref (b + 0)), (1, .int 39), (2, .ref (b + 431))] _
  refine z_seti (y := 39) hu.1 ?_
  refine z_i2l (v := 39) B dL_tick_7 (by decide) ?_
  refine z_last (j := 0) (σ' := (ap b σ [(0, 8, 39), (0, 8, 38), (0, 8, 37), (0, 8, 36), (0, 8, 35), (0, 8, 34), (0, 8, 33), (0, 8, 32), (0, 8, 31), (0, 8, 30), (0, 8, 29), (0, 8, 28), (0, 8, 27), (0, 8, 26), (0, 8, 25), (0, 8, 24), (0, 8, 23), (0, 8, 22), (0, 8, 21), (0, 8, 20), (0, 8, 19), (0, 8, 18), (0, 8, 17), (0, 8, 16), (0, 8, 15), (0, 8, 14), (0, 8, 13), (0, 8, 12), (0, 8, 11), (0, 8, 10), (0, 8, 9), (0, 8, 8), (0, 8, 7), (0, 8, 6), (0, 8, 5), (0, 8, 4), (0, 8, 3), (0, 8, 2), (0, 8, 1)] [(431, 0, 39)] [])) B (lKA (hk_K hK 431 rfl rfl)) (by decide) (in_of (lNA (hk_N hK 431 rfl rfl)) (show ¬ ((0 : Int32) < 0 ∨ 1 ≤ (0 : Int32).toNatClampNeg) by decide)) wJ_ap dL_tick_8 ?_
  refine z_goto (tgt := 15) B dL_tick_9 (by decide) ?_
  refine z_iconst (v := 0) B dL_tick_15 (by decide) ?_
  exact z_iret B hr (by decide) (by decide) dL_tick_16 ⟨rfl, rfl⟩
set_option maxRecDepth 100000 in
set_option maxHeartbeats 4000000 in
theorem ci_X9_in_1114 (l : Launch) {g : gx_T} {σ : sx_T} {b : Nat} (hK : lay b σ)    : Met l yX9_in (.code yX9_in cX9_in 3 (some .boolean) :: lw_g) { frames := 0, cells := 0, slots := 0, locals := 0 } (va_Pc [.int 39, .int 1, .int 50] (zx_w g σ)) (va_Qi (fun r u => r = 1 ∧ u = σ) (zx_w g) (gx_Q g)) 0 0 (gx_Q g) := by
  refine z_met (by decide) (Nat.le_of_ble_eq_true rfl) (fun p e s m below meth c B hr hin => ?_)
  refine z_eqs (σ' := (ap b σ [] [] [])) rfl ?_
  show zx p l e _ s m _ below meth c g 3 0 0 _ _ 0 [(0, .int 39), (1, .int 1), (2, .int 50)] []
  refine z_iload_n B dX9_in_0 rfl 0 rfl ?_
  refine z_iload_n B dX9_in_1 rfl 1 rfl ?_
  refine z_icmp_lt (tgt := 14) B dX9_in_2 (by decide) (fun h => absurd h (by decide)) (fun _ => ?_)
  refine z_iload_n B dX9_in_5 rfl 0 rfl ?_
  refine z_iload_n B dX9_in_6 rfl 2 rfl ?_
  refine z_icmp_gt (tgt := 14) B dX9_in_7 (by decide) (fun h => absurd h (by decide)) (fun _ => ?_)
  refine z_iconst (v := 1) B dX9_in_10 (by decide) ?_
  refine z_goto (tgt := 15) B dX9_in_11 (by decide) ?_
  exact z_zret B hr (by decide) (by decide) (by decide) dX9_in_15 ⟨rfl, rfl⟩
set_option maxRecDepth 100000 in
set_option maxHeartbeats 4000000 in
theorem ci_X9_ticks_1115 (l : Launch) {g : gx_T} {σ : sx_T} {b : Nat} (hK : lay b σ)   (hI_405_1 : sx_I σ (b + 405) 1 = 38) (hI_405_6 : sx_I σ (b + 405) 6 = 0) (hI_405_16 : sx_I σ (b + 405) 16 = 0) : Met l yX9_ticks (.code yX9_ticks cX9_ticks 2 none :: lw_g) { frames := 0, cells := 0, slots := 0, locals := 0 } (va_Pc [.ref (b + 405)] (zx_w g σ)) (va_Qv (fun u => u = (ap b σ [(405, 1, 39)] [] [])) (zx_w g) (gx_Q g)) 0 0 (gx_Q g) := by
  refine z_met (by decide) (Nat.le_of_ble_eq_true rfl) (fun p e s m below meth c B hr hin => ?_)
  refine z_eqs (σ' := (ap b σ [] [] [])) rfl ?_
  show zx p l e _ s m _ below meth c g 2 0 0 _ _ 0 [(0, .ref (b + 405))] []
  refine z_aload_n B dX9_ticks_0 rfl 0 rfl ?_
  refine z_dup B dX9_ticks_1 rfl ?_
  refine gf_X9_197 (x := 38) B (lKA (hk_K hK 405 rfl rfl)) (rI_at 405 1 hI_405_1) dX9_ticks_2 ?_
  refine z_iconst (v := 1) B dX9_ticks_5 (by decide) ?_
  refine z_iadd B dX9_ticks_6 ?_
  refine z_seti (y := 39) (by decide) ?_
  refine pf_X9_197 (x := 39) (σ' := (ap b σ [(405, 1, 39)] [] [])) B (lKA (hk_K hK 405 rfl rfl)) wI_ap dX9_ticks_7 ?_
  refine z_iconst (v := 0) B dX9_ticks_10 (by decide) ?_
  refine z_istore_n (lv' := [(1, .int 0), (0, .ref (b + 405))]) B dX9_ticks_11 rfl (by decide) rfl ?_
  refine z_iload_n B dX9_ticks_12 rfl 0 rfl ?_
  refine z_aload_n B dX9_ticks_13 rfl 1 rfl ?_
  refine gf_X9_100 (x := 0) B (lKA (hk_K hK 405 rfl rfl)) (rI_at 405 16 hI_405_16) dX9_ticks_14 ?_
  refine z_icmp_ge (tgt := 104) B dX9_ticks_17 (by decide) (fun _ => ?_) (fun h => absurd (by decide) h)
  refine z_iconst (v := 0) B dX9_ticks_104 (by decide) ?_
  refine z_istore_n (lv' := [(1, .int 0), (0, .ref (b + 405))]) B dX9_ticks_105 rfl (by decide) rfl ?_
  refine z_iload_n B dX9_ticks_106 rfl 0 rfl ?_
  refine z_aload_n B dX9_ticks_107 rfl 1 rfl ?_
  refine gf_X9_93 (x := 0) B (lKA (hk_K hK 405 rfl rfl)) (rI_at 405 6 hI_405_6) dX9_ticks_108 ?_
  refine z_icmp_ge (tgt := 176) B dX9_ticks_111 (by decide) (fun _ => ?_) (fun h => absurd (by decide) h)
  exact z_vret B hr (by decide) (by decide) dX9_ticks_176 rfl
set_option maxRecDepth 100000 in
set_option maxHeartbeats 4000000 in
theorem ci_X9_tick_1116 (l : Launch) {g : gx_T} {σ : sx_T} {b : Nat} (hK : lay b σ)   (hI_405_1 : sx_I σ (b + 405) 1 = 0) (hI_405_6 : sx_I σ (b + 405) 6 = 0) (hI_405_16 : sx_I σ (b + 405) 16 = 0) : Met l yX9_tick (.code yX9_tick cX9_tick 3 (some .int) :: lw_g) { frames := 1, cells := 0, slots := 0, locals := 22 } (va_Pc [.ref (b + 405), .int 39] (zx_w g σ)) (va_Qi (fun r u => r = 39 ∧ u = (ap b σ [(405, 1, 39), (405, 1, 38), (405, 1, 37), (405, 1, 36), (405, 1, 35), (405, 1, 34), (405, 1, 33), (405, 1, 32), (405, 1, 31), (405, 1, 30), (405, 1, 29), (405, 1, 28), (405, 1, 27), (405, 1, 26), (405, 1, 25), (405, 1, 24), (405, 1, 23), (405, 1, 22), (405, 1, 21), (405, 1, 20), (405, 1, 19), (405, 1, 18), (405, 1, 17), (405, 1, 16), (405, 1, 15), (405, 1, 14), (405, 1, 13), (405, 1, 12), (405, 1, 11), (405, 1, 10), (405, 1, 9), (405, 1, 8), (405, 1, 7), (405, 1, 6), (405, 1, 5), (405, 1, 4), (405, 1, 3), (405, 1, 2), (405, 1, 1), (405, 0, 0)] [] [])) (zx_w g) (gx_Q g)) 0 0 (gx_Q g) := by
  refine z_met (by decide) (Nat.le_of_ble_eq_true rfl) (fun p e s m below meth c B hr hin => ?_)
  refine z_eqs (σ' := (ap b σ [] [] [])) rfl ?_
  show zx p l e _ s m _ below meth c g 3 0 0 _ _ 0 [(0, .ref (b + 405)), (1, .int 39)] []
  refine z_aload_n B dX9_tick_0 rfl 0 rfl ?_
  refine z_iload_n B dX9_tick_1 rfl 1 rfl ?_
  refine z_iconst (v := 1) B dX9_tick_2 (by decide) ?_
  refine z_bipush (v := 50) B dX9_tick_3 (by decide) ?_
  refine z_cSi (As := [.int 39, .int 1, .int 50]) (rest := [.ref (b + 405)]) B cw_X9_96 dX9_tick_5 (ci_X9_in_1114 l (σ := (ap b σ [] [] [])) (b := b) (lyA hK) ) rfl (by decide) rfl (Nat.le_of_ble_eq_true rfl) (by decide) (fun r u hu => ?_)
  refine z_eqs (σ' := (ap b σ [] [] [])) hu.2 ?_
  show zx p l e _ s m _ below meth c g 3 0 0 _ _ 8 [(0, .ref (b + 405)), (1, .int 39)] _
  refine z_seti (y := 1) hu.1 ?_
  refine z_cVi (As := [.int 1]) (rest := []) B cw_X9_269 cx_10 dX9_tick_8 (ci_X9_needs_905 l (σ := (ap b σ [] [] [])) (b := b) (lyA hK) ) (lKA (hk_K hK 405 rfl rfl)) rfl (by decide) rfl (Nat.le_of_ble_eq_true rfl) (by decide) (fun r u hu => ?_)
  refine z_eqs (σ' := (ap b σ [(405, 0, 0)] [] [])) (hu.2.trans ap_ap) ?_
  show zx p l e _ s m _ below meth c g 3 0 0 _ _ 11 [(0, .ref (b + 405)), (1, .int 39)] _
  refine z_seti (y := 1) hu.1 ?_
  refine z_if_ne (tgt := 16) B dX9_tick_11 (by decide) (fun _ => ?_) (fun h => absurd h (by decide))
  refine z_iconst (v := 0) B dX9_tick_16 (by decide) ?_
  refine z_istore_n (lv' := [(2, .int 0), (0, .ref (b + 405)), (1, .int 39)]) B dX9_tick_17 rfl (by decide) rfl ?_
  refine z_iload_n B dX9_tick_18 rfl 0 rfl ?_
  refine z_iload_n B dX9_tick_19 rfl 2 rfl ?_
  refine z_icmp_ge (tgt := 33) B dX9_tick_20 (by decide) (fun h => absurd h (by decide)) (fun _ => ?_)
  refine z_aload_n B dX9_tick_23 rfl 1 rfl ?_
  refine z_cVv (As := []) (rest := []) B cw_X9_294 cx_10 dX9_tick_24 (ci_X9_ticks_925 l (σ := (ap b σ [(405, 0, 0)] [] [])) (b := b) (lyA hK) (rI_at 405 1 hI_405_1) (rI_at 405 6 hI_405_6) (rI_at 405 16 hI_405_16)) (lKA (hk_K hK 405 rfl rfl)) rfl (by decide) rfl (Nat.le_of_ble_eq_true rfl) (by decide) (fun u hu => ?_)
  refine z_eqs (σ' := (ap b σ [(405, 1, 1), (405, 0, 0)] [] [])) (hu.trans ap_ap) ?_
  show zx p l e _ s m _ below meth c g 3 0 0 _ _ 27 [(2, .int 0), (0, .ref (b + 405)), (1, .int 39)] _
  refine z_iinc (v := 1) (lv' := [(2, .int 1), (0, .ref (b + 405)), (1, .int 39)]) B dX9_tick_27 0 rfl (by decide) (by decide) rfl ?_
  refine z_goto (tgt := 18) B dX9_tick_30 (by decide) ?_
  refine z_iload_n B dX9_tick_18 rfl 0 rfl ?_
  refine z_iload_n B dX9_tick_19 rfl 2 rfl ?_
  refine z_icmp_ge (tgt := 33) B dX9_tick_20 (by decide) (fun h => absurd h (by decide)) (fun _ => ?_)
  refine z_aload_n B dX9_tick_23 rfl 1 rfl ?_
  refine z_cVv (As := []) (rest := []) B cw_X9_294 cx_10 dX9_tick_24 (ci_X9_ticks_930 l (σ := (ap b σ [(405, 1, 1), (405, 0, 0)] [] [])) (b := b) (lyA hK) (rI_at 405 1 rfl) (rI_at 405 6 hI_405_6) (rI_at 405 16 hI_405_16)) (lKA (hk_K hK 405 rfl rfl)) rfl (by decide) rfl (Nat.le_of_ble_eq_true rfl) (by decide) (fun u hu => ?_)
  refine z_eqs (σ' := (ap b σ [(405, 1, 2), (405, 1, 1), (405, 0, 0)] [] [])) (hu.trans ap_ap) ?_
  show zx p l e _ s m _ below meth c g 3 0 0 _ _ 27 [(2, .int 1), (0, .ref (b + 405)), (1, .int 39)] _
  refine z_iinc (v := 2) (lv' := [(2, .int 2), (0, .ref (b + 405)), (1, .int 39)]) B dX9_tick_27 0 rfl (by decide) (by decide) rfl ?_
  refine z_goto (tgt := 18) B dX9_tick_30 (by decide) ?_
  refine z_iload_n B dX9_tick_18 rfl 0 rfl ?_
  refine z_iload_n B dX9_tick_19 rfl 2 rfl ?_
  refine z_icmp_ge (tgt := 33) B dX9_tick_20 (by decide) (fun h => absurd h (by decide)) (fun _ => ?_)
  refine z_aload_n B dX9_tick_23 rfl 1 rfl ?_
  refine z_cVv (As := []) (rest := []) B cw_X9_294 cx_10 dX9_tick_24 (ci_X9_ticks_935 l (σ := (ap b σ [(405, 1, 2), (405, 1, 1), (405, 0, 0)] [] [])) (b := b) (lyA hK) (rI_at 405 1 rfl) (rI_at 405 6 hI_405_6) (rI_at 405 16 hI_405_16)) (lKA (hk_K hK 405 rfl rfl)) rfl (by decide) rfl (Nat.le_of_ble_eq_true rfl) (by decide) (fun u hu => ?_)
  refine z_eqs (σ' := (ap b σ [(405, 1, 3), (405, 1, 2), (405, 1, 1), (405, 0, 0)] [] [])) (hu.trans ap_ap) ?_
  show zx p l e _ s m _ below meth c g 3 0 0 _ _ 27 [(2, .int 2), (0, .ref (b + 405)), (1, .int 39)] _
  refine z_iinc (v := 3) (lv' := [(2, .int 3), (0, .ref (b + 405)), (1, .int 39)]) B dX9_tick_27 0 rfl (by decide) (by decide) rfl ?_
  refine z_goto (tgt := 18) B dX9_tick_30 (by decide) ?_
  refine z_iload_n B dX9_tick_18 rfl 0 rfl ?_
  refine z_iload_n B dX9_tick_19 rfl 2 rfl ?_
  refine z_icmp_ge (tgt := 33) B dX9_tick_20 (by decide) (fun h => absurd h (by decide)) (fun _ => ?_)
  refine z_aload_n B dX9_tick_23 rfl 1 rfl ?_
  refine z_cVv (As := []) (rest := []) B cw_X9_294 cx_10 dX9_tick_24 (ci_X9_ticks_940 l (σ := (ap b σ [(405, 1, 3), (405, 1, 2), (405, 1, 1), (405, 0, 0)] [] [])) (b := b) (lyA hK) (rI_at 405 1 rfl) (rI_at 405 6 hI_405_6) (rI_at 405 16 hI_405_16)) (lKA (hk_K hK 405 rfl rfl)) rfl (by decide) rfl (Nat.le_of_ble_eq_true rfl) (by decide) (fun u hu => ?_)
  refine z_eqs (σ' := (ap b σ [(405, 1, 4), (405, 1, 3), (405, 1, 2), (405, 1, 1), (405, 0, 0)] [] [])) (hu.trans ap_ap) ?_
  show zx p l e _ s m _ below meth c g 3 0 0 _ _ 27 [(2, .int 3), (0, .ref (b + 405)), (1, .int 39)] _
  refine z_iinc (v := 4) (lv' := [(2, .int 4), (0, .ref (b + 405)), (1, .int 39)]) B dX9_tick_27 0 rfl (by decide) (by decide) rfl ?_
  refine z_goto (tgt := 18) B dX9_tick_30 (by decide) ?_
  refine z_iload_n B dX9_tick_18 rfl 0 rfl ?_
  refine z_iload_n B dX9_tick_19 rfl 2 rfl ?_
  refine z_icmp_ge (tgt := 33) B dX9_tick_20 (by decide) (fun h => absurd h (by decide)) (fun _ => ?_)
  refine z_aload_n B dX9_tick_23 rfl 1 rfl ?_
  refine z_cVv (As := []) (rest := []) B cw_X9_294 cx_10 dX9_tick_24 (ci_X9_ticks_945 l (σ := (ap b σ [(405, 1, 4), (405, 1, 3), (405, 1, 2), (405, 1, 1), (405, 0, 0)] [] [])) (b := b) (lyA hK) (rI_at 405 1 rfl) (rI_at 405 6 hI_405_6) (rI_at 405 16 hI_405_16)) (lKA (hk_K hK 405 rfl rfl)) rfl (by decide) rfl (Nat.le_of_ble_eq_true rfl) (by decide) (fun u hu => ?_)
  refine z_eqs (σ' := (ap b σ [(405, 1, 5), (405, 1, 4), (405, 1, 3), (405, 1, 2), (405, 1, 1), (405, 0, 0)] [] [])) (hu.trans ap_ap) ?_
  show zx p l e _ s m _ below meth c g 3 0 0 _ _ 27 [(2, .int 4), (0, .ref (b + 405)), (1, .int 39)] _
  refine z_iinc (v := 5) (lv' := [(2, .int 5), (0, .ref (b + 405)), (1, .int 39)]) B dX9_tick_27 0 rfl (by decide) (by decide) rfl ?_
  refine z_goto (tgt := 18) B dX9_tick_30 (by decide) ?_
  refine z_iload_n B dX9_tick_18 rfl 0 rfl ?_
  refine z_iload_n B dX9_tick_19 rfl 2 rfl ?_
  refine z_icmp_ge (tgt := 33) B dX9_tick_20 (by decide) (fun h => absurd h (by decide)) (fun _ => ?_)
  refine z_aload_n B dX9_tick_23 rfl 1 rfl ?_
  refine z_cVv (As := []) (rest := []) B cw_X9_294 cx_10 dX9_tick_24 (ci_X9_ticks_950 l (σ := (ap b σ [(405, 1, 5), (405, 1, 4), (405, 1, 3), (405, 1, 2), (405, 1, 1), (405, 0, 0)] [] [])) (b := b) (lyA hK) (rI_at 405 1 rfl) (rI_at 405 6 hI_405_6) (rI_at 405 16 hI_405_16)) (lKA (hk_K hK 405 rfl rfl)) rfl (by decide) rfl (Nat.le_of_ble_eq_true rfl) (by decide) (fun u hu => ?_)
  refine z_eqs (σ' := (ap b σ [(405, 1, 6), (405, 1, 5), (405, 1, 4), (405, 1, 3), (405, 1, 2), (405, 1, 1), (405, 0, 0)] [] [])) (hu.trans ap_ap) ?_
  show zx p l e _ s m _ below meth c g 3 0 0 _ _ 27 [(2, .int 5), (0, .ref (b + 405)), (1, .int 39)] _
  refine z_iinc (v := 6) (lv' := [(2, .int 6), (0, .ref (b + 405)), (1, .int 39)]) B dX9_tick_27 0 rfl (by decide) (by decide) rfl ?_
  refine z_goto (tgt := 18) B dX9_tick_30 (by decide) ?_
  refine z_iload_n B dX9_tick_18 rfl 0 rfl ?_
  refine z_iload_n B dX9_tick_19 rfl 2 rfl ?_
  refine z_icmp_ge (tgt := 33) B dX9_tick_20 (by decide) (fun h => absurd h (by decide)) (fun _ => ?_)
  refine z_aload_n B dX9_tick_23 rfl 1 rfl ?_
  refine z_cVv (As := []) (rest := []) B cw_X9_294 cx_10 dX9_tick_24 (ci_X9_ticks_955 l (σ := (ap b σ [(405, 1, 6), (405, 1, 5), (405, 1, 4), (405, 1, 3), (405, 1, 2), (405, 1, 1), (405, 0, 0)] [] [])) (b := b) (lyA hK) (rI_at 405 1 rfl) (rI_at 405 6 hI_405_6) (rI_at 405 16 hI_405_16)) (lKA (hk_K hK 405 rfl rfl)) rfl (by decide) rfl (Nat.le_of_ble_eq_true rfl) (by decide) (fun u hu => ?_)
  refine z_eqs (σ' := (ap b σ [(405, 1, 7), (405, 1, 6), (405, 1, 5), (405, 1, 4), (405, 1, 3), (405, 1, 2), (405, 1, 1), (405, 0, 0)] [] [])) (hu.trans ap_ap) ?_
  show zx p l e _ s m _ below meth c g 3 0 0 _ _ 27 [(2, .int 6), (0, .ref (b + 405)), (1, .int 39)] _
  refine z_iinc (v := 7) (lv' := [(2, .int 7), (0, .ref (b + 405)), (1, .int 39)]) B dX9_tick_27 0 rfl (by decide) (by decide) rfl ?_
  refine z_goto (tgt := 18) B dX9_tick_30 (by decide) ?_
  refine z_iload_n B dX9_tick_18 rfl 0 rfl ?_
  refine z_iload_n B dX9_tick_19 rfl 2 rfl ?_
  refine z_icmp_ge (tgt := 33) B dX9_tick_20 (by decide) (fun h => absurd h (by decide)) (fun _ => ?_)
  refine z_aload_n B dX9_tick_23 rfl 1 rfl ?_
  refine z_cVv (As := []) (rest := []) B cw_X9_294 cx_10 dX9_tick_24 (ci_X9_ticks_960 l (σ := (ap b σ [(405, 1, 7), (405, 1, 6), (405, 1, 5), (405, 1, 4), (405, 1, 3), (405, 1, 2), (405, 1, 1), (405, 0, 0)] [] [])) (b := b) (lyA hK) (rI_at 405 1 rfl) (rI_at 405 6 hI_405_6) (rI_at 405 16 hI_405_16)) (lKA (hk_K hK 405 rfl rfl)) rfl (by decide) rfl (Nat.le_of_ble_eq_true rfl) (by decide) (fun u hu => ?_)
  refine z_eqs (σ' := (ap b σ [(405, 1, 8), (405, 1, 7), (405, 1, 6), (405, 1, 5), (405, 1, 4), (405, 1, 3), (405, 1, 2), (405, 1, 1), (405, 0, 0)] [] [])) (hu.trans ap_ap) ?_
  show zx p l e _ s m _ below meth c g 3 0 0 _ _ 27 [(2, .int 7), (0, .ref (b + 405)), (1, .int 39)] _
  refine z_iinc (v := 8) (lv' := [(2, .int 8), (0, .ref (b + 405)), (1, .int 39)]) B dX9_tick_27 0 rfl (by decide) (by decide) rfl ?_
  refine z_goto (tgt := 18) B dX9_tick_30 (by decide) ?_
  refine z_iload_n B dX9_tick_18 rfl 0 rfl ?_
  refine z_iload_n B dX9_tick_19 rfl 2 rfl ?_
  refine z_icmp_ge (tgt := 33) B dX9_tick_20 (by decide) (fun h => absurd h (by decide)) (fun _ => ?_)
  refine z_aload_n B dX9_tick_23 rfl 1 rfl ?_
  refine z_cVv (As := []) (rest := []) B cw_X9_294 cx_10 dX9_tick_24 (ci_X9_ticks_965 l (σ := (ap b σ [(405, 1, 8), (405, 1, 7), (405, 1, 6), (405, 1, 5), (405, 1, 4), (405, 1, 3), (405, 1, 2), (405, 1, 1), (405, 0, 0)] [] [])) (b := b) (lyA hK) (rI_at 405 1 rfl) (rI_at 405 6 hI_405_6) (rI_at 405 16 hI_405_16)) (lKA (hk_K hK 405 rfl rfl)) rfl (by decide) rfl (Nat.le_of_ble_eq_true rfl) (by decide) (fun u hu => ?_)
  refine z_eqs (σ' := (ap b σ [(405, 1, 9), (405, 1, 8), (405, 1, 7), (405, 1, 6), (405, 1, 5), (405, 1, 4), (405, 1, 3), (405, 1, 2), (405, 1, 1), (405, 0, 0)] [] [])) (hu.trans ap_ap) ?_
  show zx p l e _ s m _ below meth c g 3 0 0 _ _ 27 [(2, .int 8), (0, .ref (b + 405)), (1, .int 39)] _
  refine z_iinc (v := 9) (lv' := [(2, .int 9), (0, .ref (b + 405)), (1, .int 39)]) B dX9_tick_27 0 rfl (by decide) (by decide) rfl ?_
  refine z_goto (tgt := 18) B dX9_tick_30 (by decide) ?_
  refine z_iload_n B dX9_tick_18 rfl 0 rfl ?_
  refine z_iload_n B dX9_tick_19 rfl 2 rfl ?_
  refine z_icmp_ge (tgt := 33) B dX9_tick_20 (by decide) (fun h => absurd h (by decide)) (fun _ => ?_)
  refine z_aload_n B dX9_tick_23 rfl 1 rfl ?_
  refine z_cVv (As := []) (rest := []) B cw_X9_294 cx_10 dX9_tick_24 (ci_X9_ticks_970 l (σ := (ap b σ [(405, 1, 9), (405, 1, 8), (405, 1, 7), (405, 1, 6), (405, 1, 5), (405, 1, 4), (405, 1, 3), (405, 1, 2), (405, 1, 1), (405, 0, 0)] [] [])) (b := b) (lyA hK) (rI_at 405 1 rfl) (rI_at 405 6 hI_405_6) (rI_at 405 16 hI_405_16)) (lKA (hk_K hK 405 rfl rfl)) rfl (by decide) rfl (Nat.le_of_ble_eq_true rfl) (by decide) (fun u hu => ?_)
  refine z_eqs (σ' := (ap b σ [(405, 1, 10), (405, 1, 9), (405, 1, 8), (405, 1, 7), (405, 1, 6), (405, 1, 5), (405, 1, 4), (405, 1, 3), (405, 1, 2), (405, 1, 1), (405, 0, 0)] [] [])) (hu.trans ap_ap) ?_
  show zx p l e _ s m _ below meth c g 3 0 0 _ _ 27 [(2, .int 9), (0, .ref (b + 405)), (1, .int 39)] _
  refine z_iinc (v := 10) (lv' := [(2, .int 10), (0, .ref (b + 405)), (1, .int 39)]) B dX9_tick_27 0 rfl (by decide) (by decide) rfl ?_
  refine z_goto (tgt := 18) B dX9_tick_30 (by decide) ?_
  refine z_iload_n B dX9_tick_18 rfl 0 rfl ?_
  refine z_iload_n B dX9_tick_19 rfl 2 rfl ?_
  refine z_icmp_ge (tgt := 33) B dX9_tick_20 (by decide) (fun h => absurd h (by decide)) (fun _ => ?_)
  refine z_aload_n B dX9_tick_23 rfl 1 rfl ?_
  refine z_cVv (As := []) (rest := []) B cw_X9_294 cx_10 dX9_tick_24 (ci_X9_ticks_975 l (σ := (ap b σ [(405, 1, 10), (405, 1, 9), (405, 1, 8), (405, 1, 7), (405, 1, 6), (405, 1, 5), (405, 1, 4), (405, 1, 3), (405, 1, 2), (405, 1, 1), (405, 0, 0)] [] [])) (b := b) (lyA hK) (rI_at 405 1 rfl) (rI_at 405 6 hI_405_6) (rI_at 405 16 hI_405_16)) (lKA (hk_K hK 405 rfl rfl)) rfl (by decide) rfl (Nat.le_of_ble_eq_true rfl) (by decide) (fun u hu => ?_)
  refine z_eqs (σ' := (ap b σ [(405, 1, 11), (405, 1, 10), (405, 1, 9), (405, 1, 8), (405, 1, 7), (405, 1, 6), (405, 1, 5), (405, 1, 4), (405, 1, 3), (405, 1, 2), (405, 1, 1), (405, 0, 0)] [] [])) (hu.trans ap_ap) ?_
  show zx p l e _ s m _ below meth c g 3 0 0 _ _ 27 [(2, .int 10), (0, .ref (b + 405)), (1, .int 39)] _
  refine z_iinc (v := 11) (lv' := [(2, .int 11), (0, .ref (b + 405)), (1, .int 39)]) B dX9_tick_27 0 rfl (by decide) (by decide) rfl ?_
  refine z_goto (tgt := 18) B dX9_tick_30 (by decide) ?_
  refine z_iload_n B dX9_tick_18 rfl 0 rfl ?_
  refine z_iload_n B dX9_tick_19 rfl 2 rfl ?_
  refine z_icmp_ge (tgt := 33) B dX9_tick_20 (by decide) (fun h => absurd h (by decide)) (fun _ => ?_)
  refine z_aload_n B dX9_tick_23 rfl 1 rfl ?_
  refine z_cVv (As := []) (rest := []) B cw_X9_294 cx_10 dX9_tick_24 (ci_X9_ticks_980 l (σ := (ap b σ [(405, 1, 11), (405, 1, 10), (405, 1, 9), (405, 1, 8), (405, 1, 7), (405, 1, 6), (405, 1, 5), (405, 1, 4), (405, 1, 3), (405, 1, 2), (405, 1, 1), (405, 0, 0)] [] [])) (b := b) (lyA hK) (rI_at 405 1 rfl) (rI_at 405 6 hI_405_6) (rI_at 405 16 hI_405_16)) (lKA (hk_K hK 405 rfl rfl)) rfl (by decide) rfl (Nat.le_of_ble_eq_true rfl) (by decide) (fun u hu => ?_)
  refine z_eqs (σ' := (ap b σ [(405, 1, 12), (405, 1, 11), (405, 1, 10), (405, 1, 9), (405, 1, 8), (405, 1, 7), (405, 1, 6), (405, 1, 5), (405, 1, 4), (405, 1, 3), (405, 1, 2), (405, 1, 1), (405, 0, 0)] [] [])) (hu.trans ap_ap) ?_
  show zx p l e _ s m _ below meth c g 3 0 0 _ _ 27 [(2, .int 11), (0, .ref (b + 405)), (1, .int 39)] _
  refine z_iinc (v := 12) (lv' := [(2, .int 12), (0, .ref (b + 405)), (1, .int 39)]) B dX9_tick_27 0 rfl (by decide) (by decide) rfl ?_
  refine z_goto (tgt := 18) B dX9_tick_30 (by decide) ?_
  refine z_iload_n B dX9_tick_18 rfl 0 rfl ?_
  refine z_iload_n B dX9_tick_19 rfl 2 rfl ?_
  refine z_icmp_ge (tgt := 33) B dX9_tick_20 (by decide) (fun h => absurd h (by decide)) (fun _ => ?_)
  refine z_aload_n B dX9_tick_23 rfl 1 rfl ?_
  refine z_cVv (As := []) (rest := []) B cw_X9_294 cx_10 dX9_tick_24 (ci_X9_ticks_985 l (σ := (ap b σ [(405, 1, 12), (405, 1, 11), (405, 1, 10), (405, 1, 9), (405, 1, 8), (405, 1, 7), (405, 1, 6), (405, 1, 5), (405, 1, 4), (405, 1, 3), (405, 1, 2), (405, 1, 1), (405, 0, 0)] [] [])) (b := b) (lyA hK) (rI_at 405 1 rfl) (rI_at 405 6 hI_405_6) (rI_at 405 16 hI_405_16)) (lKA (hk_K hK 405 rfl rfl)) rfl (by decide) rfl (Nat.le_of_ble_eq_true rfl) (by decide) (fun u hu => ?_)
  refine z_eqs (σ' := (ap b σ [(405, 1, 13), (405, 1, 12), (405, 1, 11), (405, 1, 10), (405, 1, 9), (405, 1, 8), (405, 1, 7), (405, 1, 6), (405, 1, 5), (405, 1, 4), (405, 1, 3), (405, 1, 2), (405, 1, 1), (405, 0, 0)] [] [])) (hu.trans ap_ap) ?_
  show zx p l e _ s m _ below meth c g 3 0 0 _ _ 27 [(2, .int 12), (0, .ref (b + 405)), (1, .int 39)] _
  refine z_iinc (v := 13) (lv' := [(2, .int 13), (0, .ref (b + 405)), (1, .int 39)]) B dX9_tick_27 0 rfl (by decide) (by decide) rfl ?_
  refine z_goto (tgt := 18) B dX9_tick_30 (by decide) ?_
  refine z_iload_n B dX9_tick_18 rfl 0 rfl ?_
  refine z_iload_n B dX9_tick_19 rfl 2 rfl ?_
  refine z_icmp_ge (tgt := 33) B dX9_tick_20 (by decide) (fun h => absurd h (by decide)) (fun _ => ?_)
  refine z_aload_n B dX9_tick_23 rfl 1 rfl ?_
  refine z_cVv (As := []) (rest := []) B cw_X9_294 cx_10 dX9_tick_24 (ci_X9_ticks_990 l (σ := (ap b σ [(405, 1, 13), (405, 1, 12), (405, 1, 11), (405, 1, 10), (405, 1, 9), (405, 1, 8), (405, 1, 7), (405, 1, 6), (405, 1, 5), (405, 1, 4), (405, 1, 3), (405, 1, 2), (405, 1, 1), (405, 0, 0)] [] [])) (b := b) (lyA hK) (rI_at 405 1 rfl) (rI_at 405 6 hI_405_6) (rI_at 405 16 hI_405_16)) (lKA (hk_K hK 405 rfl rfl)) rfl (by decide) rfl (Nat.le_of_ble_eq_true rfl) (by decide) (fun u hu => ?_)
  refine z_eqs (σ' := (ap b σ [(405, 1, 14), (405, 1, 13), (405, 1, 12), (405, 1, 11), (405, 1, 10), (405, 1, 9), (405, 1, 8), (405, 1, 7), (405, 1, 6), (405, 1, 5), (405, 1, 4), (405, 1, 3), (405, 1, 2), (405, 1, 1), (405, 0, 0)] [] [])) (hu.trans ap_ap) ?_
  show zx p l e _ s m _ below meth c g 3 0 0 _ _ 27 [(2, .int 13), (0, .ref (b + 405)), (1, .int 39)] _
  refine z_iinc (v := 14) (lv' := [(2, .int 14), (0, .ref (b + 405)), (1, .int 39)]) B dX9_tick_27 0 rfl (by decide) (by decide) rfl ?_
  refine z_goto (tgt := 18) B dX9_tick_30 (by decide) ?_
  refine z_iload_n B dX9_tick_18 rfl 0 rfl ?_
  refine z_iload_n B dX9_tick_19 rfl 2 rfl ?_
  refine z_icmp_ge (tgt := 33) B dX9_tick_20 (by decide) (fun h => absurd h (by decide)) (fun _ => ?_)
  refine z_aload_n B dX9_tick_23 rfl 1 rfl ?_
  refine z_cVv (As := []) (rest := []) B cw_X9_294 cx_10 dX9_tick_24 (ci_X9_ticks_995 l (σ := (ap b σ [(405, 1, 14), (405, 1, 13), (405, 1, 12), (405, 1, 11), (405, 1, 10), (405, 1, 9), (405, 1, 8), (405, 1, 7), (405, 1, 6), (405, 1, 5), (405, 1, 4), (405, 1, 3), (405, 1, 2), (405, 1, 1), (405, 0, 0)] [] [])) (b := b) (lyA hK) (rI_at 405 1 rfl) (rI_at 405 6 hI_405_6) (rI_at 405 16 hI_405_16)) (lKA (hk_K hK 405 rfl rfl)) rfl (by decide) rfl (Nat.le_of_ble_eq_true rfl) (by decide) (fun u hu => ?_)
  refine z_eqs (σ' := (ap b σ [(405, 1, 15), (405, 1, 14), (405, 1, 13), (405, 1, 12), (405, 1, 11), (405, 1, 10), (405, 1, 9), (405, 1, 8), (405, 1, 7), (405, 1, 6), (405, 1, 5), (405, 1, 4), (405, 1, 3), (405, 1, 2), (405, 1, 1), (405, 0, 0)] [] [])) (hu.trans ap_ap) ?_
  show zx p l e _ s m _ below meth c g 3 0 0 _ _ 27 [(2, .int 14), (0, .ref (b + 405)), (1, .int 39)] _
  refine z_iinc (v := 15) (lv' := [(2, .int 15), (0, .ref (b + 405)), (1, .int 39)]) B dX9_tick_27 0 rfl (by decide) (by decide) rfl ?_
  refine z_goto (tgt := 18) B dX9_tick_30 (by decide) ?_
  refine z_iload_n B dX9_tick_18 rfl 0 rfl ?_
  refine z_iload_n B dX9_tick_19 rfl 2 rfl ?_
  refine z_icmp_ge (tgt := 33) B dX9_tick_20 (by decide) (fun h => absurd h (by decide)) (fun _ => ?_)
  refine z_aload_n B dX9_tick_23 rfl 1 rfl ?_
  refine z_cVv (As := []) (rest := []) B cw_X9_294 cx_10 dX9_tick_24 (ci_X9_ticks_1000 l (σ := (ap b σ [(405, 1, 15), (405, 1, 14), (405, 1, 13), (405, 1, 12), (405, 1, 11), (405, 1, 10), (405, 1, 9), (405, 1, 8), (405, 1, 7), (405, 1, 6), (405, 1, 5), (405, 1, 4), (405, 1, 3), (405, 1, 2), (405, 1, 1), (405, 0, 0)] [] [])) (b := b) (lyA hK) (rI_at 405 1 rfl) (rI_at 405 6 hI_405_6) (rI_at 405 16 hI_405_16)) (lKA (hk_K hK 405 rfl rfl)) rfl (by decide) rfl (Nat.le_of_ble_eq_true rfl) (by decide) (fun u hu => ?_)
  refine z_eqs (σ' := (ap b σ [(405, 1, 16), (405, 1, 15), (405, 1, 14), (405, 1, 13), (405, 1, 12), (405, 1, 11), (405, 1, 10), (405, 1, 9), (405, 1, 8), (405, 1, 7), (405, 1, 6), (405, 1, 5), (405, 1, 4), (405, 1, 3), (405, 1, 2), (405, 1, 1), (405, 0, 0)] [] [])) (hu.trans ap_ap) ?_
  show zx p l e _ s m _ below meth c g 3 0 0 _ _ 27 [(2, .int 15), (0, .ref (b + 405)), (1, .int 39)] _
  refine z_iinc (v := 16) (lv' := [(2, .int 16), (0, .ref (b + 405)), (1, .int 39)]) B dX9_tick_27 0 rfl (by decide) (by decide) rfl ?_
  refine z_goto (tgt := 18) B dX9_tick_30 (by decide) ?_
  refine z_iload_n B dX9_tick_18 rfl 0 rfl ?_
  refine z_iload_n B dX9_tick_19 rfl 2 rfl ?_
  refine z_icmp_ge (tgt := 33) B dX9_tick_20 (by decide) (fun h => absurd h (by decide)) (fun _ => ?_)
  refine z_aload_n B dX9_tick_23 rfl 1 rfl ?_
  refine z_cVv (As := []) (rest := []) B cw_X9_294 cx_10 dX9_tick_24 (ci_X9_ticks_1005 l (σ := (ap b σ [(405, 1, 16), (405, 1, 15), (405, 1, 14), (405, 1, 13), (405, 1, 12), (405, 1, 11), (405, 1, 10), (405, 1, 9), (405, 1, 8), (405, 1, 7), (405, 1, 6), (405, 1, 5), (405, 1, 4), (405, 1, 3), (405, 1, 2), (405, 1, 1), (405, 0, 0)] [] [])) (b := b) (lyA hK) (rI_at 405 1 rfl) (rI_at 405 6 hI_405_6) (rI_at 405 16 hI_405_16)) (lKA (hk_K hK 405 rfl rfl)) rfl (by decide) rfl (Nat.le_of_ble_eq_true rfl) (by decide) (fun u hu => ?_)
  refine z_eqs (σ' := (ap b σ [(405, 1, 17), (405, 1, 16), (405, 1, 15), (405, 1, 14), (405, 1, 13), (405, 1, 12), (405, 1, 11), (405, 1, 10), (405, 1, 9), (405, 1, 8), (405, 1, 7), (405, 1, 6), (405, 1, 5), (405, 1, 4), (405, 1, 3), (405, 1, 2), (405, 1, 1), (405, 0, 0)] [] [])) (hu.trans ap_ap) ?_
  show zx p l e _ s m _ below meth c g 3 0 0 _ _ 27 [(2, .int 16), (0, .ref (b + 405)), (1, .int 39)] _
  refine z_iinc (v := 17) (lv' := [(2, .int 17), (0, .ref (b + 405)), (1, .int 39)]) B dX9_tick_27 0 rfl (by decide) (by decide) rfl ?_
  refine z_goto (tgt := 18) B dX9_tick_30 (by decide) ?_
  refine z_iload_n B dX9_tick_18 rfl 0 rfl ?_
  refine z_iload_n B dX9_tick_19 rfl 2 rfl ?_
  refine z_icmp_ge (tgt := 33) B dX9_tick_20 (by decide) (fun h => absurd h (by decide)) (fun _ => ?_)
  refine z_aload_n B dX9_tick_23 rfl 1 rfl ?_
  refine z_cVv (As := []) (rest := []) B cw_X9_294 cx_10 dX9_tick_24 (ci_X9_ticks_1010 l (σ := (ap b σ [(405, 1, 17), (405, 1, 16), (405, 1, 15), (405, 1, 14), (405, 1, 13), (405, 1, 12), (405, 1, 11), (405, 1, 10), (405, 1, 9), (405, 1, 8), (405, 1, 7), (405, 1, 6), (405, 1, 5), (405, 1, 4), (405, 1, 3), (405, 1, 2), (405, 1, 1), (405, 0, 0)] [] [])) (b := b) (lyA hK) (rI_at 405 1 rfl) (rI_at 405 6 hI_405_6) (rI_at 405 16 hI_405_16)) (lKA (hk_K hK 405 rfl rfl)) rfl (by decide) rfl (Nat.le_of_ble_eq_true rfl) (by decide) (fun u hu => ?_)
  refine z_eqs (σ' := (ap b σ [(405, 1, 18), (405, 1, 17), (405, 1, 16), (405, 1, 15), (405, 1, 14), (405, 1, 13), (405, 1, 12), (405, 1, 11), (405, 1, 10), (405, 1, 9), (405, 1, 8), (405, 1, 7), (405, 1, 6), (405, 1, 5), (405, 1, 4), (405, 1, 3), (405, 1, 2), (405, 1, 1), (405, 0, 0)] [] [])) (hu.trans ap_ap) ?_
  show zx p l e _ s m _ below meth c g 3 0 0 _ _ 27 [(2, .int 17), (0, .ref (b + 405)), (1, .int 39)] _
  refine z_iinc (v := 18) (lv' := [(2, .int 18), (0, .ref (b + 405)), (1, .int 39)]) B dX9_tick_27 0 rfl (by decide) (by decide) rfl ?_
  refine z_goto (tgt := 18) B dX9_tick_30 (by decide) ?_
  refine z_iload_n B dX9_tick_18 rfl 0 rfl ?_
  refine z_iload_n B dX9_tick_19 rfl 2 rfl ?_
  refine z_icmp_ge (tgt := 33) B dX9_tick_20 (by decide) (fun h => absurd h (by decide)) (fun _ => ?_)
  refine z_aload_n B dX9_tick_23 rfl 1 rfl ?_
  refine z_cVv (As := []) (rest := []) B cw_X9_294 cx_10 dX9_tick_24 (ci_X9_ticks_1015 l (σ := (ap b σ [(405, 1, 18), (405, 1, 17), (405, 1, 16), (405, 1, 15), (405, 1, 14), (405, 1, 13), (405, 1, 12), (405, 1, 11), (405, 1, 10), (405, 1, 9), (405, 1, 8), (405, 1, 7), (405, 1, 6), (405, 1, 5), (405, 1, 4), (405, 1, 3), (405, 1, 2), (405, 1, 1), (405, 0, 0)] [] [])) (b := b) (lyA hK) (rI_at 405 1 rfl) (rI_at 405 6 hI_405_6) (rI_at 405 16 hI_405_16)) (lKA (hk_K hK 405 rfl rfl)) rfl (by decide) rfl (Nat.le_of_ble_eq_true rfl) (by decide) (fun u hu => ?_)
  refine z_eqs (σ' := (ap b σ [(405, 1, 19), (405, 1, 18), (405, 1, 17), (405, 1, 16), (405, 1, 15), (405, 1, 14), (405, 1, 13), (405, 1, 12), (405, 1, 11), (405, 1, 10), (405, 1, 9), (405, 1, 8), (405, 1, 7), (405, 1, 6), (405, 1, 5), (405, 1, 4), (405, 1, 3), (405, 1, 2), (405, 1, 1), (405, 0, 0)] [] [])) (hu.trans ap_ap) ?_
  show zx p l e _ s m _ below meth c g 3 0 0 _ _ 27 [(2, .int 18), (0, .ref (b + 405)), (1, .int 39)] _
  refine z_iinc (v := 19) (lv' := [(2, .int 19), (0, .ref (b + 405)), (1, .int 39)]) B dX9_tick_27 0 rfl (by decide) (by decide) rfl ?_
  refine z_goto (tgt := 18) B dX9_tick_30 (by decide) ?_
  refine z_iload_n B dX9_tick_18 rfl 0 rfl ?_
  refine z_iload_n B dX9_tick_19 rfl 2 rfl ?_
  refine z_icmp_ge (tgt := 33) B dX9_tick_20 (by decide) (fun h => absurd h (by decide)) (fun _ => ?_)
  refine z_aload_n B dX9_tick_23 rfl 1 rfl ?_
  refine z_cVv (As := []) (rest := []) B cw_X9_294 cx_10 dX9_tick_24 (ci_X9_ticks_1020 l (σ := (ap b σ [(405, 1, 19), (405, 1, 18), (405, 1, 17), (405, 1, 16), (405, 1, 15), (405, 1, 14), (405, 1, 13), (405, 1, 12), (405, 1, 11), (405, 1, 10), (405, 1, 9), (405, 1, 8), (405, 1, 7), (405, 1, 6), (405, 1, 5), (405, 1, 4), (405, 1, 3), (405, 1, 2), (405, 1, 1), (405, 0, 0)] [] [])) (b := b) (lyA hK) (rI_at 405 1 rfl) (rI_at 405 6 hI_405_6) (rI_at 405 16 hI_405_16)) (lKA (hk_K hK 405 rfl rfl)) rfl (by decide) rfl (Nat.le_of_ble_eq_true rfl) (by decide) (fun u hu => ?_)
  refine z_eqs (σ' := (ap b σ [(405, 1, 20), (405, 1, 19), (405, 1, 18), (405, 1, 17), (405, 1, 16), (405, 1, 15), (405, 1, 14), (405, 1, 13), (405, 1, 12), (405, 1, 11), (405, 1, 10), (405, 1, 9), (405, 1, 8), (405, 1, 7), (405, 1, 6), (405, 1, 5), (405, 1, 4), (405, 1, 3), (405, 1, 2), (405, 1, 1), (405, 0, 0)] [] [])) (hu.trans ap_ap) ?_
  show zx p l e _ s m _ below meth c g 3 0 0 _ _ 27 [(2, .int 19), (0, .ref (b + 405)), (1, .int 39)] _
  refine z_iinc (v := 20) (lv' := [(2, .int 20), (0, .ref (b + 405)), (1, .int 39)]) B dX9_tick_27 0 rfl (by decide) (by decide) rfl ?_
  refine z_goto (tgt := 18) B dX9_tick_30 (by decide) ?_
  refine z_iload_n B dX9_tick_18 rfl 0 rfl ?_
  refine z_iload_n B dX9_tick_19 rfl 2 rfl ?_
  refine z_icmp_ge (tgt := 33) B dX9_tick_20 (by decide) (fun h => absurd h (by decide)) (fun _ => ?_)
  refine z_aload_n B dX9_tick_23 rfl 1 rfl ?_
  refine z_cVv (As := []) (rest := []) B cw_X9_294 cx_10 dX9_tick_24 (ci_X9_ticks_1025 l (σ := (ap b σ [(405, 1, 20), (405, 1, 19), (405, 1, 18), (405, 1, 17), (405, 1, 16), (405, 1, 15), (405, 1, 14), (405, 1, 13), (405, 1, 12), (405, 1, 11), (405, 1, 10), (405, 1, 9), (405, 1, 8), (405, 1, 7), (405, 1, 6), (405, 1, 5), (405, 1, 4), (405, 1, 3), (405, 1, 2), (405, 1, 1), (405, 0, 0)] [] [])) (b := b) (lyA hK) (rI_at 405 1 rfl) (rI_at 405 6 hI_405_6) (rI_at 405 16 hI_405_16)) (lKA (hk_K hK 405 rfl rfl)) rfl (by decide) rfl (Nat.le_of_ble_eq_true rfl) (by decide) (fun u hu => ?_)
  refine z_eqs (σ' := (ap b σ [(405, 1, 21), (405, 1, 20), (405, 1, 19), (405, 1, 18), (405, 1, 17), (405, 1, 16), (405, 1, 15), (405, 1, 14), (405, 1, 13), (405, 1, 12), (405, 1, 11), (405, 1, 10), (405, 1, 9), (405, 1, 8), (405, 1, 7), (405, 1, 6), (405, 1, 5), (405, 1, 4), (405, 1, 3), (405, 1, 2), (405, 1, 1), (405, 0, 0)] [] [])) (hu.trans ap_ap) ?_
  show zx p l e _ s m _ below meth c g 3 0 0 _ _ 27 [(2, .int 20), (0, .ref (b + 405)), (1, .int 39)] _
  refine z_iinc (v := 21) (lv' := [(2, .int 21), (0, .ref (b + 405)), (1, .int 39)]) B dX9_tick_27 0 rfl (by decide) (by decide) rfl ?_
  refine z_goto (tgt := 18) B dX9_tick_30 (by decide) ?_
  refine z_iload_n B dX9_tick_18 rfl 0 rfl ?_
  refine z_iload_n B dX9_tick_19 rfl 2 rfl ?_
  refine z_icmp_ge (tgt := 33) B dX9_tick_20 (by decide) (fun h => absurd h (by decide)) (fun _ => ?_)
  refine z_aload_n B dX9_tick_23 rfl 1 rfl ?_
  refine z_cVv (As := []) (rest := []) B cw_X9_294 cx_10 dX9_tick_24 (ci_X9_ticks_1030 l (σ := (ap b σ [(405, 1, 21), (405, 1, 20), (405, 1, 19), (405, 1, 18), (405, 1, 17), (405, 1, 16), (405, 1, 15), (405, 1, 14), (405, 1, 13), (405, 1, 12), (405, 1, 11), (405, 1, 10), (405, 1, 9), (405, 1, 8), (405, 1, 7), (405, 1, 6), (405, 1, 5), (405, 1, 4), (405, 1, 3), (405, 1, 2), (405, 1, 1), (405, 0, 0)] [] [])) (b := b) (lyA hK) (rI_at 405 1 rfl) (rI_at 405 6 hI_405_6) (rI_at 405 16 hI_405_16)) (lKA (hk_K hK 405 rfl rfl)) rfl (by decide) rfl (Nat.le_of_ble_eq_true rfl) (by decide) (fun u hu => ?_)
  refine z_eqs (σ' := (ap b σ [(405, 1, 22), (405, 1, 21), (405, 1, 20), (405, 1, 19), (405, 1, 18), (405, 1, 17), (405, 1, 16), (405, 1, 15), (405, 1, 14), (405, 1, 13), (405, 1, 12), (405, 1, 11), (405, 1, 10), (405, 1, 9), (405, 1, 8), (405, 1, 7), (405, 1, 6), (405, 1, 5), (405, 1, 4), (405, 1, 3), (405, 1, 2), (405, 1, 1), (405, 0, 0)] [] [])) (hu.trans ap_ap) ?_
  show zx p l e _ s m _ below meth c g 3 0 0 _ _ 27 [(2, .int 21), (0, .ref (b + 405)), (1, .int 39)] _
  refine z_iinc (v := 22) (lv' := [(2, .int 22), (0, .ref (b + 405)), (1, .int 39)]) B dX9_tick_27 0 rfl (by decide) (by decide) rfl ?_
  refine z_goto (tgt := 18) B dX9_tick_30 (by decide) ?_
  refine z_iload_n B dX9_tick_18 rfl 0 rfl ?_
  refine z_iload_n B dX9_tick_19 rfl 2 rfl ?_
  refine z_icmp_ge (tgt := 33) B dX9_tick_20 (by decide) (fun h => absurd h (by decide)) (fun _ => ?_)
  refine z_aload_n B dX9_tick_23 rfl 1 rfl ?_
  refine z_cVv (As := []) (rest := []) B cw_X9_294 cx_10 dX9_tick_24 (ci_X9_ticks_1035 l (σ := (ap b σ [(405, 1, 22), (405, 1, 21), (405, 1, 20), (405, 1, 19), (405, 1, 18), (405, 1, 17), (405, 1, 16), (405, 1, 15), (405, 1, 14), (405, 1, 13), (405, 1, 12), (405, 1, 11), (405, 1, 10), (405, 1, 9), (405, 1, 8), (405, 1, 7), (405, 1, 6), (405, 1, 5), (405, 1, 4), (405, 1, 3), (405, 1, 2), (405, 1, 1), (405, 0, 0)] [] [])) (b := b) (lyA hK) (rI_at 405 1 rfl) (rI_at 405 6 hI_405_6) (rI_at 405 16 hI_405_16)) (lKA (hk_K hK 405 rfl rfl)) rfl (by decide) rfl (Nat.le_of_ble_eq_true rfl) (by decide) (fun u hu => ?_)
  refine z_eqs (σ' := (ap b σ [(405, 1, 23), (405, 1, 22), (405, 1, 21), (405, 1, 20), (405, 1, 19), (405, 1, 18), (405, 1, 17), (405, 1, 16), (405, 1, 15), (405, 1, 14), (405, 1, 13), (405, 1, 12), (405, 1, 11), (405, 1, 10), (405, 1, 9), (405, 1, 8), (405, 1, 7), (405, 1, 6), (405, 1, 5), (405, 1, 4), (405, 1, 3), (405, 1, 2), (405, 1, 1), (405, 0, 0)] [] [])) (hu.trans ap_ap) ?_
  show zx p l e _ s m _ below meth c g 3 0 0 _ _ 27 [(2, .int 22), (0, .ref (b + 405)), (1, .int 39)] _
  refine z_iinc (v := 23) (lv' := [(2, .int 23), (0, .ref (b + 405)), (1, .int 39)]) B dX9_tick_27 0 rfl (by decide) (by decide) rfl ?_
  refine z_goto (tgt := 18) B dX9_tick_30 (by decide) ?_
  refine z_iload_n B dX9_tick_18 rfl 0 rfl ?_
  refine z_iload_n B dX9_tick_19 rfl 2 rfl ?_
  refine z_icmp_ge (tgt := 33) B dX9_tick_20 (by decide) (fun h => absurd h (by decide)) (fun _ => ?_)
  refine z_aload_n B dX9_tick_23 rfl 1 rfl ?_
  refine z_cVv (As := []) (rest := []) B cw_X9_294 cx_10 dX9_tick_24 (ci_X9_ticks_1040 l (σ := (ap b σ [(405, 1, 23), (405, 1, 22), (405, 1, 21), (405, 1, 20), (405, 1, 19), (405, 1, 18), (405, 1, 17), (405, 1, 16), (405, 1, 15), (405, 1, 14), (405, 1, 13), (405, 1, 12), (405, 1, 11), (405, 1, 10), (405, 1, 9), (405, 1, 8), (405, 1, 7), (405, 1, 6), (405, 1, 5), (405, 1, 4), (405, 1, 3), (405, 1, 2), (405, 1, 1), (405, 0, 0)] [] [])) (b := b) (lyA hK) (rI_at 405 1 rfl) (rI_at 405 6 hI_405_6) (rI_at 405 16 hI_405_16)) (lKA (hk_K hK 405 rfl rfl)) rfl (by decide) rfl (Nat.le_of_ble_eq_true rfl) (by decide) (fun u hu => ?_)
  refine z_eqs (σ' := (ap b σ [(405, 1, 24), (405, 1, 23), (405, 1, 22), (405, 1, 21), (405, 1, 20), (405, 1, 19), (405, 1, 18), (405, 1, 17), (405, 1, 16), (405, 1, 15), (405, 1, 14), (405, 1, 13), (405, 1, 12), (405, 1, 11), (405, 1, 10), (405, 1, 9), (405, 1, 8), (405, 1, 7), (405, 1, 6), (405, 1, 5), (405, 1, 4), (405, 1, 3), (405, 1, 2), (405, 1, 1), (405, 0, 0)] [] [])) (hu.trans ap_ap) ?_
  show zx p l e _ s m _ below meth c g 3 0 0 _ _ 27 [(2, .int 23), (0, .ref (b + 405)), (1, .int 39)] _
  refine z_iinc (v := 24) (lv' := [(2, .int 24), (0, .ref (b + 405)), (1, .int 39)]) B dX9_tick_27 0 rfl (by decide) (by decide) rfl ?_
  refine z_goto (tgt := 18) B dX9_tick_30 (by decide) ?_
  refine z_iload_n B dX9_tick_18 rfl 0 rfl ?_
  refine z_iload_n B dX9_tick_19 rfl 2 rfl ?_
  refine z_icmp_ge (tgt := 33) B dX9_tick_20 (by decide) (fun h => absurd h (by decide)) (fun _ => ?_)
  refine z_aload_n B dX9_tick_23 rfl 1 rfl ?_
  refine z_cVv (As := []) (rest := []) B cw_X9_294 cx_10 dX9_tick_24 (ci_X9_ticks_1045 l (σ := (ap b σ [(405, 1, 24), (405, 1, 23), (405, 1, 22), (405, 1, 21), (405, 1, 20), (405, 1, 19), (405, 1, 18), (405, 1, 17), (405, 1, 16), (405, 1, 15), (405, 1, 14), (405, 1, 13), (405, 1, 12), (405, 1, 11), (405, 1, 10), (405, 1, 9), (405, 1, 8), (405, 1, 7), (405, 1, 6), (405, 1, 5), (405, 1, 4), (405, 1, 3), (405, 1, 2), (405, 1, 1), (405, 0, 0)] [] [])) (b := b) (lyA hK) (rI_at 405 1 rfl) (rI_at 405 6 hI_405_6) (rI_at 405 16 hI_405_16)) (lKA (hk_K hK 405 rfl rfl)) rfl (by decide) rfl (Nat.le_of_ble_eq_true rfl) (by decide) (fun u hu => ?_)
  refine z_eqs (σ' := (ap b σ [(405, 1, 25), (405, 1, 24), (405, 1, 23), (405, 1, 22), (405, 1, 21), (405, 1, 20), (405, 1, 19), (405, 1, 18), (405, 1, 17), (405, 1, 16), (405, 1, 15), (405, 1, 14), (405, 1, 13), (405, 1, 12), (405, 1, 11), (405, 1, 10), (405, 1, 9), (405, 1, 8), (405, 1, 7), (405, 1, 6), (405, 1, 5), (405, 1, 4), (405, 1, 3), (405, 1, 2), (405, 1, 1), (405, 0, 0)] [] [])) (hu.trans ap_ap) ?_
  show zx p l e _ s m _ below meth c g 3 0 0 _ _ 27 [(2, .int 24), (0, .ref (b + 405)), (1, .int 39)] _
  refine z_iinc (v := 25) (lv' := [(2, .int 25), (0, .ref (b + 405)), (1, .int 39)]) B dX9_tick_27 0 rfl (by decide) (by decide) rfl ?_
  refine z_goto (tgt := 18) B dX9_tick_30 (by decide) ?_
  refine z_iload_n B dX9_tick_18 rfl 0 rfl ?_
  refine z_iload_n B dX9_tick_19 rfl 2 rfl ?_
  refine z_icmp_ge (tgt := 33) B dX9_tick_20 (by decide) (fun h => absurd h (by decide)) (fun _ => ?_)
  refine z_aload_n B dX9_tick_23 rfl 1 rfl ?_
  refine z_cVv (As := []) (rest := []) B cw_X9_294 cx_10 dX9_tick_24 (ci_X9_ticks_1050 l (σ := (ap b σ [(405, 1, 25), (405, 1, 24), (405, 1, 23), (405, 1, 22), (405, 1, 21), (405, 1, 20), (405, 1, 19), (405, 1, 18), (405, 1, 17), (405, 1, 16), (405, 1, 15), (405, 1, 14), (405, 1, 13), (405, 1, 12), (405, 1, 11), (405, 1, 10), (405, 1, 9), (405, 1, 8), (405, 1, 7), (405, 1, 6), (405, 1, 5), (405, 1, 4), (405, 1, 3), (405, 1, 2), (405, 1, 1), (405, 0, 0)] [] [])) (b := b) (lyA hK) (rI_at 405 1 rfl) (rI_at 405 6 hI_405_6) (rI_at 405 16 hI_405_16)) (lKA (hk_K hK 405 rfl rfl)) rfl (by decide) rfl (Nat.le_of_ble_eq_true rfl) (by decide) (fun u hu => ?_)
  refine z_eqs (σ' := (ap b σ [(405, 1, 26), (405, 1, 25), (405, 1, 24), (405, 1, 23), (405, 1, 22), (405, 1, 21), (405, 1, 20), (405, 1, 19), (405, 1, 18), (405, 1, 17), (405, 1, 16), (405, 1, 15), (405, 1, 14), (405, 1, 13), (405, 1, 12), (405, 1, 11), (405, 1, 10), (405, 1, 9), (405, 1, 8), (405, 1, 7), (405, 1, 6), (405, 1, 5), (405, 1, 4), (405, 1, 3), (405, 1, 2), (405, 1, 1), (405, 0, 0)] [] [])) (hu.trans ap_ap) ?_
  show zx p l e _ s m _ below meth c g 3 0 0 _ _ 27 [(2, .int 25), (0, .ref (b + 405)), (1, .int 39)] _
  refine z_iinc (v := 26) (lv' := [(2, .int 26), (0, .ref (b + 405)), (1, .int 39)]) B dX9_tick_27 0 rfl (by decide) (by decide) rfl ?_
  refine z_goto (tgt := 18) B dX9_tick_30 (by decide) ?_
  refine z_iload_n B dX9_tick_18 rfl 0 rfl ?_
  refine z_iload_n B dX9_tick_19 rfl 2 rfl ?_
  refine z_icmp_ge (tgt := 33) B dX9_tick_20 (by decide) (fun h => absurd h (by decide)) (fun _ => ?_)
  refine z_aload_n B dX9_tick_23 rfl 1 rfl ?_
  refine z_cVv (As := []) (rest := []) B cw_X9_294 cx_10 dX9_tick_24 (ci_X9_ticks_1055 l (σ := (ap b σ [(405, 1, 26), (405, 1, 25), (405, 1, 24), (405, 1, 23), (405, 1, 22), (405, 1, 21), (405, 1, 20), (405, 1, 19), (405, 1, 18), (405, 1, 17), (405, 1, 16), (405, 1, 15), (405, 1, 14), (405, 1, 13), (405, 1, 12), (405, 1, 11), (405, 1, 10), (405, 1, 9), (405, 1, 8), (405, 1, 7), (405, 1, 6), (405, 1, 5), (405, 1, 4), (405, 1, 3), (405, 1, 2), (405, 1, 1), (405, 0, 0)] [] [])) (b := b) (lyA hK) (rI_at 405 1 rfl) (rI_at 405 6 hI_405_6) (rI_at 405 16 hI_405_16)) (lKA (hk_K hK 405 rfl rfl)) rfl (by decide) rfl (Nat.le_of_ble_eq_true rfl) (by decide) (fun u hu => ?_)
  refine z_eqs (σ' := (ap b σ [(405, 1, 27), (405, 1, 26), (405, 1, 25), (405, 1, 24), (405, 1, 23), (405, 1, 22), (405, 1, 21), (405, 1, 20), (405, 1, 19), (405, 1, 18), (405, 1, 17), (405, 1, 16), (405, 1, 15), (405, 1, 14), (405, 1, 13), (405, 1, 12), (405, 1, 11), (405, 1, 10), (405, 1, 9), (405, 1, 8), (405, 1, 7), (405, 1, 6), (405, 1, 5), (405, 1, 4), (405, 1, 3), (405, 1, 2), (405, 1, 1), (405, 0, 0)] [] [])) (hu.trans ap_ap) ?_
  show zx p l e _ s m _ below meth c g 3 0 0 _ _ 27 [(2, .int 26), (0, .ref (b + 405)), (1, .int 39)] _
  refine z_iinc (v := 27) (lv' := [(2, .int 27), (0, .ref (b + 405)), (1, .int 39)]) B dX9_tick_27 0 rfl (by decide) (by decide) rfl ?_
  refine z_goto (tgt := 18) B dX9_tick_30 (by decide) ?_
  refine z_iload_n B dX9_tick_18 rfl 0 rfl ?_
  refine z_iload_n B dX9_tick_19 rfl 2 rfl ?_
  refine z_icmp_ge (tgt := 33) B dX9_tick_20 (by decide) (fun h => absurd h (by decide)) (fun _ => ?_)
  refine z_aload_n B dX9_tick_23 rfl 1 rfl ?_
  refine z_cVv (As := []) (rest := []) B cw_X9_294 cx_10 dX9_tick_24 (ci_X9_ticks_1060 l (σ := (ap b σ [(405, 1, 27), (405, 1, 26), (405, 1, 25), (405, 1, 24), (405, 1, 23), (405, 1, 22), (405, 1, 21), (405, 1, 20), (405, 1, 19), (405, 1, 18), (405, 1, 17), (405, 1, 16), (405, 1, 15), (405, 1, 14), (405, 1, 13), (405, 1, 12), (405, 1, 11), (405, 1, 10), (405, 1, 9), (405, 1, 8), (405, 1, 7), (405, 1, 6), (405, 1, 5), (405, 1, 4), (405, 1, 3), (405, 1, 2), (405, 1, 1), (405, 0, 0)] [] [])) (b := b) (lyA hK) (rI_at 405 1 rfl) (rI_at 405 6 hI_405_6) (rI_at 405 16 hI_405_16)) (lKA (hk_K hK 405 rfl rfl)) rfl (by decide) rfl (Nat.le_of_ble_eq_true rfl) (by decide) (fun u hu => ?_)
  refine z_eqs (σ' := (ap b σ [(405, 1, 28), (405, 1, 27), (405, 1, 26), (405, 1, 25), (405, 1, 24), (405, 1, 23), (405, 1, 22), (405, 1, 21), (405, 1, 20), (405, 1, 19), (405, 1, 18), (405, 1, 17), (405, 1, 16), (405, 1, 15), (405, 1, 14), (405, 1, 13), (405, 1, 12), (405, 1, 11), (405, 1, 10), (405, 1, 9), (405, 1, 8), (405, 1, 7), (405, 1, 6), (405, 1, 5), (405, 1, 4), (405, 1, 3), (405, 1, 2), (405, 1, 1), (405, 0, 0)] [] [])) (hu.trans ap_ap) ?_
  show zx p l e _ s m _ below meth c g 3 0 0 _ _ 27 [(2, .int 27), (0, .ref (b + 405)), (1, .int 39)] _
  refine z_iinc (v := 28) (lv' := [(2, .int 28), (0, .ref (b + 405)), (1, .int 39)]) B dX9_tick_27 0 rfl (by decide) (by decide) rfl ?_
  refine z_goto (tgt := 18) B dX9_tick_30 (by decide) ?_
  refine z_iload_n B dX9_tick_18 rfl 0 rfl ?_
  refine z_iload_n B dX9_tick_19 rfl 2 rfl ?_
  refine z_icmp_ge (tgt := 33) B dX9_tick_20 (by decide) (fun h => absurd h (by decide)) (fun _ => ?_)
  refine z_aload_n B dX9_tick_23 rfl 1 rfl ?_
  refine z_cVv (As := []) (rest := []) B cw_X9_294 cx_10 dX9_tick_24 (ci_X9_ticks_1065 l (σ := (ap b σ [(405, 1, 28), (405, 1, 27), (405, 1, 26), (405, 1, 25), (405, 1, 24), (405, 1, 23), (405, 1, 22), (405, 1, 21), (405, 1, 20), (405, 1, 19), (405, 1, 18), (405, 1, 17), (405, 1, 16), (405, 1, 15), (405, 1, 14), (405, 1, 13), (405, 1, 12), (405, 1, 11), (405, 1, 10), (405, 1, 9), (405, 1, 8), (405, 1, 7), (405, 1, 6), (405, 1, 5), (405, 1, 4), (405, 1, 3), (405, 1, 2), (405, 1, 1), (405, 0, 0)] [] [])) (b := b) (lyA hK) (rI_at 405 1 rfl) (rI_at 405 6 hI_405_6) (rI_at 405 16 hI_405_16)) (lKA (hk_K hK 405 rfl rfl)) rfl (by decide) rfl (Nat.le_of_ble_eq_true rfl) (by decide) (fun u hu => ?_)
  refine z_eqs (σ' := (ap b σ [(405, 1, 29), (405, 1, 28), (405, 1, 27), (405, 1, 26), (405, 1, 25), (405, 1, 24), (405, 1, 23), (405, 1, 22), (405, 1, 21), (405, 1, 20), (405, 1, 19), (405, 1, 18), (405, 1, 17), (405, 1, 16), (405, 1, 15), (405, 1, 14), (405, 1, 13), (405, 1, 12), (405, 1, 11), (405, 1, 10), (405, 1, 9), (405, 1, 8), (405, 1, 7), (405, 1, 6), (405, 1, 5), (405, 1, 4), (405, 1, 3), (405, 1, 2), (405, 1, 1), (405, 0, 0)] [] [])) (hu.trans ap_ap) ?_
  show zx p l e _ s m _ below meth c g 3 0 0 _ _ 27 [(2, .int 28), (0, .ref (b + 405)), (1, .int 39)] _
  refine z_iinc (v := 29) (lv' := [(2, .int 29), (0, .ref (b + 405)), (1, .int 39)]) B dX9_tick_27 0 rfl (by decide) (by decide) rfl ?_
  refine z_goto (tgt := 18) B dX9_tick_30 (by decide) ?_
  refine z_iload_n B dX9_tick_18 rfl 0 rfl ?_
  refine z_iload_n B dX9_tick_19 rfl 2 rfl ?_
  refine z_icmp_ge (tgt := 33) B dX9_tick_20 (by decide) (fun h => absurd h (by decide)) (fun _ => ?_)
  refine z_aload_n B dX9_tick_23 rfl 1 rfl ?_
  refine z_cVv (As := []) (rest := []) B cw_X9_294 cx_10 dX9_tick_24 (ci_X9_ticks_1070 l (σ := (ap b σ [(405, 1, 29), (405, 1, 28), (405, 1, 27), (405, 1, 26), (405, 1, 25), (405, 1, 24), (405, 1, 23), (405, 1, 22), (405, 1, 21), (405, 1, 20), (405, 1, 19), (405, 1, 18), (405, 1, 17), (405, 1, 16), (405, 1, 15), (405, 1, 14), (405, 1, 13), (405, 1, 12), (405, 1, 11), (405, 1, 10), (405, 1, 9), (405, 1, 8), (405, 1, 7), (405, 1, 6), (405, 1, 5), (405, 1, 4), (405, 1, 3), (405, 1, 2), (405, 1, 1), (405, 0, 0)] [] [])) (b := b) (lyA hK) (rI_at 405 1 rfl) (rI_at 405 6 hI_405_6) (rI_at 405 16 hI_405_16)) (lKA (hk_K hK 405 rfl rfl)) rfl (by decide) rfl (Nat.le_of_ble_eq_true rfl) (by decide) (fun u hu => ?_)
  refine z_eqs (σ' := (ap b σ [(405, 1, 30), (405, 1, 29), (405, 1, 28), (405, 1, 27), (405, 1, 26), (405, 1, 25), (405, 1, 24), (405, 1, 23), (405, 1, 22), (405, 1, 21), (405, 1, 20), (405, 1, 19), (405, 1, 18), (405, 1, 17), (405, 1, 16), (405, 1, 15), (405, 1, 14), (405, 1, 13), (405, 1, 12), (405, 1, 11), (405, 1, 10), (405, 1, 9), (405, 1, 8), (405, 1, 7), (405, 1, 6), (405, 1, 5), (405, 1, 4), (405, 1, 3), (405, 1, 2), (405, 1, 1), (405, 0, 0)] [] [])) (hu.trans ap_ap) ?_
  show zx p l e _ s m _ below meth c g 3 0 0 _ _ 27 [(2, .int 29), (0, .ref (b + 405)), (1, .int 39)] _
  refine z_iinc (v := 30) (lv' := [(2, .int 30), (0, .ref (b + 405)), (1, .int 39)]) B dX9_tick_27 0 rfl (by decide) (by decide) rfl ?_
  refine z_goto (tgt := 18) B dX9_tick_30 (by decide) ?_
  refine z_iload_n B dX9_tick_18 rfl 0 rfl ?_
  refine z_iload_n B dX9_tick_19 rfl 2 rfl ?_
  refine z_icmp_ge (tgt := 33) B dX9_tick_20 (by decide) (fun h => absurd h (by decide)) (fun _ => ?_)
  refine z_aload_n B dX9_tick_23 rfl 1 rfl ?_
  refine z_cVv (As := []) (rest := []) B cw_X9_294 cx_10 dX9_tick_24 (ci_X9_ticks_1075 l (σ := (ap b σ [(405, 1, 30), (405, 1, 29), (405, 1, 28), (405, 1, 27), (405, 1, 26), (405, 1, 25), (405, 1, 24), (405, 1, 23), (405, 1, 22), (405, 1, 21), (405, 1, 20), (405, 1, 19), (405, 1, 18), (405, 1, 17), (405, 1, 16), (405, 1, 15), (405, 1, 14), (405, 1, 13), (405, 1, 12), (405, 1, 11), (405, 1, 10), (405, 1, 9), (405, 1, 8), (405, 1, 7), (405, 1, 6), (405, 1, 5), (405, 1, 4), (405, 1, 3), (405, 1, 2), (405, 1, 1), (405, 0, 0)] [] [])) (b := b) (lyA hK) (rI_at 405 1 rfl) (rI_at 405 6 hI_405_6) (rI_at 405 16 hI_405_16)) (lKA (hk_K hK 405 rfl rfl)) rfl (by decide) rfl (Nat.le_of_ble_eq_true rfl) (by decide) (fun u hu => ?_)
  refine z_eqs (σ' := (ap b σ [(405, 1, 31), (405, 1, 30), (405, 1, 29), (405, 1, 28), (405, 1, 27), (405, 1, 26), (405, 1, 25), (405, 1, 24), (405, 1, 23), (405, 1, 22), (405, 1, 21), (405, 1, 20), (405, 1, 19), (405, 1, 18), (405, 1, 17), (405, 1, 16), (405, 1, 15), (405, 1, 14), (405, 1, 13), (405, 1, 12), (405, 1, 11), (405, 1, 10), (405, 1, 9), (405, 1, 8), (405, 1, 7), (405, 1, 6), (405, 1, 5), (405, 1, 4), (405, 1, 3), (405, 1, 2), (405, 1, 1), (405, 0, 0)] [] [])) (hu.trans ap_ap) ?_
  show zx p l e _ s m _ below meth c g 3 0 0 _ _ 27 [(2, .int 30), (0, .ref (b + 405)), (1, .int 39)] _
  refine z_iinc (v := 31) (lv' := [(2, .int 31), (0, .ref (b + 405)), (1, .int 39)]) B dX9_tick_27 0 rfl (by decide) (by decide) rfl ?_
  refine z_goto (tgt := 18) B dX9_tick_30 (by decide) ?_
  refine z_iload_n B dX9_tick_18 rfl 0 rfl ?_
  refine z_iload_n B dX9_tick_19 rfl 2 rfl ?_
  refine z_icmp_ge (tgt := 33) B dX9_tick_20 (by decide) (fun h => absurd h (by decide)) (fun _ => ?_)
  refine z_aload_n B dX9_tick_23 rfl 1 rfl ?_
  refine z_cVv (As := []) (rest := []) B cw_X9_294 cx_10 dX9_tick_24 (ci_X9_ticks_1080 l (σ := (ap b σ [(405, 1, 31), (405, 1, 30), (405, 1, 29), (405, 1, 28), (405, 1, 27), (405, 1, 26), (405, 1, 25), (405, 1, 24), (405, 1, 23), (405, 1, 22), (405, 1, 21), (405, 1, 20), (405, 1, 19), (405, 1, 18), (405, 1, 17), (405, 1, 16), (405, 1, 15), (405, 1, 14), (405, 1, 13), (405, 1, 12), (405, 1, 11), (405, 1, 10), (405, 1, 9), (405, 1, 8), (405, 1, 7), (405, 1, 6), (405, 1, 5), (405, 1, 4), (405, 1, 3), (405, 1, 2), (405, 1, 1), (405, 0, 0)] [] [])) (b := b) (lyA hK) (rI_at 405 1 rfl) (rI_at 405 6 hI_405_6) (rI_at 405 16 hI_405_16)) (lKA (hk_K hK 405 rfl rfl)) rfl (by decide) rfl (Nat.le_of_ble_eq_true rfl) (by decide) (fun u hu => ?_)
  refine z_eqs (σ' := (ap b σ [(405, 1, 32), (405, 1, 31), (405, 1, 30), (405, 1, 29), (405, 1, 28), (405, 1, 27), (405, 1, 26), (405, 1, 25), (405, 1, 24), (405, 1, 23), (405, 1, 22), (405, 1, 21), (405, 1, 20), (405, 1, 19), (405, 1, 18), (405, 1, 17), (405, 1, 16), (405, 1, 15), (405, 1, 14), (405, 1, 13), (405, 1, 12), (405, 1, 11), (405, 1, 10), (405, 1, 9), (405, 1, 8), (405, 1, 7), (405, 1, 6), (405, 1, 5), (405, 1, 4), (405, 1, 3), (405, 1, 2), (405, 1, 1), (405, 0, 0)] [] [])) (hu.trans ap_ap) ?_
  show zx p l e _ s m _ below meth c g 3 0 0 _ _ 27 [(2, .int 31), (0, .ref (b + 405)), (1, .int 39)] _
  refine z_iinc (v := 32) (lv' := [(2, .int 32), (0, .ref (b + 405)), (1, .int 39)]) B dX9_tick_27 0 rfl (by decide) (by decide) rfl ?_
  refine z_goto (tgt := 18) B dX9_tick_30 (by decide) ?_
  refine z_iload_n B dX9_tick_18 rfl 0 rfl ?_
  refine z_iload_n B dX9_tick_19 rfl 2 rfl ?_
  refine z_icmp_ge (tgt := 33) B dX9_tick_20 (by decide) (fun h => absurd h (by decide)) (fun _ => ?_)
  refine z_aload_n B dX9_tick_23 rfl 1 rfl ?_
  refine z_cVv (As := []) (rest := []) B cw_X9_294 cx_10 dX9_tick_24 (ci_X9_ticks_1085 l (σ := (ap b σ [(405, 1, 32), (405, 1, 31), (405, 1, 30), (405, 1, 29), (405, 1, 28), (405, 1, 27), (405, 1, 26), (405, 1, 25), (405, 1, 24), (405, 1, 23), (405, 1, 22), (405, 1, 21), (405, 1, 20), (405, 1, 19), (405, 1, 18), (405, 1, 17), (405, 1, 16), (405, 1, 15), (405, 1, 14), (405, 1, 13), (405, 1, 12), (405, 1, 11), (405, 1, 10), (405, 1, 9), (405, 1, 8), (405, 1, 7), (405, 1, 6), (405, 1, 5), (405, 1, 4), (405, 1, 3), (405, 1, 2), (405, 1, 1), (405, 0, 0)] [] [])) (b := b) (lyA hK) (rI_at 405 1 rfl) (rI_at 405 6 hI_405_6) (rI_at 405 16 hI_405_16)) (lKA (hk_K hK 405 rfl rfl)) rfl (by decide) rfl (Nat.le_of_ble_eq_true rfl) (by decide) (fun u hu => ?_)
  refine z_eqs (σ' := (ap b σ [(405, 1, 33), (405, 1, 32), (405, 1, 31), (405, 1, 30), (405, 1, 29), (405, 1, 28), (405, 1, 27), (405, 1, 26), (405, 1, 25), (405, 1, 24), (405, 1, 23), (405, 1, 22), (405, 1, 21), (405, 1, 20), (405, 1, 19), (405, 1, 18), (405, 1, 17), (405, 1, 16), (405, 1, 15), (405, 1, 14), (405, 1, 13), (405, 1, 12), (405, 1, 11), (405, 1, 10), (405, 1, 9), (405, 1, 8), (405, 1, 7), (405, 1, 6), (405, 1, 5), (405, 1, 4), (405, 1, 3), (405, 1, 2), (405, 1, 1), (405, 0, 0)] [] [])) (hu.trans ap_ap) ?_
  show zx p l e _ s m _ below meth c g 3 0 0 _ _ 27 [(2, .int 32), (0, .ref (b + 405)), (1, .int 39)] _
  refine z_iinc (v := 33) (lv' := [(2, .int 33), (0, .ref (b + 405)), (1, .int 39)]) B dX9_tick_27 0 rfl (by decide) (by decide) rfl ?_
  refine z_goto (tgt := 18) B dX9_tick_30 (by decide) ?_
  refine z_iload_n B dX9_tick_18 rfl 0 rfl ?_
  refine z_iload_n B dX9_tick_19 rfl 2 rfl ?_
  refine z_icmp_ge (tgt := 33) B dX9_tick_20 (by decide) (fun h => absurd h (by decide)) (fun _ => ?_)
  refine z_aload_n B dX9_tick_23 rfl 1 rfl ?_
  refine z_cVv (As := []) (rest := []) B cw_X9_294 cx_10 dX9_tick_24 (ci_X9_ticks_1090 l (σ := (ap b σ [(405, 1, 33), (405, 1, 32), (405, 1, 31), (405, 1, 30), (405, 1, 29), (405, 1, 28), (405, 1, 27), (405, 1, 26), (405, 1, 25), (405, 1, 24), (405, 1, 23), (405, 1, 22), (405, 1, 21), (405, 1, 20), (405, 1, 19), (405, 1, 18), (405, 1, 17), (405, 1, 16), (405, 1, 15), (405, 1, 14), (405, 1, 13), (405, 1, 12), (405, 1, 11), (405, 1, 10), (405, 1, 9), (405, 1, 8), (405, 1, 7), (405, 1, 6), (405, 1, 5), (405, 1, 4), (405, 1, 3), (405, 1, 2), (405, 1, 1), (405, 0, 0)] [] [])) (b := b) (lyA hK) (rI_at 405 1 rfl) (rI_at 405 6 hI_405_6) (rI_at 405 16 hI_405_16)) (lKA (hk_K hK 405 rfl rfl)) rfl (by decide) rfl (Nat.le_of_ble_eq_true rfl) (by decide) (fun u hu => ?_)
  refine z_eqs (σ' := (ap b σ [(405, 1, 34), (405, 1, 33), (405, 1, 32), (405, 1, 31), (405, 1, 30), (405, 1, 29), (405, 1, 28), (405, 1, 27), (405, 1, 26), (405, 1, 25), (405, 1, 24), (405, 1, 23), (405, 1, 22), (405, 1, 21), (405, 1, 20), (405, 1, 19), (405, 1, 18), (405, 1, 17), (405, 1, 16), (405, 1, 15), (405, 1, 14), (405, 1, 13), (405, 1, 12), (405, 1, 11), (405, 1, 10), (405, 1, 9), (405, 1, 8), (405, 1, 7), (405, 1, 6), (405, 1, 5), (405, 1, 4), (405, 1, 3), (405, 1, 2), (405, 1, 1), (405, 0, 0)] [] [])) (hu.trans ap_ap) ?_
  show zx p l e _ s m _ below meth c g 3 0 0 _ _ 27 [(2, .int 33), (0, .ref (b + 405)), (1, .int 39)] _
  refine z_iinc (v := 34) (lv' := [(2, .int 34), (0, .ref (b + 405)), (1, .int 39)]) B dX9_tick_27 0 rfl (by decide) (by decide) rfl ?_
  refine z_goto (tgt := 18) B dX9_tick_30 (by decide) ?_
  refine z_iload_n B dX9_tick_18 rfl 0 rfl ?_
  refine z_iload_n B dX9_tick_19 rfl 2 rfl ?_
  refine z_icmp_ge (tgt := 33) B dX9_tick_20 (by decide) (fun h => absurd h (by decide)) (fun _ => ?_)
  refine z_aload_n B dX9_tick_23 rfl 1 rfl ?_
  refine z_cVv (As := []) (rest := []) B cw_X9_294 cx_10 dX9_tick_24 (ci_X9_ticks_1095 l (σ := (ap b σ [(405, 1, 34), (405, 1, 33), (405, 1, 32), (405, 1, 31), (405, 1, 30), (405, 1, 29), (405, 1, 28), (405, 1, 27), (405, 1, 26), (405, 1, 25), (405, 1, 24), (405, 1, 23), (405, 1, 22), (405, 1, 21), (405, 1, 20), (405, 1, 19), (405, 1, 18), (405, 1, 17), (405, 1, 16), (405, 1, 15), (405, 1, 14), (405, 1, 13), (405, 1, 12), (405, 1, 11), (405, 1, 10), (405, 1, 9), (405, 1, 8), (405, 1, 7), (405, 1, 6), (405, 1, 5), (405, 1, 4), (405, 1, 3), (405, 1, 2), (405, 1, 1), (405, 0, 0)] [] [])) (b := b) (lyA hK) (rI_at 405 1 rfl) (rI_at 405 6 hI_405_6) (rI_at 405 16 hI_405_16)) (lKA (hk_K hK 405 rfl rfl)) rfl (by decide) rfl (Nat.le_of_ble_eq_true rfl) (by decide) (fun u hu => ?_)
  refine z_eqs (σ' := (ap b σ [(405, 1, 35), (405, 1, 34), (405, 1, 33), (405, 1, 32), (405, 1, 31), (405, 1, 30), (405, 1, 29), (405, 1, 28), (405, 1, 27), (405, 1, 26), (405, 1, 25), (405, 1, 24), (405, 1, 23), (405, 1, 22), (405, 1, 21), (405, 1, 20), (405, 1, 19), (405, 1, 18), (405, 1, 17), (405, 1, 16), (405, 1, 15), (405, 1, 14), (405, 1, 13), (405, 1, 12), (405, 1, 11), (405, 1, 10), (405, 1, 9), (405, 1, 8), (405, 1, 7), (405, 1, 6), (405, 1, 5), (405, 1, 4), (405, 1, 3), (405, 1, 2), (405, 1, 1), (405, 0, 0)] [] [])) (hu.trans ap_ap) ?_
  show zx p l e _ s m _ below meth c g 3 0 0 _ _ 27 [(2, .int 34), (0, .ref (b + 405)), (1, .int 39)] _
  refine z_iinc (v := 35) (lv' := [(2, .int 35), (0, .ref (b + 405)), (1, .int 39)]) B dX9_tick_27 0 rfl (by decide) (by decide) rfl ?_
  refine z_goto (tgt := 18) B dX9_tick_30 (by decide) ?_
  refine z_iload_n B dX9_tick_18 rfl 0 rfl ?_
  refine z_iload_n B dX9_tick_19 rfl 2 rfl ?_
  refine z_icmp_ge (tgt := 33) B dX9_tick_20 (by decide) (fun h => absurd h (by decide)) (fun _ => ?_)
  refine z_aload_n B dX9_tick_23 rfl 1 rfl ?_
  refine z_cVv (As := []) (rest := []) B cw_X9_294 cx_10 dX9_tick_24 (ci_X9_ticks_1100 l (σ := (ap b σ [(405, 1, 35), (405, 1, 34), (405, 1, 33), (405, 1, 32), (405, 1, 31), (405, 1, 30), (405, 1, 29), (405, 1, 28), (405, 1, 27), (405, 1, 26), (405, 1, 25), (405, 1, 24), (405, 1, 23), (405, 1, 22), (405, 1, 21), (405, 1, 20), (405, 1, 19), (405, 1, 18), (405, 1, 17), (405, 1, 16), (405, 1, 15), (405, 1, 14), (405, 1, 13), (405, 1, 12), (405, 1, 11), (405, 1, 10), (405, 1, 9), (405, 1, 8), (405, 1, 7), (405, 1, 6), (405, 1, 5), (405, 1, 4), (405, 1, 3), (405, 1, 2), (405, 1, 1), (405, 0, 0)] [] [])) (b := b) (lyA hK) (rI_at 405 1 rfl) (rI_at 405 6 hI_405_6) (rI_at 405 16 hI_405_16)) (lKA (hk_K hK 405 rfl rfl)) rfl (by decide) rfl (Nat.le_of_ble_eq_true rfl) (by decide) (fun u hu => ?_)
  refine z_eqs (σ' := (ap b σ [(405, 1, 36), (405, 1, 35), (405, 1, 34), (405, 1, 33), (405, 1, 32), (405, 1, 31), (405, 1, 30), (405, 1, 29), (405, 1, 28), (405, 1, 27), (405, 1, 26), (405, 1, 25), (405, 1, 24), (405, 1, 23), (405, 1, 22), (405, 1, 21), (405, 1, 20), (405, 1, 19), (405, 1, 18), (405, 1, 17), (405, 1, 16), (405, 1, 15), (405, 1, 14), (405, 1, 13), (405, 1, 12), (405, 1, 11), (405, 1, 10), (405, 1, 9), (405, 1, 8), (405, 1, 7), (405, 1, 6), (405, 1, 5), (405, 1, 4), (405, 1, 3), (405, 1, 2), (405, 1, 1), (405, 0, 0)] [] [])) (hu.trans ap_ap) ?_
  show zx p l e _ s m _ below meth c g 3 0 0 _ _ 27 [(2, .int 35), (0, .ref (b + 405)), (1, .int 39)] _
  refine z_iinc (v := 36) (lv' := [(2, .int 36), (0, .ref (b + 405)), (1, .int 39)]) B dX9_tick_27 0 rfl (by decide) (by decide) rfl ?_
  refine z_goto (tgt := 18) B dX9_tick_30 (by decide) ?_
  refine z_iload_n B dX9_tick_18 rfl 0 rfl ?_
  refine z_iload_n B dX9_tick_19 rfl 2 rfl ?_
  refine z_icmp_ge (tgt := 33) B dX9_tick_20 (by decide) (fun h => absurd h (by decide)) (fun _ => ?_)
  refine z_aload_n B dX9_tick_23 rfl 1 rfl ?_
  refine z_cVv (As := []) (rest := []) B cw_X9_294 cx_10 dX9_tick_24 (ci_X9_ticks_1105 l (σ := (ap b σ [(405, 1, 36), (405, 1, 35), (405, 1, 34), (405, 1, 33), (405, 1, 32), (405, 1, 31), (405, 1, 30), (405, 1, 29), (405, 1, 28), (405, 1, 27), (405, 1, 26), (405, 1, 25), (405, 1, 24), (405, 1, 23), (405, 1, 22), (405, 1, 21), (405, 1, 20), (405, 1, 19), (405, 1, 18), (405, 1, 17), (405, 1, 16), (405, 1, 15), (405, 1, 14), (405, 1, 13), (405, 1, 12), (405, 1, 11), (405, 1, 10), (405, 1, 9), (405, 1, 8), (405, 1, 7), (405, 1, 6), (405, 1, 5), (405, 1, 4), (405, 1, 3), (405, 1, 2), (405, 1, 1), (405, 0, 0)] [] [])) (b := b) (lyA hK) (rI_at 405 1 rfl) (rI_at 405 6 hI_405_6) (rI_at 405 16 hI_405_16)) (lKA (hk_K hK 405 rfl rfl)) rfl (by decide) rfl (Nat.le_of_ble_eq_true rfl) (by decide) (fun u hu => ?_)
  refine z_eqs (σ' := (ap b σ [(405, 1, 37), (405, 1, 36), (405, 1, 35), (405, 1, 34), (405, 1, 33), (405, 1, 32), (405, 1, 31), (405, 1, 30), (405, 1, 29), (405, 1, 28), (405, 1, 27), (405, 1, 26), (405, 1, 25), (405, 1, 24), (405, 1, 23), (405, 1, 22), (405, 1, 21), (405, 1, 20), (405, 1, 19), (405, 1, 18), (405, 1, 17), (405, 1, 16), (405, 1, 15), (405, 1, 14), (405, 1, 13), (405, 1, 12), (405, 1, 11), (405, 1, 10), (405, 1, 9), (405, 1, 8), (405, 1, 7), (405, 1, 6), (405, 1, 5), (405, 1, 4), (405, 1, 3), (405, 1, 2), (405, 1, 1), (405, 0, 0)] [] [])) (hu.trans ap_ap) ?_
  show zx p l e _ s m _ below meth c g 3 0 0 _ _ 27 [(2, .int 36), (0, .ref (b + 405)), (1, .int 39)] _
  refine z_iinc (v := 37) (lv' := [(2, .int 37), (0, .ref (b + 405)), (1, .int 39)]) B dX9_tick_27 0 rfl (by decide) (by decide) rfl ?_
  refine z_goto (tgt := 18) B dX9_tick_30 (by decide) ?_
  refine z_iload_n B dX9_tick_18 rfl 0 rfl ?_
  refine z_iload_n B dX9_tick_19 rfl 2 rfl ?_
  refine z_icmp_ge (tgt := 33) B dX9_tick_20 (by decide) (fun h => absurd h (by decide)) (fun _ => ?_)
  refine z_aload_n B dX9_tick_23 rfl 1 rfl ?_
  refine z_cVv (As := []) (rest := []) B cw_X9_294 cx_10 dX9_tick_24 (ci_X9_ticks_1110 l (σ := (ap b σ [(405, 1, 37), (405, 1, 36), (405, 1, 35), (405, 1, 34), (405, 1, 33), (405, 1, 32), (405, 1, 31), (405, 1, 30), (405, 1, 29), (405, 1, 28), (405, 1, 27), (405, 1, 26), (405, 1, 25), (405, 1, 24), (405, 1, 23), (405, 1, 22), (405, 1, 21), (405, 1, 20), (405, 1, 19), (405, 1, 18), (405, 1, 17), (405, 1, 16), (405, 1, 15), (405, 1, 14), (405, 1, 13), (405, 1, 12), (405, 1, 11), (405, 1, 10), (405, 1, 9), (405, 1, 8), (405, 1, 7), (405, 1, 6), (405, 1, 5), (405, 1, 4), (405, 1, 3), (405, 1, 2), (405, 1, 1), (405, 0, 0)] [] [])) (b := b) (lyA hK) (rI_at 405 1 rfl) (rI_at 405 6 hI_405_6) (rI_at 405 16 hI_405_16)) (lKA (hk_K hK 405 rfl rfl)) rfl (by decide) rfl (Nat.le_of_ble_eq_true rfl) (by decide) (fun u hu => ?_)
  refine z_eqs (σ' := (ap b σ [(405, 1, 38), (405, 1, 37), (405, 1, 36), (405, 1, 35), (405, 1, 34), (405, 1, 33), (405, 1, 32), (405, 1, 31), (405, 1, 30), (405, 1, 29), (405, 1, 28), (405, 1, 27), (405, 1, 26), (405, 1, 25), (405, 1, 24), (405, 1, 23), (405, 1, 22), (405, 1, 21), (405, 1, 20), (405, 1, 19), (405, 1, 18), (405, 1, 17), (405, 1, 16), (405, 1, 15), (405, 1, 14), (405, 1, 13), (405, 1, 12), (405, 1, 11), (405, 1, 10), (405, 1, 9), (405, 1, 8), (405, 1, 7), (405, 1, 6), (405, 1, 5), (405, 1, 4), (405, 1, 3), (405, 1, 2), (405, 1, 1), (405, 0, 0)] [] [])) (hu.trans ap_ap) ?_
  show zx p l e _ s m _ below meth c g 3 0 0 _ _ 27 [(2, .int 37), (0, .ref (b + 405)), (1, .int 39)] _
  refine z_iinc (v := 38) (lv' := [(2, .int 38), (0, .ref (b + 405)), (1, .int 39)]) B dX9_tick_27 0 rfl (by decide) (by decide) rfl ?_
  refine z_goto (tgt := 18) B dX9_tick_30 (by decide) ?_
  refine z_iload_n B dX9_tick_18 rfl 0 rfl ?_
  refine z_iload_n B dX9_tick_19 rfl 2 rfl ?_
  refine z_icmp_ge (tgt := 33) B dX9_tick_20 (by decide) (fun h => absurd h (by decide)) (fun _ => ?_)
  refine z_aload_n B dX9_tick_23 rfl 1 rfl ?_
  refine z_cVv (As := []) (rest := []) B cw_X9_294 cx_10 dX9_tick_24 (ci_X9_ticks_1115 l (σ := (ap b σ [(405, 1, 38), (405, 1, 37), (405, 1, 36), (405, 1, 35), (405, 1, 34), (405, 1, 33), (405, 1, 32), (405, 1, 31), (405, 1, 30), (405, 1, 29), (405, 1, 28), (405, 1, 27), (405, 1, 26), (405, 1, 25), (405, 1, 24), (405, 1, 23), (405, 1, 22), (405, 1, 21), (405, 1, 20), (405, 1, 19), (405, 1, 18), (405, 1, 17), (405, 1, 16), (405, 1, 15), (405, 1, 14), (405, 1, 13), (405, 1, 12), (405, 1, 11), (405, 1, 10), (405, 1, 9), (405, 1, 8), (405, 1, 7), (405, 1, 6), (405, 1, 5), (405, 1, 4), (405, 1, 3), (405, 1, 2), (405, 1, 1), (405, 0, 0)] [] [])) (b := b) (lyA hK) (rI_at 405 1 rfl) (rI_at 405 6 hI_405_6) (rI_at 405 16 hI_405_16)) (lKA (hk_K hK 405 rfl rfl)) rfl (by decide) rfl (Nat.le_of_ble_eq_true rfl) (by decide) (fun u hu => ?_)
  refine z_eqs (σ' := (ap b σ [(405, 1, 39), (405, 1, 38), (405, 1, 37), (405, 1, 36), (405, 1, 35), (405, 1, 34), (405, 1, 33), (405, 1, 32), (405, 1, 31), (405, 1, 30), (405, 1, 29), (405, 1, 28), (405, 1, 27), (405, 1, 26), (405, 1, 25), (405, 1, 24), (405, 1, 23), (405, 1, 22), (405, 1, 21), (405, 1, 20), (405, 1, 19), (405, 1, 18), (405, 1, 17), (405, 1, 16), (405, 1, 15), (405, 1, 14), (405, 1, 13), (405, 1, 12), (405, 1, 11), (405, 1, 10), (405, 1, 9), (405, 1, 8), (405, 1, 7), (405, 1, 6), (405, 1, 5), (405, 1, 4), (405, 1, 3), (405, 1, 2), (405, 1, 1), (405, 0, 0)] [] [])) (hu.trans ap_ap) ?_
  show zx p l e _ s m _ below meth c g 3 0 0 _ _ 27 [(2, .int 38), (0, .ref (b + 405)), (1, .int 39)] _
  refine z_iinc (v := 39) (lv' := [(2, .int 39), (0, .ref (b + 405)), (1, .int 39)]) B dX9_tick_27 0 rfl (by decide) (by decide) rfl ?_
  refine z_goto (tgt := 18) B dX9_tick_30 (by decide) ?_
  refine z_iload_n B dX9_tick_18 rfl 0 rfl ?_
  refine z_iload_n B dX9_tick_19 rfl 2 rfl ?_
  refine z_icmp_ge (tgt := 33) B dX9_tick_20 (by decide) (fun _ => ?_) (fun h => absurd (by decide) h)
  refine z_aload_n B dX9_tick_33 rfl 1 rfl ?_
  refine gf_X9_197 (x := 39) B (lKA (hk_K hK 405 rfl rfl)) (rI_at 405 1 rfl) dX9_tick_34 ?_
  exact z_iret B hr (by decide) (by decide) dX9_tick_37 ⟨rfl, rfl⟩
set_option maxRecDepth 100000 in
set_option maxHeartbeats 4000000 in
theorem ci_X8_tick_1117 (l : Launch) {g : gx_T} {σ : sx_T} {b : Nat} (hK : lay b σ)   (hI_0_7 : sx_I σ (b + 0) 7 = 0) (hI_0_8 : sx_I σ (b + 0) 8 = 0) (hI_4_2 : sx_I σ (b + 4) 2 = 0) (hR_0_3 : sx_R σ (b + 0) 3 = (some (b + 4))) : Met l yX8_tick (.code yX8_tick cX8_tick 3 (some .int) :: lw_g) { frames := 2, cells := 0, slots := 0, locals := 42 } (va_Pc [.ref (b + 0), .int 40] (zx_w g σ)) (va_Qi (fun r u => r = 40 ∧ u = (ap b σ [(0, 8, 40), (0, 8, 39), (0, 8, 38), (0, 8, 37), (0, 8, 36), (0, 8, 35), (0, 8, 34), (0, 8, 33), (0, 8, 32), (0, 8, 31), (0, 8, 30), (0, 8, 29), (0, 8, 28), (0, 8, 27), (0, 8, 26), (0, 8, 25), (0, 8, 24), (0, 8, 23), (0, 8, 22), (0, 8, 21), (0, 8, 20), (0, 8, 19), (0, 8, 18), (0, 8, 17), (0, 8, 16), (0, 8, 15), (0, 8, 14), (0, 8, 13), (0, 8, 12), (0, 8, 11), (0, 8, 10), (0, 8, 9), (0, 8, 8), (0, 8, 7), (0, 8, 6), (0, 8, 5), (0, 8, 4), (0, 8, 3), (0, 8, 2), (0, 8, 1)] [] [])) (zx_w g) (gx_Q g)) 0 0 (gx_Q g) := by
  refine z_met (by decide) (Nat.le_of_ble_eq_true rfl) (fun p e s m below meth c B hr hin => ?_)
  refine z_eqs (σ' := (ap b σ [] [] [])) rfl ?_
  show zx p l e _ s m _ below meth c g 3 0 0 _ _ 0 [(0, .ref (b + 0)), (1, .int 40)] []
  refine z_iload_n B dX8_tick_0 rfl 1 rfl ?_
  refine z_iconst (v := 1) B dX8_tick_1 (by decide) ?_
  refine z_icmp_lt (tgt := 11) B dX8_tick_2 (by decide) (fun h => absurd h (by decide)) (fun _ => ?_)
  refine z_iload_n B dX8_tick_5 rfl 1 rfl ?_
  refine z_bipush (v := 50) B dX8_tick_6 (by decide) ?_
  refine z_icmp_le (tgt := 21) B dX8_tick_8 (by decide) (fun _ => ?_) (fun h => absurd (by decide) h)
  refine z_iconst (v := 0) B dX8_tick_21 (by decide) ?_
  refine z_istore_n (lv' := [(2, .int 0), (0, .ref (b + 0)), (1, .int 40)]) B dX8_tick_22 rfl (by decide) rfl ?_
  refine z_iload_n B dX8_tick_23 rfl 0 rfl ?_
  refine z_iload_n B dX8_tick_24 rfl 2 rfl ?_
  refine z_icmp_ge (tgt := 52) B dX8_tick_25 (by decide) (fun h => absurd h (by decide)) (fun _ => ?_)
  refine z_aload_n B dX8_tick_28 rfl 1 rfl ?_
  refine z_dup B dX8_tick_29 rfl ?_
  refine gf_X8_206 (x := 0) B (lKA (hk_K hK 0 rfl rfl)) (rI_at 0 8 hI_0_8) dX8_tick_30 ?_
  refine z_iconst (v := 1) B dX8_tick_33 (by decide) ?_
  refine z_iadd B dX8_tick_34 ?_
  refine z_seti (y := 1) (by decide) ?_
  refine pf_X8_206 (x := 1) (σ' := (ap b σ [(0, 8, 1)] [] [])) B (lKA (hk_K hK 0 rfl rfl)) wI_ap dX8_tick_35 ?_
  refine z_aload_n B dX8_tick_38 rfl 1 rfl ?_
  refine z_cVv (As := []) (rest := []) B cw_X8_240 cx_9 dX8_tick_39 (ci_X8_passTasks_920 l (σ := (ap b σ [(0, 8, 1)] [] [])) (b := b) (lyA hK) (rI_at 4 2 hI_4_2) (rR_at 0 3 hR_0_3)) (lKA (hk_K hK 0 rfl rfl)) rfl (by decide) rfl (Nat.le_of_ble_eq_true rfl) (by decide) (fun u hu => ?_)
  refine z_eqs (σ' := (ap b σ [(0, 8, 1)] [] [])) hu ?_
  show zx p l e _ s m _ below meth c g 3 0 0 _ _ 42 [(2, .int 0), (0, .ref (b + 0)), (1, .int 40)] _
  refine z_aload_n B dX8_tick_42 rfl 1 rfl ?_
  refine z_cVv (As := []) (rest := []) B cw_X8_243 cx_9 dX8_tick_43 (ci_X8_passTimers_921 l (σ := (ap b σ [(0, 8, 1)] [] [])) (b := b) (lyA hK) (rI_at 0 7 hI_0_7)) (lKA (hk_K hK 0 rfl rfl)) rfl (by decide) rfl (Nat.le_of_ble_eq_true rfl) (by decide) (fun u hu => ?_)
  refine z_eqs (σ' := (ap b σ [(0, 8, 1)] [] [])) hu ?_
  show zx p l e _ s m _ below meth c g 3 0 0 _ _ 46 [(2, .int 0), (0, .ref (b + 0)), (1, .int 40)] _
  refine z_iinc (v := 1) (lv' := [(2, .int 1), (0, .ref (b + 0)), (1, .int 40)]) B dX8_tick_46 0 rfl (by decide) (by decide) rfl ?_
  refine z_goto (tgt := 23) B dX8_tick_49 (by decide) ?_
  refine z_iload_n B dX8_tick_23 rfl 0 rfl ?_
  refine z_iload_n B dX8_tick_24 rfl 2 rfl ?_
  refine z_icmp_ge (tgt := 52) B dX8_tick_25 (by decide) (fun h => absurd h (by decide)) (fun _ => ?_)
  refine z_aload_n B dX8_tick_28 rfl 1 rfl ?_
  refine z_dup B dX8_tick_29 rfl ?_
  refine gf_X8_206 (x := 1) B (lKA (hk_K hK 0 rfl rfl)) (rI_at 0 8 rfl) dX8_tick_30 ?_
  refine z_iconst (v := 1) B dX8_tick_33 (by decide) ?_
  refine z_iadd B dX8_tick_34 ?_
  refine z_seti (y := 2) (by decide) ?_
  refine pf_X8_206 (x := 2) (σ' := (ap b σ [(0, 8, 2), (0, 8, 1)] [] [])) B (lKA (hk_K hK 0 rfl rfl)) wI_ap dX8_tick_35 ?_
  refine z_aload_n B dX8_tick_38 rfl 1 rfl ?_
  refine z_cVv (As := []) (rest := []) B cw_X8_240 cx_9 dX8_tick_39 (ci_X8_passTasks_920 l (σ := (ap b σ [(0, 8, 2), (0, 8, 1)] [] [])) (b := b) (lyA hK) (rI_at 4 2 hI_4_2) (rR_at 0 3 hR_0_3)) (lKA (hk_K hK 0 rfl rfl)) rfl (by decide) rfl (Nat.le_of_ble_eq_true rfl) (by decide) (fun u hu => ?_)
  refine z_eqs (σ' := (ap b σ [(0, 8, 2), (0, 8, 1)] [] [])) hu ?_
  show zx p l e _ s m _ below meth c g 3 0 0 _ _ 42 [(2, .int 1), (0, .ref (b + 0)), (1, .int 40)] _
  refine z_aload_n B dX8_tick_42 rfl 1 rfl ?_
  refine z_cVv (As := []) (rest := []) B cw_X8_243 cx_9 dX8_tick_43 (ci_X8_passTimers_921 l (σ := (ap b σ [(0, 8, 2), (0, 8, 1)] [] [])) (b := b) (lyA hK) (rI_at 0 7 hI_0_7)) (lKA (hk_K hK 0 rfl rfl)) rfl (by decide) rfl (Nat.le_of_ble_eq_true rfl) (by decide) (fun u hu => ?_)
  refine z_eqs (σ' := (ap b σ [(0, 8, 2), (0, 8, 1)] [] [])) hu ?_
  show zx p l e _ s m _ below meth c g 3 0 0 _ _ 46 [(2, .int 1), (0, .ref (b + 0)), (1, .int 40)] _
  refine z_iinc (v := 2) (lv' := [(2, .int 2), (0, .ref (b + 0)), (1, .int 40)]) B dX8_tick_46 0 rfl (by decide) (by decide) rfl ?_
  refine z_goto (tgt := 23) B dX8_tick_49 (by decide) ?_
  refine z_iload_n B dX8_tick_23 rfl 0 rfl ?_
  refine z_iload_n B dX8_tick_24 rfl 2 rfl ?_
  refine z_icmp_ge (tgt := 52) B dX8_tick_25 (by decide) (fun h => absurd h (by decide)) (fun _ => ?_)
  refine z_aload_n B dX8_tick_28 rfl 1 rfl ?_
  refine z_dup B dX8_tick_29 rfl ?_
  refine gf_X8_206 (x := 2) B (lKA (hk_K hK 0 rfl rfl)) (rI_at 0 8 rfl) dX8_tick_30 ?_
  refine z_iconst (v := 1) B dX8_tick_33 (by decide) ?_
  refine z_iadd B dX8_tick_34 ?_
  refine z_seti (y := 3) (by decide) ?_
  refine pf_X8_206 (x := 3) (σ' := (ap b σ [(0, 8, 3), (0, 8, 2), (0, 8, 1)] [] [])) B (lKA (hk_K hK 0 rfl rfl)) wI_ap dX8_tick_35 ?_
  refine z_aload_n B dX8_tick_38 rfl 1 rfl ?_
  refine z_cVv (As := []) (rest := []) B cw_X8_240 cx_9 dX8_tick_39 (ci_X8_passTasks_920 l (σ := (ap b σ [(0, 8, 3), (0, 8, 2), (0, 8, 1)] [] [])) (b := b) (lyA hK) (rI_at 4 2 hI_4_2) (rR_at 0 3 hR_0_3)) (lKA (hk_K hK 0 rfl rfl)) rfl (by decide) rfl (Nat.le_of_ble_eq_true rfl) (by decide) (fun u hu => ?_)
  refine z_eqs (σ' := (ap b σ [(0, 8, 3), (0, 8, 2), (0, 8, 1)] [] [])) hu ?_
  show zx p l e _ s m _ below meth c g 3 0 0 _ _ 42 [(2, .int 2), (0, .ref (b + 0)), (1, .int 40)] _
  refine z_aload_n B dX8_tick_42 rfl 1 rfl ?_
  refine z_cVv (As := []) (rest := []) B cw_X8_243 cx_9 dX8_tick_43 (ci_X8_passTimers_921 l (σ := (ap b σ [(0, 8, 3), (0, 8, 2), (0, 8, 1)] [] [])) (b := b) (lyA hK) (rI_at 0 7 hI_0_7)) (lKA (hk_K hK 0 rfl rfl)) rfl (by decide) rfl (Nat.le_of_ble_eq_true rfl) (by decide) (fun u hu => ?_)
  refine z_eqs (σ' := (ap b σ [(0, 8, 3), (0, 8, 2), (0, 8, 1)] [] [])) hu ?_
  show zx p l e _ s m _ below meth c g 3 0 0 _ _ 46 [(2, .int 2), (0, .ref (b + 0)), (1, .int 40)] _
  refine z_iinc (v := 3) (lv' := [(2, .int 3), (0, .ref (b + 0)), (1, .int 40)]) B dX8_tick_46 0 rfl (by decide) (by decide) rfl ?_
  refine z_goto (tgt := 23) B dX8_tick_49 (by decide) ?_
  refine z_iload_n B dX8_tick_23 rfl 0 rfl ?_
  refine z_iload_n B dX8_tick_24 rfl 2 rfl ?_
  refine z_icmp_ge (tgt := 52) B dX8_tick_25 (by decide) (fun h => absurd h (by decide)) (fun _ => ?_)
  refine z_aload_n B dX8_tick_28 rfl 1 rfl ?_
  refine z_dup B dX8_tick_29 rfl ?_
  refine gf_X8_206 (x := 3) B (lKA (hk_K hK 0 rfl rfl)) (rI_at 0 8 rfl) dX8_tick_30 ?_
  refine z_iconst (v := 1) B dX8_tick_33 (by decide) ?_
  refine z_iadd B dX8_tick_34 ?_
  refine z_seti (y := 4) (by decide) ?_
  refine pf_X8_206 (x := 4) (σ' := (ap b σ [(0, 8, 4), (0, 8, 3), (0, 8, 2), (0, 8, 1)] [] [])) B (lKA (hk_K hK 0 rfl rfl)) wI_ap dX8_tick_35 ?_
  refine z_aload_n B dX8_tick_38 rfl 1 rfl ?_
  refine z_cVv (As := []) (rest := []) B cw_X8_240 cx_9 dX8_tick_39 (ci_X8_passTasks_920 l (σ := (ap b σ [(0, 8, 4), (0, 8, 3), (0, 8, 2), (0, 8, 1)] [] [])) (b := b) (lyA hK) (rI_at 4 2 hI_4_2) (rR_at 0 3 hR_0_3)) (lKA (hk_K hK 0 rfl rfl)) rfl (by decide) rfl (Nat.le_of_ble_eq_true rfl) (by decide) (fun u hu => ?_)
  refine z_eqs (σ' := (ap b σ [(0, 8, 4), (0, 8, 3), (0, 8, 2), (0, 8, 1)] [] [])) hu ?_
  show zx p l e _ s m _ below meth c g 3 0 0 _ _ 42 [(2, .int 3), (0, .ref (b + 0)), (1, .int 40)] _
  refine z_aload_n B dX8_tick_42 rfl 1 rfl ?_
  refine z_cVv (As := []) (rest := []) B cw_X8_243 cx_9 dX8_tick_43 (ci_X8_passTimers_921 l (σ := (ap b σ [(0, 8, 4), (0, 8, 3), (0, 8, 2), (0, 8, 1)] [] [])) (b := b) (lyA hK) (rI_at 0 7 hI_0_7)) (lKA (hk_K hK 0 rfl rfl)) rfl (by decide) rfl (Nat.le_of_ble_eq_true rfl) (by decide) (fun u hu => ?_)
  refine z_eqs (σ' := (ap b σ [(0, 8, 4), (0, 8, 3), (0, 8, 2), (0, 8, 1)] [] [])) hu ?_
  show zx p l e _ s m _ below meth c g 3 0 0 _ _ 46 [(2, .int 3), (0, .ref (b + 0)), (1, .int 40)] _
  refine z_iinc (v := 4) (lv' := [(2, .int 4), (0, .ref (b + 0)), (1, .int 40)]) B dX8_tick_46 0 rfl (by decide) (by decide) rfl ?_
  refine z_goto (tgt := 23) B dX8_tick_49 (by decide) ?_
  refine z_iload_n B dX8_tick_23 rfl 0 rfl ?_
  refine z_iload_n B dX8_tick_24 rfl 2 rfl ?_
  refine z_icmp_ge (tgt := 52) B dX8_tick_25 (by decide) (fun h => absurd h (by decide)) (fun _ => ?_)
  refine z_aload_n B dX8_tick_28 rfl 1 rfl ?_
  refine z_dup B dX8_tick_29 rfl ?_
  refine gf_X8_206 (x := 4) B (lKA (hk_K hK 0 rfl rfl)) (rI_at 0 8 rfl) dX8_tick_30 ?_
  refine z_iconst (v := 1) B dX8_tick_33 (by decide) ?_
  refine z_iadd B dX8_tick_34 ?_
  refine z_seti (y := 5) (by decide) ?_
  refine pf_X8_206 (x := 5) (σ' := (ap b σ [(0, 8, 5), (0, 8, 4), (0, 8, 3), (0, 8, 2), (0, 8, 1)] [] [])) B (lKA (hk_K hK 0 rfl rfl)) wI_ap dX8_tick_35 ?_
  refine z_aload_n B dX8_tick_38 rfl 1 rfl ?_
  refine z_cVv (As := []) (rest := []) B cw_X8_240 cx_9 dX8_tick_39 (ci_X8_passTasks_920 l (σ := (ap b σ [(0, 8, 5), (0, 8, 4), (0, 8, 3), (0, 8, 2), (0, 8, 1)] [] [])) (b := b) (lyA hK) (rI_at 4 2 hI_4_2) (rR_at 0 3 hR_0_3)) (lKA (hk_K hK 0 rfl rfl)) rfl (by decide) rfl (Nat.le_of_ble_eq_true rfl) (by decide) (fun u hu => ?_)
  refine z_eqs (σ' := (ap b σ [(0, 8, 5), (0, 8, 4), (0, 8, 3), (0, 8, 2), (0, 8, 1)] [] [])) hu ?_
  show zx p l e _ s m _ below meth c g 3 0 0 _ _ 42 [(2, .int 4), (0, .ref (b + 0)), (1, .int 40)] _
  refine z_aload_n B dX8_tick_42 rfl 1 rfl ?_
  refine z_cVv (As := []) (rest := []) B cw_X8_243 cx_9 dX8_tick_43 (ci_X8_passTimers_921 l (σ := (ap b σ [(0, 8, 5), (0, 8, 4), (0, 8, 3), (0, 8, 2), (0, 8, 1)] [] [])) (b := b) (lyA hK) (rI_at 0 7 hI_0_7)) (lKA (hk_K hK 0 rfl rfl)) rfl (by decide) rfl (Nat.le_of_ble_eq_true rfl) (by decide) (fun u hu => ?_)
  refine z_eqs (σ' := (ap b σ [(0, 8, 5), (0, 8, 4), (0, 8, 3), (0, 8, 2), (0, 8, 1)] [] [])) hu ?_
  show zx p l e _ s m _ below meth c g 3 0 0 _ _ 46 [(2, .int 4), (0, .ref (b + 0)), (1, .int 40)] _
  refine z_iinc (v := 5) (lv' := [(2, .int 5), (0, .ref (b + 0)), (1, .int 40)]) B dX8_tick_46 0 rfl (by decide) (by decide) rfl ?_
  refine z_goto (tgt := 23) B dX8_tick_49 (by decide) ?_
  refine z_iload_n B dX8_tick_23 rfl 0 rfl ?_
  refine z_iload_n B dX8_tick_24 rfl 2 rfl ?_
  refine z_icmp_ge (tgt := 52) B dX8_tick_25 (by decide) (fun h => absurd h (by decide)) (fun _ => ?_)
  refine z_aload_n B dX8_tick_28 rfl 1 rfl ?_
  refine z_dup B dX8_tick_29 rfl ?_
  refine gf_X8_206 (x := 5) B (lKA (hk_K hK 0 rfl rfl)) (rI_at 0 8 rfl) dX8_tick_30 ?_
  refine z_iconst (v := 1) B dX8_tick_33 (by decide) ?_
  refine z_iadd B dX8_tick_34 ?_
  refine z_seti (y := 6) (by decide) ?_
  refine pf_X8_206 (x := 6) (σ' := (ap b σ [(0, 8, 6), (0, 8, 5), (0, 8, 4), (0, 8, 3), (0, 8, 2), (0, 8, 1)] [] [])) B (lKA (hk_K hK 0 rfl rfl)) wI_ap dX8_tick_35 ?_
  refine z_aload_n B dX8_tick_38 rfl 1 rfl ?_
  refine z_cVv (As := []) (rest := []) B cw_X8_240 cx_9 dX8_tick_39 (ci_X8_passTasks_920 l (σ := (ap b σ [(0, 8, 6), (0, 8, 5), (0, 8, 4), (0, 8, 3), (0, 8, 2), (0, 8, 1)] [] [])) (b := b) (lyA hK) (rI_at 4 2 hI_4_2) (rR_at 0 3 hR_0_3)) (lKA (hk_K hK 0 rfl rfl)) rfl (by decide) rfl (Nat.le_of_ble_eq_true rfl) (by decide) (fun u hu => ?_)
  refine z_eqs (σ' := (ap b σ [(0, 8, 6), (0, 8, 5), (0, 8, 4), (0, 8, 3), (0, 8, 2), (0, 8, 1)] [] [])) hu ?_
  show zx p l e _ s m _ below meth c g 3 0 0 _ _ 42 [(2, .int 5), (0, .ref (b + 0)), (1, .int 40)] _
  refine z_aload_n B dX8_tick_42 rfl 1 rfl ?_
  refine z_cVv (As := []) (rest := []) B cw_X8_243 cx_9 dX8_tick_43 (ci_X8_passTimers_921 l (σ := (ap b σ [(0, 8, 6), (0, 8, 5), (0, 8, 4), (0, 8, 3), (0, 8, 2), (0, 8, 1)] [] [])) (b := b) (lyA hK) (rI_at 0 7 hI_0_7)) (lKA (hk_K hK 0 rfl rfl)) rfl (by decide) rfl (Nat.le_of_ble_eq_true rfl) (by decide) (fun u hu => ?_)
  refine z_eqs (σ' := (ap b σ [(0, 8, 6), (0, 8, 5), (0, 8, 4), (0, 8, 3), (0, 8, 2), (0, 8, 1)] [] [])) hu ?_
  show zx p l e _ s m _ below meth c g 3 0 0 _ _ 46 [(2, .int 5), (0, .ref (b + 0)), (1, .int 40)] _
  refine z_iinc (v := 6) (lv' := [(2, .int 6), (0, .ref (b + 0)), (1, .int 40)]) B dX8_tick_46 0 rfl (by decide) (by decide) rfl ?_
  refine z_goto (tgt := 23) B dX8_tick_49 (by decide) ?_
  refine z_iload_n B dX8_tick_23 rfl 0 rfl ?_
  refine z_iload_n B dX8_tick_24 rfl 2 rfl ?_
  refine z_icmp_ge (tgt := 52) B dX8_tick_25 (by decide) (fun h => absurd h (by decide)) (fun _ => ?_)
  refine z_aload_n B dX8_tick_28 rfl 1 rfl ?_
  refine z_dup B dX8_tick_29 rfl ?_
  refine gf_X8_206 (x := 6) B (lKA (hk_K hK 0 rfl rfl)) (rI_at 0 8 rfl) dX8_tick_30 ?_
  refine z_iconst (v := 1) B dX8_tick_33 (by decide) ?_
  refine z_iadd B dX8_tick_34 ?_
  refine z_seti (y := 7) (by decide) ?_
  refine pf_X8_206 (x := 7) (σ' := (ap b σ [(0, 8, 7), (0, 8, 6), (0, 8, 5), (0, 8, 4), (0, 8, 3), (0, 8, 2), (0, 8, 1)] [] [])) B (lKA (hk_K hK 0 rfl rfl)) wI_ap dX8_tick_35 ?_
  refine z_aload_n B dX8_tick_38 rfl 1 rfl ?_
  refine z_cVv (As := []) (rest := []) B cw_X8_240 cx_9 dX8_tick_39 (ci_X8_passTasks_920 l (σ := (ap b σ [(0, 8, 7), (0, 8, 6), (0, 8, 5), (0, 8, 4), (0, 8, 3), (0, 8, 2), (0, 8, 1)] [] [])) (b := b) (lyA hK) (rI_at 4 2 hI_4_2) (rR_at 0 3 hR_0_3)) (lKA (hk_K hK 0 rfl rfl)) rfl (by decide) rfl (Nat.le_of_ble_eq_true rfl) (by decide) (fun u hu => ?_)
  refine z_eqs (σ' := (ap b σ [(0, 8, 7), (0, 8, 6), (0, 8, 5), (0, 8, 4), (0, 8, 3), (0, 8, 2), (0, 8, 1)] [] [])) hu ?_
  show zx p l e _ s m _ below meth c g 3 0 0 _ _ 42 [(2, .int 6), (0, .ref (b + 0)), (1, .int 40)] _
  refine z_aload_n B dX8_tick_42 rfl 1 rfl ?_
  refine z_cVv (As := []) (rest := []) B cw_X8_243 cx_9 dX8_tick_43 (ci_X8_passTimers_921 l (σ := (ap b σ [(0, 8, 7), (0, 8, 6), (0, 8, 5), (0, 8, 4), (0, 8, 3), (0, 8, 2), (0, 8, 1)] [] [])) (b := b) (lyA hK) (rI_at 0 7 hI_0_7)) (lKA (hk_K hK 0 rfl rfl)) rfl (by decide) rfl (Nat.le_of_ble_eq_true rfl) (by decide) (fun u hu => ?_)
  refine z_eqs (σ' := (ap b σ [(0, 8, 7), (0, 8, 6), (0, 8, 5), (0, 8, 4), (0, 8, 3), (0, 8, 2), (0, 8, 1)] [] [])) hu ?_
  show zx p l e _ s m _ below meth c g 3 0 0 _ _ 46 [(2, .int 6), (0, .ref (b + 0)), (1, .int 40)] _
  refine z_iinc (v := 7) (lv' := [(2, .int 7), (0, .ref (b + 0)), (1, .int 40)]) B dX8_tick_46 0 rfl (by decide) (by decide) rfl ?_
  refine z_goto (tgt := 23) B dX8_tick_49 (by decide) ?_
  refine z_iload_n B dX8_tick_23 rfl 0 rfl ?_
  refine z_iload_n B dX8_tick_24 rfl 2 rfl ?_
  refine z_icmp_ge (tgt := 52) B dX8_tick_25 (by decide) (fun h => absurd h (by decide)) (fun _ => ?_)
  refine z_aload_n B dX8_tick_28 rfl 1 rfl ?_
  refine z_dup B dX8_tick_29 rfl ?_
  refine gf_X8_206 (x := 7) B (lKA (hk_K hK 0 rfl rfl)) (rI_at 0 8 rfl) dX8_tick_30 ?_
  refine z_iconst (v := 1) B dX8_tick_33 (by decide) ?_
  refine z_iadd B dX8_tick_34 ?_
  refine z_seti (y := 8) (by decide) ?_
  refine pf_X8_206 (x := 8) (σ' := (ap b σ [(0, 8, 8), (0, 8, 7), (0, 8, 6), (0, 8, 5), (0, 8, 4), (0, 8, 3), (0, 8, 2), (0, 8, 1)] [] [])) B (lKA (hk_K hK 0 rfl rfl)) wI_ap dX8_tick_35 ?_
  refine z_aload_n B dX8_tick_38 rfl 1 rfl ?_
  refine z_cVv (As := []) (rest := []) B cw_X8_240 cx_9 dX8_tick_39 (ci_X8_passTasks_920 l (σ := (ap b σ [(0, 8, 8), (0, 8, 7), (0, 8, 6), (0, 8, 5), (0, 8, 4), (0, 8, 3), (0, 8, 2), (0, 8, 1)] [] [])) (b := b) (lyA hK) (rI_at 4 2 hI_4_2) (rR_at 0 3 hR_0_3)) (lKA (hk_K hK 0 rfl rfl)) rfl (by decide) rfl (Nat.le_of_ble_eq_true rfl) (by decide) (fun u hu => ?_)
  refine z_eqs (σ' := (ap b σ [(0, 8, 8), (0, 8, 7), (0, 8, 6), (0, 8, 5), (0, 8, 4), (0, 8, 3), (0, 8, 2), (0, 8, 1)] [] [])) hu ?_
  show zx p l e _ s m _ below meth c g 3 0 0 _ _ 42 [(2, .int 7), (0, .ref (b + 0)), (1, .int 40)] _
  refine z_aload_n B dX8_tick_42 rfl 1 rfl ?_
  refine z_cVv (As := []) (rest := []) B cw_X8_243 cx_9 dX8_tick_43 (ci_X8_passTimers_921 l (σ := (ap b σ [(0, 8, 8), (0, 8, 7), (0, 8, 6), (0, 8, 5), (0, 8, 4), (0, 8, 3), (0, 8, 2), (0, 8, 1)] [] [])) (b := b) (lyA hK) (rI_at 0 7 hI_0_7)) (lKA (hk_K hK 0 rfl rfl)) rfl (by decide) rfl (Nat.le_of_ble_eq_true rfl) (by decide) (fun u hu => ?_)
  refine z_eqs (σ' := (ap b σ [(0, 8, 8), (0, 8, 7), (0, 8, 6), (0, 8, 5), (0, 8, 4), (0, 8, 3), (0, 8, 2), (0, 8, 1)] [] [])) hu ?_
  show zx p l e _ s m _ below meth c g 3 0 0 _ _ 46 [(2, .int 7), (0, .ref (b + 0)), (1, .int 40)] _
  refine z_iinc (v := 8) (lv' := [(2, .int 8), (0, .ref (b + 0)), (1, .int 40)]) B dX8_tick_46 0 rfl (by decide) (by decide) rfl ?_
  refine z_goto (tgt := 23) B dX8_tick_49 (by decide) ?_
  refine z_iload_n B dX8_tick_23 rfl 0 rfl ?_
  refine z_iload_n B dX8_tick_24 rfl 2 rfl ?_
  refine z_icmp_ge (tgt := 52) B dX8_tick_25 (by decide) (fun h => absurd h (by decide)) (fun _ => ?_)
  refine z_aload_n B dX8_tick_28 rfl 1 rfl ?_
  refine z_dup B dX8_tick_29 rfl ?_
  refine gf_X8_206 (x := 8) B (lKA (hk_K hK 0 rfl rfl)) (rI_at 0 8 rfl) dX8_tick_30 ?_
  refine z_iconst (v := 1) B dX8_tick_33 (by decide) ?_
  refine z_iadd B dX8_tick_34 ?_
  refine z_seti (y := 9) (by decide) ?_
  refine pf_X8_206 (x := 9) (σ' := (ap b σ [(0, 8, 9), (0, 8, 8), (0, 8, 7), (0, 8, 6), (0, 8, 5), (0, 8, 4), (0, 8, 3), (0, 8, 2), (0, 8, 1)] [] [])) B (lKA (hk_K hK 0 rfl rfl)) wI_ap dX8_tick_35 ?_
  refine z_aload_n B dX8_tick_38 rfl 1 rfl ?_
  refine z_cVv (As := []) (rest := []) B cw_X8_240 cx_9 dX8_tick_39 (ci_X8_passTasks_920 l (σ := (ap b σ [(0, 8, 9), (0, 8, 8), (0, 8, 7), (0, 8, 6), (0, 8, 5), (0, 8, 4), (0, 8, 3), (0, 8, 2), (0, 8, 1)] [] [])) (b := b) (lyA hK) (rI_at 4 2 hI_4_2) (rR_at 0 3 hR_0_3)) (lKA (hk_K hK 0 rfl rfl)) rfl (by decide) rfl (Nat.le_of_ble_eq_true rfl) (by decide) (fun u hu => ?_)
  refine z_eqs (σ' := (ap b σ [(0, 8, 9), (0, 8, 8), (0, 8, 7), (0, 8, 6), (0, 8, 5), (0, 8, 4), (0, 8, 3), (0, 8, 2), (0, 8, 1)] [] [])) hu ?_
  show zx p l e _ s m _ below meth c g 3 0 0 _ _ 42 [(2, .int 8), (0, .ref (b + 0)), (1, .int 40)] _
  refine z_aload_n B dX8_tick_42 rfl 1 rfl ?_
  refine z_cVv (As := []) (rest := []) B cw_X8_243 cx_9 dX8_tick_43 (ci_X8_passTimers_921 l (σ := (ap b σ [(0, 8, 9), (0, 8, 8), (0, 8, 7), (0, 8, 6), (0, 8, 5), (0, 8, 4), (0, 8, 3), (0, 8, 2), (0, 8, 1)] [] [])) (b := b) (lyA hK) (rI_at 0 7 hI_0_7)) (lKA (hk_K hK 0 rfl rfl)) rfl (by decide) rfl (Nat.le_of_ble_eq_true rfl) (by decide) (fun u hu => ?_)
  refine z_eqs (σ' := (ap b σ [(0, 8, 9), (0, 8, 8), (0, 8, 7), (0, 8, 6), (0, 8, 5), (0, 8, 4), (0, 8, 3), (0, 8, 2), (0, 8, 1)] [] [])) hu ?_
  show zx p l e _ s m _ below meth c g 3 0 0 _ _ 46 [(2, .int 8), (0, .ref (b + 0)), (1, .int 40)] _
  refine z_iinc (v := 9) (lv' := [(2, .int 9), (0, .ref (b + 0)), (1, .int 40)]) B dX8_tick_46 0 rfl (by decide) (by decide) rfl ?_
  refine z_goto (tgt := 23) B dX8_tick_49 (by decide) ?_
  refine z_iload_n B dX8_tick_23 rfl 0 rfl ?_
  refine z_iload_n B dX8_tick_24 rfl 2 rfl ?_
  refine z_icmp_ge (tgt := 52) B dX8_tick_25 (by decide) (fun h => absurd h (by decide)) (fun _ => ?_)
  refine z_aload_n B dX8_tick_28 rfl 1 rfl ?_
  refine z_dup B dX8_tick_29 rfl ?_
  refine gf_X8_206 (x := 9) B (lKA (hk_K hK 0 rfl rfl)) (rI_at 0 8 rfl) dX8_tick_30 ?_
  refine z_iconst (v := 1) B dX8_tick_33 (by decide) ?_
  refine z_iadd B dX8_tick_34 ?_
  refine z_seti (y := 10) (by decide) ?_
  refine pf_X8_206 (x := 10) (σ' := (ap b σ [(0, 8, 10), (0, 8, 9), (0, 8, 8), (0, 8, 7), (0, 8, 6), (0, 8, 5), (0, 8, 4), (0, 8, 3), (0, 8, 2), (0, 8, 1)] [] [])) B (lKA (hk_K hK 0 rfl rfl)) wI_ap dX8_tick_35 ?_
  refine z_aload_n B dX8_tick_38 rfl 1 rfl ?_
  refine z_cVv (As := []) (rest := []) B cw_X8_240 cx_9 dX8_tick_39 (ci_X8_passTasks_920 l (σ := (ap b σ [(0, 8, 10), (0, 8, 9), (0, 8, 8), (0, 8, 7), (0, 8, 6), (0, 8, 5), (0, 8, 4), (0, 8, 3), (0, 8, 2), (0, 8, 1)] [] [])) (b := b) (lyA hK) (rI_at 4 2 hI_4_2) (rR_at 0 3 hR_0_3)) (lKA (hk_K hK 0 rfl rfl)) rfl (by decide) rfl (Nat.le_of_ble_eq_true rfl) (by decide) (fun u hu => ?_)
  refine z_eqs (σ' := (ap b σ [(0, 8, 10), (0, 8, 9), (0, 8, 8), (0, 8, 7), (0, 8, 6), (0, 8, 5), (0, 8, 4), (0, 8, 3), (0, 8, 2), (0, 8, 1)] [] [])) hu ?_
  show zx p l e _ s m _ below meth c g 3 0 0 _ _ 42 [(2, .int 9), (0, .ref (b + 0)), (1, .int 40)] _
  refine z_aload_n B dX8_tick_42 rfl 1 rfl ?_
  refine z_cVv (As := []) (rest := []) B cw_X8_243 cx_9 dX8_tick_43 (ci_X8_passTimers_921 l (σ := (ap b σ [(0, 8, 10), (0, 8, 9), (0, 8, 8), (0, 8, 7), (0, 8, 6), (0, 8, 5), (0, 8, 4), (0, 8, 3), (0, 8, 2), (0, 8, 1)] [] [])) (b := b) (lyA hK) (rI_at 0 7 hI_0_7)) (lKA (hk_K hK 0 rfl rfl)) rfl (by decide) rfl (Nat.le_of_ble_eq_true rfl) (by decide) (fun u hu => ?_)
  refine z_eqs (σ' := (ap b σ [(0, 8, 10), (0, 8, 9), (0, 8, 8), (0, 8, 7), (0, 8, 6), (0, 8, 5), (0, 8, 4), (0, 8, 3), (0, 8, 2), (0, 8, 1)] [] [])) hu ?_
  show zx p l e _ s m _ below meth c g 3 0 0 _ _ 46 [(2, .int 9), (0, .ref (b + 0)), (1, .int 40)] _
  refine z_iinc (v := 10) (lv' := [(2, .int 10), (0, .ref (b + 0)), (1, .int 40)]) B dX8_tick_46 0 rfl (by decide) (by decide) rfl ?_
  refine z_goto (tgt := 23) B dX8_tick_49 (by decide) ?_
  refine z_iload_n B dX8_tick_23 rfl 0 rfl ?_
  refine z_iload_n B dX8_tick_24 rfl 2 rfl ?_
  refine z_icmp_ge (tgt := 52) B dX8_tick_25 (by decide) (fun h => absurd h (by decide)) (fun _ => ?_)
  refine z_aload_n B dX8_tick_28 rfl 1 rfl ?_
  refine z_dup B dX8_tick_29 rfl ?_
  refine gf_X8_206 (x := 10) B (lKA (hk_K hK 0 rfl rfl)) (rI_at 0 8 rfl) dX8_tick_30 ?_
  refine z_iconst (v := 1) B dX8_tick_33 (by decide) ?_
  refine z_iadd B dX8_tick_34 ?_
  refine z_seti (y := 11) (by decide) ?_
  refine pf_X8_206 (x := 11) (σ' := (ap b σ [(0, 8, 11), (0, 8, 10), (0, 8, 9), (0, 8, 8), (0, 8, 7), (0, 8, 6), (0, 8, 5), (0, 8, 4), (0, 8, 3), (0, 8, 2), (0, 8, 1)] [] [])) B (lKA (hk_K hK 0 rfl rfl)) wI_ap dX8_tick_35 ?_
  refine z_aload_n B dX8_tick_38 rfl 1 rfl ?_
  refine z_cVv (As := []) (rest := []) B cw_X8_240 cx_9 dX8_tick_39 (ci_X8_passTasks_920 l (σ := (ap b σ [(0, 8, 11), (0, 8, 10), (0, 8, 9), (0, 8, 8), (0, 8, 7), (0, 8, 6), (0, 8, 5), (0, 8, 4), (0, 8, 3), (0, 8, 2), (0, 8, 1)] [] [])) (b := b) (lyA hK) (rI_at 4 2 hI_4_2) (rR_at 0 3 hR_0_3)) (lKA (hk_K hK 0 rfl rfl)) rfl (by decide) rfl (Nat.le_of_ble_eq_true rfl) (by decide) (fun u hu => ?_)
  refine z_eqs (σ' := (ap b σ [(0, 8, 11), (0, 8, 10), (0, 8, 9), (0, 8, 8), (0, 8, 7), (0, 8, 6), (0, 8, 5), (0, 8, 4), (0, 8, 3), (0, 8, 2), (0, 8, 1)] [] [])) hu ?_
  show zx p l e _ s m _ below meth c g 3 0 0 _ _ 42 [(2, .int 10), (0, .ref (b + 0)), (1, .int 40)] _
  refine z_aload_n B dX8_tick_42 rfl 1 rfl ?_
  refine z_cVv (As := []) (rest := []) B cw_X8_243 cx_9 dX8_tick_43 (ci_X8_passTimers_921 l (σ := (ap b σ [(0, 8, 11), (0, 8, 10), (0, 8, 9), (0, 8, 8), (0, 8, 7), (0, 8, 6), (0, 8, 5), (0, 8, 4), (0, 8, 3), (0, 8, 2), (0, 8, 1)] [] [])) (b := b) (lyA hK) (rI_at 0 7 hI_0_7)) (lKA (hk_K hK 0 rfl rfl)) rfl (by decide) rfl (Nat.le_of_ble_eq_true rfl) (by decide) (fun u hu => ?_)
  refine z_eqs (σ' := (ap b σ [(0, 8, 11), (0, 8, 10), (0, 8, 9), (0, 8, 8), (0, 8, 7), (0, 8, 6), (0, 8, 5), (0, 8, 4), (0, 8, 3), (0, 8, 2), (0, 8, 1)] [] [])) hu ?_
  show zx p l e _ s m _ below meth c g 3 0 0 _ _ 46 [(2, .int 10), (0, .ref (b + 0)), (1, .int 40)] _
  refine z_iinc (v := 11) (lv' := [(2, .int 11), (0, .ref (b + 0)), (1, .int 40)]) B dX8_tick_46 0 rfl (by decide) (by decide) rfl ?_
  refine z_goto (tgt := 23) B dX8_tick_49 (by decide) ?_
  refine z_iload_n B dX8_tick_23 rfl 0 rfl ?_
  refine z_iload_n B dX8_tick_24 rfl 2 rfl ?_
  refine z_icmp_ge (tgt := 52) B dX8_tick_25 (by decide) (fun h => absurd h (by decide)) (fun _ => ?_)
  refine z_aload_n B dX8_tick_28 rfl 1 rfl ?_
  refine z_dup B dX8_tick_29 rfl ?_
  refine gf_X8_206 (x := 11) B (lKA (hk_K hK 0 rfl rfl)) (rI_at 0 8 rfl) dX8_tick_30 ?_
  refine z_iconst (v := 1) B dX8_tick_33 (by decide) ?_
  refine z_iadd B dX8_tick_34 ?_
  refine z_seti (y := 12) (by decide) ?_
  refine pf_X8_206 (x := 12) (σ' := (ap b σ [(0, 8, 12), (0, 8, 11), (0, 8, 10), (0, 8, 9), (0, 8, 8), (0, 8, 7), (0, 8, 6), (0, 8, 5), (0, 8, 4), (0, 8, 3), (0, 8, 2), (0, 8, 1)] [] [])) B (lKA (hk_K hK 0 rfl rfl)) wI_ap dX8_tick_35 ?_
  refine z_aload_n B dX8_tick_38 rfl 1 rfl ?_
  refine z_cVv (As := []) (rest := []) B cw_X8_240 cx_9 dX8_tick_39 (ci_X8_passTasks_920 l (σ := (ap b σ [(0, 8, 12), (0, 8, 11), (0, 8, 10), (0, 8, 9), (0, 8, 8), (0, 8, 7), (0, 8, 6), (0, 8, 5), (0, 8, 4), (0, 8, 3), (0, 8, 2), (0, 8, 1)] [] [])) (b := b) (lyA hK) (rI_at 4 2 hI_4_2) (rR_at 0 3 hR_0_3)) (lKA (hk_K hK 0 rfl rfl)) rfl (by decide) rfl (Nat.le_of_ble_eq_true rfl) (by decide) (fun u hu => ?_)
  refine z_eqs (σ' := (ap b σ [(0, 8, 12), (0, 8, 11), (0, 8, 10), (0, 8, 9), (0, 8, 8), (0, 8, 7), (0, 8, 6), (0, 8, 5), (0, 8, 4), (0, 8, 3), (0, 8, 2), (0, 8, 1)] [] [])) hu ?_
  show zx p l e _ s m _ below meth c g 3 0 0 _ _ 42 [(2, .int 11), (0, .ref (b + 0)), (1, .int 40)] _
  refine z_aload_n B dX8_tick_42 rfl 1 rfl ?_
  refine z_cVv (As := []) (rest := []) B cw_X8_243 cx_9 dX8_tick_43 (ci_X8_passTimers_921 l (σ := (ap b σ [(0, 8, 12), (0, 8, 11), (0, 8, 10), (0, 8, 9), (0, 8, 8), (0, 8, 7), (0, 8, 6), (0, 8, 5), (0, 8, 4), (0, 8, 3), (0, 8, 2), (0, 8, 1)] [] [])) (b := b) (lyA hK) (rI_at 0 7 hI_0_7)) (lKA (hk_K hK 0 rfl rfl)) rfl (by decide) rfl (Nat.le_of_ble_eq_true rfl) (by decide) (fun u hu => ?_)
  refine z_eqs (σ' := (ap b σ [(0, 8, 12), (0, 8, 11), (0, 8, 10), (0, 8, 9), (0, 8, 8), (0, 8, 7), (0, 8, 6), (0, 8, 5), (0, 8, 4), (0, 8, 3), (0, 8, 2), (0, 8, 1)] [] [])) hu ?_
  show zx p l e _ s m _ below meth c g 3 0 0 _ _ 46 [(2, .int 11), (0, .ref (b + 0)), (1, .int 40)] _
  refine z_iinc (v := 12) (lv' := [(2, .int 12), (0, .ref (b + 0)), (1, .int 40)]) B dX8_tick_46 0 rfl (by decide) (by decide) rfl ?_
  refine z_goto (tgt := 23) B dX8_tick_49 (by decide) ?_
  refine z_iload_n B dX8_tick_23 rfl 0 rfl ?_
  refine z_iload_n B dX8_tick_24 rfl 2 rfl ?_
  refine z_icmp_ge (tgt := 52) B dX8_tick_25 (by decide) (fun h => absurd h (by decide)) (fun _ => ?_)
  refine z_aload_n B dX8_tick_28 rfl 1 rfl ?_
  refine z_dup B dX8_tick_29 rfl ?_
  refine gf_X8_206 (x := 12) B (lKA (hk_K hK 0 rfl rfl)) (rI_at 0 8 rfl) dX8_tick_30 ?_
  refine z_iconst (v := 1) B dX8_tick_33 (by decide) ?_
  refine z_iadd B dX8_tick_34 ?_
  refine z_seti (y := 13) (by decide) ?_
  refine pf_X8_206 (x := 13) (σ' := (ap b σ [(0, 8, 13), (0, 8, 12), (0, 8, 11), (0, 8, 10), (0, 8, 9), (0, 8, 8), (0, 8, 7), (0, 8, 6), (0, 8, 5), (0, 8, 4), (0, 8, 3), (0, 8, 2), (0, 8, 1)] [] [])) B (lKA (hk_K hK 0 rfl rfl)) wI_ap dX8_tick_35 ?_
  refine z_aload_n B dX8_tick_38 rfl 1 rfl ?_
  refine z_cVv (As := []) (rest := []) B cw_X8_240 cx_9 dX8_tick_39 (ci_X8_passTasks_920 l (σ := (ap b σ [(0, 8, 13), (0, 8, 12), (0, 8, 11), (0, 8, 10), (0, 8, 9), (0, 8, 8), (0, 8, 7), (0, 8, 6), (0, 8, 5), (0, 8, 4), (0, 8, 3), (0, 8, 2), (0, 8, 1)] [] [])) (b := b) (lyA hK) (rI_at 4 2 hI_4_2) (rR_at 0 3 hR_0_3)) (lKA (hk_K hK 0 rfl rfl)) rfl (by decide) rfl (Nat.le_of_ble_eq_true rfl) (by decide) (fun u hu => ?_)
  refine z_eqs (σ' := (ap b σ [(0, 8, 13), (0, 8, 12), (0, 8, 11), (0, 8, 10), (0, 8, 9), (0, 8, 8), (0, 8, 7), (0, 8, 6), (0, 8, 5), (0, 8, 4), (0, 8, 3), (0, 8, 2), (0, 8, 1)] [] [])) hu ?_
  show zx p l e _ s m _ below meth c g 3 0 0 _ _ 42 [(2, .int 12), (0, .ref (b + 0)), (1, .int 40)] _
  refine z_aload_n B dX8_tick_42 rfl 1 rfl ?_
  refine z_cVv (As := []) (rest := []) B cw_X8_243 cx_9 dX8_tick_43 (ci_X8_passTimers_921 l (σ := (ap b σ [(0, 8, 13), (0, 8, 12), (0, 8, 11), (0, 8, 10), (0, 8, 9), (0, 8, 8), (0, 8, 7), (0, 8, 6), (0, 8, 5), (0, 8, 4), (0, 8, 3), (0, 8, 2), (0, 8, 1)] [] [])) (b := b) (lyA hK) (rI_at 0 7 hI_0_7)) (lKA (hk_K hK 0 rfl rfl)) rfl (by decide) rfl (Nat.le_of_ble_eq_true rfl) (by decide) (fun u hu => ?_)
  refine z_eqs (σ' := (ap b σ [(0, 8, 13), (0, 8, 12), (0, 8, 11), (0, 8, 10), (0, 8, 9), (0, 8, 8), (0, 8, 7), (0, 8, 6), (0, 8, 5), (0, 8, 4), (0, 8, 3), (0, 8, 2), (0, 8, 1)] [] [])) hu ?_
  show zx p l e _ s m _ below meth c g 3 0 0 _ _ 46 [(2, .int 12), (0, .ref (b + 0)), (1, .int 40)] _
  refine z_iinc (v := 13) (lv' := [(2, .int 13), (0, .ref (b + 0)), (1, .int 40)]) B dX8_tick_46 0 rfl (by decide) (by decide) rfl ?_
  refine z_goto (tgt := 23) B dX8_tick_49 (by decide) ?_
  refine z_iload_n B dX8_tick_23 rfl 0 rfl ?_
  refine z_iload_n B dX8_tick_24 rfl 2 rfl ?_
  refine z_icmp_ge (tgt := 52) B dX8_tick_25 (by decide) (fun h => absurd h (by decide)) (fun _ => ?_)
  refine z_aload_n B dX8_tick_28 rfl 1 rfl ?_
  refine z_dup B dX8_tick_29 rfl ?_
  refine gf_X8_206 (x := 13) B (lKA (hk_K hK 0 rfl rfl)) (rI_at 0 8 rfl) dX8_tick_30 ?_
  refine z_iconst (v := 1) B dX8_tick_33 (by decide) ?_
  refine z_iadd B dX8_tick_34 ?_
  refine z_seti (y := 14) (by decide) ?_
  refine pf_X8_206 (x := 14) (σ' := (ap b σ [(0, 8, 14), (0, 8, 13), (0, 8, 12), (0, 8, 11), (0, 8, 10), (0, 8, 9), (0, 8, 8), (0, 8, 7), (0, 8, 6), (0, 8, 5), (0, 8, 4), (0, 8, 3), (0, 8, 2), (0, 8, 1)] [] [])) B (lKA (hk_K hK 0 rfl rfl)) wI_ap dX8_tick_35 ?_
  refine z_aload_n B dX8_tick_38 rfl 1 rfl ?_
  refine z_cVv (As := []) (rest := []) B cw_X8_240 cx_9 dX8_tick_39 (ci_X8_passTasks_920 l (σ := (ap b σ [(0, 8, 14), (0, 8, 13), (0, 8, 12), (0, 8, 11), (0, 8, 10), (0, 8, 9), (0, 8, 8), (0, 8, 7), (0, 8, 6), (0, 8, 5), (0, 8, 4), (0, 8, 3), (0, 8, 2), (0, 8, 1)] [] [])) (b := b) (lyA hK) (rI_at 4 2 hI_4_2) (rR_at 0 3 hR_0_3)) (lKA (hk_K hK 0 rfl rfl)) rfl (by decide) rfl (Nat.le_of_ble_eq_true rfl) (by decide) (fun u hu => ?_)
  refine z_eqs (σ' := (ap b σ [(0, 8, 14), (0, 8, 13), (0, 8, 12), (0, 8, 11), (0, 8, 10), (0, 8, 9), (0, 8, 8), (0, 8, 7), (0, 8, 6), (0, 8, 5), (0, 8, 4), (0, 8, 3), (0, 8, 2), (0, 8, 1)] [] [])) hu ?_
  show zx p l e _ s m _ below meth c g 3 0 0 _ _ 42 [(2, .int 13), (0, .ref (b + 0)), (1, .int 40)] _
  refine z_aload_n B dX8_tick_42 rfl 1 rfl ?_
  refine z_cVv (As := []) (rest := []) B cw_X8_243 cx_9 dX8_tick_43 (ci_X8_passTimers_921 l (σ := (ap b σ [(0, 8, 14), (0, 8, 13), (0, 8, 12), (0, 8, 11), (0, 8, 10), (0, 8, 9), (0, 8, 8), (0, 8, 7), (0, 8, 6), (0, 8, 5), (0, 8, 4), (0, 8, 3), (0, 8, 2), (0, 8, 1)] [] [])) (b := b) (lyA hK) (rI_at 0 7 hI_0_7)) (lKA (hk_K hK 0 rfl rfl)) rfl (by decide) rfl (Nat.le_of_ble_eq_true rfl) (by decide) (fun u hu => ?_)
  refine z_eqs (σ' := (ap b σ [(0, 8, 14), (0, 8, 13), (0, 8, 12), (0, 8, 11), (0, 8, 10), (0, 8, 9), (0, 8, 8), (0, 8, 7), (0, 8, 6), (0, 8, 5), (0, 8, 4), (0, 8, 3), (0, 8, 2), (0, 8, 1)] [] [])) hu ?_
  show zx p l e _ s m _ below meth c g 3 0 0 _ _ 46 [(2, .int 13), (0, .ref (b + 0)), (1, .int 40)] _
  refine z_iinc (v := 14) (lv' := [(2, .int 14), (0, .ref (b + 0)), (1, .int 40)]) B dX8_tick_46 0 rfl (by decide) (by decide) rfl ?_
  refine z_goto (tgt := 23) B dX8_tick_49 (by decide) ?_
  refine z_iload_n B dX8_tick_23 rfl 0 rfl ?_
  refine z_iload_n B dX8_tick_24 rfl 2 rfl ?_
  refine z_icmp_ge (tgt := 52) B dX8_tick_25 (by decide) (fun h => absurd h (by decide)) (fun _ => ?_)
  refine z_aload_n B dX8_tick_28 rfl 1 rfl ?_
  refine z_dup B dX8_tick_29 rfl ?_
  refine gf_X8_206 (x := 14) B (lKA (hk_K hK 0 rfl rfl)) (rI_at 0 8 rfl) dX8_tick_30 ?_
  refine z_iconst (v := 1) B dX8_tick_33 (by decide) ?_
  refine z_iadd B dX8_tick_34 ?_
  refine z_seti (y := 15) (by decide) ?_
  refine pf_X8_206 (x := 15) (σ' := (ap b σ [(0, 8, 15), (0, 8, 14), (0, 8, 13), (0, 8, 12), (0, 8, 11), (0, 8, 10), (0, 8, 9), (0, 8, 8), (0, 8, 7), (0, 8, 6), (0, 8, 5), (0, 8, 4), (0, 8, 3), (0, 8, 2), (0, 8, 1)] [] [])) B (lKA (hk_K hK 0 rfl rfl)) wI_ap dX8_tick_35 ?_
  refine z_aload_n B dX8_tick_38 rfl 1 rfl ?_
  refine z_cVv (As := []) (rest := []) B cw_X8_240 cx_9 dX8_tick_39 (ci_X8_passTasks_920 l (σ := (ap b σ [(0, 8, 15), (0, 8, 14), (0, 8, 13), (0, 8, 12), (0, 8, 11), (0, 8, 10), (0, 8, 9), (0, 8, 8), (0, 8, 7), (0, 8, 6), (0, 8, 5), (0, 8, 4), (0, 8, 3), (0, 8, 2), (0, 8, 1)] [] [])) (b := b) (lyA hK) (rI_at 4 2 hI_4_2) (rR_at 0 3 hR_0_3)) (lKA (hk_K hK 0 rfl rfl)) rfl (by decide) rfl (Nat.le_of_ble_eq_true rfl) (by decide) (fun u hu => ?_)
  refine z_eqs (σ' := (ap b σ [(0, 8, 15), (0, 8, 14), (0, 8, 13), (0, 8, 12), (0, 8, 11), (0, 8, 10), (0, 8, 9), (0, 8, 8), (0, 8, 7), (0, 8, 6), (0, 8, 5), (0, 8, 4), (0, 8, 3), (0, 8, 2), (0, 8, 1)] [] [])) hu ?_
  show zx p l e _ s m _ below meth c g 3 0 0 _ _ 42 [(2, .int 14), (0, .ref (b + 0)), (1, .int 40)] _
  refine z_aload_n B dX8_tick_42 rfl 1 rfl ?_
  refine z_cVv (As := []) (rest := []) B cw_X8_243 cx_9 dX8_tick_43 (ci_X8_passTimers_921 l (σ := (ap b σ [(0, 8, 15), (0, 8, 14), (0, 8, 13), (0, 8, 12), (0, 8, 11), (0, 8, 10), (0, 8, 9), (0, 8, 8), (0, 8, 7), (0, 8, 6), (0, 8, 5), (0, 8, 4), (0, 8, 3), (0, 8, 2), (0, 8, 1)] [] [])) (b := b) (lyA hK) (rI_at 0 7 hI_0_7)) (lKA (hk_K hK 0 rfl rfl)) rfl (by decide) rfl (Nat.le_of_ble_eq_true rfl) (by decide) (fun u hu => ?_)
  refine z_eqs (σ' := (ap b σ [(0, 8, 15), (0, 8, 14), (0, 8, 13), (0, 8, 12), (0, 8, 11), (0, 8, 10), (0, 8, 9), (0, 8, 8), (0, 8, 7), (0, 8, 6), (0, 8, 5), (0, 8, 4), (0, 8, 3), (0, 8, 2), (0, 8, 1)] [] [])) hu ?_
  show zx p l e _ s m _ below meth c g 3 0 0 _ _ 46 [(2, .int 14), (0, .ref (b + 0)), (1, .int 40)] _
  refine z_iinc (v := 15) (lv' := [(2, .int 15), (0, .ref (b + 0)), (1, .int 40)]) B dX8_tick_46 0 rfl (by decide) (by decide) rfl ?_
  refine z_goto (tgt := 23) B dX8_tick_49 (by decide) ?_
  refine z_iload_n B dX8_tick_23 rfl 0 rfl ?_
  refine z_iload_n B dX8_tick_24 rfl 2 rfl ?_
  refine z_icmp_ge (tgt := 52) B dX8_tick_25 (by decide) (fun h => absurd h (by decide)) (fun _ => ?_)
  refine z_aload_n B dX8_tick_28 rfl 1 rfl ?_
  refine z_dup B dX8_tick_29 rfl ?_
  refine gf_X8_206 (x := 15) B (lKA (hk_K hK 0 rfl rfl)) (rI_at 0 8 rfl) dX8_tick_30 ?_
  refine z_iconst (v := 1) B dX8_tick_33 (by decide) ?_
  refine z_iadd B dX8_tick_34 ?_
  refine z_seti (y := 16) (by decide) ?_
  refine pf_X8_206 (x := 16) (σ' := (ap b σ [(0, 8, 16), (0, 8, 15), (0, 8, 14), (0, 8, 13), (0, 8, 12), (0, 8, 11), (0, 8, 10), (0, 8, 9), (0, 8, 8), (0, 8, 7), (0, 8, 6), (0, 8, 5), (0, 8, 4), (0, 8, 3), (0, 8, 2), (0, 8, 1)] [] [])) B (lKA (hk_K hK 0 rfl rfl)) wI_ap dX8_tick_35 ?_
  refine z_aload_n B dX8_tick_38 rfl 1 rfl ?_
  refine z_cVv (As := []) (rest := []) B cw_X8_240 cx_9 dX8_tick_39 (ci_X8_passTasks_920 l (σ := (ap b σ [(0, 8, 16), (0, 8, 15), (0, 8, 14), (0, 8, 13), (0, 8, 12), (0, 8, 11), (0, 8, 10), (0, 8, 9), (0, 8, 8), (0, 8, 7), (0, 8, 6), (0, 8, 5), (0, 8, 4), (0, 8, 3), (0, 8, 2), (0, 8, 1)] [] [])) (b := b) (lyA hK) (rI_at 4 2 hI_4_2) (rR_at 0 3 hR_0_3)) (lKA (hk_K hK 0 rfl rfl)) rfl (by decide) rfl (Nat.le_of_ble_eq_true rfl) (by decide) (fun u hu => ?_)
  refine z_eqs (σ' := (ap b σ [(0, 8, 16), (0, 8, 15), (0, 8, 14), (0, 8, 13), (0, 8, 12), (0, 8, 11), (0, 8, 10), (0, 8, 9), (0, 8, 8), (0, 8, 7), (0, 8, 6), (0, 8, 5), (0, 8, 4), (0, 8, 3), (0, 8, 2), (0, 8, 1)] [] [])) hu ?_
  show zx p l e _ s m _ below meth c g 3 0 0 _ _ 42 [(2, .int 15), (0, .ref (b + 0)), (1, .int 40)] _
  refine z_aload_n B dX8_tick_42 rfl 1 rfl ?_
  refine z_cVv (As := []) (rest := []) B cw_X8_243 cx_9 dX8_tick_43 (ci_X8_passTimers_921 l (σ := (ap b σ [(0, 8, 16), (0, 8, 15), (0, 8, 14), (0, 8, 13), (0, 8, 12), (0, 8, 11), (0, 8, 10), (0, 8, 9), (0, 8, 8), (0, 8, 7), (0, 8, 6), (0, 8, 5), (0, 8, 4), (0, 8, 3), (0, 8, 2), (0, 8, 1)] [] [])) (b := b) (lyA hK) (rI_at 0 7 hI_0_7)) (lKA (hk_K hK 0 rfl rfl)) rfl (by decide) rfl (Nat.le_of_ble_eq_true rfl) (by decide) (fun u hu => ?_)
  refine z_eqs (σ' := (ap b σ [(0, 8, 16), (0, 8, 15), (0, 8, 14), (0, 8, 13), (0, 8, 12), (0, 8, 11), (0, 8, 10), (0, 8, 9), (0, 8, 8), (0, 8, 7), (0, 8, 6), (0, 8, 5), (0, 8, 4), (0, 8, 3), (0, 8, 2), (0, 8, 1)] [] [])) hu ?_
  show zx p l e _ s m _ below meth c g 3 0 0 _ _ 46 [(2, .int 15), (0, .ref (b + 0)), (1, .int 40)] _
  refine z_iinc (v := 16) (lv' := [(2, .int 16), (0, .ref (b + 0)), (1, .int 40)]) B dX8_tick_46 0 rfl (by decide) (by decide) rfl ?_
  refine z_goto (tgt := 23) B dX8_tick_49 (by decide) ?_
  refine z_iload_n B dX8_tick_23 rfl 0 rfl ?_
  refine z_iload_n B dX8_tick_24 rfl 2 rfl ?_
  refine z_icmp_ge (tgt := 52) B dX8_tick_25 (by decide) (fun h => absurd h (by decide)) (fun _ => ?_)
  refine z_aload_n B dX8_tick_28 rfl 1 rfl ?_
  refine z_dup B dX8_tick_29 rfl ?_
  refine gf_X8_206 (x := 16) B (lKA (hk_K hK 0 rfl rfl)) (rI_at 0 8 rfl) dX8_tick_30 ?_
  refine z_iconst (v := 1) B dX8_tick_33 (by decide) ?_
  refine z_iadd B dX8_tick_34 ?_
  refine z_seti (y := 17) (by decide) ?_
  refine pf_X8_206 (x := 17) (σ' := (ap b σ [(0, 8, 17), (0, 8, 16), (0, 8, 15), (0, 8, 14), (0, 8, 13), (0, 8, 12), (0, 8, 11), (0, 8, 10), (0, 8, 9), (0, 8, 8), (0, 8, 7), (0, 8, 6), (0, 8, 5), (0, 8, 4), (0, 8, 3), (0, 8, 2), (0, 8, 1)] [] [])) B (lKA (hk_K hK 0 rfl rfl)) wI_ap dX8_tick_35 ?_
  refine z_aload_n B dX8_tick_38 rfl 1 rfl ?_
  refine z_cVv (As := []) (rest := []) B cw_X8_240 cx_9 dX8_tick_39 (ci_X8_passTasks_920 l (σ := (ap b σ [(0, 8, 17), (0, 8, 16), (0, 8, 15), (0, 8, 14), (0, 8, 13), (0, 8, 12), (0, 8, 11), (0, 8, 10), (0, 8, 9), (0, 8, 8), (0, 8, 7), (0, 8, 6), (0, 8, 5), (0, 8, 4), (0, 8, 3), (0, 8, 2), (0, 8, 1)] [] [])) (b := b) (lyA hK) (rI_at 4 2 hI_4_2) (rR_at 0 3 hR_0_3)) (lKA (hk_K hK 0 rfl rfl)) rfl (by decide) rfl (Nat.le_of_ble_eq_true rfl) (by decide) (fun u hu => ?_)
  refine z_eqs (σ' := (ap b σ [(0, 8, 17), (0, 8, 16), (0, 8, 15), (0, 8, 14), (0, 8, 13), (0, 8, 12), (0, 8, 11), (0, 8, 10), (0, 8, 9), (0, 8, 8), (0, 8, 7), (0, 8, 6), (0, 8, 5), (0, 8, 4), (0, 8, 3), (0, 8, 2), (0, 8, 1)] [] [])) hu ?_
  show zx p l e _ s m _ below meth c g 3 0 0 _ _ 42 [(2, .int 16), (0, .ref (b + 0)), (1, .int 40)] _
  refine z_aload_n B dX8_tick_42 rfl 1 rfl ?_
  refine z_cVv (As := []) (rest := []) B cw_X8_243 cx_9 dX8_tick_43 (ci_X8_passTimers_921 l (σ := (ap b σ [(0, 8, 17), (0, 8, 16), (0, 8, 15), (0, 8, 14), (0, 8, 13), (0, 8, 12), (0, 8, 11), (0, 8, 10), (0, 8, 9), (0, 8, 8), (0, 8, 7), (0, 8, 6), (0, 8, 5), (0, 8, 4), (0, 8, 3), (0, 8, 2), (0, 8, 1)] [] [])) (b := b) (lyA hK) (rI_at 0 7 hI_0_7)) (lKA (hk_K hK 0 rfl rfl)) rfl (by decide) rfl (Nat.le_of_ble_eq_true rfl) (by decide) (fun u hu => ?_)
  refine z_eqs (σ' := (ap b σ [(0, 8, 17), (0, 8, 16), (0, 8, 15), (0, 8, 14), (0, 8, 13), (0, 8, 12), (0, 8, 11), (0, 8, 10), (0, 8, 9), (0, 8, 8), (0, 8, 7), (0, 8, 6), (0, 8, 5), (0, 8, 4), (0, 8, 3), (0, 8, 2), (0, 8, 1)] [] [])) hu ?_
  show zx p l e _ s m _ below meth c g 3 0 0 _ _ 46 [(2, .int 16), (0, .ref (b + 0)), (1, .int 40)] _
  refine z_iinc (v := 17) (lv' := [(2, .int 17), (0, .ref (b + 0)), (1, .int 40)]) B dX8_tick_46 0 rfl (by decide) (by decide) rfl ?_
  refine z_goto (tgt := 23) B dX8_tick_49 (by decide) ?_
  refine z_iload_n B dX8_tick_23 rfl 0 rfl ?_
  refine z_iload_n B dX8_tick_24 rfl 2 rfl ?_
  refine z_icmp_ge (tgt := 52) B dX8_tick_25 (by decide) (fun h => absurd h (by decide)) (fun _ => ?_)
  refine z_aload_n B dX8_tick_28 rfl 1 rfl ?_
  refine z_dup B dX8_tick_29 rfl ?_
  refine gf_X8_206 (x := 17) B (lKA (hk_K hK 0 rfl rfl)) (rI_at 0 8 rfl) dX8_tick_30 ?_
  refine z_iconst (v := 1) B dX8_tick_33 (by decide) ?_
  refine z_iadd B dX8_tick_34 ?_
  refine z_seti (y := 18) (by decide) ?_
  refine pf_X8_206 (x := 18) (σ' := (ap b σ [(0, 8, 18), (0, 8, 17), (0, 8, 16), (0, 8, 15), (0, 8, 14), (0, 8, 13), (0, 8, 12), (0, 8, 11), (0, 8, 10), (0, 8, 9), (0, 8, 8), (0, 8, 7), (0, 8, 6), (0, 8, 5), (0, 8, 4), (0, 8, 3), (0, 8, 2), (0, 8, 1)] [] [])) B (lKA (hk_K hK 0 rfl rfl)) wI_ap dX8_tick_35 ?_
  refine z_aload_n B dX8_tick_38 rfl 1 rfl ?_
  refine z_cVv (As := []) (rest := []) B cw_X8_240 cx_9 dX8_tick_39 (ci_X8_passTasks_920 l (σ := (ap b σ [(0, 8, 18), (0, 8, 17), (0, 8, 16), (0, 8, 15), (0, 8, 14), (0, 8, 13), (0, 8, 12), (0, 8, 11), (0, 8, 10), (0, 8, 9), (0, 8, 8), (0, 8, 7), (0, 8, 6), (0, 8, 5), (0, 8, 4), (0, 8, 3), (0, 8, 2), (0, 8, 1)] [] [])) (b := b) (lyA hK) (rI_at 4 2 hI_4_2) (rR_at 0 3 hR_0_3)) (lKA (hk_K hK 0 rfl rfl)) rfl (by decide) rfl (Nat.le_of_ble_eq_true rfl) (by decide) (fun u hu => ?_)
  refine z_eqs (σ' := (ap b σ [(0, 8, 18), (0, 8, 17), (0, 8, 16), (0, 8, 15), (0, 8, 14), (0, 8, 13), (0, 8, 12), (0, 8, 11), (0, 8, 10), (0, 8, 9), (0, 8, 8), (0, 8, 7), (0, 8, 6), (0, 8, 5), (0, 8, 4), (0, 8, 3), (0, 8, 2), (0, 8, 1)] [] [])) hu ?_
  show zx p l e _ s m _ below meth c g 3 0 0 _ _ 42 [(2, .int 17), (0, .ref (b + 0)), (1, .int 40)] _
  refine z_aload_n B dX8_tick_42 rfl 1 rfl ?_
  refine z_cVv (As := []) (rest := []) B cw_X8_243 cx_9 dX8_tick_43 (ci_X8_passTimers_921 l (σ := (ap b σ [(0, 8, 18), (0, 8, 17), (0, 8, 16), (0, 8, 15), (0, 8, 14), (0, 8, 13), (0, 8, 12), (0, 8, 11), (0, 8, 10), (0, 8, 9), (0, 8, 8), (0, 8, 7), (0, 8, 6), (0, 8, 5), (0, 8, 4), (0, 8, 3), (0, 8, 2), (0, 8, 1)] [] [])) (b := b) (lyA hK) (rI_at 0 7 hI_0_7)) (lKA (hk_K hK 0 rfl rfl)) rfl (by decide) rfl (Nat.le_of_ble_eq_true rfl) (by decide) (fun u hu => ?_)
  refine z_eqs (σ' := (ap b σ [(0, 8, 18), (0, 8, 17), (0, 8, 16), (0, 8, 15), (0, 8, 14), (0, 8, 13), (0, 8, 12), (0, 8, 11), (0, 8, 10), (0, 8, 9), (0, 8, 8), (0, 8, 7), (0, 8, 6), (0, 8, 5), (0, 8, 4), (0, 8, 3), (0, 8, 2), (0, 8, 1)] [] [])) hu ?_
  show zx p l e _ s m _ below meth c g 3 0 0 _ _ 46 [(2, .int 17), (0, .ref (b + 0)), (1, .int 40)] _
  refine z_iinc (v := 18) (lv' := [(2, .int 18), (0, .ref (b + 0)), (1, .int 40)]) B dX8_tick_46 0 rfl (by decide) (by decide) rfl ?_
  refine z_goto (tgt := 23) B dX8_tick_49 (by decide) ?_
  refine z_iload_n B dX8_tick_23 rfl 0 rfl ?_
  refine z_iload_n B dX8_tick_24 rfl 2 rfl ?_
  refine z_icmp_ge (tgt := 52) B dX8_tick_25 (by decide) (fun h => absurd h (by decide)) (fun _ => ?_)
  refine z_aload_n B dX8_tick_28 rfl 1 rfl ?_
  refine z_dup B dX8_tick_29 rfl ?_
  refine gf_X8_206 (x := 18) B (lKA (hk_K hK 0 rfl rfl)) (rI_at 0 8 rfl) dX8_tick_30 ?_
  refine z_iconst (v := 1) B dX8_tick_33 (by decide) ?_
  refine z_iadd B dX8_tick_34 ?_
  refine z_seti (y := 19) (by decide) ?_
  refine pf_X8_206 (x := 19) (σ' := (ap b σ [(0, 8, 19), (0, 8, 18), (0, 8, 17), (0, 8, 16), (0, 8, 15), (0, 8, 14), (0, 8, 13), (0, 8, 12), (0, 8, 11), (0, 8, 10), (0, 8, 9), (0, 8, 8), (0, 8, 7), (0, 8, 6), (0, 8, 5), (0, 8, 4), (0, 8, 3), (0, 8, 2), (0, 8, 1)] [] [])) B (lKA (hk_K hK 0 rfl rfl)) wI_ap dX8_tick_35 ?_
  refine z_aload_n B dX8_tick_38 rfl 1 rfl ?_
  refine z_cVv (As := []) (rest := []) B cw_X8_240 cx_9 dX8_tick_39 (ci_X8_passTasks_920 l (σ := (ap b σ [(0, 8, 19), (0, 8, 18), (0, 8, 17), (0, 8, 16), (0, 8, 15), (0, 8, 14), (0, 8, 13), (0, 8, 12), (0, 8, 11), (0, 8, 10), (0, 8, 9), (0, 8, 8), (0, 8, 7), (0, 8, 6), (0, 8, 5), (0, 8, 4), (0, 8, 3), (0, 8, 2), (0, 8, 1)] [] [])) (b := b) (lyA hK) (rI_at 4 2 hI_4_2) (rR_at 0 3 hR_0_3)) (lKA (hk_K hK 0 rfl rfl)) rfl (by decide) rfl (Nat.le_of_ble_eq_true rfl) (by decide) (fun u hu => ?_)
  refine z_eqs (σ' := (ap b σ [(0, 8, 19), (0, 8, 18), (0, 8, 17), (0, 8, 16), (0, 8, 15), (0, 8, 14), (0, 8, 13), (0, 8, 12), (0, 8, 11), (0, 8, 10), (0, 8, 9), (0, 8, 8), (0, 8, 7), (0, 8, 6), (0, 8, 5), (0, 8, 4), (0, 8, 3), (0, 8, 2), (0, 8, 1)] [] [])) hu ?_
  show zx p l e _ s m _ below meth c g 3 0 0 _ _ 42 [(2, .int 18), (0, .ref (b + 0)), (1, .int 40)] _
  refine z_aload_n B dX8_tick_42 rfl 1 rfl ?_
  refine z_cVv (As := []) (rest := []) B cw_X8_243 cx_9 dX8_tick_43 (ci_X8_passTimers_921 l (σ := (ap b σ [(0, 8, 19), (0, 8, 18), (0, 8, 17), (0, 8, 16), (0, 8, 15), (0, 8, 14), (0, 8, 13), (0, 8, 12), (0, 8, 11), (0, 8, 10), (0, 8, 9), (0, 8, 8), (0, 8, 7), (0, 8, 6), (0, 8, 5), (0, 8, 4), (0, 8, 3), (0, 8, 2), (0, 8, 1)] [] [])) (b := b) (lyA hK) (rI_at 0 7 hI_0_7)) (lKA (hk_K hK 0 rfl rfl)) rfl (by decide) rfl (Nat.le_of_ble_eq_true rfl) (by decide) (fun u hu => ?_)
  refine z_eqs (σ' := (ap b σ [(0, 8, 19), (0, 8, 18), (0, 8, 17), (0, 8, 16), (0, 8, 15), (0, 8, 14), (0, 8, 13), (0, 8, 12), (0, 8, 11), (0, 8, 10), (0, 8, 9), (0, 8, 8), (0, 8, 7), (0, 8, 6), (0, 8, 5), (0, 8, 4), (0, 8, 3), (0, 8, 2), (0, 8, 1)] [] [])) hu ?_
  show zx p l e _ s m _ below meth c g 3 0 0 _ _ 46 [(2, .int 18), (0, .ref (b + 0)), (1, .int 40)] _
  refine z_iinc (v := 19) (lv' := [(2, .int 19), (0, .ref (b + 0)), (1, .int 40)]) B dX8_tick_46 0 rfl (by decide) (by decide) rfl ?_
  refine z_goto (tgt := 23) B dX8_tick_49 (by decide) ?_
  refine z_iload_n B dX8_tick_23 rfl 0 rfl ?_
  refine z_iload_n B dX8_tick_24 rfl 2 rfl ?_
  refine z_icmp_ge (tgt := 52) B dX8_tick_25 (by decide) (fun h => absurd h (by decide)) (fun _ => ?_)
  refine z_aload_n B dX8_tick_28 rfl 1 rfl ?_
  refine z_dup B dX8_tick_29 rfl ?_
  refine gf_X8_206 (x := 19) B (lKA (hk_K hK 0 rfl rfl)) (rI_at 0 8 rfl) dX8_tick_30 ?_
  refine z_iconst (v := 1) B dX8_tick_33 (by decide) ?_
  refine z_iadd B dX8_tick_34 ?_
  refine z_seti (y := 20) (by decide) ?_
  refine pf_X8_206 (x := 20) (σ' := (ap b σ [(0, 8, 20), (0, 8, 19), (0, 8, 18), (0, 8, 17), (0, 8, 16), (0, 8, 15), (0, 8, 14), (0, 8, 13), (0, 8, 12), (0, 8, 11), (0, 8, 10), (0, 8, 9), (0, 8, 8), (0, 8, 7), (0, 8, 6), (0, 8, 5), (0, 8, 4), (0, 8, 3), (0, 8, 2), (0, 8, 1)] [] [])) B (lKA (hk_K hK 0 rfl rfl)) wI_ap dX8_tick_35 ?_
  refine z_aload_n B dX8_tick_38 rfl 1 rfl ?_
  refine z_cVv (As := []) (rest := []) B cw_X8_240 cx_9 dX8_tick_39 (ci_X8_passTasks_920 l (σ := (ap b σ [(0, 8, 20), (0, 8, 19), (0, 8, 18), (0, 8, 17), (0, 8, 16), (0, 8, 15), (0, 8, 14), (0, 8, 13), (0, 8, 12), (0, 8, 11), (0, 8, 10), (0, 8, 9), (0, 8, 8), (0, 8, 7), (0, 8, 6), (0, 8, 5), (0, 8, 4), (0, 8, 3), (0, 8, 2), (0, 8, 1)] [] [])) (b := b) (lyA hK) (rI_at 4 2 hI_4_2) (rR_at 0 3 hR_0_3)) (lKA (hk_K hK 0 rfl rfl)) rfl (by decide) rfl (Nat.le_of_ble_eq_true rfl) (by decide) (fun u hu => ?_)
  refine z_eqs (σ' := (ap b σ [(0, 8, 20), (0, 8, 19), (0, 8, 18), (0, 8, 17), (0, 8, 16), (0, 8, 15), (0, 8, 14), (0, 8, 13), (0, 8, 12), (0, 8, 11), (0, 8, 10), (0, 8, 9), (0, 8, 8), (0, 8, 7), (0, 8, 6), (0, 8, 5), (0, 8, 4), (0, 8, 3), (0, 8, 2), (0, 8, 1)] [] [])) hu ?_
  show zx p l e _ s m _ below meth c g 3 0 0 _ _ 42 [(2, .int 19), (0, .ref (b + 0)), (1, .int 40)] _
  refine z_aload_n B dX8_tick_42 rfl 1 rfl ?_
  refine z_cVv (As := []) (rest := []) B cw_X8_243 cx_9 dX8_tick_43 (ci_X8_passTimers_921 l (σ := (ap b σ [(0, 8, 20), (0, 8, 19), (0, 8, 18), (0, 8, 17), (0, 8, 16), (0, 8, 15), (0, 8, 14), (0, 8, 13), (0, 8, 12), (0, 8, 11), (0, 8, 10), (0, 8, 9), (0, 8, 8), (0, 8, 7), (0, 8, 6), (0, 8, 5), (0, 8, 4), (0, 8, 3), (0, 8, 2), (0, 8, 1)] [] [])) (b := b) (lyA hK) (rI_at 0 7 hI_0_7)) (lKA (hk_K hK 0 rfl rfl)) rfl (by decide) rfl (Nat.le_of_ble_eq_true rfl) (by decide) (fun u hu => ?_)
  refine z_eqs (σ' := (ap b σ [(0, 8, 20), (0, 8, 19), (0, 8, 18), (0, 8, 17), (0, 8, 16), (0, 8, 15), (0, 8, 14), (0, 8, 13), (0, 8, 12), (0, 8, 11), (0, 8, 10), (0, 8, 9), (0, 8, 8), (0, 8, 7), (0, 8, 6), (0, 8, 5), (0, 8, 4), (0, 8, 3), (0, 8, 2), (0, 8, 1)] [] [])) hu ?_
  show zx p l e _ s m _ below meth c g 3 0 0 _ _ 46 [(2, .int 19), (0, .ref (b + 0)), (1, .int 40)] _
  refine z_iinc (v := 20) (lv' := [(2, .int 20), (0, .ref (b + 0)), (1, .int 40)]) B dX8_tick_46 0 rfl (by decide) (by decide) rfl ?_
  refine z_goto (tgt := 23) B dX8_tick_49 (by decide) ?_
  refine z_iload_n B dX8_tick_23 rfl 0 rfl ?_
  refine z_iload_n B dX8_tick_24 rfl 2 rfl ?_
  refine z_icmp_ge (tgt := 52) B dX8_tick_25 (by decide) (fun h => absurd h (by decide)) (fun _ => ?_)
  refine z_aload_n B dX8_tick_28 rfl 1 rfl ?_
  refine z_dup B dX8_tick_29 rfl ?_
  refine gf_X8_206 (x := 20) B (lKA (hk_K hK 0 rfl rfl)) (rI_at 0 8 rfl) dX8_tick_30 ?_
  refine z_iconst (v := 1) B dX8_tick_33 (by decide) ?_
  refine z_iadd B dX8_tick_34 ?_
  refine z_seti (y := 21) (by decide) ?_
  refine pf_X8_206 (x := 21) (σ' := (ap b σ [(0, 8, 21), (0, 8, 20), (0, 8, 19), (0, 8, 18), (0, 8, 17), (0, 8, 16), (0, 8, 15), (0, 8, 14), (0, 8, 13), (0, 8, 12), (0, 8, 11), (0, 8, 10), (0, 8, 9), (0, 8, 8), (0, 8, 7), (0, 8, 6), (0, 8, 5), (0, 8, 4), (0, 8, 3), (0, 8, 2), (0, 8, 1)] [] [])) B (lKA (hk_K hK 0 rfl rfl)) wI_ap dX8_tick_35 ?_
  refine z_aload_n B dX8_tick_38 rfl 1 rfl ?_
  refine z_cVv (As := []) (rest := []) B cw_X8_240 cx_9 dX8_tick_39 (ci_X8_passTasks_920 l (σ := (ap b σ [(0, 8, 21), (0, 8, 20), (0, 8, 19), (0, 8, 18), (0, 8, 17), (0, 8, 16), (0, 8, 15), (0, 8, 14), (0, 8, 13), (0, 8, 12), (0, 8, 11), (0, 8, 10), (0, 8, 9), (0, 8, 8), (0, 8, 7), (0, 8, 6), (0, 8, 5), (0, 8, 4), (0, 8, 3), (0, 8, 2), (0, 8, 1)] [] [])) (b := b) (lyA hK) (rI_at 4 2 hI_4_2) (rR_at 0 3 hR_0_3)) (lKA (hk_K hK 0 rfl rfl)) rfl (by decide) rfl (Nat.le_of_ble_eq_true rfl) (by decide) (fun u hu => ?_)
  refine z_eqs (σ' := (ap b σ [(0, 8, 21), (0, 8, 20), (0, 8, 19), (0, 8, 18), (0, 8, 17), (0, 8, 16), (0, 8, 15), (0, 8, 14), (0, 8, 13), (0, 8, 12), (0, 8, 11), (0, 8, 10), (0, 8, 9), (0, 8, 8), (0, 8, 7), (0, 8, 6), (0, 8, 5), (0, 8, 4), (0, 8, 3), (0, 8, 2), (0, 8, 1)] [] [])) hu ?_
  show zx p l e _ s m _ below meth c g 3 0 0 _ _ 42 [(2, .int 20), (0, .ref (b + 0)), (1, .int 40)] _
  refine z_aload_n B dX8_tick_42 rfl 1 rfl ?_
  refine z_cVv (As := []) (rest := []) B cw_X8_243 cx_9 dX8_tick_43 (ci_X8_passTimers_921 l (σ := (ap b σ [(0, 8, 21), (0, 8, 20), (0, 8, 19), (0, 8, 18), (0, 8, 17), (0, 8, 16), (0, 8, 15), (0, 8, 14), (0, 8, 13), (0, 8, 12), (0, 8, 11), (0, 8, 10), (0, 8, 9), (0, 8, 8), (0, 8, 7), (0, 8, 6), (0, 8, 5), (0, 8, 4), (0, 8, 3), (0, 8, 2), (0, 8, 1)] [] [])) (b := b) (lyA hK) (rI_at 0 7 hI_0_7)) (lKA (hk_K hK 0 rfl rfl)) rfl (by decide) rfl (Nat.le_of_ble_eq_true rfl) (by decide) (fun u hu => ?_)
  refine z_eqs (σ' := (ap b σ [(0, 8, 21), (0, 8, 20), (0, 8, 19), (0, 8, 18), (0, 8, 17), (0, 8, 16), (0, 8, 15), (0, 8, 14), (0, 8, 13), (0, 8, 12), (0, 8, 11), (0, 8, 10), (0, 8, 9), (0, 8, 8), (0, 8, 7), (0, 8, 6), (0, 8, 5), (0, 8, 4), (0, 8, 3), (0, 8, 2), (0, 8, 1)] [] [])) hu ?_
  show zx p l e _ s m _ below meth c g 3 0 0 _ _ 46 [(2, .int 20), (0, .ref (b + 0)), (1, .int 40)] _
  refine z_iinc (v := 21) (lv' := [(2, .int 21), (0, .ref (b + 0)), (1, .int 40)]) B dX8_tick_46 0 rfl (by decide) (by decide) rfl ?_
  refine z_goto (tgt := 23) B dX8_tick_49 (by decide) ?_
  refine z_iload_n B dX8_tick_23 rfl 0 rfl ?_
  refine z_iload_n B dX8_tick_24 rfl 2 rfl ?_
  refine z_icmp_ge (tgt := 52) B dX8_tick_25 (by decide) (fun h => absurd h (by decide)) (fun _ => ?_)
  refine z_aload_n B dX8_tick_28 rfl 1 rfl ?_
  refine z_dup B dX8_tick_29 rfl ?_
  refine gf_X8_206 (x := 21) B (lKA (hk_K hK 0 rfl rfl)) (rI_at 0 8 rfl) dX8_tick_30 ?_
  refine z_iconst (v := 1) B dX8_tick_33 (by decide) ?_
  refine z_iadd B dX8_tick_34 ?_
  refine z_seti (y := 22) (by decide) ?_
  refine pf_X8_206 (x := 22) (σ' := (ap b σ [(0, 8, 22), (0, 8, 21), (0, 8, 20), (0, 8, 19), (0, 8, 18), (0, 8, 17), (0, 8, 16), (0, 8, 15), (0, 8, 14), (0, 8, 13), (0, 8, 12), (0, 8, 11), (0, 8, 10), (0, 8, 9), (0, 8, 8), (0, 8, 7), (0, 8, 6), (0, 8, 5), (0, 8, 4), (0, 8, 3), (0, 8, 2), (0, 8, 1)] [] [])) B (lKA (hk_K hK 0 rfl rfl)) wI_ap dX8_tick_35 ?_
  refine z_aload_n B dX8_tick_38 rfl 1 rfl ?_
  refine z_cVv (As := []) (rest := []) B cw_X8_240 cx_9 dX8_tick_39 (ci_X8_passTasks_920 l (σ := (ap b σ [(0, 8, 22), (0, 8, 21), (0, 8, 20), (0, 8, 19), (0, 8, 18), (0, 8, 17), (0, 8, 16), (0, 8, 15), (0, 8, 14), (0, 8, 13), (0, 8, 12), (0, 8, 11), (0, 8, 10), (0, 8, 9), (0, 8, 8), (0, 8, 7), (0, 8, 6), (0, 8, 5), (0, 8, 4), (0, 8, 3), (0, 8, 2), (0, 8, 1)] [] [])) (b := b) (lyA hK) (rI_at 4 2 hI_4_2) (rR_at 0 3 hR_0_3)) (lKA (hk_K hK 0 rfl rfl)) rfl (by decide) rfl (Nat.le_of_ble_eq_true rfl) (by decide) (fun u hu => ?_)
  refine z_eqs (σ' := (ap b σ [(0, 8, 22), (0, 8, 21), (0, 8, 20), (0, 8, 19), (0, 8, 18), (0, 8, 17), (0, 8, 16), (0, 8, 15), (0, 8, 14), (0, 8, 13), (0, 8, 12), (0, 8, 11), (0, 8, 10), (0, 8, 9), (0, 8, 8), (0, 8, 7), (0, 8, 6), (0, 8, 5), (0, 8, 4), (0, 8, 3), (0, 8, 2), (0, 8, 1)] [] [])) hu ?_
  show zx p l e _ s m _ below meth c g 3 0 0 _ _ 42 [(2, .int 21), (0, .ref (b + 0)), (1, .int 40)] _
  refine z_aload_n B dX8_tick_42 rfl 1 rfl ?_
  refine z_cVv (As := []) (rest := []) B cw_X8_243 cx_9 dX8_tick_43 (ci_X8_passTimers_921 l (σ := (ap b σ [(0, 8, 22), (0, 8, 21), (0, 8, 20), (0, 8, 19), (0, 8, 18), (0, 8, 17), (0, 8, 16), (0, 8, 15), (0, 8, 14), (0, 8, 13), (0, 8, 12), (0, 8, 11), (0, 8, 10), (0, 8, 9), (0, 8, 8), (0, 8, 7), (0, 8, 6), (0, 8, 5), (0, 8, 4), (0, 8, 3), (0, 8, 2), (0, 8, 1)] [] [])) (b := b) (lyA hK) (rI_at 0 7 hI_0_7)) (lKA (hk_K hK 0 rfl rfl)) rfl (by decide) rfl (Nat.le_of_ble_eq_true rfl) (by decide) (fun u hu => ?_)
  refine z_eqs (σ' := (ap b σ [(0, 8, 22), (0, 8, 21), (0, 8, 20), (0, 8, 19), (0, 8, 18), (0, 8, 17), (0, 8, 16), (0, 8, 15), (0, 8, 14), (0, 8, 13), (0, 8, 12), (0, 8, 11), (0, 8, 10), (0, 8, 9), (0, 8, 8), (0, 8, 7), (0, 8, 6), (0, 8, 5), (0, 8, 4), (0, 8, 3), (0, 8, 2), (0, 8, 1)] [] [])) hu ?_
  show zx p l e _ s m _ below meth c g 3 0 0 _ _ 46 [(2, .int 21), (0, .ref (b + 0)), (1, .int 40)] _
  refine z_iinc (v := 22) (lv' := [(2, .int 22), (0, .ref (b + 0)), (1, .int 40)]) B dX8_tick_46 0 rfl (by decide) (by decide) rfl ?_
  refine z_goto (tgt := 23) B dX8_tick_49 (by decide) ?_
  refine z_iload_n B dX8_tick_23 rfl 0 rfl ?_
  refine z_iload_n B dX8_tick_24 rfl 2 rfl ?_
  refine z_icmp_ge (tgt := 52) B dX8_tick_25 (by decide) (fun h => absurd h (by decide)) (fun _ => ?_)
  refine z_aload_n B dX8_tick_28 rfl 1 rfl ?_
  refine z_dup B dX8_tick_29 rfl ?_
  refine gf_X8_206 (x := 22) B (lKA (hk_K hK 0 rfl rfl)) (rI_at 0 8 rfl) dX8_tick_30 ?_
  refine z_iconst (v := 1) B dX8_tick_33 (by decide) ?_
  refine z_iadd B dX8_tick_34 ?_
  refine z_seti (y := 23) (by decide) ?_
  refine pf_X8_206 (x := 23) (σ' := (ap b σ [(0, 8, 23), (0, 8, 22), (0, 8, 21), (0, 8, 20), (0, 8, 19), (0, 8, 18), (0, 8, 17), (0, 8, 16), (0, 8, 15), (0, 8, 14), (0, 8, 13), (0, 8, 12), (0, 8, 11), (0, 8, 10), (0, 8, 9), (0, 8, 8), (0, 8, 7), (0, 8, 6), (0, 8, 5), (0, 8, 4), (0, 8, 3), (0, 8, 2), (0, 8, 1)] [] [])) B (lKA (hk_K hK 0 rfl rfl)) wI_ap dX8_tick_35 ?_
  refine z_aload_n B dX8_tick_38 rfl 1 rfl ?_
  refine z_cVv (As := []) (rest := []) B cw_X8_240 cx_9 dX8_tick_39 (ci_X8_passTasks_920 l (σ := (ap b σ [(0, 8, 23), (0, 8, 22), (0, 8, 21), (0, 8, 20), (0, 8, 19), (0, 8, 18), (0, 8, 17), (0, 8, 16), (0, 8, 15), (0, 8, 14), (0, 8, 13), (0, 8, 12), (0, 8, 11), (0, 8, 10), (0, 8, 9), (0, 8, 8), (0, 8, 7), (0, 8, 6), (0, 8, 5), (0, 8, 4), (0, 8, 3), (0, 8, 2), (0, 8, 1)] [] [])) (b := b) (lyA hK) (rI_at 4 2 hI_4_2) (rR_at 0 3 hR_0_3)) (lKA (hk_K hK 0 rfl rfl)) rfl (by decide) rfl (Nat.le_of_ble_eq_true rfl) (by decide) (fun u hu => ?_)
  refine z_eqs (σ' := (ap b σ [(0, 8, 23), (0, 8, 22), (0, 8, 21), (0, 8, 20), (0, 8, 19), (0, 8, 18), (0, 8, 17), (0, 8, 16), (0, 8, 15), (0, 8, 14), (0, 8, 13), (0, 8, 12), (0, 8, 11), (0, 8, 10), (0, 8, 9), (0, 8, 8), (0, 8, 7), (0, 8, 6), (0, 8, 5), (0, 8, 4), (0, 8, 3), (0, 8, 2), (0, 8, 1)] [] [])) hu ?_
  show zx p l e _ s m _ below meth c g 3 0 0 _ _ 42 [(2, .int 22), (0, .ref (b + 0)), (1, .int 40)] _
  refine z_aload_n B dX8_tick_42 rfl 1 rfl ?_
  refine z_cVv (As := []) (rest := []) B cw_X8_243 cx_9 dX8_tick_43 (ci_X8_passTimers_921 l (σ := (ap b σ [(0, 8, 23), (0, 8, 22), (0, 8, 21), (0, 8, 20), (0, 8, 19), (0, 8, 18), (0, 8, 17), (0, 8, 16), (0, 8, 15), (0, 8, 14), (0, 8, 13), (0, 8, 12), (0, 8, 11), (0, 8, 10), (0, 8, 9), (0, 8, 8), (0, 8, 7), (0, 8, 6), (0, 8, 5), (0, 8, 4), (0, 8, 3), (0, 8, 2), (0, 8, 1)] [] [])) (b := b) (lyA hK) (rI_at 0 7 hI_0_7)) (lKA (hk_K hK 0 rfl rfl)) rfl (by decide) rfl (Nat.le_of_ble_eq_true rfl) (by decide) (fun u hu => ?_)
  refine z_eqs (σ' := (ap b σ [(0, 8, 23), (0, 8, 22), (0, 8, 21), (0, 8, 20), (0, 8, 19), (0, 8, 18), (0, 8, 17), (0, 8, 16), (0, 8, 15), (0, 8, 14), (0, 8, 13), (0, 8, 12), (0, 8, 11), (0, 8, 10), (0, 8, 9), (0, 8, 8), (0, 8, 7), (0, 8, 6), (0, 8, 5), (0, 8, 4), (0, 8, 3), (0, 8, 2), (0, 8, 1)] [] [])) hu ?_
  show zx p l e _ s m _ below meth c g 3 0 0 _ _ 46 [(2, .int 22), (0, .ref (b + 0)), (1, .int 40)] _
  refine z_iinc (v := 23) (lv' := [(2, .int 23), (0, .ref (b + 0)), (1, .int 40)]) B dX8_tick_46 0 rfl (by decide) (by decide) rfl ?_
  refine z_goto (tgt := 23) B dX8_tick_49 (by decide) ?_
  refine z_iload_n B dX8_tick_23 rfl 0 rfl ?_
  refine z_iload_n B dX8_tick_24 rfl 2 rfl ?_
  refine z_icmp_ge (tgt := 52) B dX8_tick_25 (by decide) (fun h => absurd h (by decide)) (fun _ => ?_)
  refine z_aload_n B dX8_tick_28 rfl 1 rfl ?_
  refine z_dup B dX8_tick_29 rfl ?_
  refine gf_X8_206 (x := 23) B (lKA (hk_K hK 0 rfl rfl)) (rI_at 0 8 rfl) dX8_tick_30 ?_
  refine z_iconst (v := 1) B dX8_tick_33 (by decide) ?_
  refine z_iadd B dX8_tick_34 ?_
  refine z_seti (y := 24) (by decide) ?_
  refine pf_X8_206 (x := 24) (σ' := (ap b σ [(0, 8, 24), (0, 8, 23), (0, 8, 22), (0, 8, 21), (0, 8, 20), (0, 8, 19), (0, 8, 18), (0, 8, 17), (0, 8, 16), (0, 8, 15), (0, 8, 14), (0, 8, 13), (0, 8, 12), (0, 8, 11), (0, 8, 10), (0, 8, 9), (0, 8, 8), (0, 8, 7), (0, 8, 6), (0, 8, 5), (0, 8, 4), (0, 8, 3), (0, 8, 2), (0, 8, 1)] [] [])) B (lKA (hk_K hK 0 rfl rfl)) wI_ap dX8_tick_35 ?_
  refine z_aload_n B dX8_tick_38 rfl 1 rfl ?_
  refine z_cVv (As := []) (rest := []) B cw_X8_240 cx_9 dX8_tick_39 (ci_X8_passTasks_920 l (σ := (ap b σ [(0, 8, 24), (0, 8, 23), (0, 8, 22), (0, 8, 21), (0, 8, 20), (0, 8, 19), (0, 8, 18), (0, 8, 17), (0, 8, 16), (0, 8, 15), (0, 8, 14), (0, 8, 13), (0, 8, 12), (0, 8, 11), (0, 8, 10), (0, 8, 9), (0, 8, 8), (0, 8, 7), (0, 8, 6), (0, 8, 5), (0, 8, 4), (0, 8, 3), (0, 8, 2), (0, 8, 1)] [] [])) (b := b) (lyA hK) (rI_at 4 2 hI_4_2) (rR_at 0 3 hR_0_3)) (lKA (hk_K hK 0 rfl rfl)) rfl (by decide) rfl (Nat.le_of_ble_eq_true rfl) (by decide) (fun u hu => ?_)
  refine z_eqs (σ' := (ap b σ [(0, 8, 24), (0, 8, 23), (0, 8, 22), (0, 8, 21), (0, 8, 20), (0, 8, 19), (0, 8, 18), (0, 8, 17), (0, 8, 16), (0, 8, 15), (0, 8, 14), (0, 8, 13), (0, 8, 12), (0, 8, 11), (0, 8, 10), (0, 8, 9), (0, 8, 8), (0, 8, 7), (0, 8, 6), (0, 8, 5), (0, 8, 4), (0, 8, 3), (0, 8, 2), (0, 8, 1)] [] [])) hu ?_
  show zx p l e _ s m _ below meth c g 3 0 0 _ _ 42 [(2, .int 23), (0, .ref (b + 0)), (1, .int 40)] _
  refine z_aload_n B dX8_tick_42 rfl 1 rfl ?_
  refine z_cVv (As := []) (rest := []) B cw_X8_243 cx_9 dX8_tick_43 (ci_X8_passTimers_921 l (σ := (ap b σ [(0, 8, 24), (0, 8, 23), (0, 8, 22), (0, 8, 21), (0, 8, 20), (0, 8, 19), (0, 8, 18), (0, 8, 17), (0, 8, 16), (0, 8, 15), (0, 8, 14), (0, 8, 13), (0, 8, 12), (0, 8, 11), (0, 8, 10), (0, 8, 9), (0, 8, 8), (0, 8, 7), (0, 8, 6), (0, 8, 5), (0, 8, 4), (0, 8, 3), (0, 8, 2), (0, 8, 1)] [] [])) (b := b) (lyA hK) (rI_at 0 7 hI_0_7)) (lKA (hk_K hK 0 rfl rfl)) rfl (by decide) rfl (Nat.le_of_ble_eq_true rfl) (by decide) (fun u hu => ?_)
  refine z_eqs (σ' := (ap b σ [(0, 8, 24), (0, 8, 23), (0, 8, 22), (0, 8, 21), (0, 8, 20), (0, 8, 19), (0, 8, 18), (0, 8, 17), (0, 8, 16), (0, 8, 15), (0, 8, 14), (0, 8, 13), (0, 8, 12), (0, 8, 11), (0, 8, 10), (0, 8, 9), (0, 8, 8), (0, 8, 7), (0, 8, 6), (0, 8, 5), (0, 8, 4), (0, 8, 3), (0, 8, 2), (0, 8, 1)] [] [])) hu ?_
  show zx p l e _ s m _ below meth c g 3 0 0 _ _ 46 [(2, .int 23), (0, .ref (b + 0)), (1, .int 40)] _
  refine z_iinc (v := 24) (lv' := [(2, .int 24), (0, .ref (b + 0)), (1, .int 40)]) B dX8_tick_46 0 rfl (by decide) (by decide) rfl ?_
  refine z_goto (tgt := 23) B dX8_tick_49 (by decide) ?_
  refine z_iload_n B dX8_tick_23 rfl 0 rfl ?_
  refine z_iload_n B dX8_tick_24 rfl 2 rfl ?_
  refine z_icmp_ge (tgt := 52) B dX8_tick_25 (by decide) (fun h => absurd h (by decide)) (fun _ => ?_)
  refine z_aload_n B dX8_tick_28 rfl 1 rfl ?_
  refine z_dup B dX8_tick_29 rfl ?_
  refine gf_X8_206 (x := 24) B (lKA (hk_K hK 0 rfl rfl)) (rI_at 0 8 rfl) dX8_tick_30 ?_
  refine z_iconst (v := 1) B dX8_tick_33 (by decide) ?_
  refine z_iadd B dX8_tick_34 ?_
  refine z_seti (y := 25) (by decide) ?_
  refine pf_X8_206 (x := 25) (σ' := (ap b σ [(0, 8, 25), (0, 8, 24), (0, 8, 23), (0, 8, 22), (0, 8, 21), (0, 8, 20), (0, 8, 19), (0, 8, 18), (0, 8, 17), (0, 8, 16), (0, 8, 15), (0, 8, 14), (0, 8, 13), (0, 8, 12), (0, 8, 11), (0, 8, 10), (0, 8, 9), (0, 8, 8), (0, 8, 7), (0, 8, 6), (0, 8, 5), (0, 8, 4), (0, 8, 3), (0, 8, 2), (0, 8, 1)] [] [])) B (lKA (hk_K hK 0 rfl rfl)) wI_ap dX8_tick_35 ?_
  refine z_aload_n B dX8_tick_38 rfl 1 rfl ?_
  refine z_cVv (As := []) (rest := []) B cw_X8_240 cx_9 dX8_tick_39 (ci_X8_passTasks_920 l (σ := (ap b σ [(0, 8, 25), (0, 8, 24), (0, 8, 23), (0, 8, 22), (0, 8, 21), (0, 8, 20), (0, 8, 19), (0, 8, 18), (0, 8, 17), (0, 8, 16), (0, 8, 15), (0, 8, 14), (0, 8, 13), (0, 8, 12), (0, 8, 11), (0, 8, 10), (0, 8, 9), (0, 8, 8), (0, 8, 7), (0, 8, 6), (0, 8, 5), (0, 8, 4), (0, 8, 3), (0, 8, 2), (0, 8, 1)] [] [])) (b := b) (lyA hK) (rI_at 4 2 hI_4_2) (rR_at 0 3 hR_0_3)) (lKA (hk_K hK 0 rfl rfl)) rfl (by decide) rfl (Nat.le_of_ble_eq_true rfl) (by decide) (fun u hu => ?_)
  refine z_eqs (σ' := (ap b σ [(0, 8, 25), (0, 8, 24), (0, 8, 23), (0, 8, 22), (0, 8, 21), (0, 8, 20), (0, 8, 19), (0, 8, 18), (0, 8, 17), (0, 8, 16), (0, 8, 15), (0, 8, 14), (0, 8, 13), (0, 8, 12), (0, 8, 11), (0, 8, 10), (0, 8, 9), (0, 8, 8), (0, 8, 7), (0, 8, 6), (0, 8, 5), (0, 8, 4), (0, 8, 3), (0, 8, 2), (0, 8, 1)] [] [])) hu ?_
  show zx p l e _ s m _ below meth c g 3 0 0 _ _ 42 [(2, .int 24), (0, .ref (b + 0)), (1, .int 40)] _
  refine z_aload_n B dX8_tick_42 rfl 1 rfl ?_
  refine z_cVv (As := []) (rest := []) B cw_X8_243 cx_9 dX8_tick_43 (ci_X8_passTimers_921 l (σ := (ap b σ [(0, 8, 25), (0, 8, 24), (0, 8, 23), (0, 8, 22), (0, 8, 21), (0, 8, 20), (0, 8, 19), (0, 8, 18), (0, 8, 17), (0, 8, 16), (0, 8, 15), (0, 8, 14), (0, 8, 13), (0, 8, 12), (0, 8, 11), (0, 8, 10), (0, 8, 9), (0, 8, 8), (0, 8, 7), (0, 8, 6), (0, 8, 5), (0, 8, 4), (0, 8, 3), (0, 8, 2), (0, 8, 1)] [] [])) (b := b) (lyA hK) (rI_at 0 7 hI_0_7)) (lKA (hk_K hK 0 rfl rfl)) rfl (by decide) rfl (Nat.le_of_ble_eq_true rfl) (by decide) (fun u hu => ?_)
  refine z_eqs (σ' := (ap b σ [(0, 8, 25), (0, 8, 24), (0, 8, 23), (0, 8, 22), (0, 8, 21), (0, 8, 20), (0, 8, 19), (0, 8, 18), (0, 8, 17), (0, 8, 16), (0, 8, 15), (0, 8, 14), (0, 8, 13), (0, 8, 12), (0, 8, 11), (0, 8, 10), (0, 8, 9), (0, 8, 8), (0, 8, 7), (0, 8, 6), (0, 8, 5), (0, 8, 4), (0, 8, 3), (0, 8, 2), (0, 8, 1)] [] [])) hu ?_
  show zx p l e _ s m _ below meth c g 3 0 0 _ _ 46 [(2, .int 24), (0, .ref (b + 0)), (1, .int 40)] _
  refine z_iinc (v := 25) (lv' := [(2, .int 25), (0, .ref (b + 0)), (1, .int 40)]) B dX8_tick_46 0 rfl (by decide) (by decide) rfl ?_
  refine z_goto (tgt := 23) B dX8_tick_49 (by decide) ?_
  refine z_iload_n B dX8_tick_23 rfl 0 rfl ?_
  refine z_iload_n B dX8_tick_24 rfl 2 rfl ?_
  refine z_icmp_ge (tgt := 52) B dX8_tick_25 (by decide) (fun h => absurd h (by decide)) (fun _ => ?_)
  refine z_aload_n B dX8_tick_28 rfl 1 rfl ?_
  refine z_dup B dX8_tick_29 rfl ?_
  refine gf_X8_206 (x := 25) B (lKA (hk_K hK 0 rfl rfl)) (rI_at 0 8 rfl) dX8_tick_30 ?_
  refine z_iconst (v := 1) B dX8_tick_33 (by decide) ?_
  refine z_iadd B dX8_tick_34 ?_
  refine z_seti (y := 26) (by decide) ?_
  refine pf_X8_206 (x := 26) (σ' := (ap b σ [(0, 8, 26), (0, 8, 25), (0, 8, 24), (0, 8, 23), (0, 8, 22), (0, 8, 21), (0, 8, 20), (0, 8, 19), (0, 8, 18), (0, 8, 17), (0, 8, 16), (0, 8, 15), (0, 8, 14), (0, 8, 13), (0, 8, 12), (0, 8, 11), (0, 8, 10), (0, 8, 9), (0, 8, 8), (0, 8, 7), (0, 8, 6), (0, 8, 5), (0, 8, 4), (0, 8, 3), (0, 8, 2), (0, 8, 1)] [] [])) B (lKA (hk_K hK 0 rfl rfl)) wI_ap dX8_tick_35 ?_
  refine z_aload_n B dX8_tick_38 rfl 1 rfl ?_
  refine z_cVv (As := []) (rest := []) B cw_X8_240 cx_9 dX8_tick_39 (ci_X8_passTasks_920 l (σ := (ap b σ [(0, 8, 26), (0, 8, 25), (0, 8, 24), (0, 8, 23), (0, 8, 22), (0, 8, 21), (0, 8, 20), (0, 8, 19), (0, 8, 18), (0, 8, 17), (0, 8, 16), (0, 8, 15), (0, 8, 14), (0, 8, 13), (0, 8, 12), (0, 8, 11), (0, 8, 10), (0, 8, 9), (0, 8, 8), (0, 8, 7), (0, 8, 6), (0, 8, 5), (0, 8, 4), (0, 8, 3), (0, 8, 2), (0, 8, 1)] [] [])) (b := b) (lyA hK) (rI_at 4 2 hI_4_2) (rR_at 0 3 hR_0_3)) (lKA (hk_K hK 0 rfl rfl)) rfl (by decide) rfl (Nat.le_of_ble_eq_true rfl) (by decide) (fun u hu => ?_)
  refine z_eqs (σ' := (ap b σ [(0, 8, 26), (0, 8, 25), (0, 8, 24), (0, 8, 23), (0, 8, 22), (0, 8, 21), (0, 8, 20), (0, 8, 19), (0, 8, 18), (0, 8, 17), (0, 8, 16), (0, 8, 15), (0, 8, 14), (0, 8, 13), (0, 8, 12), (0, 8, 11), (0, 8, 10), (0, 8, 9), (0, 8, 8), (0, 8, 7), (0, 8, 6), (0, 8, 5), (0, 8, 4), (0, 8, 3), (0, 8, 2), (0, 8, 1)] [] [])) hu ?_
  show zx p l e _ s m _ below meth c g 3 0 0 _ _ 42 [(2, .int 25), (0, .ref (b + 0)), (1, .int 40)] _
  refine z_aload_n B dX8_tick_42 rfl 1 rfl ?_
  refine z_cVv (As := []) (rest := []) B cw_X8_243 cx_9 dX8_tick_43 (ci_X8_passTimers_921 l (σ := (ap b σ [(0, 8, 26), (0, 8, 25), (0, 8, 24), (0, 8, 23), (0, 8, 22), (0, 8, 21), (0, 8, 20), (0, 8, 19), (0, 8, 18), (0, 8, 17), (0, 8, 16), (0, 8, 15), (0, 8, 14), (0, 8, 13), (0, 8, 12), (0, 8, 11), (0, 8, 10), (0, 8, 9), (0, 8, 8), (0, 8, 7), (0, 8, 6), (0, 8, 5), (0, 8, 4), (0, 8, 3), (0, 8, 2), (0, 8, 1)] [] [])) (b := b) (lyA hK) (rI_at 0 7 hI_0_7)) (lKA (hk_K hK 0 rfl rfl)) rfl (by decide) rfl (Nat.le_of_ble_eq_true rfl) (by decide) (fun u hu => ?_)
  refine z_eqs (σ' := (ap b σ [(0, 8, 26), (0, 8, 25), (0, 8, 24), (0, 8, 23), (0, 8, 22), (0, 8, 21), (0, 8, 20), (0, 8, 19), (0, 8, 18), (0, 8, 17), (0, 8, 16), (0, 8, 15), (0, 8, 14), (0, 8, 13), (0, 8, 12), (0, 8, 11), (0, 8, 10), (0, 8, 9), (0, 8, 8), (0, 8, 7), (0, 8, 6), (0, 8, 5), (0, 8, 4), (0, 8, 3), (0, 8, 2), (0, 8, 1)] [] [])) hu ?_
  show zx p l e _ s m _ below meth c g 3 0 0 _ _ 46 [(2, .int 25), (0, .ref (b + 0)), (1, .int 40)] _
  refine z_iinc (v := 26) (lv' := [(2, .int 26), (0, .ref (b + 0)), (1, .int 40)]) B dX8_tick_46 0 rfl (by decide) (by decide) rfl ?_
  refine z_goto (tgt := 23) B dX8_tick_49 (by decide) ?_
  refine z_iload_n B dX8_tick_23 rfl 0 rfl ?_
  refine z_iload_n B dX8_tick_24 rfl 2 rfl ?_
  refine z_icmp_ge (tgt := 52) B dX8_tick_25 (by decide) (fun h => absurd h (by decide)) (fun _ => ?_)
  refine z_aload_n B dX8_tick_28 rfl 1 rfl ?_
  refine z_dup B dX8_tick_29 rfl ?_
  refine gf_X8_206 (x := 26) B (lKA (hk_K hK 0 rfl rfl)) (rI_at 0 8 rfl) dX8_tick_30 ?_
  refine z_iconst (v := 1) B dX8_tick_33 (by decide) ?_
  refine z_iadd B dX8_tick_34 ?_
  refine z_seti (y := 27) (by decide) ?_
  refine pf_X8_206 (x := 27) (σ' := (ap b σ [(0, 8, 27), (0, 8, 26), (0, 8, 25), (0, 8, 24), (0, 8, 23), (0, 8, 22), (0, 8, 21), (0, 8, 20), (0, 8, 19), (0, 8, 18), (0, 8, 17), (0, 8, 16), (0, 8, 15), (0, 8, 14), (0, 8, 13), (0, 8, 12), (0, 8, 11), (0, 8, 10), (0, 8, 9), (0, 8, 8), (0, 8, 7), (0, 8, 6), (0, 8, 5), (0, 8, 4), (0, 8, 3), (0, 8, 2), (0, 8, 1)] [] [])) B (lKA (hk_K hK 0 rfl rfl)) wI_ap dX8_tick_35 ?_
  refine z_aload_n B dX8_tick_38 rfl 1 rfl ?_
  refine z_cVv (As := []) (rest := []) B cw_X8_240 cx_9 dX8_tick_39 (ci_X8_passTasks_920 l (σ := (ap b σ [(0, 8, 27), (0, 8, 26), (0, 8, 25), (0, 8, 24), (0, 8, 23), (0, 8, 22), (0, 8, 21), (0, 8, 20), (0, 8, 19), (0, 8, 18), (0, 8, 17), (0, 8, 16), (0, 8, 15), (0, 8, 14), (0, 8, 13), (0, 8, 12), (0, 8, 11), (0, 8, 10), (0, 8, 9), (0, 8, 8), (0, 8, 7), (0, 8, 6), (0, 8, 5), (0, 8, 4), (0, 8, 3), (0, 8, 2), (0, 8, 1)] [] [])) (b := b) (lyA hK) (rI_at 4 2 hI_4_2) (rR_at 0 3 hR_0_3)) (lKA (hk_K hK 0 rfl rfl)) rfl (by decide) rfl (Nat.le_of_ble_eq_true rfl) (by decide) (fun u hu => ?_)
  refine z_eqs (σ' := (ap b σ [(0, 8, 27), (0, 8, 26), (0, 8, 25), (0, 8, 24), (0, 8, 23), (0, 8, 22), (0, 8, 21), (0, 8, 20), (0, 8, 19), (0, 8, 18), (0, 8, 17), (0, 8, 16), (0, 8, 15), (0, 8, 14), (0, 8, 13), (0, 8, 12), (0, 8, 11), (0, 8, 10), (0, 8, 9), (0, 8, 8), (0, 8, 7), (0, 8, 6), (0, 8, 5), (0, 8, 4), (0, 8, 3), (0, 8, 2), (0, 8, 1)] [] [])) hu ?_
  show zx p l e _ s m _ below meth c g 3 0 0 _ _ 42 [(2, .int 26), (0, .ref (b + 0)), (1, .int 40)] _
  refine z_aload_n B dX8_tick_42 rfl 1 rfl ?_
  refine z_cVv (As := []) (rest := []) B cw_X8_243 cx_9 dX8_tick_43 (ci_X8_passTimers_921 l (σ := (ap b σ [(0, 8, 27), (0, 8, 26), (0, 8, 25), (0, 8, 24), (0, 8, 23), (0, 8, 22), (0, 8, 21), (0, 8, 20), (0, 8, 19), (0, 8, 18), (0, 8, 17), (0, 8, 16), (0, 8, 15), (0, 8, 14), (0, 8, 13), (0, 8, 12), (0, 8, 11), (0, 8, 10), (0, 8, 9), (0, 8, 8), (0, 8, 7), (0, 8, 6), (0, 8, 5), (0, 8, 4), (0, 8, 3), (0, 8, 2), (0, 8, 1)] [] [])) (b := b) (lyA hK) (rI_at 0 7 hI_0_7)) (lKA (hk_K hK 0 rfl rfl)) rfl (by decide) rfl (Nat.le_of_ble_eq_true rfl) (by decide) (fun u hu => ?_)
  refine z_eqs (σ' := (ap b σ [(0, 8, 27), (0, 8, 26), (0, 8, 25), (0, 8, 24), (0, 8, 23), (0, 8, 22), (0, 8, 21), (0, 8, 20), (0, 8, 19), (0, 8, 18), (0, 8, 17), (0, 8, 16), (0, 8, 15), (0, 8, 14), (0, 8, 13), (0, 8, 12), (0, 8, 11), (0, 8, 10), (0, 8, 9), (0, 8, 8), (0, 8, 7), (0, 8, 6), (0, 8, 5), (0, 8, 4), (0, 8, 3), (0, 8, 2), (0, 8, 1)] [] [])) hu ?_
  show zx p l e _ s m _ below meth c g 3 0 0 _ _ 46 [(2, .int 26), (0, .ref (b + 0)), (1, .int 40)] _
  refine z_iinc (v := 27) (lv' := [(2, .int 27), (0, .ref (b + 0)), (1, .int 40)]) B dX8_tick_46 0 rfl (by decide) (by decide) rfl ?_
  refine z_goto (tgt := 23) B dX8_tick_49 (by decide) ?_
  refine z_iload_n B dX8_tick_23 rfl 0 rfl ?_
  refine z_iload_n B dX8_tick_24 rfl 2 rfl ?_
  refine z_icmp_ge (tgt := 52) B dX8_tick_25 (by decide) (fun h => absurd h (by decide)) (fun _ => ?_)
  refine z_aload_n B dX8_tick_28 rfl 1 rfl ?_
  refine z_dup B dX8_tick_29 rfl ?_
  refine gf_X8_206 (x := 27) B (lKA (hk_K hK 0 rfl rfl)) (rI_at 0 8 rfl) dX8_tick_30 ?_
  refine z_iconst (v := 1) B dX8_tick_33 (by decide) ?_
  refine z_iadd B dX8_tick_34 ?_
  refine z_seti (y := 28) (by decide) ?_
  refine pf_X8_206 (x := 28) (σ' := (ap b σ [(0, 8, 28), (0, 8, 27), (0, 8, 26), (0, 8, 25), (0, 8, 24), (0, 8, 23), (0, 8, 22), (0, 8, 21), (0, 8, 20), (0, 8, 19), (0, 8, 18), (0, 8, 17), (0, 8, 16), (0, 8, 15), (0, 8, 14), (0, 8, 13), (0, 8, 12), (0, 8, 11), (0, 8, 10), (0, 8, 9), (0, 8, 8), (0, 8, 7), (0, 8, 6), (0, 8, 5), (0, 8, 4), (0, 8, 3), (0, 8, 2), (0, 8, 1)] [] [])) B (lKA (hk_K hK 0 rfl rfl)) wI_ap dX8_tick_35 ?_
  refine z_aload_n B dX8_tick_38 rfl 1 rfl ?_
  refine z_cVv (As := []) (rest := []) B cw_X8_240 cx_9 dX8_tick_39 (ci_X8_passTasks_920 l (σ := (ap b σ [(0, 8, 28), (0, 8, 27), (0, 8, 26), (0, 8, 25), (0, 8, 24), (0, 8, 23), (0, 8, 22), (0, 8, 21), (0, 8, 20), (0, 8, 19), (0, 8, 18), (0, 8, 17), (0, 8, 16), (0, 8, 15), (0, 8, 14), (0, 8, 13), (0, 8, 12), (0, 8, 11), (0, 8, 10), (0, 8, 9), (0, 8, 8), (0, 8, 7), (0, 8, 6), (0, 8, 5), (0, 8, 4), (0, 8, 3), (0, 8, 2), (0, 8, 1)] [] [])) (b := b) (lyA hK) (rI_at 4 2 hI_4_2) (rR_at 0 3 hR_0_3)) (lKA (hk_K hK 0 rfl rfl)) rfl (by decide) rfl (Nat.le_of_ble_eq_true rfl) (by decide) (fun u hu => ?_)
  refine z_eqs (σ' := (ap b σ [(0, 8, 28), (0, 8, 27), (0, 8, 26), (0, 8, 25), (0, 8, 24), (0, 8, 23), (0, 8, 22), (0, 8, 21), (0, 8, 20), (0, 8, 19), (0, 8, 18), (0, 8, 17), (0, 8, 16), (0, 8, 15), (0, 8, 14), (0, 8, 13), (0, 8, 12), (0, 8, 11), (0, 8, 10), (0, 8, 9), (0, 8, 8), (0, 8, 7), (0, 8, 6), (0, 8, 5), (0, 8, 4), (0, 8, 3), (0, 8, 2), (0, 8, 1)] [] [])) hu ?_
  show zx p l e _ s m _ below meth c g 3 0 0 _ _ 42 [(2, .int 27), (0, .ref (b + 0)), (1, .int 40)] _
  refine z_aload_n B dX8_tick_42 rfl 1 rfl ?_
  refine z_cVv (As := []) (rest := []) B cw_X8_243 cx_9 dX8_tick_43 (ci_X8_passTimers_921 l (σ := (ap b σ [(0, 8, 28), (0, 8, 27), (0, 8, 26), (0, 8, 25), (0, 8, 24), (0, 8, 23), (0, 8, 22), (0, 8, 21), (0, 8, 20), (0, 8, 19), (0, 8, 18), (0, 8, 17), (0, 8, 16), (0, 8, 15), (0, 8, 14), (0, 8, 13), (0, 8, 12), (0, 8, 11), (0, 8, 10), (0, 8, 9), (0, 8, 8), (0, 8, 7), (0, 8, 6), (0, 8, 5), (0, 8, 4), (0, 8, 3), (0, 8, 2), (0, 8, 1)] [] [])) (b := b) (lyA hK) (rI_at 0 7 hI_0_7)) (lKA (hk_K hK 0 rfl rfl)) rfl (by decide) rfl (Nat.le_of_ble_eq_true rfl) (by decide) (fun u hu => ?_)
  refine z_eqs (σ' := (ap b σ [(0, 8, 28), (0, 8, 27), (0, 8, 26), (0, 8, 25), (0, 8, 24), (0, 8, 23), (0, 8, 22), (0, 8, 21), (0, 8, 20), (0, 8, 19), (0, 8, 18), (0, 8, 17), (0, 8, 16), (0, 8, 15), (0, 8, 14), (0, 8, 13), (0, 8, 12), (0, 8, 11), (0, 8, 10), (0, 8, 9), (0, 8, 8), (0, 8, 7), (0, 8, 6), (0, 8, 5), (0, 8, 4), (0, 8, 3), (0, 8, 2), (0, 8, 1)] [] [])) hu ?_
  show zx p l e _ s m _ below meth c g 3 0 0 _ _ 46 [(2, .int 27), (0, .ref (b + 0)), (1, .int 40)] _
  refine z_iinc (v := 28) (lv' := [(2, .int 28), (0, .ref (b + 0)), (1, .int 40)]) B dX8_tick_46 0 rfl (by decide) (by decide) rfl ?_
  refine z_goto (tgt := 23) B dX8_tick_49 (by decide) ?_
  refine z_iload_n B dX8_tick_23 rfl 0 rfl ?_
  refine z_iload_n B dX8_tick_24 rfl 2 rfl ?_
  refine z_icmp_ge (tgt := 52) B dX8_tick_25 (by decide) (fun h => absurd h (by decide)) (fun _ => ?_)
  refine z_aload_n B dX8_tick_28 rfl 1 rfl ?_
  refine z_dup B dX8_tick_29 rfl ?_
  refine gf_X8_206 (x := 28) B (lKA (hk_K hK 0 rfl rfl)) (rI_at 0 8 rfl) dX8_tick_30 ?_
  refine z_iconst (v := 1) B dX8_tick_33 (by decide) ?_
  refine z_iadd B dX8_tick_34 ?_
  refine z_seti (y := 29) (by decide) ?_
  refine pf_X8_206 (x := 29) (σ' := (ap b σ [(0, 8, 29), (0, 8, 28), (0, 8, 27), (0, 8, 26), (0, 8, 25), (0, 8, 24), (0, 8, 23), (0, 8, 22), (0, 8, 21), (0, 8, 20), (0, 8, 19), (0, 8, 18), (0, 8, 17), (0, 8, 16), (0, 8, 15), (0, 8, 14), (0, 8, 13), (0, 8, 12), (0, 8, 11), (0, 8, 10), (0, 8, 9), (0, 8, 8), (0, 8, 7), (0, 8, 6), (0, 8, 5), (0, 8, 4), (0, 8, 3), (0, 8, 2), (0, 8, 1)] [] [])) B (lKA (hk_K hK 0 rfl rfl)) wI_ap dX8_tick_35 ?_
  refine z_aload_n B dX8_tick_38 rfl 1 rfl ?_
  refine z_cVv (As := []) (rest := []) B cw_X8_240 cx_9 dX8_tick_39 (ci_X8_passTasks_920 l (σ := (ap b σ [(0, 8, 29), (0, 8, 28), (0, 8, 27), (0, 8, 26), (0, 8, 25), (0, 8, 24), (0, 8, 23), (0, 8, 22), (0, 8, 21), (0, 8, 20), (0, 8, 19), (0, 8, 18), (0, 8, 17), (0, 8, 16), (0, 8, 15), (0, 8, 14), (0, 8, 13), (0, 8, 12), (0, 8, 11), (0, 8, 10), (0, 8, 9), (0, 8, 8), (0, 8, 7), (0, 8, 6), (0, 8, 5), (0, 8, 4), (0, 8, 3), (0, 8, 2), (0, 8, 1)] [] [])) (b := b) (lyA hK) (rI_at 4 2 hI_4_2) (rR_at 0 3 hR_0_3)) (lKA (hk_K hK 0 rfl rfl)) rfl (by decide) rfl (Nat.le_of_ble_eq_true rfl) (by decide) (fun u hu => ?_)
  refine z_eqs (σ' := (ap b σ [(0, 8, 29), (0, 8, 28), (0, 8, 27), (0, 8, 26), (0, 8, 25), (0, 8, 24), (0, 8, 23), (0, 8, 22), (0, 8, 21), (0, 8, 20), (0, 8, 19), (0, 8, 18), (0, 8, 17), (0, 8, 16), (0, 8, 15), (0, 8, 14), (0, 8, 13), (0, 8, 12), (0, 8, 11), (0, 8, 10), (0, 8, 9), (0, 8, 8), (0, 8, 7), (0, 8, 6), (0, 8, 5), (0, 8, 4), (0, 8, 3), (0, 8, 2), (0, 8, 1)] [] [])) hu ?_
  show zx p l e _ s m _ below meth c g 3 0 0 _ _ 42 [(2, .int 28), (0, .ref (b + 0)), (1, .int 40)] _
  refine z_aload_n B dX8_tick_42 rfl 1 rfl ?_
  refine z_cVv (As := []) (rest := []) B cw_X8_243 cx_9 dX8_tick_43 (ci_X8_passTimers_921 l (σ := (ap b σ [(0, 8, 29), (0, 8, 28), (0, 8, 27), (0, 8, 26), (0, 8, 25), (0, 8, 24), (0, 8, 23), (0, 8, 22), (0, 8, 21), (0, 8, 20), (0, 8, 19), (0, 8, 18), (0, 8, 17), (0, 8, 16), (0, 8, 15), (0, 8, 14), (0, 8, 13), (0, 8, 12), (0, 8, 11), (0, 8, 10), (0, 8, 9), (0, 8, 8), (0, 8, 7), (0, 8, 6), (0, 8, 5), (0, 8, 4), (0, 8, 3), (0, 8, 2), (0, 8, 1)] [] [])) (b := b) (lyA hK) (rI_at 0 7 hI_0_7)) (lKA (hk_K hK 0 rfl rfl)) rfl (by decide) rfl (Nat.le_of_ble_eq_true rfl) (by decide) (fun u hu => ?_)
  refine z_eqs (σ' := (ap b σ [(0, 8, 29), (0, 8, 28), (0, 8, 27), (0, 8, 26), (0, 8, 25), (0, 8, 24), (0, 8, 23), (0, 8, 22), (0, 8, 21), (0, 8, 20), (0, 8, 19), (0, 8, 18), (0, 8, 17), (0, 8, 16), (0, 8, 15), (0, 8, 14), (0, 8, 13), (0, 8, 12), (0, 8, 11), (0, 8, 10), (0, 8, 9), (0, 8, 8), (0, 8, 7), (0, 8, 6), (0, 8, 5), (0, 8, 4), (0, 8, 3), (0, 8, 2), (0, 8, 1)] [] [])) hu ?_
  show zx p l e _ s m _ below meth c g 3 0 0 _ _ 46 [(2, .int 28), (0, .ref (b + 0)), (1, .int 40)] _
  refine z_iinc (v := 29) (lv' := [(2, .int 29), (0, .ref (b + 0)), (1, .int 40)]) B dX8_tick_46 0 rfl (by decide) (by decide) rfl ?_
  refine z_goto (tgt := 23) B dX8_tick_49 (by decide) ?_
  refine z_iload_n B dX8_tick_23 rfl 0 rfl ?_
  refine z_iload_n B dX8_tick_24 rfl 2 rfl ?_
  refine z_icmp_ge (tgt := 52) B dX8_tick_25 (by decide) (fun h => absurd h (by decide)) (fun _ => ?_)
  refine z_aload_n B dX8_tick_28 rfl 1 rfl ?_
  refine z_dup B dX8_tick_29 rfl ?_
  refine gf_X8_206 (x := 29) B (lKA (hk_K hK 0 rfl rfl)) (rI_at 0 8 rfl) dX8_tick_30 ?_
  refine z_iconst (v := 1) B dX8_tick_33 (by decide) ?_
  refine z_iadd B dX8_tick_34 ?_
  refine z_seti (y := 30) (by decide) ?_
  refine pf_X8_206 (x := 30) (σ' := (ap b σ [(0, 8, 30), (0, 8, 29), (0, 8, 28), (0, 8, 27), (0, 8, 26), (0, 8, 25), (0, 8, 24), (0, 8, 23), (0, 8, 22), (0, 8, 21), (0, 8, 20), (0, 8, 19), (0, 8, 18), (0, 8, 17), (0, 8, 16), (0, 8, 15), (0, 8, 14), (0, 8, 13), (0, 8, 12), (0, 8, 11), (0, 8, 10), (0, 8, 9), (0, 8, 8), (0, 8, 7), (0, 8, 6), (0, 8, 5), (0, 8, 4), (0, 8, 3), (0, 8, 2), (0, 8, 1)] [] [])) B (lKA (hk_K hK 0 rfl rfl)) wI_ap dX8_tick_35 ?_
  refine z_aload_n B dX8_tick_38 rfl 1 rfl ?_
  refine z_cVv (As := []) (rest := []) B cw_X8_240 cx_9 dX8_tick_39 (ci_X8_passTasks_920 l (σ := (ap b σ [(0, 8, 30), (0, 8, 29), (0, 8, 28), (0, 8, 27), (0, 8, 26), (0, 8, 25), (0, 8, 24), (0, 8, 23), (0, 8, 22), (0, 8, 21), (0, 8, 20), (0, 8, 19), (0, 8, 18), (0, 8, 17), (0, 8, 16), (0, 8, 15), (0, 8, 14), (0, 8, 13), (0, 8, 12), (0, 8, 11), (0, 8, 10), (0, 8, 9), (0, 8, 8), (0, 8, 7), (0, 8, 6), (0, 8, 5), (0, 8, 4), (0, 8, 3), (0, 8, 2), (0, 8, 1)] [] [])) (b := b) (lyA hK) (rI_at 4 2 hI_4_2) (rR_at 0 3 hR_0_3)) (lKA (hk_K hK 0 rfl rfl)) rfl (by decide) rfl (Nat.le_of_ble_eq_true rfl) (by decide) (fun u hu => ?_)
  refine z_eqs (σ' := (ap b σ [(0, 8, 30), (0, 8, 29), (0, 8, 28), (0, 8, 27), (0, 8, 26), (0, 8, 25), (0, 8, 24), (0, 8, 23), (0, 8, 22), (0, 8, 21), (0, 8, 20), (0, 8, 19), (0, 8, 18), (0, 8, 17), (0, 8, 16), (0, 8, 15), (0, 8, 14), (0, 8, 13), (0, 8, 12), (0, 8, 11), (0, 8, 10), (0, 8, 9), (0, 8, 8), (0, 8, 7), (0, 8, 6), (0, 8, 5), (0, 8, 4), (0, 8, 3), (0, 8, 2), (0, 8, 1)] [] [])) hu ?_
  show zx p l e _ s m _ below meth c g 3 0 0 _ _ 42 [(2, .int 29), (0, .ref (b + 0)), (1, .int 40)] _
  refine z_aload_n B dX8_tick_42 rfl 1 rfl ?_
  refine z_cVv (As := []) (rest := []) B cw_X8_243 cx_9 dX8_tick_43 (ci_X8_passTimers_921 l (σ := (ap b σ [(0, 8, 30), (0, 8, 29), (0, 8, 28), (0, 8, 27), (0, 8, 26), (0, 8, 25), (0, 8, 24), (0, 8, 23), (0, 8, 22), (0, 8, 21), (0, 8, 20), (0, 8, 19), (0, 8, 18), (0, 8, 17), (0, 8, 16), (0, 8, 15), (0, 8, 14), (0, 8, 13), (0, 8, 12), (0, 8, 11), (0, 8, 10), (0, 8, 9), (0, 8, 8), (0, 8, 7), (0, 8, 6), (0, 8, 5), (0, 8, 4), (0, 8, 3), (0, 8, 2), (0, 8, 1)] [] [])) (b := b) (lyA hK) (rI_at 0 7 hI_0_7)) (lKA (hk_K hK 0 rfl rfl)) rfl (by decide) rfl (Nat.le_of_ble_eq_true rfl) (by decide) (fun u hu => ?_)
  refine z_eqs (σ' := (ap b σ [(0, 8, 30), (0, 8, 29), (0, 8, 28), (0, 8, 27), (0, 8, 26), (0, 8, 25), (0, 8, 24), (0, 8, 23), (0, 8, 22), (0, 8, 21), (0, 8, 20), (0, 8, 19), (0, 8, 18), (0, 8, 17), (0, 8, 16), (0, 8, 15), (0, 8, 14), (0, 8, 13), (0, 8, 12), (0, 8, 11), (0, 8, 10), (0, 8, 9), (0, 8, 8), (0, 8, 7), (0, 8, 6), (0, 8, 5), (0, 8, 4), (0, 8, 3), (0, 8, 2), (0, 8, 1)] [] [])) hu ?_
  show zx p l e _ s m _ below meth c g 3 0 0 _ _ 46 [(2, .int 29), (0, .ref (b + 0)), (1, .int 40)] _
  refine z_iinc (v := 30) (lv' := [(2, .int 30), (0, .ref (b + 0)), (1, .int 40)]) B dX8_tick_46 0 rfl (by decide) (by decide) rfl ?_
  refine z_goto (tgt := 23) B dX8_tick_49 (by decide) ?_
  refine z_iload_n B dX8_tick_23 rfl 0 rfl ?_
  refine z_iload_n B dX8_tick_24 rfl 2 rfl ?_
  refine z_icmp_ge (tgt := 52) B dX8_tick_25 (by decide) (fun h => absurd h (by decide)) (fun _ => ?_)
  refine z_aload_n B dX8_tick_28 rfl 1 rfl ?_
  refine z_dup B dX8_tick_29 rfl ?_
  refine gf_X8_206 (x := 30) B (lKA (hk_K hK 0 rfl rfl)) (rI_at 0 8 rfl) dX8_tick_30 ?_
  refine z_iconst (v := 1) B dX8_tick_33 (by decide) ?_
  refine z_iadd B dX8_tick_34 ?_
  refine z_seti (y := 31) (by decide) ?_
  refine pf_X8_206 (x := 31) (σ' := (ap b σ [(0, 8, 31), (0, 8, 30), (0, 8, 29), (0, 8, 28), (0, 8, 27), (0, 8, 26), (0, 8, 25), (0, 8, 24), (0, 8, 23), (0, 8, 22), (0, 8, 21), (0, 8, 20), (0, 8, 19), (0, 8, 18), (0, 8, 17), (0, 8, 16), (0, 8, 15), (0, 8, 14), (0, 8, 13), (0, 8, 12), (0, 8, 11), (0, 8, 10), (0, 8, 9), (0, 8, 8), (0, 8, 7), (0, 8, 6), (0, 8, 5), (0, 8, 4), (0, 8, 3), (0, 8, 2), (0, 8, 1)] [] [])) B (lKA (hk_K hK 0 rfl rfl)) wI_ap dX8_tick_35 ?_
  refine z_aload_n B dX8_tick_38 rfl 1 rfl ?_
  refine z_cVv (As := []) (rest := []) B cw_X8_240 cx_9 dX8_tick_39 (ci_X8_passTasks_920 l (σ := (ap b σ [(0, 8, 31), (0, 8, 30), (0, 8, 29), (0, 8, 28), (0, 8, 27), (0, 8, 26), (0, 8, 25), (0, 8, 24), (0, 8, 23), (0, 8, 22), (0, 8, 21), (0, 8, 20), (0, 8, 19), (0, 8, 18), (0, 8, 17), (0, 8, 16), (0, 8, 15), (0, 8, 14), (0, 8, 13), (0, 8, 12), (0, 8, 11), (0, 8, 10), (0, 8, 9), (0, 8, 8), (0, 8, 7), (0, 8, 6), (0, 8, 5), (0, 8, 4), (0, 8, 3), (0, 8, 2), (0, 8, 1)] [] [])) (b := b) (lyA hK) (rI_at 4 2 hI_4_2) (rR_at 0 3 hR_0_3)) (lKA (hk_K hK 0 rfl rfl)) rfl (by decide) rfl (Nat.le_of_ble_eq_true rfl) (by decide) (fun u hu => ?_)
  refine z_eqs (σ' := (ap b σ [(0, 8, 31), (0, 8, 30), (0, 8, 29), (0, 8, 28), (0, 8, 27), (0, 8, 26), (0, 8, 25), (0, 8, 24), (0, 8, 23), (0, 8, 22), (0, 8, 21), (0, 8, 20), (0, 8, 19), (0, 8, 18), (0, 8, 17), (0, 8, 16), (0, 8, 15), (0, 8, 14), (0, 8, 13), (0, 8, 12), (0, 8, 11), (0, 8, 10), (0, 8, 9), (0, 8, 8), (0, 8, 7), (0, 8, 6), (0, 8, 5), (0, 8, 4), (0, 8, 3), (0, 8, 2), (0, 8, 1)] [] [])) hu ?_
  show zx p l e _ s m _ below meth c g 3 0 0 _ _ 42 [(2, .int 30), (0, .ref (b + 0)), (1, .int 40)] _
  refine z_aload_n B dX8_tick_42 rfl 1 rfl ?_
  refine z_cVv (As := []) (rest := []) B cw_X8_243 cx_9 dX8_tick_43 (ci_X8_passTimers_921 l (σ := (ap b σ [(0, 8, 31), (0, 8, 30), (0, 8, 29), (0, 8, 28), (0, 8, 27), (0, 8, 26), (0, 8, 25), (0, 8, 24), (0, 8, 23), (0, 8, 22), (0, 8, 21), (0, 8, 20), (0, 8, 19), (0, 8, 18), (0, 8, 17), (0, 8, 16), (0, 8, 15), (0, 8, 14), (0, 8, 13), (0, 8, 12), (0, 8, 11), (0, 8, 10), (0, 8, 9), (0, 8, 8), (0, 8, 7), (0, 8, 6), (0, 8, 5), (0, 8, 4), (0, 8, 3), (0, 8, 2), (0, 8, 1)] [] [])) (b := b) (lyA hK) (rI_at 0 7 hI_0_7)) (lKA (hk_K hK 0 rfl rfl)) rfl (by decide) rfl (Nat.le_of_ble_eq_true rfl) (by decide) (fun u hu => ?_)
  refine z_eqs (σ' := (ap b σ [(0, 8, 31), (0, 8, 30), (0, 8, 29), (0, 8, 28), (0, 8, 27), (0, 8, 26), (0, 8, 25), (0, 8, 24), (0, 8, 23), (0, 8, 22), (0, 8, 21), (0, 8, 20), (0, 8, 19), (0, 8, 18), (0, 8, 17), (0, 8, 16), (0, 8, 15), (0, 8, 14), (0, 8, 13), (0, 8, 12), (0, 8, 11), (0, 8, 10), (0, 8, 9), (0, 8, 8), (0, 8, 7), (0, 8, 6), (0, 8, 5), (0, 8, 4), (0, 8, 3), (0, 8, 2), (0, 8, 1)] [] [])) hu ?_
  show zx p l e _ s m _ below meth c g 3 0 0 _ _ 46 [(2, .int 30), (0, .ref (b + 0)), (1, .int 40)] _
  refine z_iinc (v := 31) (lv' := [(2, .int 31), (0, .ref (b + 0)), (1, .int 40)]) B dX8_tick_46 0 rfl (by decide) (by decide) rfl ?_
  refine z_goto (tgt := 23) B dX8_tick_49 (by decide) ?_
  refine z_iload_n B dX8_tick_23 rfl 0 rfl ?_
  refine z_iload_n B dX8_tick_24 rfl 2 rfl ?_
  refine z_icmp_ge (tgt := 52) B dX8_tick_25 (by decide) (fun h => absurd h (by decide)) (fun _ => ?_)
  refine z_aload_n B dX8_tick_28 rfl 1 rfl ?_
  refine z_dup B dX8_tick_29 rfl ?_
  refine gf_X8_206 (x := 31) B (lKA (hk_K hK 0 rfl rfl)) (rI_at 0 8 rfl) dX8_tick_30 ?_
  refine z_iconst (v := 1) B dX8_tick_33 (by decide) ?_
  refine z_iadd B dX8_tick_34 ?_
  refine z_seti (y := 32) (by decide) ?_
  refine pf_X8_206 (x := 32) (σ' := (ap b σ [(0, 8, 32), (0, 8, 31), (0, 8, 30), (0, 8, 29), (0, 8, 28), (0, 8, 27), (0, 8, 26), (0, 8, 25), (0, 8, 24), (0, 8, 23), (0, 8, 22), (0, 8, 21), (0, 8, 20), (0, 8, 19), (0, 8, 18), (0, 8, 17), (0, 8, 16), (0, 8, 15), (0, 8, 14), (0, 8, 13), (0, 8, 12), (0, 8, 11), (0, 8, 10), (0, 8, 9), (0, 8, 8), (0, 8, 7), (0, 8, 6), (0, 8, 5), (0, 8, 4), (0, 8, 3), (0, 8, 2), (0, 8, 1)] [] [])) B (lKA (hk_K hK 0 rfl rfl)) wI_ap dX8_tick_35 ?_
  refine z_aload_n B dX8_tick_38 rfl 1 rfl ?_
  refine z_cVv (As := []) (rest := []) B cw_X8_240 cx_9 dX8_tick_39 (ci_X8_passTasks_920 l (σ := (ap b σ [(0, 8, 32), (0, 8, 31), (0, 8, 30), (0, 8, 29), (0, 8, 28), (0, 8, 27), (0, 8, 26), (0, 8, 25), (0, 8, 24), (0, 8, 23), (0, 8, 22), (0, 8, 21), (0, 8, 20), (0, 8, 19), (0, 8, 18), (0, 8, 17), (0, 8, 16), (0, 8, 15), (0, 8, 14), (0, 8, 13), (0, 8, 12), (0, 8, 11), (0, 8, 10), (0, 8, 9), (0, 8, 8), (0, 8, 7), (0, 8, 6), (0, 8, 5), (0, 8, 4), (0, 8, 3), (0, 8, 2), (0, 8, 1)] [] [])) (b := b) (lyA hK) (rI_at 4 2 hI_4_2) (rR_at 0 3 hR_0_3)) (lKA (hk_K hK 0 rfl rfl)) rfl (by decide) rfl (Nat.le_of_ble_eq_true rfl) (by decide) (fun u hu => ?_)
  refine z_eqs (σ' := (ap b σ [(0, 8, 32), (0, 8, 31), (0, 8, 30), (0, 8, 29), (0, 8, 28), (0, 8, 27), (0, 8, 26), (0, 8, 25), (0, 8, 24), (0, 8, 23), (0, 8, 22), (0, 8, 21), (0, 8, 20), (0, 8, 19), (0, 8, 18), (0, 8, 17), (0, 8, 16), (0, 8, 15), (0, 8, 14), (0, 8, 13), (0, 8, 12), (0, 8, 11), (0, 8, 10), (0, 8, 9), (0, 8, 8), (0, 8, 7), (0, 8, 6), (0, 8, 5), (0, 8, 4), (0, 8, 3), (0, 8, 2), (0, 8, 1)] [] [])) hu ?_
  show zx p l e _ s m _ below meth c g 3 0 0 _ _ 42 [(2, .int 31), (0, .ref (b + 0)), (1, .int 40)] _
  refine z_aload_n B dX8_tick_42 rfl 1 rfl ?_
  refine z_cVv (As := []) (rest := []) B cw_X8_243 cx_9 dX8_tick_43 (ci_X8_passTimers_921 l (σ := (ap b σ [(0, 8, 32), (0, 8, 31), (0, 8, 30), (0, 8, 29), (0, 8, 28), (0, 8, 27), (0, 8, 26), (0, 8, 25), (0, 8, 24), (0, 8, 23), (0, 8, 22), (0, 8, 21), (0, 8, 20), (0, 8, 19), (0, 8, 18), (0, 8, 17), (0, 8, 16), (0, 8, 15), (0, 8, 14), (0, 8, 13), (0, 8, 12), (0, 8, 11), (0, 8, 10), (0, 8, 9), (0, 8, 8), (0, 8, 7), (0, 8, 6), (0, 8, 5), (0, 8, 4), (0, 8, 3), (0, 8, 2), (0, 8, 1)] [] [])) (b := b) (lyA hK) (rI_at 0 7 hI_0_7)) (lKA (hk_K hK 0 rfl rfl)) rfl (by decide) rfl (Nat.le_of_ble_eq_true rfl) (by decide) (fun u hu => ?_)
  refine z_eqs (σ' := (ap b σ [(0, 8, 32), (0, 8, 31), (0, 8, 30), (0, 8, 29), (0, 8, 28), (0, 8, 27), (0, 8, 26), (0, 8, 25), (0, 8, 24), (0, 8, 23), (0, 8, 22), (0, 8, 21), (0, 8, 20), (0, 8, 19), (0, 8, 18), (0, 8, 17), (0, 8, 16), (0, 8, 15), (0, 8, 14), (0, 8, 13), (0, 8, 12), (0, 8, 11), (0, 8, 10), (0, 8, 9), (0, 8, 8), (0, 8, 7), (0, 8, 6), (0, 8, 5), (0, 8, 4), (0, 8, 3), (0, 8, 2), (0, 8, 1)] [] [])) hu ?_
  show zx p l e _ s m _ below meth c g 3 0 0 _ _ 46 [(2, .int 31), (0, .ref (b + 0)), (1, .int 40)] _
  refine z_iinc (v := 32) (lv' := [(2, .int 32), (0, .ref (b + 0)), (1, .int 40)]) B dX8_tick_46 0 rfl (by decide) (by decide) rfl ?_
  refine z_goto (tgt := 23) B dX8_tick_49 (by decide) ?_
  refine z_iload_n B dX8_tick_23 rfl 0 rfl ?_
  refine z_iload_n B dX8_tick_24 rfl 2 rfl ?_
  refine z_icmp_ge (tgt := 52) B dX8_tick_25 (by decide) (fun h => absurd h (by decide)) (fun _ => ?_)
  refine z_aload_n B dX8_tick_28 rfl 1 rfl ?_
  refine z_dup B dX8_tick_29 rfl ?_
  refine gf_X8_206 (x := 32) B (lKA (hk_K hK 0 rfl rfl)) (rI_at 0 8 rfl) dX8_tick_30 ?_
  refine z_iconst (v := 1) B dX8_tick_33 (by decide) ?_
  refine z_iadd B dX8_tick_34 ?_
  refine z_seti (y := 33) (by decide) ?_
  refine pf_X8_206 (x := 33) (σ' := (ap b σ [(0, 8, 33), (0, 8, 32), (0, 8, 31), (0, 8, 30), (0, 8, 29), (0, 8, 28), (0, 8, 27), (0, 8, 26), (0, 8, 25), (0, 8, 24), (0, 8, 23), (0, 8, 22), (0, 8, 21), (0, 8, 20), (0, 8, 19), (0, 8, 18), (0, 8, 17), (0, 8, 16), (0, 8, 15), (0, 8, 14), (0, 8, 13), (0, 8, 12), (0, 8, 11), (0, 8, 10), (0, 8, 9), (0, 8, 8), (0, 8, 7), (0, 8, 6), (0, 8, 5), (0, 8, 4), (0, 8, 3), (0, 8, 2), (0, 8, 1)] [] [])) B (lKA (hk_K hK 0 rfl rfl)) wI_ap dX8_tick_35 ?_
  refine z_aload_n B dX8_tick_38 rfl 1 rfl ?_
  refine z_cVv (As := []) (rest := []) B cw_X8_240 cx_9 dX8_tick_39 (ci_X8_passTasks_920 l (σ := (ap b σ [(0, 8, 33), (0, 8, 32), (0, 8, 31), (0, 8, 30), (0, 8, 29), (0, 8, 28), (0, 8, 27), (0, 8, 26), (0, 8, 25), (0, 8, 24), (0, 8, 23), (0, 8, 22), (0, 8, 21), (0, 8, 20), (0, 8, 19), (0, 8, 18), (0, 8, 17), (0, 8, 16), (0, 8, 15), (0, 8, 14), (0, 8, 13), (0, 8, 12), (0, 8, 11), (0, 8, 10), (0, 8, 9), (0, 8, 8), (0, 8, 7), (0, 8, 6), (0, 8, 5), (0, 8, 4), (0, 8, 3), (0, 8, 2), (0, 8, 1)] [] [])) (b := b) (lyA hK) (rI_at 4 2 hI_4_2) (rR_at 0 3 hR_0_3)) (lKA (hk_K hK 0 rfl rfl)) rfl (by decide) rfl (Nat.le_of_ble_eq_true rfl) (by decide) (fun u hu => ?_)
  refine z_eqs (σ' := (ap b σ [(0, 8, 33), (0, 8, 32), (0, 8, 31), (0, 8, 30), (0, 8, 29), (0, 8, 28), (0, 8, 27), (0, 8, 26), (0, 8, 25), (0, 8, 24), (0, 8, 23), (0, 8, 22), (0, 8, 21), (0, 8, 20), (0, 8, 19), (0, 8, 18), (0, 8, 17), (0, 8, 16), (0, 8, 15), (0, 8, 14), (0, 8, 13), (0, 8, 12), (0, 8, 11), (0, 8, 10), (0, 8, 9), (0, 8, 8), (0, 8, 7), (0, 8, 6), (0, 8, 5), (0, 8, 4), (0, 8, 3), (0, 8, 2), (0, 8, 1)] [] [])) hu ?_
  show zx p l e _ s m _ below meth c g 3 0 0 _ _ 42 [(2, .int 32), (0, .ref (b + 0)), (1, .int 40)] _
  refine z_aload_n B dX8_tick_42 rfl 1 rfl ?_
  refine z_cVv (As := []) (rest := []) B cw_X8_243 cx_9 dX8_tick_43 (ci_X8_passTimers_921 l (σ := (ap b σ [(0, 8, 33), (0, 8, 32), (0, 8, 31), (0, 8, 30), (0, 8, 29), (0, 8, 28), (0, 8, 27), (0, 8, 26), (0, 8, 25), (0, 8, 24), (0, 8, 23), (0, 8, 22), (0, 8, 21), (0, 8, 20), (0, 8, 19), (0, 8, 18), (0, 8, 17), (0, 8, 16), (0, 8, 15), (0, 8, 14), (0, 8, 13), (0, 8, 12), (0, 8, 11), (0, 8, 10), (0, 8, 9), (0, 8, 8), (0, 8, 7), (0, 8, 6), (0, 8, 5), (0, 8, 4), (0, 8, 3), (0, 8, 2), (0, 8, 1)] [] [])) (b := b) (lyA hK) (rI_at 0 7 hI_0_7)) (lKA (hk_K hK 0 rfl rfl)) rfl (by decide) rfl (Nat.le_of_ble_eq_true rfl) (by decide) (fun u hu => ?_)
  refine z_eqs (σ' := (ap b σ [(0, 8, 33), (0, 8, 32), (0, 8, 31), (0, 8, 30), (0, 8, 29), (0, 8, 28), (0, 8, 27), (0, 8, 26), (0, 8, 25), (0, 8, 24), (0, 8, 23), (0, 8, 22), (0, 8, 21), (0, 8, 20), (0, 8, 19), (0, 8, 18), (0, 8, 17), (0, 8, 16), (0, 8, 15), (0, 8, 14), (0, 8, 13), (0, 8, 12), (0, 8, 11), (0, 8, 10), (0, 8, 9), (0, 8, 8), (0, 8, 7), (0, 8, 6), (0, 8, 5), (0, 8, 4), (0, 8, 3), (0, 8, 2), (0, 8, 1)] [] [])) hu ?_
  show zx p l e _ s m _ below meth c g 3 0 0 _ _ 46 [(2, .int 32), (0, .ref (b + 0)), (1, .int 40)] _
  refine z_iinc (v := 33) (lv' := [(2, .int 33), (0, .ref (b + 0)), (1, .int 40)]) B dX8_tick_46 0 rfl (by decide) (by decide) rfl ?_
  refine z_goto (tgt := 23) B dX8_tick_49 (by decide) ?_
  refine z_iload_n B dX8_tick_23 rfl 0 rfl ?_
  refine z_iload_n B dX8_tick_24 rfl 2 rfl ?_
  refine z_icmp_ge (tgt := 52) B dX8_tick_25 (by decide) (fun h => absurd h (by decide)) (fun _ => ?_)
  refine z_aload_n B dX8_tick_28 rfl 1 rfl ?_
  refine z_dup B dX8_tick_29 rfl ?_
  refine gf_X8_206 (x := 33) B (lKA (hk_K hK 0 rfl rfl)) (rI_at 0 8 rfl) dX8_tick_30 ?_
  refine z_iconst (v := 1) B dX8_tick_33 (by decide) ?_
  refine z_iadd B dX8_tick_34 ?_
  refine z_seti (y := 34) (by decide) ?_
  refine pf_X8_206 (x := 34) (σ' := (ap b σ [(0, 8, 34), (0, 8, 33), (0, 8, 32), (0, 8, 31), (0, 8, 30), (0, 8, 29), (0, 8, 28), (0, 8, 27), (0, 8, 26), (0, 8, 25), (0, 8, 24), (0, 8, 23), (0, 8, 22), (0, 8, 21), (0, 8, 20), (0, 8, 19), (0, 8, 18), (0, 8, 17), (0, 8, 16), (0, 8, 15), (0, 8, 14), (0, 8, 13), (0, 8, 12), (0, 8, 11), (0, 8, 10), (0, 8, 9), (0, 8, 8), (0, 8, 7), (0, 8, 6), (0, 8, 5), (0, 8, 4), (0, 8, 3), (0, 8, 2), (0, 8, 1)] [] [])) B (lKA (hk_K hK 0 rfl rfl)) wI_ap dX8_tick_35 ?_
  refine z_aload_n B dX8_tick_38 rfl 1 rfl ?_
  refine z_cVv (As := []) (rest := []) B cw_X8_240 cx_9 dX8_tick_39 (ci_X8_passTasks_920 l (σ := (ap b σ [(0, 8, 34), (0, 8, 33), (0, 8, 32), (0, 8, 31), (0, 8, 30), (0, 8, 29), (0, 8, 28), (0, 8, 27), (0, 8, 26), (0, 8, 25), (0, 8, 24), (0, 8, 23), (0, 8, 22), (0, 8, 21), (0, 8, 20), (0, 8, 19), (0, 8, 18), (0, 8, 17), (0, 8, 16), (0, 8, 15), (0, 8, 14), (0, 8, 13), (0, 8, 12), (0, 8, 11), (0, 8, 10), (0, 8, 9), (0, 8, 8), (0, 8, 7), (0, 8, 6), (0, 8, 5), (0, 8, 4), (0, 8, 3), (0, 8, 2), (0, 8, 1)] [] [])) (b := b) (lyA hK) (rI_at 4 2 hI_4_2) (rR_at 0 3 hR_0_3)) (lKA (hk_K hK 0 rfl rfl)) rfl (by decide) rfl (Nat.le_of_ble_eq_true rfl) (by decide) (fun u hu => ?_)
  refine z_eqs (σ' := (ap b σ [(0, 8, 34), (0, 8, 33), (0, 8, 32), (0, 8, 31), (0, 8, 30), (0, 8, 29), (0, 8, 28), (0, 8, 27), (0, 8, 26), (0, 8, 25), (0, 8, 24), (0, 8, 23), (0, 8, 22), (0, 8, 21), (0, 8, 20), (0, 8, 19), (0, 8, 18), (0, 8, 17), (0, 8, 16), (0, 8, 15), (0, 8, 14), (0, 8, 13), (0, 8, 12), (0, 8, 11), (0, 8, 10), (0, 8, 9), (0, 8, 8), (0, 8, 7), (0, 8, 6), (0, 8, 5), (0, 8, 4), (0, 8, 3), (0, 8, 2), (0, 8, 1)] [] [])) hu ?_
  show zx p l e _ s m _ below meth c g 3 0 0 _ _ 42 [(2, .int 33), (0, .ref (b + 0)), (1, .int 40)] _
  refine z_aload_n B dX8_tick_42 rfl 1 rfl ?_
  refine z_cVv (As := []) (rest := []) B cw_X8_243 cx_9 dX8_tick_43 (ci_X8_passTimers_921 l (σ := (ap b σ [(0, 8, 34), (0, 8, 33), (0, 8, 32), (0, 8, 31), (0, 8, 30), (0, 8, 29), (0, 8, 28), (0, 8, 27), (0, 8, 26), (0, 8, 25), (0, 8, 24), (0, 8, 23), (0, 8, 22), (0, 8, 21), (0, 8, 20), (0, 8, 19), (0, 8, 18), (0, 8, 17), (0, 8, 16), (0, 8, 15), (0, 8, 14), (0, 8, 13), (0, 8, 12), (0, 8, 11), (0, 8, 10), (0, 8, 9), (0, 8, 8), (0, 8, 7), (0, 8, 6), (0, 8, 5), (0, 8, 4), (0, 8, 3), (0, 8, 2), (0, 8, 1)] [] [])) (b := b) (lyA hK) (rI_at 0 7 hI_0_7)) (lKA (hk_K hK 0 rfl rfl)) rfl (by decide) rfl (Nat.le_of_ble_eq_true rfl) (by decide) (fun u hu => ?_)
  refine z_eqs (σ' := (ap b σ [(0, 8, 34), (0, 8, 33), (0, 8, 32), (0, 8, 31), (0, 8, 30), (0, 8, 29), (0, 8, 28), (0, 8, 27), (0, 8, 26), (0, 8, 25), (0, 8, 24), (0, 8, 23), (0, 8, 22), (0, 8, 21), (0, 8, 20), (0, 8, 19), (0, 8, 18), (0, 8, 17), (0, 8, 16), (0, 8, 15), (0, 8, 14), (0, 8, 13), (0, 8, 12), (0, 8, 11), (0, 8, 10), (0, 8, 9), (0, 8, 8), (0, 8, 7), (0, 8, 6), (0, 8, 5), (0, 8, 4), (0, 8, 3), (0, 8, 2), (0, 8, 1)] [] [])) hu ?_
  show zx p l e _ s m _ below meth c g 3 0 0 _ _ 46 [(2, .int 33), (0, .ref (b + 0)), (1, .int 40)] _
  refine z_iinc (v := 34) (lv' := [(2, .int 34), (0, .ref (b + 0)), (1, .int 40)]) B dX8_tick_46 0 rfl (by decide) (by decide) rfl ?_
  refine z_goto (tgt := 23) B dX8_tick_49 (by decide) ?_
  refine z_iload_n B dX8_tick_23 rfl 0 rfl ?_
  refine z_iload_n B dX8_tick_24 rfl 2 rfl ?_
  refine z_icmp_ge (tgt := 52) B dX8_tick_25 (by decide) (fun h => absurd h (by decide)) (fun _ => ?_)
  refine z_aload_n B dX8_tick_28 rfl 1 rfl ?_
  refine z_dup B dX8_tick_29 rfl ?_
  refine gf_X8_206 (x := 34) B (lKA (hk_K hK 0 rfl rfl)) (rI_at 0 8 rfl) dX8_tick_30 ?_
  refine z_iconst (v := 1) B dX8_tick_33 (by decide) ?_
  refine z_iadd B dX8_tick_34 ?_
  refine z_seti (y := 35) (by decide) ?_
  refine pf_X8_206 (x := 35) (σ' := (ap b σ [(0, 8, 35), (0, 8, 34), (0, 8, 33), (0, 8, 32), (0, 8, 31), (0, 8, 30), (0, 8, 29), (0, 8, 28), (0, 8, 27), (0, 8, 26), (0, 8, 25), (0, 8, 24), (0, 8, 23), (0, 8, 22), (0, 8, 21), (0, 8, 20), (0, 8, 19), (0, 8, 18), (0, 8, 17), (0, 8, 16), (0, 8, 15), (0, 8, 14), (0, 8, 13), (0, 8, 12), (0, 8, 11), (0, 8, 10), (0, 8, 9), (0, 8, 8), (0, 8, 7), (0, 8, 6), (0, 8, 5), (0, 8, 4), (0, 8, 3), (0, 8, 2), (0, 8, 1)] [] [])) B (lKA (hk_K hK 0 rfl rfl)) wI_ap dX8_tick_35 ?_
  refine z_aload_n B dX8_tick_38 rfl 1 rfl ?_
  refine z_cVv (As := []) (rest := []) B cw_X8_240 cx_9 dX8_tick_39 (ci_X8_passTasks_920 l (σ := (ap b σ [(0, 8, 35), (0, 8, 34), (0, 8, 33), (0, 8, 32), (0, 8, 31), (0, 8, 30), (0, 8, 29), (0, 8, 28), (0, 8, 27), (0, 8, 26), (0, 8, 25), (0, 8, 24), (0, 8, 23), (0, 8, 22), (0, 8, 21), (0, 8, 20), (0, 8, 19), (0, 8, 18), (0, 8, 17), (0, 8, 16), (0, 8, 15), (0, 8, 14), (0, 8, 13), (0, 8, 12), (0, 8, 11), (0, 8, 10), (0, 8, 9), (0, 8, 8), (0, 8, 7), (0, 8, 6), (0, 8, 5), (0, 8, 4), (0, 8, 3), (0, 8, 2), (0, 8, 1)] [] [])) (b := b) (lyA hK) (rI_at 4 2 hI_4_2) (rR_at 0 3 hR_0_3)) (lKA (hk_K hK 0 rfl rfl)) rfl (by decide) rfl (Nat.le_of_ble_eq_true rfl) (by decide) (fun u hu => ?_)
  refine z_eqs (σ' := (ap b σ [(0, 8, 35), (0, 8, 34), (0, 8, 33), (0, 8, 32), (0, 8, 31), (0, 8, 30), (0, 8, 29), (0, 8, 28), (0, 8, 27), (0, 8, 26), (0, 8, 25), (0, 8, 24), (0, 8, 23), (0, 8, 22), (0, 8, 21), (0, 8, 20), (0, 8, 19), (0, 8, 18), (0, 8, 17), (0, 8, 16), (0, 8, 15), (0, 8, 14), (0, 8, 13), (0, 8, 12), (0, 8, 11), (0, 8, 10), (0, 8, 9), (0, 8, 8), (0, 8, 7), (0, 8, 6), (0, 8, 5), (0, 8, 4), (0, 8, 3), (0, 8, 2), (0, 8, 1)] [] [])) hu ?_
  show zx p l e _ s m _ below meth c g 3 0 0 _ _ 42 [(2, .int 34), (0, .ref (b + 0)), (1, .int 40)] _
  refine z_aload_n B dX8_tick_42 rfl 1 rfl ?_
  refine z_cVv (As := []) (rest := []) B cw_X8_243 cx_9 dX8_tick_43 (ci_X8_passTimers_921 l (σ := (ap b σ [(0, 8, 35), (0, 8, 34), (0, 8, 33), (0, 8, 32), (0, 8, 31), (0, 8, 30), (0, 8, 29), (0, 8, 28), (0, 8, 27), (0, 8, 26), (0, 8, 25), (0, 8, 24), (0, 8, 23), (0, 8, 22), (0, 8, 21), (0, 8, 20), (0, 8, 19), (0, 8, 18), (0, 8, 17), (0, 8, 16), (0, 8, 15), (0, 8, 14), (0, 8, 13), (0, 8, 12), (0, 8, 11), (0, 8, 10), (0, 8, 9), (0, 8, 8), (0, 8, 7), (0, 8, 6), (0, 8, 5), (0, 8, 4), (0, 8, 3), (0, 8, 2), (0, 8, 1)] [] [])) (b := b) (lyA hK) (rI_at 0 7 hI_0_7)) (lKA (hk_K hK 0 rfl rfl)) rfl (by decide) rfl (Nat.le_of_ble_eq_true rfl) (by decide) (fun u hu => ?_)
  refine z_eqs (σ' := (ap b σ [(0, 8, 35), (0, 8, 34), (0, 8, 33), (0, 8, 32), (0, 8, 31), (0, 8, 30), (0, 8, 29), (0, 8, 28), (0, 8, 27), (0, 8, 26), (0, 8, 25), (0, 8, 24), (0, 8, 23), (0, 8, 22), (0, 8, 21), (0, 8, 20), (0, 8, 19), (0, 8, 18), (0, 8, 17), (0, 8, 16), (0, 8, 15), (0, 8, 14), (0, 8, 13), (0, 8, 12), (0, 8, 11), (0, 8, 10), (0, 8, 9), (0, 8, 8), (0, 8, 7), (0, 8, 6), (0, 8, 5), (0, 8, 4), (0, 8, 3), (0, 8, 2), (0, 8, 1)] [] [])) hu ?_
  show zx p l e _ s m _ below meth c g 3 0 0 _ _ 46 [(2, .int 34), (0, .ref (b + 0)), (1, .int 40)] _
  refine z_iinc (v := 35) (lv' := [(2, .int 35), (0, .ref (b + 0)), (1, .int 40)]) B dX8_tick_46 0 rfl (by decide) (by decide) rfl ?_
  refine z_goto (tgt := 23) B dX8_tick_49 (by decide) ?_
  refine z_iload_n B dX8_tick_23 rfl 0 rfl ?_
  refine z_iload_n B dX8_tick_24 rfl 2 rfl ?_
  refine z_icmp_ge (tgt := 52) B dX8_tick_25 (by decide) (fun h => absurd h (by decide)) (fun _ => ?_)
  refine z_aload_n B dX8_tick_28 rfl 1 rfl ?_
  refine z_dup B dX8_tick_29 rfl ?_
  refine gf_X8_206 (x := 35) B (lKA (hk_K hK 0 rfl rfl)) (rI_at 0 8 rfl) dX8_tick_30 ?_
  refine z_iconst (v := 1) B dX8_tick_33 (by decide) ?_
  refine z_iadd B dX8_tick_34 ?_
  refine z_seti (y := 36) (by decide) ?_
  refine pf_X8_206 (x := 36) (σ' := (ap b σ [(0, 8, 36), (0, 8, 35), (0, 8, 34), (0, 8, 33), (0, 8, 32), (0, 8, 31), (0, 8, 30), (0, 8, 29), (0, 8, 28), (0, 8, 27), (0, 8, 26), (0, 8, 25), (0, 8, 24), (0, 8, 23), (0, 8, 22), (0, 8, 21), (0, 8, 20), (0, 8, 19), (0, 8, 18), (0, 8, 17), (0, 8, 16), (0, 8, 15), (0, 8, 14), (0, 8, 13), (0, 8, 12), (0, 8, 11), (0, 8, 10), (0, 8, 9), (0, 8, 8), (0, 8, 7), (0, 8, 6), (0, 8, 5), (0, 8, 4), (0, 8, 3), (0, 8, 2), (0, 8, 1)] [] [])) B (lKA (hk_K hK 0 rfl rfl)) wI_ap dX8_tick_35 ?_
  refine z_aload_n B dX8_tick_38 rfl 1 rfl ?_
  refine z_cVv (As := []) (rest := []) B cw_X8_240 cx_9 dX8_tick_39 (ci_X8_passTasks_920 l (σ := (ap b σ [(0, 8, 36), (0, 8, 35), (0, 8, 34), (0, 8, 33), (0, 8, 32), (0, 8, 31), (0, 8, 30), (0, 8, 29), (0, 8, 28), (0, 8, 27), (0, 8, 26), (0, 8, 25), (0, 8, 24), (0, 8, 23), (0, 8, 22), (0, 8, 21), (0, 8, 20), (0, 8, 19), (0, 8, 18), (0, 8, 17), (0, 8, 16), (0, 8, 15), (0, 8, 14), (0, 8, 13), (0, 8, 12), (0, 8, 11), (0, 8, 10), (0, 8, 9), (0, 8, 8), (0, 8, 7), (0, 8, 6), (0, 8, 5), (0, 8, 4), (0, 8, 3), (0, 8, 2), (0, 8, 1)] [] [])) (b := b) (lyA hK) (rI_at 4 2 hI_4_2) (rR_at 0 3 hR_0_3)) (lKA (hk_K hK 0 rfl rfl)) rfl (by decide) rfl (Nat.le_of_ble_eq_true rfl) (by decide) (fun u hu => ?_)
  refine z_eqs (σ' := (ap b σ [(0, 8, 36), (0, 8, 35), (0, 8, 34), (0, 8, 33), (0, 8, 32), (0, 8, 31), (0, 8, 30), (0, 8, 29), (0, 8, 28), (0, 8, 27), (0, 8, 26), (0, 8, 25), (0, 8, 24), (0, 8, 23), (0, 8, 22), (0, 8, 21), (0, 8, 20), (0, 8, 19), (0, 8, 18), (0, 8, 17), (0, 8, 16), (0, 8, 15), (0, 8, 14), (0, 8, 13), (0, 8, 12), (0, 8, 11), (0, 8, 10), (0, 8, 9), (0, 8, 8), (0, 8, 7), (0, 8, 6), (0, 8, 5), (0, 8, 4), (0, 8, 3), (0, 8, 2), (0, 8, 1)] [] [])) hu ?_
  show zx p l e _ s m _ below meth c g 3 0 0 _ _ 42 [(2, .int 35), (0, .ref (b + 0)), (1, .int 40)] _
  refine z_aload_n B dX8_tick_42 rfl 1 rfl ?_
  refine z_cVv (As := []) (rest := []) B cw_X8_243 cx_9 dX8_tick_43 (ci_X8_passTimers_921 l (σ := (ap b σ [(0, 8, 36), (0, 8, 35), (0, 8, 34), (0, 8, 33), (0, 8, 32), (0, 8, 31), (0, 8, 30), (0, 8, 29), (0, 8, 28), (0, 8, 27), (0, 8, 26), (0, 8, 25), (0, 8, 24), (0, 8, 23), (0, 8, 22), (0, 8, 21), (0, 8, 20), (0, 8, 19), (0, 8, 18), (0, 8, 17), (0, 8, 16), (0, 8, 15), (0, 8, 14), (0, 8, 13), (0, 8, 12), (0, 8, 11), (0, 8, 10), (0, 8, 9), (0, 8, 8), (0, 8, 7), (0, 8, 6), (0, 8, 5), (0, 8, 4), (0, 8, 3), (0, 8, 2), (0, 8, 1)] [] [])) (b := b) (lyA hK) (rI_at 0 7 hI_0_7)) (lKA (hk_K hK 0 rfl rfl)) rfl (by decide) rfl (Nat.le_of_ble_eq_true rfl) (by decide) (fun u hu => ?_)
  refine z_eqs (σ' := (ap b σ [(0, 8, 36), (0, 8, 35), (0, 8, 34), (0, 8, 33), (0, 8, 32), (0, 8, 31), (0, 8, 30), (0, 8, 29), (0, 8, 28), (0, 8, 27), (0, 8, 26), (0, 8, 25), (0, 8, 24), (0, 8, 23), (0, 8, 22), (0, 8, 21), (0, 8, 20), (0, 8, 19), (0, 8, 18), (0, 8, 17), (0, 8, 16), (0, 8, 15), (0, 8, 14), (0, 8, 13), (0, 8, 12), (0, 8, 11), (0, 8, 10), (0, 8, 9), (0, 8, 8), (0, 8, 7), (0, 8, 6), (0, 8, 5), (0, 8, 4), (0, 8, 3), (0, 8, 2), (0, 8, 1)] [] [])) hu ?_
  show zx p l e _ s m _ below meth c g 3 0 0 _ _ 46 [(2, .int 35), (0, .ref (b + 0)), (1, .int 40)] _
  refine z_iinc (v := 36) (lv' := [(2, .int 36), (0, .ref (b + 0)), (1, .int 40)]) B dX8_tick_46 0 rfl (by decide) (by decide) rfl ?_
  refine z_goto (tgt := 23) B dX8_tick_49 (by decide) ?_
  refine z_iload_n B dX8_tick_23 rfl 0 rfl ?_
  refine z_iload_n B dX8_tick_24 rfl 2 rfl ?_
  refine z_icmp_ge (tgt := 52) B dX8_tick_25 (by decide) (fun h => absurd h (by decide)) (fun _ => ?_)
  refine z_aload_n B dX8_tick_28 rfl 1 rfl ?_
  refine z_dup B dX8_tick_29 rfl ?_
  refine gf_X8_206 (x := 36) B (lKA (hk_K hK 0 rfl rfl)) (rI_at 0 8 rfl) dX8_tick_30 ?_
  refine z_iconst (v := 1) B dX8_tick_33 (by decide) ?_
  refine z_iadd B dX8_tick_34 ?_
  refine z_seti (y := 37) (by decide) ?_
  refine pf_X8_206 (x := 37) (σ' := (ap b σ [(0, 8, 37), (0, 8, 36), (0, 8, 35), (0, 8, 34), (0, 8, 33), (0, 8, 32), (0, 8, 31), (0, 8, 30), (0, 8, 29), (0, 8, 28), (0, 8, 27), (0, 8, 26), (0, 8, 25), (0, 8, 24), (0, 8, 23), (0, 8, 22), (0, 8, 21), (0, 8, 20), (0, 8, 19), (0, 8, 18), (0, 8, 17), (0, 8, 16), (0, 8, 15), (0, 8, 14), (0, 8, 13), (0, 8, 12), (0, 8, 11), (0, 8, 10), (0, 8, 9), (0, 8, 8), (0, 8, 7), (0, 8, 6), (0, 8, 5), (0, 8, 4), (0, 8, 3), (0, 8, 2), (0, 8, 1)] [] [])) B (lKA (hk_K hK 0 rfl rfl)) wI_ap dX8_tick_35 ?_
  refine z_aload_n B dX8_tick_38 rfl 1 rfl ?_
  refine z_cVv (As := []) (rest := []) B cw_X8_240 cx_9 dX8_tick_39 (ci_X8_passTasks_920 l (σ := (ap b σ [(0, 8, 37), (0, 8, 36), (0, 8, 35), (0, 8, 34), (0, 8, 33), (0, 8, 32), (0, 8, 31), (0, 8, 30), (0, 8, 29), (0, 8, 28), (0, 8, 27), (0, 8, 26), (0, 8, 25), (0, 8, 24), (0, 8, 23), (0, 8, 22), (0, 8, 21), (0, 8, 20), (0, 8, 19), (0, 8, 18), (0, 8, 17), (0, 8, 16), (0, 8, 15), (0, 8, 14), (0, 8, 13), (0, 8, 12), (0, 8, 11), (0, 8, 10), (0, 8, 9), (0, 8, 8), (0, 8, 7), (0, 8, 6), (0, 8, 5), (0, 8, 4), (0, 8, 3), (0, 8, 2), (0, 8, 1)] [] [])) (b := b) (lyA hK) (rI_at 4 2 hI_4_2) (rR_at 0 3 hR_0_3)) (lKA (hk_K hK 0 rfl rfl)) rfl (by decide) rfl (Nat.le_of_ble_eq_true rfl) (by decide) (fun u hu => ?_)
  refine z_eqs (σ' := (ap b σ [(0, 8, 37), (0, 8, 36), (0, 8, 35), (0, 8, 34), (0, 8, 33), (0, 8, 32), (0, 8, 31), (0, 8, 30), (0, 8, 29), (0, 8, 28), (0, 8, 27), (0, 8, 26), (0, 8, 25), (0, 8, 24), (0, 8, 23), (0, 8, 22), (0, 8, 21), (0, 8, 20), (0, 8, 19), (0, 8, 18), (0, 8, 17), (0, 8, 16), (0, 8, 15), (0, 8, 14), (0, 8, 13), (0, 8, 12), (0, 8, 11), (0, 8, 10), (0, 8, 9), (0, 8, 8), (0, 8, 7), (0, 8, 6), (0, 8, 5), (0, 8, 4), (0, 8, 3), (0, 8, 2), (0, 8, 1)] [] [])) hu ?_
  show zx p l e _ s m _ below meth c g 3 0 0 _ _ 42 [(2, .int 36), (0, .ref (b + 0)), (1, .int 40)] _
  refine z_aload_n B dX8_tick_42 rfl 1 rfl ?_
  refine z_cVv (As := []) (rest := []) B cw_X8_243 cx_9 dX8_tick_43 (ci_X8_passTimers_921 l (σ := (ap b σ [(0, 8, 37), (0, 8, 36), (0, 8, 35), (0, 8, 34), (0, 8, 33), (0, 8, 32), (0, 8, 31), (0, 8, 30), (0, 8, 29), (0, 8, 28), (0, 8, 27), (0, 8, 26), (0, 8, 25), (0, 8, 24), (0, 8, 23), (0, 8, 22), (0, 8, 21), (0, 8, 20), (0, 8, 19), (0, 8, 18), (0, 8, 17), (0, 8, 16), (0, 8, 15), (0, 8, 14), (0, 8, 13), (0, 8, 12), (0, 8, 11), (0, 8, 10), (0, 8, 9), (0, 8, 8), (0, 8, 7), (0, 8, 6), (0, 8, 5), (0, 8, 4), (0, 8, 3), (0, 8, 2), (0, 8, 1)] [] [])) (b := b) (lyA hK) (rI_at 0 7 hI_0_7)) (lKA (hk_K hK 0 rfl rfl)) rfl (by decide) rfl (Nat.le_of_ble_eq_true rfl) (by decide) (fun u hu => ?_)
  refine z_eqs (σ' := (ap b σ [(0, 8, 37), (0, 8, 36), (0, 8, 35), (0, 8, 34), (0, 8, 33), (0, 8, 32), (0, 8, 31), (0, 8, 30), (0, 8, 29), (0, 8, 28), (0, 8, 27), (0, 8, 26), (0, 8, 25), (0, 8, 24), (0, 8, 23), (0, 8, 22), (0, 8, 21), (0, 8, 20), (0, 8, 19), (0, 8, 18), (0, 8, 17), (0, 8, 16), (0, 8, 15), (0, 8, 14), (0, 8, 13), (0, 8, 12), (0, 8, 11), (0, 8, 10), (0, 8, 9), (0, 8, 8), (0, 8, 7), (0, 8, 6), (0, 8, 5), (0, 8, 4), (0, 8, 3), (0, 8, 2), (0, 8, 1)] [] [])) hu ?_
  show zx p l e _ s m _ below meth c g 3 0 0 _ _ 46 [(2, .int 36), (0, .ref (b + 0)), (1, .int 40)] _
  refine z_iinc (v := 37) (lv' := [(2, .int 37), (0, .ref (b + 0)), (1, .int 40)]) B dX8_tick_46 0 rfl (by decide) (by decide) rfl ?_
  refine z_goto (tgt := 23) B dX8_tick_49 (by decide) ?_
  refine z_iload_n B dX8_tick_23 rfl 0 rfl ?_
  refine z_iload_n B dX8_tick_24 rfl 2 rfl ?_
  refine z_icmp_ge (tgt := 52) B dX8_tick_25 (by decide) (fun h => absurd h (by decide)) (fun _ => ?_)
  refine z_aload_n B dX8_tick_28 rfl 1 rfl ?_
  refine z_dup B dX8_tick_29 rfl ?_
  refine gf_X8_206 (x := 37) B (lKA (hk_K hK 0 rfl rfl)) (rI_at 0 8 rfl) dX8_tick_30 ?_
  refine z_iconst (v := 1) B dX8_tick_33 (by decide) ?_
  refine z_iadd B dX8_tick_34 ?_
  refine z_seti (y := 38) (by decide) ?_
  refine pf_X8_206 (x := 38) (σ' := (ap b σ [(0, 8, 38), (0, 8, 37), (0, 8, 36), (0, 8, 35), (0, 8, 34), (0, 8, 33), (0, 8, 32), (0, 8, 31), (0, 8, 30), (0, 8, 29), (0, 8, 28), (0, 8, 27), (0, 8, 26), (0, 8, 25), (0, 8, 24), (0, 8, 23), (0, 8, 22), (0, 8, 21), (0, 8, 20), (0, 8, 19), (0, 8, 18), (0, 8, 17), (0, 8, 16), (0, 8, 15), (0, 8, 14), (0, 8, 13), (0, 8, 12), (0, 8, 11), (0, 8, 10), (0, 8, 9), (0, 8, 8), (0, 8, 7), (0, 8, 6), (0, 8, 5), (0, 8, 4), (0, 8, 3), (0, 8, 2), (0, 8, 1)] [] [])) B (lKA (hk_K hK 0 rfl rfl)) wI_ap dX8_tick_35 ?_
  refine z_aload_n B dX8_tick_38 rfl 1 rfl ?_
  refine z_cVv (As := []) (rest := []) B cw_X8_240 cx_9 dX8_tick_39 (ci_X8_passTasks_920 l (σ := (ap b σ [(0, 8, 38), (0, 8, 37), (0, 8, 36), (0, 8, 35), (0, 8, 34), (0, 8, 33), (0, 8, 32), (0, 8, 31), (0, 8, 30), (0, 8, 29), (0, 8, 28), (0, 8, 27), (0, 8, 26), (0, 8, 25), (0, 8, 24), (0, 8, 23), (0, 8, 22), (0, 8, 21), (0, 8, 20), (0, 8, 19), (0, 8, 18), (0, 8, 17), (0, 8, 16), (0, 8, 15), (0, 8, 14), (0, 8, 13), (0, 8, 12), (0, 8, 11), (0, 8, 10), (0, 8, 9), (0, 8, 8), (0, 8, 7), (0, 8, 6), (0, 8, 5), (0, 8, 4), (0, 8, 3), (0, 8, 2), (0, 8, 1)] [] [])) (b := b) (lyA hK) (rI_at 4 2 hI_4_2) (rR_at 0 3 hR_0_3)) (lKA (hk_K hK 0 rfl rfl)) rfl (by decide) rfl (Nat.le_of_ble_eq_true rfl) (by decide) (fun u hu => ?_)
  refine z_eqs (σ' := (ap b σ [(0, 8, 38), (0, 8, 37), (0, 8, 36), (0, 8, 35), (0, 8, 34), (0, 8, 33), (0, 8, 32), (0, 8, 31), (0, 8, 30), (0, 8, 29), (0, 8, 28), (0, 8, 27), (0, 8, 26), (0, 8, 25), (0, 8, 24), (0, 8, 23), (0, 8, 22), (0, 8, 21), (0, 8, 20), (0, 8, 19), (0, 8, 18), (0, 8, 17), (0, 8, 16), (0, 8, 15), (0, 8, 14), (0, 8, 13), (0, 8, 12), (0, 8, 11), (0, 8, 10), (0, 8, 9), (0, 8, 8), (0, 8, 7), (0, 8, 6), (0, 8, 5), (0, 8, 4), (0, 8, 3), (0, 8, 2), (0, 8, 1)] [] [])) hu ?_
  show zx p l e _ s m _ below meth c g 3 0 0 _ _ 42 [(2, .int 37), (0, .ref (b + 0)), (1, .int 40)] _
  refine z_aload_n B dX8_tick_42 rfl 1 rfl ?_
  refine z_cVv (As := []) (rest := []) B cw_X8_243 cx_9 dX8_tick_43 (ci_X8_passTimers_921 l (σ := (ap b σ [(0, 8, 38), (0, 8, 37), (0, 8, 36), (0, 8, 35), (0, 8, 34), (0, 8, 33), (0, 8, 32), (0, 8, 31), (0, 8, 30), (0, 8, 29), (0, 8, 28), (0, 8, 27), (0, 8, 26), (0, 8, 25), (0, 8, 24), (0, 8, 23), (0, 8, 22), (0, 8, 21), (0, 8, 20), (0, 8, 19), (0, 8, 18), (0, 8, 17), (0, 8, 16), (0, 8, 15), (0, 8, 14), (0, 8, 13), (0, 8, 12), (0, 8, 11), (0, 8, 10), (0, 8, 9), (0, 8, 8), (0, 8, 7), (0, 8, 6), (0, 8, 5), (0, 8, 4), (0, 8, 3), (0, 8, 2), (0, 8, 1)] [] [])) (b := b) (lyA hK) (rI_at 0 7 hI_0_7)) (lKA (hk_K hK 0 rfl rfl)) rfl (by decide) rfl (Nat.le_of_ble_eq_true rfl) (by decide) (fun u hu => ?_)
  refine z_eqs (σ' := (ap b σ [(0, 8, 38), (0, 8, 37), (0, 8, 36), (0, 8, 35), (0, 8, 34), (0, 8, 33), (0, 8, 32), (0, 8, 31), (0, 8, 30), (0, 8, 29), (0, 8, 28), (0, 8, 27), (0, 8, 26), (0, 8, 25), (0, 8, 24), (0, 8, 23), (0, 8, 22), (0, 8, 21), (0, 8, 20), (0, 8, 19), (0, 8, 18), (0, 8, 17), (0, 8, 16), (0, 8, 15), (0, 8, 14), (0, 8, 13), (0, 8, 12), (0, 8, 11), (0, 8, 10), (0, 8, 9), (0, 8, 8), (0, 8, 7), (0, 8, 6), (0, 8, 5), (0, 8, 4), (0, 8, 3), (0, 8, 2), (0, 8, 1)] [] [])) hu ?_
  show zx p l e _ s m _ below meth c g 3 0 0 _ _ 46 [(2, .int 37), (0, .ref (b + 0)), (1, .int 40)] _
  refine z_iinc (v := 38) (lv' := [(2, .int 38), (0, .ref (b + 0)), (1, .int 40)]) B dX8_tick_46 0 rfl (by decide) (by decide) rfl ?_
  refine z_goto (tgt := 23) B dX8_tick_49 (by decide) ?_
  refine z_iload_n B dX8_tick_23 rfl 0 rfl ?_
  refine z_iload_n B dX8_tick_24 rfl 2 rfl ?_
  refine z_icmp_ge (tgt := 52) B dX8_tick_25 (by decide) (fun h => absurd h (by decide)) (fun _ => ?_)
  refine z_aload_n B dX8_tick_28 rfl 1 rfl ?_
  refine z_dup B dX8_tick_29 rfl ?_
  refine gf_X8_206 (x := 38) B (lKA (hk_K hK 0 rfl rfl)) (rI_at 0 8 rfl) dX8_tick_30 ?_
  refine z_iconst (v := 1) B dX8_tick_33 (by decide) ?_
  refine z_iadd B dX8_tick_34 ?_
  refine z_seti (y := 39) (by decide) ?_
  refine pf_X8_206 (x := 39) (σ' := (ap b σ [(0, 8, 39), (0, 8, 38), (0, 8, 37), (0, 8, 36), (0, 8, 35), (0, 8, 34), (0, 8, 33), (0, 8, 32), (0, 8, 31), (0, 8, 30), (0, 8, 29), (0, 8, 28), (0, 8, 27), (0, 8, 26), (0, 8, 25), (0, 8, 24), (0, 8, 23), (0, 8, 22), (0, 8, 21), (0, 8, 20), (0, 8, 19), (0, 8, 18), (0, 8, 17), (0, 8, 16), (0, 8, 15), (0, 8, 14), (0, 8, 13), (0, 8, 12), (0, 8, 11), (0, 8, 10), (0, 8, 9), (0, 8, 8), (0, 8, 7), (0, 8, 6), (0, 8, 5), (0, 8, 4), (0, 8, 3), (0, 8, 2), (0, 8, 1)] [] [])) B (lKA (hk_K hK 0 rfl rfl)) wI_ap dX8_tick_35 ?_
  refine z_aload_n B dX8_tick_38 rfl 1 rfl ?_
  refine z_cVv (As := []) (rest := []) B cw_X8_240 cx_9 dX8_tick_39 (ci_X8_passTasks_920 l (σ := (ap b σ [(0, 8, 39), (0, 8, 38), (0, 8, 37), (0, 8, 36), (0, 8, 35), (0, 8, 34), (0, 8, 33), (0, 8, 32), (0, 8, 31), (0, 8, 30), (0, 8, 29), (0, 8, 28), (0, 8, 27), (0, 8, 26), (0, 8, 25), (0, 8, 24), (0, 8, 23), (0, 8, 22), (0, 8, 21), (0, 8, 20), (0, 8, 19), (0, 8, 18), (0, 8, 17), (0, 8, 16), (0, 8, 15), (0, 8, 14), (0, 8, 13), (0, 8, 12), (0, 8, 11), (0, 8, 10), (0, 8, 9), (0, 8, 8), (0, 8, 7), (0, 8, 6), (0, 8, 5), (0, 8, 4), (0, 8, 3), (0, 8, 2), (0, 8, 1)] [] [])) (b := b) (lyA hK) (rI_at 4 2 hI_4_2) (rR_at 0 3 hR_0_3)) (lKA (hk_K hK 0 rfl rfl)) rfl (by decide) rfl (Nat.le_of_ble_eq_true rfl) (by decide) (fun u hu => ?_)
  refine z_eqs (σ' := (ap b σ [(0, 8, 39), (0, 8, 38), (0, 8, 37), (0, 8, 36), (0, 8, 35), (0, 8, 34), (0, 8, 33), (0, 8, 32), (0, 8, 31), (0, 8, 30), (0, 8, 29), (0, 8, 28), (0, 8, 27), (0, 8, 26), (0, 8, 25), (0, 8, 24), (0, 8, 23), (0, 8, 22), (0, 8, 21), (0, 8, 20), (0, 8, 19), (0, 8, 18), (0, 8, 17), (0, 8, 16), (0, 8, 15), (0, 8, 14), (0, 8, 13), (0, 8, 12), (0, 8, 11), (0, 8, 10), (0, 8, 9), (0, 8, 8), (0, 8, 7), (0, 8, 6), (0, 8, 5), (0, 8, 4), (0, 8, 3), (0, 8, 2), (0, 8, 1)] [] [])) hu ?_
  show zx p l e _ s m _ below meth c g 3 0 0 _ _ 42 [(2, .int 38), (0, .ref (b + 0)), (1, .int 40)] _
  refine z_aload_n B dX8_tick_42 rfl 1 rfl ?_
  refine z_cVv (As := []) (rest := []) B cw_X8_243 cx_9 dX8_tick_43 (ci_X8_passTimers_921 l (σ := (ap b σ [(0, 8, 39), (0, 8, 38), (0, 8, 37), (0, 8, 36), (0, 8, 35), (0, 8, 34), (0, 8, 33), (0, 8, 32), (0, 8, 31), (0, 8, 30), (0, 8, 29), (0, 8, 28), (0, 8, 27), (0, 8, 26), (0, 8, 25), (0, 8, 24), (0, 8, 23), (0, 8, 22), (0, 8, 21), (0, 8, 20), (0, 8, 19), (0, 8, 18), (0, 8, 17), (0, 8, 16), (0, 8, 15), (0, 8, 14), (0, 8, 13), (0, 8, 12), (0, 8, 11), (0, 8, 10), (0, 8, 9), (0, 8, 8), (0, 8, 7), (0, 8, 6), (0, 8, 5), (0, 8, 4), (0, 8, 3), (0, 8, 2), (0, 8, 1)] [] [])) (b := b) (lyA hK) (rI_at 0 7 hI_0_7)) (lKA (hk_K hK 0 rfl rfl)) rfl (by decide) rfl (Nat.le_of_ble_eq_true rfl) (by decide) (fun u hu => ?_)
  refine z_eqs (σ' := (ap b σ [(0, 8, 39), (0, 8, 38), (0, 8, 37), (0, 8, 36), (0, 8, 35), (0, 8, 34), (0, 8, 33), (0, 8, 32), (0, 8, 31), (0, 8, 30), (0, 8, 29), (0, 8, 28), (0, 8, 27), (0, 8, 26), (0, 8, 25), (0, 8, 24), (0, 8, 23), (0, 8, 22), (0, 8, 21), (0, 8, 20), (0, 8, 19), (0, 8, 18), (0, 8, 17), (0, 8, 16), (0, 8, 15), (0, 8, 14), (0, 8, 13), (0, 8, 12), (0, 8, 11), (0, 8, 10), (0, 8, 9), (0, 8, 8), (0, 8, 7), (0, 8, 6), (0, 8, 5), (0, 8, 4), (0, 8, 3), (0, 8, 2), (0, 8, 1)] [] [])) hu ?_
  show zx p l e _ s m _ below meth c g 3 0 0 _ _ 46 [(2, .int 38), (0, .ref (b + 0)), (1, .int 40)] _
  refine z_iinc (v := 39) (lv' := [(2, .int 39), (0, .ref (b + 0)), (1, .int 40)]) B dX8_tick_46 0 rfl (by decide) (by decide) rfl ?_
  refine z_goto (tgt := 23) B dX8_tick_49 (by decide) ?_
  refine z_iload_n B dX8_tick_23 rfl 0 rfl ?_
  refine z_iload_n B dX8_tick_24 rfl 2 rfl ?_
  refine z_icmp_ge (tgt := 52) B dX8_tick_25 (by decide) (fun h => absurd h (by decide)) (fun _ => ?_)
  refine z_aload_n B dX8_tick_28 rfl 1 rfl ?_
  refine z_dup B dX8_tick_29 rfl ?_
  refine gf_X8_206 (x := 39) B (lKA (hk_K hK 0 rfl rfl)) (rI_at 0 8 rfl) dX8_tick_30 ?_
  refine z_iconst (v := 1) B dX8_tick_33 (by decide) ?_
  refine z_iadd B dX8_tick_34 ?_
  refine z_seti (y := 40) (by decide) ?_
  refine pf_X8_206 (x := 40) (σ' := (ap b σ [(0, 8, 40), (0, 8, 39), (0, 8, 38), (0, 8, 37), (0, 8, 36), (0, 8, 35), (0, 8, 34), (0, 8, 33), (0, 8, 32), (0, 8, 31), (0, 8, 30), (0, 8, 29), (0, 8, 28), (0, 8, 27), (0, 8, 26), (0, 8, 25), (0, 8, 24), (0, 8, 23), (0, 8, 22), (0, 8, 21), (0, 8, 20), (0, 8, 19), (0, 8, 18), (0, 8, 17), (0, 8, 16), (0, 8, 15), (0, 8, 14), (0, 8, 13), (0, 8, 12), (0, 8, 11), (0, 8, 10), (0, 8, 9), (0, 8, 8), (0, 8, 7), (0, 8, 6), (0, 8, 5), (0, 8, 4), (0, 8, 3), (0, 8, 2), (0, 8, 1)] [] [])) B (lKA (hk_K hK 0 rfl rfl)) wI_ap dX8_tick_35 ?_
  refine z_aload_n B dX8_tick_38 rfl 1 rfl ?_
  refine z_cVv (As := []) (rest := []) B cw_X8_240 cx_9 dX8_tick_39 (ci_X8_passTasks_920 l (σ := (ap b σ [(0, 8, 40), (0, 8, 39), (0, 8, 38), (0, 8, 37), (0, 8, 36), (0, 8, 35), (0, 8, 34), (0, 8, 33), (0, 8, 32), (0, 8, 31), (0, 8, 30), (0, 8, 29), (0, 8, 28), (0, 8, 27), (0, 8, 26), (0, 8, 25), (0, 8, 24), (0, 8, 23), (0, 8, 22), (0, 8, 21), (0, 8, 20), (0, 8, 19), (0, 8, 18), (0, 8, 17), (0, 8, 16), (0, 8, 15), (0, 8, 14), (0, 8, 13), (0, 8, 12), (0, 8, 11), (0, 8, 10), (0, 8, 9), (0, 8, 8), (0, 8, 7), (0, 8, 6), (0, 8, 5), (0, 8, 4), (0, 8, 3), (0, 8, 2), (0, 8, 1)] [] [])) (b := b) (lyA hK) (rI_at 4 2 hI_4_2) (rR_at 0 3 hR_0_3)) (lKA (hk_K hK 0 rfl rfl)) rfl (by decide) rfl (Nat.le_of_ble_eq_true rfl) (by decide) (fun u hu => ?_)
  refine z_eqs (σ' := (ap b σ [(0, 8, 40), (0, 8, 39), (0, 8, 38), (0, 8, 37), (0, 8, 36), (0, 8, 35), (0, 8, 34), (0, 8, 33), (0, 8, 32), (0, 8, 31), (0, 8, 30), (0, 8, 29), (0, 8, 28), (0, 8, 27), (0, 8, 26), (0, 8, 25), (0, 8, 24), (0, 8, 23), (0, 8, 22), (0, 8, 21), (0, 8, 20), (0, 8, 19), (0, 8, 18), (0, 8, 17), (0, 8, 16), (0, 8, 15), (0, 8, 14), (0, 8, 13), (0, 8, 12), (0, 8, 11), (0, 8, 10), (0, 8, 9), (0, 8, 8), (0, 8, 7), (0, 8, 6), (0, 8, 5), (0, 8, 4), (0, 8, 3), (0, 8, 2), (0, 8, 1)] [] [])) hu ?_
  show zx p l e _ s m _ below meth c g 3 0 0 _ _ 42 [(2, .int 39), (0, .ref (b + 0)), (1, .int 40)] _
  refine z_aload_n B dX8_tick_42 rfl 1 rfl ?_
  refine z_cVv (As := []) (rest := []) B cw_X8_243 cx_9 dX8_tick_43 (ci_X8_passTimers_921 l (σ := (ap b σ [(0, 8, 40), (0, 8, 39), (0, 8, 38), (0, 8, 37), (0, 8, 36), (0, 8, 35), (0, 8, 34), (0, 8, 33), (0, 8, 32), (0, 8, 31), (0, 8, 30), (0, 8, 29), (0, 8, 28), (0, 8, 27), (0, 8, 26), (0, 8, 25), (0, 8, 24), (0, 8, 23), (0, 8, 22), (0, 8, 21), (0, 8, 20), (0, 8, 19), (0, 8, 18), (0, 8, 17), (0, 8, 16), (0, 8, 15), (0, 8, 14), (0, 8, 13), (0, 8, 12), (0, 8, 11), (0, 8, 10), (0, 8, 9), (0, 8, 8), (0, 8, 7), (0, 8, 6), (0, 8, 5), (0, 8, 4), (0, 8, 3), (0, 8, 2), (0, 8, 1)] [] [])) (b := b) (lyA hK) (rI_at 0 7 hI_0_7)) (lKA (hk_K hK 0 rfl rfl)) rfl (by decide) rfl (Nat.le_of_ble_eq_true rfl) (by decide) (fun u hu => ?_)
  refine z_eqs (σ' := (ap b σ [(0, 8, 40), (0, 8, 39), (0, 8, 38), (0, 8, 37), (0, 8, 36), (0, 8, 35), (0, 8, 34), (0, 8, 33), (0, 8, 32), (0, 8, 31), (0, 8, 30), (0, 8, 29), (0, 8, 28), (0, 8, 27), (0, 8, 26), (0, 8, 25), (0, 8, 24), (0, 8, 23), (0, 8, 22), (0, 8, 21), (0, 8, 20), (0, 8, 19), (0, 8, 18), (0, 8, 17), (0, 8, 16), (0, 8, 15), (0, 8, 14), (0, 8, 13), (0, 8, 12), (0, 8, 11), (0, 8, 10), (0, 8, 9), (0, 8, 8), (0, 8, 7), (0, 8, 6), (0, 8, 5), (0, 8, 4), (0, 8, 3), (0, 8, 2), (0, 8, 1)] [] [])) hu ?_
  show zx p l e _ s m _ below meth c g 3 0 0 _ _ 46 [(2, .int 39), (0, .ref (b + 0)), (1, .int 40)] _
  refine z_iinc (v := 40) (lv' := [(2, .int 40), (0, .ref (b + 0)), (1, .int 40)]) B dX8_tick_46 0 rfl (by decide) (by decide) rfl ?_
  refine z_goto (tgt := 23) B dX8_tick_49 (by decide) ?_
  refine z_iload_n B dX8_tick_23 rfl 0 rfl ?_
  refine z_iload_n B dX8_tick_24 rfl 2 rfl ?_
  refine z_icmp_ge (tgt := 52) B dX8_tick_25 (by decide) (fun _ => ?_) (fun h => absurd (by decide) h)
  refine z_aload_n B dX8_tick_52 rfl 1 rfl ?_
  refine gf_X8_206 (x := 40) B (lKA (hk_K hK 0 rfl rfl)) (rI_at 0 8 rfl) dX8_tick_53 ?_
  exact z_iret B hr (by decide) (by decide) dX8_tick_56 ⟨rfl, rfl⟩
