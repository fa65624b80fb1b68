set_option maxRecDepth 100000 in
set_option maxHeartbeats 4000000 in
theorem ci_X9_in_702 (l : Launch) {g : gx_T} {σ : sx_T} {b : Nat} (hK : lay b σ) (w1 : Int32) (q1_w1 : (-999 : Int) ≤ w1.toInt) (q2_w1 : w1.toInt ≤ (-1 : Int))  : Met l yX9_in (.code yX9_in cX9_in 3 (some .boolean) :: lw_g) { frames := 0, cells := 0, slots := 0, locals := 0 } (va_Pc [.int w1, .int (-999), .int 999] (zx_w g σ)) (va_Qi (fun r u => r = 1 ∧ u = σ) (zx_w g) (gx_Q g)) 0 0 (gx_Q g) := by
  refine z_met (by decide) (Nat.le_of_ble_eq_true rfl) (fun p e s m below meth c B hr hin => ?_)
  refine z_eqs (σ' := (ap b σ [] [] [])) rfl ?_
  show zx p l e _ s m _ below meth c g 3 0 0 _ _ 0 [(0, .int w1), (1, .int (-999)), (2, .int 999)] []
  refine z_iload_n B dX9_in_0 rfl 0 rfl ?_
  refine z_iload_n B dX9_in_1 rfl 1 rfl ?_
  refine z_icmp_lt (tgt := 14) B dX9_in_2 (by decide) (fun h => absurd h (iv_nlt q1_w1 (by decide))) (fun _ => ?_)
  refine z_iload_n B dX9_in_5 rfl 0 rfl ?_
  refine z_iload_n B dX9_in_6 rfl 2 rfl ?_
  refine z_icmp_gt (tgt := 14) B dX9_in_7 (by decide) (fun h => absurd h (iv_ngt q2_w1 (by decide))) (fun _ => ?_)
  refine z_iconst (v := 1) B dX9_in_10 (by decide) ?_
  refine z_goto (tgt := 15) B dX9_in_11 (by decide) ?_
  exact z_zret B hr (by decide) (by decide) (by decide) dX9_in_15 ⟨rfl, rfl⟩
set_option maxRecDepth 100000 in
set_option maxHeartbeats 4000000 in
theorem ci_X9_needs___703 (l : Launch) {g : gx_T} {σ : sx_T} {b : Nat} (hK : lay b σ)    : Met l yX9_needs__ (.code yX9_needs__ cX9_needs__ 4 (some .boolean) :: lw_g) { frames := 0, cells := 0, slots := 0, locals := 0 } (va_Pc [.ref (b + 405), .int 1, .int 1, .int 1] (zx_w g σ)) (va_Qi (fun r u => r = 1 ∧ u = (ap b σ [(405, 0, 0)] [] [])) (zx_w g) (gx_Q g)) 0 0 (gx_Q g) := by
  refine z_met (by decide) (Nat.le_of_ble_eq_true rfl) (fun p e s m below meth c B hr hin => ?_)
  refine z_eqs (σ' := (ap b σ [] [] [])) rfl ?_
  show zx p l e _ s m _ below meth c g 4 0 0 _ _ 0 [(0, .ref (b + 405)), (1, .int 1), (2, .int 1), (3, .int 1)] []
  refine z_aload_n B dX9_needs___0 rfl 0 rfl ?_
  refine z_iload_n B dX9_needs___1 rfl 1 rfl ?_
  refine z_if_ne (tgt := 9) B dX9_needs___2 (by decide) (fun _ => ?_) (fun h => absurd h (by decide))
  refine z_iload_n B dX9_needs___9 rfl 2 rfl ?_
  refine z_if_ne (tgt := 17) B dX9_needs___10 (by decide) (fun _ => ?_) (fun h => absurd h (by decide))
  refine z_iload_n B dX9_needs___17 rfl 3 rfl ?_
  refine z_if_eq (tgt := 25) B dX9_needs___18 (by decide) (fun h => absurd h (by decide)) (fun _ => ?_)
  refine z_iconst (v := 0) B dX9_needs___21 (by decide) ?_
  refine z_goto (tgt := 26) B dX9_needs___22 (by decide) ?_
  refine pf_X9_90 (x := 0) (σ' := (ap b σ [(405, 0, 0)] [] [])) B (lKA (hk_K hK 405 rfl rfl)) wI_ap dX9_needs___26 ?_
  refine z_aload_n B dX9_needs___29 rfl 0 rfl ?_
  refine gf_X9_90 (x := 0) B (lKA (hk_K hK 405 rfl rfl)) (rI_at 405 0 rfl) dX9_needs___30 ?_
  refine z_if_ne (tgt := 40) B dX9_needs___33 (by decide) (fun h => absurd (by decide) h) (fun _ => ?_)
  refine z_iconst (v := 1) B dX9_needs___36 (by decide) ?_
  refine z_goto (tgt := 41) B dX9_needs___37 (by decide) ?_
  exact z_zret B hr (by decide) (by decide) (by decide) dX9_needs___41 ⟨rfl, rfl⟩
set_option maxRecDepth 100000 in
set_option maxHeartbeats 4000000 in
theorem ci_X9_adds_704 (l : Launch) {g : gx_T} {σ : sx_T} {b : Nat} (hK : lay b σ) (w1 : Int64)  (hI_413_0 : sx_I σ (b + 413) 0 = 0) (hR_405_11 : sx_R σ (b + 405) 11 = (some (b + 413))) (hR_405_14 : sx_R σ (b + 405) 14 = (some (b + 416))) (hR_405_15 : sx_R σ (b + 405) 15 = (some (b + 417))) : Met l yX9_adds (.code yX9_adds cX9_adds 5 none :: lw_g) { frames := 0, cells := 0, slots := 0, locals := 0 } (va_Pc [.ref (b + 405), .int 0, .int 0, .long w1] (zx_w g σ)) (va_Qv (fun u => u = (ap b σ [(413, 0, 1), (416, 0, 0)] [(417, 0, w1)] [])) (zx_w g) (gx_Q g)) 0 0 (gx_Q g) := by
  refine z_met (by decide) (Nat.le_of_ble_eq_true rfl) (fun p e s m below meth c B hr hin => ?_)
  refine z_eqs (σ' := (ap b σ [] [] [])) rfl ?_
  show zx p l e _ s m _ below meth c g 5 0 0 _ _ 0 [(0, .ref (b + 405)), (1, .int 0), (2, .int 0), (3, .long w1)] []
  refine z_aload_n B dX9_adds_0 rfl 0 rfl ?_
  refine gf_X9_44 (x := (some (b + 416))) B (lKA (hk_K hK 405 rfl rfl)) (rR_at 405 14 hR_405_14) dX9_adds_1 ?_
  refine z_sipush (v := 160) B dX9_adds_4 (by decide) ?_
  refine z_iload_n B dX9_adds_7 rfl 1 rfl ?_
  refine z_imul B dX9_adds_8 ?_
  refine z_seti (y := 0) (by decide) ?_
  refine z_aload_n B dX9_adds_9 rfl 0 rfl ?_
  refine gf_X9_35 (x := (some (b + 413))) B (lKA (hk_K hK 405 rfl rfl)) (rR_at 405 11 hR_405_11) dX9_adds_10 ?_
  refine z_iload_n B dX9_adds_13 rfl 1 rfl ?_
  refine z_iald (j := 0) (x := 0) B (lKA (hk_K hK 413 rfl rfl)) (by decide) (in_of (lNA (hk_N hK 413 rfl rfl)) (show ¬ ((0 : Int32) < 0 ∨ 41 ≤ (0 : Int32).toNatClampNeg) by decide)) (rI_at 413 0 hI_413_0) dX9_adds_14 ?_
  refine z_iadd B dX9_adds_15 ?_
  refine z_seti (y := 0) (by decide) ?_
  refine z_iload_n B dX9_adds_16 rfl 2 rfl ?_
  refine z_iast (j := 0) (σ' := (ap b σ [(416, 0, 0)] [] [])) B (lKA (hk_K hK 416 rfl rfl)) (by decide) (in_of (lNA (hk_N hK 416 rfl rfl)) (show ¬ ((0 : Int32) < 0 ∨ 6560 ≤ (0 : Int32).toNatClampNeg) by decide)) wI_ap dX9_adds_17 ?_
  refine z_aload_n B dX9_adds_18 rfl 0 rfl ?_
  refine gf_X9_47 (x := (some (b + 417))) B (lKA (hk_K hK 405 rfl rfl)) (rR_at 405 15 hR_405_15) dX9_adds_19 ?_
  refine z_sipush (v := 160) B dX9_adds_22 (by decide) ?_
  refine z_iload_n B dX9_adds_25 rfl 1 rfl ?_
  refine z_imul B dX9_adds_26 ?_
  refine z_seti (y := 0) (by decide) ?_
  refine z_aload_n B dX9_adds_27 rfl 0 rfl ?_
  refine gf_X9_35 (x := (some (b + 413))) B (lKA (hk_K hK 405 rfl rfl)) (rR_at 405 11 hR_405_11) dX9_adds_28 ?_
  refine z_iload_n B dX9_adds_31 rfl 1 rfl ?_
  refine z_iald (j := 0) (x := 0) B (lKA (hk_K hK 413 rfl rfl)) (by decide) (in_of (lNA (hk_N hK 413 rfl rfl)) (show ¬ ((0 : Int32) < 0 ∨ 41 ≤ (0 : Int32).toNatClampNeg) by decide)) (rI_at 413 0 hI_413_0) dX9_adds_32 ?_
  refine z_iadd B dX9_adds_33 ?_
  refine z_seti (y := 0) (by decide) ?_
  refine z_lload_n B dX9_adds_34 rfl 3 rfl ?_
  refine z_last (j := 0) (σ' := (ap b σ [(416, 0, 0)] [(417, 0, w1)] [])) B (lKA (hk_K hK 417 rfl rfl)) (by decide) (in_of (lNA (hk_N hK 417 rfl rfl)) (show ¬ ((0 : Int32) < 0 ∨ 6560 ≤ (0 : Int32).toNatClampNeg) by decide)) wJ_ap dX9_adds_35 ?_
  refine z_aload_n B dX9_adds_36 rfl 0 rfl ?_
  refine gf_X9_35 (x := (some (b + 413))) B (lKA (hk_K hK 405 rfl rfl)) (rR_at 405 11 hR_405_11) dX9_adds_37 ?_
  refine z_iload_n B dX9_adds_40 rfl 1 rfl ?_
  refine z_dup2 B dX9_adds_41 rfl rfl ?_
  refine z_iald (j := 0) (x := 0) B (lKA (hk_K hK 413 rfl rfl)) (by decide) (in_of (lNA (hk_N hK 413 rfl rfl)) (show ¬ ((0 : Int32) < 0 ∨ 41 ≤ (0 : Int32).toNatClampNeg) by decide)) (rI_at 413 0 hI_413_0) dX9_adds_42 ?_
  refine z_iconst (v := 1) B dX9_adds_43 (by decide) ?_
  refine z_iadd B dX9_adds_44 ?_
  refine z_seti (y := 1) (by decide) ?_
  refine z_iast (j := 0) (σ' := (ap b σ [(413, 0, 1), (416, 0, 0)] [(417, 0, w1)] [])) B (lKA (hk_K hK 413 rfl rfl)) (by decide) (in_of (lNA (hk_N hK 413 rfl rfl)) (show ¬ ((0 : Int32) < 0 ∨ 41 ≤ (0 : Int32).toNatClampNeg) by decide)) wI_ap dX9_adds_45 ?_
  exact z_vret B hr (by decide) (by decide) dX9_adds_46 rfl
set_option maxRecDepth 100000 in
set_option maxHeartbeats 4000000 in
theorem ci_X9_begets_705 (l : Launch) {g : gx_T} {σ : sx_T} {b : Nat} (hK : lay b σ) (w1 : Int32)  (hI_405_6 : sx_I σ (b + 405) 6 = 0) (hI_413_0 : sx_I σ (b + 413) 0 = 0) (hR_405_7 : sx_R σ (b + 405) 7 = (some (b + 409))) (hR_405_8 : sx_R σ (b + 405) 8 = (some (b + 410))) (hR_405_9 : sx_R σ (b + 405) 9 = (some (b + 411))) (hR_405_11 : sx_R σ (b + 405) 11 = (some (b + 413))) (hR_405_13 : sx_R σ (b + 405) 13 = (some (b + 415))) (hR_405_14 : sx_R σ (b + 405) 14 = (some (b + 416))) (hR_405_15 : sx_R σ (b + 405) 15 = (some (b + 417))) : Met l yX9_begets (.code yX9_begets cX9_begets 6 (some .int) :: lw_g) { frames := 1, cells := 0, slots := 0, locals := 24 } (va_Pc [.ref (b + 405), .int 0, .int w1, .int (-1), .int (-1)] (zx_w g σ)) (va_Qi (fun r u => r = 0 ∧ u = (ap b σ [(413, 0, 1), (416, 0, 0), (415, 0, (-1)), (411, 0, 0), (410, 0, (-1)), (409, 0, 0), (405, 6, 1)] [(417, 0, (w1.toInt64))] [])) (zx_w g) (gx_Q g)) 0 0 (gx_Q g) := by
  refine z_met (by decide) (Nat.le_of_ble_eq_true rfl) (fun p e s m below meth c B hr hin => ?_)
  refine z_eqs (σ' := (ap b σ [] [] [])) rfl ?_
  show zx p l e _ s m _ below meth c g 6 0 0 _ _ 0 [(0, .ref (b + 405)), (1, .int 0), (2, .int w1), (3, .int (-1)), (4, .int (-1))] []
  refine z_aload_n B dX9_begets_0 rfl 0 rfl ?_
  refine gf_X9_93 (x := 0) B (lKA (hk_K hK 405 rfl rfl)) (rI_at 405 6 hI_405_6) dX9_begets_1 ?_
  refine z_bipush (v := 40) B dX9_begets_4 (by decide) ?_
  refine z_icmp_ne (tgt := 11) B dX9_begets_6 (by decide) (fun _ => ?_) (fun h => absurd h (by decide))
  refine z_aload_n B dX9_begets_11 rfl 0 rfl ?_
  refine gf_X9_93 (x := 0) B (lKA (hk_K hK 405 rfl rfl)) (rI_at 405 6 hI_405_6) dX9_begets_12 ?_
  refine z_istore (lv' := [(5, .int 0), (0, .ref (b + 405)), (1, .int 0), (2, .int w1), (3, .int (-1)), (4, .int (-1))]) B dX9_begets_15 (by decide) rfl ?_
  refine z_aload_n B dX9_begets_17 rfl 1 rfl ?_
  refine z_dup B dX9_begets_18 rfl ?_
  refine gf_X9_93 (x := 0) B (lKA (hk_K hK 405 rfl rfl)) (rI_at 405 6 hI_405_6) dX9_begets_19 ?_
  refine z_iconst (v := 1) B dX9_begets_22 (by decide) ?_
  refine z_iadd B dX9_begets_23 ?_
  refine z_seti (y := 1) (by decide) ?_
  refine pf_X9_93 (x := 1) (σ' := (ap b σ [(405, 6, 1)] [] [])) B (lKA (hk_K hK 405 rfl rfl)) wI_ap dX9_begets_24 ?_
  refine z_aload_n B dX9_begets_27 rfl 1 rfl ?_
  refine gf_X9_23 (x := (some (b + 409))) B (lKA (hk_K hK 405 rfl rfl)) (rR_at 405 7 hR_405_7) dX9_begets_28 ?_
  refine z_iload B dX9_begets_31 0 rfl ?_
  refine z_iload_n B dX9_begets_33 rfl 2 rfl ?_
  refine z_iast (j := 0) (σ' := (ap b σ [(409, 0, 0), (405, 6, 1)] [] [])) B (lKA (hk_K hK 409 rfl rfl)) (by decide) (in_of (lNA (hk_N hK 409 rfl rfl)) (show ¬ ((0 : Int32) < 0 ∨ 41 ≤ (0 : Int32).toNatClampNeg) by decide)) wI_ap dX9_begets_34 ?_
  refine z_aload_n B dX9_begets_35 rfl 1 rfl ?_
  refine gf_X9_26 (x := (some (b + 410))) B (lKA (hk_K hK 405 rfl rfl)) (rR_at 405 8 hR_405_8) dX9_begets_36 ?_
  refine z_iload B dX9_begets_39 0 rfl ?_
  refine z_iload_n B dX9_begets_41 rfl 4 rfl ?_
  refine z_iast (j := 0) (σ' := (ap b σ [(410, 0, (-1)), (409, 0, 0), (405, 6, 1)] [] [])) B (lKA (hk_K hK 410 rfl rfl)) (by decide) (in_of (lNA (hk_N hK 410 rfl rfl)) (show ¬ ((0 : Int32) < 0 ∨ 41 ≤ (0 : Int32).toNatClampNeg) by decide)) wI_ap dX9_begets_42 ?_
  refine z_aload_n B dX9_begets_43 rfl 1 rfl ?_
  refine gf_X9_29 (x := (some (b + 411))) B (lKA (hk_K hK 405 rfl rfl)) (rR_at 405 9 hR_405_9) dX9_begets_44 ?_
  refine z_iload B dX9_begets_47 0 rfl ?_
  refine z_iload B dX9_begets_49 5 rfl ?_
  refine z_iconst (v := (-1)) B dX9_begets_51 (by decide) ?_
  refine z_icmp_ne (tgt := 60) B dX9_begets_52 (by decide) (fun h => absurd (by decide) h) (fun _ => ?_)
  refine z_iload B dX9_begets_55 0 rfl ?_
  refine z_goto (tgt := 62) B dX9_begets_57 (by decide) ?_
  refine z_iast (j := 0) (σ' := (ap b σ [(411, 0, 0), (410, 0, (-1)), (409, 0, 0), (405, 6, 1)] [] [])) B (lKA (hk_K hK 411 rfl rfl)) (by decide) (in_of (lNA (hk_N hK 411 rfl rfl)) (show ¬ ((0 : Int32) < 0 ∨ 41 ≤ (0 : Int32).toNatClampNeg) by decide)) wI_ap dX9_begets_62 ?_
  refine z_aload_n B dX9_begets_63 rfl 1 rfl ?_
  refine gf_X9_41 (x := (some (b + 415))) B (lKA (hk_K hK 405 rfl rfl)) (rR_at 405 13 hR_405_13) dX9_begets_64 ?_
  refine z_iload B dX9_begets_67 0 rfl ?_
  refine z_iconst (v := (-1)) B dX9_begets_69 (by decide) ?_
  refine z_iast (j := 0) (σ' := (ap b σ [(415, 0, (-1)), (411, 0, 0), (410, 0, (-1)), (409, 0, 0), (405, 6, 1)] [] [])) B (lKA (hk_K hK 415 rfl rfl)) (by decide) (in_of (lNA (hk_N hK 415 rfl rfl)) (show ¬ ((0 : Int32) < 0 ∨ 41 ≤ (0 : Int32).toNatClampNeg) by decide)) wI_ap dX9_begets_70 ?_
  refine z_aload_n B dX9_begets_71 rfl 1 rfl ?_
  refine z_iload B dX9_begets_72 0 rfl ?_
  refine z_iconst (v := 0) B dX9_begets_74 (by decide) ?_
  refine z_iload_n B dX9_begets_75 rfl 3 rfl ?_
  refine z_i2l B dX9_begets_76 rfl ?_
  refine z_cVv (As := [.int 0, .int 0, .long (w1.toInt64)]) (rest := []) B cw_X9_143 cx_10 dX9_begets_77 (ci_X9_adds_704 l (σ := (ap b σ [(415, 0, (-1)), (411, 0, 0), (410, 0, (-1)), (409, 0, 0), (405, 6, 1)] [] [])) (b := b) (lyA hK) (w1.toInt64) (rI_at 413 0 hI_413_0) (rR_at 405 11 hR_405_11) (rR_at 405 14 hR_405_14) (rR_at 405 15 hR_405_15)) (lKA (hk_K hK 405 rfl rfl)) rfl (by decide) rfl (Nat.le_of_ble_eq_true rfl) (by decide) (fun u hu => ?_)
  refine z_eqs (σ' := (ap b σ [(413, 0, 1), (416, 0, 0), (415, 0, (-1)), (411, 0, 0), (410, 0, (-1)), (409, 0, 0), (405, 6, 1)] [(417, 0, (w1.toInt64))] [])) (hu.trans ap_ap) ?_
  show zx p l e _ s m _ below meth c g 6 0 0 _ _ 80 [(5, .int 0), (0, .ref (b + 405)), (1, .int 0), (2, .int w1), (3, .int (-1)), (4, .int (-1))] _
  refine z_iload B dX9_begets_80 0 rfl ?_
  exact z_iret B hr (by decide) (by decide) dX9_begets_82 ⟨rfl, rfl⟩
set_option maxRecDepth 100000 in
set_option maxHeartbeats 4000000 in
theorem ci_X9_begins_706 (l : Launch) {g : gx_T} {σ : sx_T} {b : Nat} (hK : lay b σ)    : Met l yX9_begins (.code yX9_begins cX9_begins 1 none :: lw_g) { frames := 0, cells := 0, slots := 0, locals := 0 } (va_Pc [.ref (b + 405)] (zx_w g σ)) (va_Qv (fun u => u = (ap b σ [(405, 39, 0), (405, 38, 0), (405, 37, 0), (405, 36, 0), (405, 35, 0), (405, 34, 0), (405, 32, 0), (405, 31, 0), (405, 30, 0), (405, 29, 0), (405, 28, 0), (405, 27, 0), (405, 26, 1)] [] [])) (zx_w g) (gx_Q g)) 0 0 (gx_Q g) := by
  refine z_met (by decide) (Nat.le_of_ble_eq_true rfl) (fun p e s m below meth c B hr hin => ?_)
  refine z_eqs (σ' := (ap b σ [] [] [])) rfl ?_
  show zx p l e _ s m _ below meth c g 1 0 0 _ _ 0 [(0, .ref (b + 405))] []
  refine z_aload_n B dX9_begins_0 rfl 0 rfl ?_
  refine z_iconst (v := 1) B dX9_begins_1 (by decide) ?_
  refine pf_X9_103 (x := 1) (σ' := (ap b σ [(405, 26, 1)] [] [])) B (by decide) (lKA (hk_K hK 405 rfl rfl)) wI_ap dX9_begins_2 ?_
  refine z_aload_n B dX9_begins_5 rfl 0 rfl ?_
  refine z_iconst (v := 0) B dX9_begins_6 (by decide) ?_
  refine pf_X9_107 (x := 0) (σ' := (ap b σ [(405, 27, 0), (405, 26, 1)] [] [])) B (lKA (hk_K hK 405 rfl rfl)) wI_ap dX9_begins_7 ?_
  refine z_aload_n B dX9_begins_10 rfl 0 rfl ?_
  refine z_iconst (v := 0) B dX9_begins_11 (by decide) ?_
  refine pf_X9_110 (x := 0) (σ' := (ap b σ [(405, 28, 0), (405, 27, 0), (405, 26, 1)] [] [])) B (lKA (hk_K hK 405 rfl rfl)) wI_ap dX9_begins_12 ?_
  refine z_aload_n B dX9_begins_15 rfl 0 rfl ?_
  refine z_iconst (v := 0) B dX9_begins_16 (by decide) ?_
  refine pf_X9_113 (x := 0) (σ' := (ap b σ [(405, 29, 0), (405, 28, 0), (405, 27, 0), (405, 26, 1)] [] [])) B (lKA (hk_K hK 405 rfl rfl)) wI_ap dX9_begins_17 ?_
  refine z_aload_n B dX9_begins_20 rfl 0 rfl ?_
  refine z_iconst (v := 0) B dX9_begins_21 (by decide) ?_
  refine pf_X9_116 (x := 0) (σ' := (ap b σ [(405, 30, 0), (405, 29, 0), (405, 28, 0), (405, 27, 0), (405, 26, 1)] [] [])) B (lKA (hk_K hK 405 rfl rfl)) wI_ap dX9_begins_22 ?_
  refine z_aload_n B dX9_begins_25 rfl 0 rfl ?_
  refine z_iconst (v := 0) B dX9_begins_26 (by decide) ?_
  refine pf_X9_119 (x := 0) (σ' := (ap b σ [(405, 31, 0), (405, 30, 0), (405, 29, 0), (405, 28, 0), (405, 27, 0), (405, 26, 1)] [] [])) B (lKA (hk_K hK 405 rfl rfl)) wI_ap dX9_begins_27 ?_
  refine z_aload_n B dX9_begins_30 rfl 0 rfl ?_
  refine z_iconst (v := 0) B dX9_begins_31 (by decide) ?_
  refine pf_X9_122 (x := 0) (σ' := (ap b σ [(405, 32, 0), (405, 31, 0), (405, 30, 0), (405, 29, 0), (405, 28, 0), (405, 27, 0), (405, 26, 1)] [] [])) B (lKA (hk_K hK 405 rfl rfl)) wI_ap dX9_begins_32 ?_
  refine z_aload_n B dX9_begins_35 rfl 0 rfl ?_
  refine z_iconst (v := 0) B dX9_begins_36 (by decide) ?_
  refine pf_X9_125 (x := 0) (σ' := (ap b σ [(405, 34, 0), (405, 32, 0), (405, 31, 0), (405, 30, 0), (405, 29, 0), (405, 28, 0), (405, 27, 0), (405, 26, 1)] [] [])) B (by decide) (lKA (hk_K hK 405 rfl rfl)) wI_ap dX9_begins_37 ?_
  refine z_aload_n B dX9_begins_40 rfl 0 rfl ?_
  refine z_iconst (v := 0) B dX9_begins_41 (by decide) ?_
  refine pf_X9_128 (x := 0) (σ' := (ap b σ [(405, 35, 0), (405, 34, 0), (405, 32, 0), (405, 31, 0), (405, 30, 0), (405, 29, 0), (405, 28, 0), (405, 27, 0), (405, 26, 1)] [] [])) B (by decide) (lKA (hk_K hK 405 rfl rfl)) wI_ap dX9_begins_42 ?_
  refine z_aload_n B dX9_begins_45 rfl 0 rfl ?_
  refine z_iconst (v := 0) B dX9_begins_46 (by decide) ?_
  refine pf_X9_131 (x := 0) (σ' := (ap b σ [(405, 36, 0), (405, 35, 0), (405, 34, 0), (405, 32, 0), (405, 31, 0), (405, 30, 0), (405, 29, 0), (405, 28, 0), (405, 27, 0), (405, 26, 1)] [] [])) B (lKA (hk_K hK 405 rfl rfl)) wI_ap dX9_begins_47 ?_
  refine z_aload_n B dX9_begins_50 rfl 0 rfl ?_
  refine z_iconst (v := 0) B dX9_begins_51 (by decide) ?_
  refine pf_X9_134 (x := 0) (σ' := (ap b σ [(405, 37, 0), (405, 36, 0), (405, 35, 0), (405, 34, 0), (405, 32, 0), (405, 31, 0), (405, 30, 0), (405, 29, 0), (405, 28, 0), (405, 27, 0), (405, 26, 1)] [] [])) B (lKA (hk_K hK 405 rfl rfl)) wI_ap dX9_begins_52 ?_
  refine z_aload_n B dX9_begins_55 rfl 0 rfl ?_
  refine z_iconst (v := 0) B dX9_begins_56 (by decide) ?_
  refine pf_X9_137 (x := 0) (σ' := (ap b σ [(405, 38, 0), (405, 37, 0), (405, 36, 0), (405, 35, 0), (405, 34, 0), (405, 32, 0), (405, 31, 0), (405, 30, 0), (405, 29, 0), (405, 28, 0), (405, 27, 0), (405, 26, 1)] [] [])) B (lKA (hk_K hK 405 rfl rfl)) wI_ap dX9_begins_57 ?_
  refine z_aload_n B dX9_begins_60 rfl 0 rfl ?_
  refine z_iconst (v := 0) B dX9_begins_61 (by decide) ?_
  refine pf_X9_140 (x := 0) (σ' := (ap b σ [(405, 39, 0), (405, 38, 0), (405, 37, 0), (405, 36, 0), (405, 35, 0), (405, 34, 0), (405, 32, 0), (405, 31, 0), (405, 30, 0), (405, 29, 0), (405, 28, 0), (405, 27, 0), (405, 26, 1)] [] [])) B (lKA (hk_K hK 405 rfl rfl)) wI_ap dX9_begins_62 ?_
  exact z_vret B hr (by decide) (by decide) dX9_begins_65 rfl
set_option maxRecDepth 100000 in
set_option maxHeartbeats 4000000 in
theorem ci_X9_isBounded_707 (l : Launch) {g : gx_T} {σ : sx_T} {b : Nat} (hK : lay b σ)    : Met l yX9_isBounded (.code yX9_isBounded cX9_isBounded 1 (some .boolean) :: lw_g) { frames := 0, cells := 0, slots := 0, locals := 0 } (va_Pc [.int 0] (zx_w g σ)) (va_Qi (fun r u => r = 0 ∧ u = σ) (zx_w g) (gx_Q g)) 0 0 (gx_Q g) := by
  refine z_met (by decide) (Nat.le_of_ble_eq_true rfl) (fun p e s m below meth c B hr hin => ?_)
  refine z_eqs (σ' := (ap b σ [] [] [])) rfl ?_
  show zx p l e _ s m _ below meth c g 1 0 0 _ _ 0 [(0, .int 0)] []
  refine z_iload_n B dX9_isBounded_0 rfl 0 rfl ?_
  refine z_iconst (v := 1) B dX9_isBounded_1 (by decide) ?_
  refine z_icmp_eq (tgt := 45) B dX9_isBounded_2 (by decide) (fun h => absurd h (by decide)) (fun _ => ?_)
  refine z_iload_n B dX9_isBounded_5 rfl 0 rfl ?_
  refine z_iconst (v := 2) B dX9_isBounded_6 (by decide) ?_
  refine z_icmp_eq (tgt := 45) B dX9_isBounded_7 (by decide) (fun h => absurd h (by decide)) (fun _ => ?_)
  refine z_iload_n B dX9_isBounded_10 rfl 0 rfl ?_
  refine z_iconst (v := 4) B dX9_isBounded_11 (by decide) ?_
  refine z_icmp_eq (tgt := 45) B dX9_isBounded_12 (by decide) (fun h => absurd h (by decide)) (fun _ => ?_)
  refine z_iload_n B dX9_isBounded_15 rfl 0 rfl ?_
  refine z_bipush (v := 9) B dX9_isBounded_16 (by decide) ?_
  refine z_icmp_eq (tgt := 45) B dX9_isBounded_18 (by decide) (fun h => absurd h (by decide)) (fun _ => ?_)
  refine z_iload_n B dX9_isBounded_21 rfl 0 rfl ?_
  refine z_bipush (v := 10) B dX9_isBounded_22 (by decide) ?_
  refine z_icmp_eq (tgt := 45) B dX9_isBounded_24 (by decide) (fun h => absurd h (by decide)) (fun _ => ?_)
  refine z_iload_n B dX9_isBounded_27 rfl 0 rfl ?_
  refine z_bipush (v := 11) B dX9_isBounded_28 (by decide) ?_
  refine z_icmp_eq (tgt := 45) B dX9_isBounded_30 (by decide) (fun h => absurd h (by decide)) (fun _ => ?_)
  refine z_iload_n B dX9_isBounded_33 rfl 0 rfl ?_
  refine z_bipush (v := 14) B dX9_isBounded_34 (by decide) ?_
  refine z_icmp_eq (tgt := 45) B dX9_isBounded_36 (by decide) (fun h => absurd h (by decide)) (fun _ => ?_)
  refine z_iload_n B dX9_isBounded_39 rfl 0 rfl ?_
  refine z_bipush (v := 17) B dX9_isBounded_40 (by decide) ?_
  refine z_icmp_ne (tgt := 49) B dX9_isBounded_42 (by decide) (fun _ => ?_) (fun h => absurd h (by decide))
  refine z_iconst (v := 0) B dX9_isBounded_49 (by decide) ?_
  exact z_zret B hr (by decide) (by decide) (by decide) dX9_isBounded_50 ⟨rfl, rfl⟩
set_option maxRecDepth 100000 in
set_option maxHeartbeats 4000000 in
theorem ci_X9_adds_708 (l : Launch) {g : gx_T} {σ : sx_T} {b : Nat} (hK : lay b σ) (w1 : Int64)  (hI_413_0 : sx_I σ (b + 413) 0 = 1) (hR_405_11 : sx_R σ (b + 405) 11 = (some (b + 413))) (hR_405_14 : sx_R σ (b + 405) 14 = (some (b + 416))) (hR_405_15 : sx_R σ (b + 405) 15 = (some (b + 417))) : Met l yX9_adds (.code yX9_adds cX9_adds 5 none :: lw_g) { frames := 0, cells := 0, slots := 0, locals := 0 } (va_Pc [.ref (b + 405), .int 0, .int 13, .long w1] (zx_w g σ)) (va_Qv (fun u => u = (ap b σ [(413, 0, 2), (416, 1, 13)] [(417, 1, w1)] [])) (zx_w g) (gx_Q g)) 0 0 (gx_Q g) := by
  refine z_met (by decide) (Nat.le_of_ble_eq_true rfl) (fun p e s m below meth c B hr hin => ?_)
  refine z_eqs (σ' := (ap b σ [] [] [])) rfl ?_
  show zx p l e _ s m _ below meth c g 5 0 0 _ _ 0 [(0, .ref (b + 405)), (1, .int 0), (2, .int 13), (3, .long w1)] []
  refine z_aload_n B dX9_adds_0 rfl 0 rfl ?_
  refine gf_X9_44 (x := (some (b + 416))) B (lKA (hk_K hK 405 rfl rfl)) (rR_at 405 14 hR_405_14) dX9_adds_1 ?_
  refine z_sipush (v := 160) B dX9_adds_4 (by decide) ?_
  refine z_iload_n B dX9_adds_7 rfl 1 rfl ?_
  refine z_imul B dX9_adds_8 ?_
  refine z_seti (y := 0) (by decide) ?_
  refine z_aload_n B dX9_adds_9 rfl 0 rfl ?_
  refine gf_X9_35 (x := (some (b + 413))) B (lKA (hk_K hK 405 rfl rfl)) (rR_at 405 11 hR_405_11) dX9_adds_10 ?_
  refine z_iload_n B dX9_adds_13 rfl 1 rfl ?_
  refine z_iald (j := 0) (x := 1) B (lKA (hk_K hK 413 rfl rfl)) (by decide) (in_of (lNA (hk_N hK 413 rfl rfl)) (show ¬ ((0 : Int32) < 0 ∨ 41 ≤ (0 : Int32).toNatClampNeg) by decide)) (rI_at 413 0 hI_413_0) dX9_adds_14 ?_
  refine z_iadd B dX9_adds_15 ?_
  refine z_seti (y := 1) (by decide) ?_
  refine z_iload_n B dX9_adds_16 rfl 2 rfl ?_
  refine z_iast (j := 1) (σ' := (ap b σ [(416, 1, 13)] [] [])) B (lKA (hk_K hK 416 rfl rfl)) (by decide) (in_of (lNA (hk_N hK 416 rfl rfl)) (show ¬ ((1 : Int32) < 0 ∨ 6560 ≤ (1 : Int32).toNatClampNeg) by decide)) wI_ap dX9_adds_17 ?_
  refine z_aload_n B dX9_adds_18 rfl 0 rfl ?_
  refine gf_X9_47 (x := (some (b + 417))) B (lKA (hk_K hK 405 rfl rfl)) (rR_at 405 15 hR_405_15) dX9_adds_19 ?_
  refine z_sipush (v := 160) B dX9_adds_22 (by decide) ?_
  refine z_iload_n B dX9_adds_25 rfl 1 rfl ?_
  refine z_imul B dX9_adds_26 ?_
  refine z_seti (y := 0) (by decide) ?_
  refine z_aload_n B dX9_adds_27 rfl 0 rfl ?_
  refine gf_X9_35 (x := (some (b + 413))) B (lKA (hk_K hK 405 rfl rfl)) (rR_at 405 11 hR_405_11) dX9_adds_28 ?_
  refine z_iload_n B dX9_adds_31 rfl 1 rfl ?_
  refine z_iald (j := 0) (x := 1) B (lKA (hk_K hK 413 rfl rfl)) (by decide) (in_of (lNA (hk_N hK 413 rfl rfl)) (show ¬ ((0 : Int32) < 0 ∨ 41 ≤ (0 : Int32).toNatClampNeg) by decide)) (rI_at 413 0 hI_413_0) dX9_adds_32 ?_
  refine z_iadd B dX9_adds_33 ?_
  refine z_seti (y := 1) (by decide) ?_
  refine z_lload_n B dX9_adds_34 rfl 3 rfl ?_
  refine z_last (j := 1) (σ' := (ap b σ [(416, 1, 13)] [(417, 1, w1)] [])) B (lKA (hk_K hK 417 rfl rfl)) (by decide) (in_of (lNA (hk_N hK 417 rfl rfl)) (show ¬ ((1 : Int32) < 0 ∨ 6560 ≤ (1 : Int32).toNatClampNeg) by decide)) wJ_ap dX9_adds_35 ?_
  refine z_aload_n B dX9_adds_36 rfl 0 rfl ?_
  refine gf_X9_35 (x := (some (b + 413))) B (lKA (hk_K hK 405 rfl rfl)) (rR_at 405 11 hR_405_11) dX9_adds_37 ?_
  refine z_iload_n B dX9_adds_40 rfl 1 rfl ?_
  refine z_dup2 B dX9_adds_41 rfl rfl ?_
  refine z_iald (j := 0) (x := 1) B (lKA (hk_K hK 413 rfl rfl)) (by decide) (in_of (lNA (hk_N hK 413 rfl rfl)) (show ¬ ((0 : Int32) < 0 ∨ 41 ≤ (0 : Int32).toNatClampNeg) by decide)) (rI_at 413 0 hI_413_0) dX9_adds_42 ?_
  refine z_iconst (v := 1) B dX9_adds_43 (by decide) ?_
  refine z_iadd B dX9_adds_44 ?_
  refine z_seti (y := 2) (by decide) ?_
  refine z_iast (j := 0) (σ' := (ap b σ [(413, 0, 2), (416, 1, 13)] [(417, 1, w1)] [])) B (lKA (hk_K hK 413 rfl rfl)) (by decide) (in_of (lNA (hk_N hK 413 rfl rfl)) (show ¬ ((0 : Int32) < 0 ∨ 41 ≤ (0 : Int32).toNatClampNeg) by decide)) wI_ap dX9_adds_45 ?_
  exact z_vret B hr (by decide) (by decide) dX9_adds_46 rfl
set_option maxRecDepth 100000 in
set_option maxHeartbeats 4000000 in
theorem ci_X9_meets_709 (l : Launch) {g : gx_T} {σ : sx_T} {b : Nat} (hK : lay b σ) (w1 : Int64)  (hI_405_27 : sx_I σ (b + 405) 27 = 1) (hI_413_0 : sx_I σ (b + 413) 0 = 1) (hR_405_11 : sx_R σ (b + 405) 11 = (some (b + 413))) (hR_405_14 : sx_R σ (b + 405) 14 = (some (b + 416))) (hR_405_15 : sx_R σ (b + 405) 15 = (some (b + 417))) : Met l yX9_meets (.code yX9_meets cX9_meets 8 (some .boolean) :: lw_g) { frames := 1, cells := 0, slots := 0, locals := 24 } (va_Pc [.ref (b + 405), .int 0, .int 1, .int 1, .int 13, .long w1, .int 0] (zx_w g σ)) (va_Qi (fun r u => r = 1 ∧ u = (ap b σ [(405, 27, 2), (413, 0, 2), (416, 1, 13)] [(417, 1, w1)] [])) (zx_w g) (gx_Q g)) 0 0 (gx_Q g) := by
  refine z_met (by decide) (Nat.le_of_ble_eq_true rfl) (fun p e s m below meth c B hr hin => ?_)
  refine z_eqs (σ' := (ap b σ [] [] [])) rfl ?_
  show zx p l e _ s m _ below meth c g 8 0 0 _ _ 0 [(0, .ref (b + 405)), (1, .int 0), (2, .int 1), (3, .int 1), (4, .int 13), (5, .long w1), (7, .int 0)] []
  refine z_aload_n B dX9_meets_0 rfl 0 rfl ?_
  refine gf_X9_107 (x := 1) B (lKA (hk_K hK 405 rfl rfl)) (rI_at 405 27 hI_405_27) dX9_meets_1 ?_
  refine z_iload_n B dX9_meets_4 rfl 2 rfl ?_
  refine z_icmp_ge (tgt := 78) B dX9_meets_5 (by decide) (fun _ => ?_) (fun h => absurd (by decide) h)
  refine z_iload_n B dX9_meets_78 rfl 3 rfl ?_
  refine z_if_eq (tgt := 101) B dX9_meets_79 (by decide) (fun h => absurd h (by decide)) (fun _ => ?_)
  refine z_aload_n B dX9_meets_82 rfl 0 rfl ?_
  refine z_iload_n B dX9_meets_83 rfl 1 rfl ?_
  refine z_iload B dX9_meets_84 4 rfl ?_
  refine z_lload B dX9_meets_86 5 rfl ?_
  refine z_cVv (As := [.int 0, .int 13, .long w1]) (rest := []) B cw_X9_143 cx_10 dX9_meets_88 (ci_X9_adds_708 l (σ := (ap b σ [] [] [])) (b := b) (lyA hK) w1 (rI_at 413 0 hI_413_0) (rR_at 405 11 hR_405_11) (rR_at 405 14 hR_405_14) (rR_at 405 15 hR_405_15)) (lKA (hk_K hK 405 rfl rfl)) rfl (by decide) rfl (Nat.le_of_ble_eq_true rfl) (by decide) (fun u hu => ?_)
  refine z_eqs (σ' := (ap b σ [(413, 0, 2), (416, 1, 13)] [(417, 1, w1)] [])) (hu.trans ap_ap) ?_
  show zx p l e _ s m _ below meth c g 8 0 0 _ _ 91 [(0, .ref (b + 405)), (1, .int 0), (2, .int 1), (3, .int 1), (4, .int 13), (5, .long w1), (7, .int 0)] _
  refine z_aload_n B dX9_meets_91 rfl 0 rfl ?_
  refine z_dup B dX9_meets_92 rfl ?_
  refine gf_X9_107 (x := 1) B (lKA (hk_K hK 405 rfl rfl)) (rI_at 405 27 hI_405_27) dX9_meets_93 ?_
  refine z_iconst (v := 1) B dX9_meets_96 (by decide) ?_
  refine z_iadd B dX9_meets_97 ?_
  refine z_seti (y := 2) (by decide) ?_
  refine pf_X9_107 (x := 2) (σ' := (ap b σ [(405, 27, 2), (413, 0, 2), (416, 1, 13)] [(417, 1, w1)] [])) B (lKA (hk_K hK 405 rfl rfl)) wI_ap dX9_meets_98 ?_
  refine z_iload_n B dX9_meets_101 rfl 3 rfl ?_
  exact z_zret B hr (by decide) (by decide) (by decide) dX9_meets_102 ⟨rfl, rfl⟩
set_option maxRecDepth 100000 in
set_option maxHeartbeats 4000000 in
theorem ci_X9_steps_710 (l : Launch) {g : gx_T} {σ : sx_T} {b : Nat} (hK : lay b σ) (w1 : Int32)  (hI_405_27 : sx_I σ (b + 405) 27 = 1) (hI_405_28 : sx_I σ (b + 405) 28 = 0) (hI_405_29 : sx_I σ (b + 405) 29 = w1) (hI_405_38 : sx_I σ (b + 405) 38 = 0) (hI_406_0 : sx_I σ (b + 406) 0 = 0) (hI_407_0 : sx_I σ (b + 407) 0 = 0) (hI_409_0 : sx_I σ (b + 409) 0 = 0) (hI_413_0 : sx_I σ (b + 413) 0 = 1) (hR_405_3 : sx_R σ (b + 405) 3 = (some (b + 406))) (hR_405_4 : sx_R σ (b + 405) 4 = (some (b + 407))) (hR_405_7 : sx_R σ (b + 405) 7 = (some (b + 409))) (hR_405_11 : sx_R σ (b + 405) 11 = (some (b + 413))) (hR_405_14 : sx_R σ (b + 405) 14 = (some (b + 416))) (hR_405_15 : sx_R σ (b + 405) 15 = (some (b + 417))) : Met l yX9_steps (.code yX9_steps cX9_steps 12 (some .boolean) :: lw_g) { frames := 2, cells := 0, slots := 0, locals := 51 } (va_Pc [.ref (b + 405), .int 0, .int 1, .int 1] (zx_w g σ)) (va_Qi (fun r u => r = 1 ∧ u = (ap b σ [(405, 37, 1), (405, 27, 2), (413, 0, 2), (416, 1, 13), (405, 28, 1), (405, 38, 1)] [(417, 1, ((10 * (w1.toInt64)) + 1))] [])) (zx_w g) (gx_Q g)) 0 0 (gx_Q g) := by
  refine z_met (by decide) (Nat.le_of_ble_eq_true rfl) (fun p e s m below meth c B hr hin => ?_)
  refine z_eqs (σ' := (ap b σ [] [] [])) rfl ?_
  show zx p l e _ s m _ below meth c g 12 0 0 _ _ 0 [(0, .ref (b + 405)), (1, .int 0), (2, .int 1), (3, .int 1)] []
  refine z_aload_n B dX9_steps_0 rfl 0 rfl ?_
  refine gf_X9_137 (x := 0) B (lKA (hk_K hK 405 rfl rfl)) (rI_at 405 38 hI_405_38) dX9_steps_1 ?_
  refine z_bipush (v := 60) B dX9_steps_4 (by decide) ?_
  refine z_icmp_ne (tgt := 16) B dX9_steps_6 (by decide) (fun _ => ?_) (fun h => absurd h (by decide))
  refine z_bipush (v := 20) B dX9_steps_16 (by decide) ?_
  refine z_aload_n B dX9_steps_18 rfl 0 rfl ?_
  refine gf_X9_23 (x := (some (b + 409))) B (lKA (hk_K hK 405 rfl rfl)) (rR_at 405 7 hR_405_7) dX9_steps_19 ?_
  refine z_iload_n B dX9_steps_22 rfl 1 rfl ?_
  refine z_iald (j := 0) (x := 0) B (lKA (hk_K hK 409 rfl rfl)) (by decide) (in_of (lNA (hk_N hK 409 rfl rfl)) (show ¬ ((0 : Int32) < 0 ∨ 41 ≤ (0 : Int32).toNatClampNeg) by decide)) (rI_at 409 0 hI_409_0) dX9_steps_23 ?_
  refine z_imul B dX9_steps_24 ?_
  refine z_seti (y := 0) (by decide) ?_
  refine z_aload_n B dX9_steps_25 rfl 0 rfl ?_
  refine gf_X9_110 (x := 0) B (lKA (hk_K hK 405 rfl rfl)) (rI_at 405 28 hI_405_28) dX9_steps_26 ?_
  refine z_iadd B dX9_steps_29 ?_
  refine z_seti (y := 0) (by decide) ?_
  refine z_istore (lv' := [(4, .int 0), (0, .ref (b + 405)), (1, .int 0), (2, .int 1), (3, .int 1)]) B dX9_steps_30 (by decide) rfl ?_
  refine z_aload_n B dX9_steps_32 rfl 1 rfl ?_
  refine gf_X9_13 (x := (some (b + 406))) B (lKA (hk_K hK 405 rfl rfl)) (rR_at 405 3 hR_405_3) dX9_steps_33 ?_
  refine z_iload B dX9_steps_36 0 rfl ?_
  refine z_iald (j := 0) (x := 0) B (lKA (hk_K hK 406 rfl rfl)) (by decide) (in_of (lNA (hk_N hK 406 rfl rfl)) (show ¬ ((0 : Int32) < 0 ∨ 120 ≤ (0 : Int32).toNatClampNeg) by decide)) (rI_at 406 0 hI_406_0) dX9_steps_38 ?_
  refine z_istore (lv' := [(5, .int 0), (4, .int 0), (0, .ref (b + 405)), (1, .int 0), (2, .int 1), (3, .int 1)]) B dX9_steps_39 (by decide) rfl ?_
  refine z_aload_n B dX9_steps_41 rfl 2 rfl ?_
  refine gf_X9_17 (x := (some (b + 407))) B (lKA (hk_K hK 405 rfl rfl)) (rR_at 405 4 hR_405_4) dX9_steps_42 ?_
  refine z_iload B dX9_steps_45 1 rfl ?_
  refine z_iald (j := 0) (x := 0) B (lKA (hk_K hK 407 rfl rfl)) (by decide) (in_of (lNA (hk_N hK 407 rfl rfl)) (show ¬ ((0 : Int32) < 0 ∨ 120 ≤ (0 : Int32).toNatClampNeg) by decide)) (rI_at 407 0 hI_407_0) dX9_steps_47 ?_
  refine z_istore (lv' := [(6, .int 0), (5, .int 0), (4, .int 0), (0, .ref (b + 405)), (1, .int 0), (2, .int 1), (3, .int 1)]) B dX9_steps_48 (by decide) rfl ?_
  refine z_aload_n B dX9_steps_50 rfl 3 rfl ?_
  refine gf_X9_107 (x := 1) B (lKA (hk_K hK 405 rfl rfl)) (rI_at 405 27 hI_405_27) dX9_steps_51 ?_
  refine z_iload_n B dX9_steps_54 rfl 5 rfl ?_
  refine z_icmp_lt (tgt := 62) B dX9_steps_55 (by decide) (fun h => absurd h (by decide)) (fun _ => ?_)
  refine z_iconst (v := 1) B dX9_steps_58 (by decide) ?_
  refine z_goto (tgt := 63) B dX9_steps_59 (by decide) ?_
  refine z_istore (lv' := [(7, .int 1), (6, .int 0), (5, .int 0), (4, .int 0), (0, .ref (b + 405)), (1, .int 0), (2, .int 1), (3, .int 1)]) B dX9_steps_63 (by decide) rfl ?_
  refine z_aload_n B dX9_steps_65 rfl 4 rfl ?_
  refine gf_X9_110 (x := 0) B (lKA (hk_K hK 405 rfl rfl)) (rI_at 405 28 hI_405_28) dX9_steps_66 ?_
  refine z_istore (lv' := [(8, .int 0), (7, .int 1), (6, .int 0), (5, .int 0), (4, .int 0), (0, .ref (b + 405)), (1, .int 0), (2, .int 1), (3, .int 1)]) B dX9_steps_69 (by decide) rfl ?_
  refine z_aload_n B dX9_steps_71 rfl 5 rfl ?_
  refine z_dup B dX9_steps_72 rfl ?_
  refine gf_X9_137 (x := 0) B (lKA (hk_K hK 405 rfl rfl)) (rI_at 405 38 hI_405_38) dX9_steps_73 ?_
  refine z_iconst (v := 1) B dX9_steps_76 (by decide) ?_
  refine z_iadd B dX9_steps_77 ?_
  refine z_seti (y := 1) (by decide) ?_
  refine pf_X9_137 (x := 1) (σ' := (ap b σ [(405, 38, 1)] [] [])) B (lKA (hk_K hK 405 rfl rfl)) wI_ap dX9_steps_78 ?_
  refine z_aload_n B dX9_steps_81 rfl 5 rfl ?_
  refine z_aload_n B dX9_steps_82 rfl 5 rfl ?_
  refine gf_X9_110 (x := 0) B (lKA (hk_K hK 405 rfl rfl)) (rI_at 405 28 hI_405_28) dX9_steps_83 ?_
  refine z_iconst (v := 1) B dX9_steps_86 (by decide) ?_
  refine z_iadd B dX9_steps_87 ?_
  refine z_seti (y := 1) (by decide) ?_
  refine z_bipush (v := 20) B dX9_steps_88 (by decide) ?_
  refine z_irem B dX9_steps_90 (by decide) ?_
  refine z_seti (y := 1) (by decide) ?_
  refine pf_X9_110 (x := 1) (σ' := (ap b σ [(405, 28, 1), (405, 38, 1)] [] [])) B (lKA (hk_K hK 405 rfl rfl)) wI_ap dX9_steps_91 ?_
  refine z_iload B dX9_steps_94 3 rfl ?_
  refine z_iconst (v := 3) B dX9_steps_96 (by decide) ?_
  refine z_icmp_eq (tgt := 106) B dX9_steps_97 (by decide) (fun h => absurd h (by decide)) (fun _ => ?_)
  refine z_iload B dX9_steps_100 3 rfl ?_
  refine z_iconst (v := 4) B dX9_steps_102 (by decide) ?_
  refine z_icmp_ne (tgt := 115) B dX9_steps_103 (by decide) (fun _ => ?_) (fun h => absurd h (by decide))
  refine z_iconst (v := (-1)) B dX9_steps_115 (by decide) ?_
  refine z_istore (lv' := [(9, .int (-1)), (8, .int 0), (7, .int 1), (6, .int 0), (5, .int 0), (4, .int 0), (0, .ref (b + 405)), (1, .int 0), (2, .int 1), (3, .int 1)]) B dX9_steps_116 (by decide) rfl ?_
  refine z_iload B dX9_steps_118 4 rfl ?_
  refine z_cSi (As := [.int 0]) (rest := []) B cw_X9_193 dX9_steps_120 (ci_X9_isBounded_707 l (σ := (ap b σ [(405, 28, 1), (405, 38, 1)] [] [])) (b := b) (lyA hK) ) rfl (by decide) rfl (Nat.le_of_ble_eq_true rfl) (by decide) (fun r u hu => ?_)
  refine z_eqs (σ' := (ap b σ [(405, 28, 1), (405, 38, 1)] [] [])) hu.2 ?_
  show zx p l e _ s m _ below meth c g 12 0 0 _ _ 123 [(9, .int (-1)), (8, .int 0), (7, .int 1), (6, .int 0), (5, .int 0), (4, .int 0), (0, .ref (b + 405)), (1, .int 0), (2, .int 1), (3, .int 1)] _
  refine z_seti (y := 0) hu.1 ?_
  refine z_if_eq (tgt := 141) B dX9_steps_123 (by decide) (fun _ => ?_) (fun h => absurd (by decide) h)
  refine z_iload B dX9_steps_141 4 rfl ?_
  refine z_bipush (v := 12) B dX9_steps_143 (by decide) ?_
  refine z_icmp_ne (tgt := 164) B dX9_steps_145 (by decide) (fun _ => ?_) (fun h => absurd h (by decide))
  refine z_iconst (v := 1) B dX9_steps_164 (by decide) ?_
  refine z_istore (lv' := [(10, .int 1), (9, .int (-1)), (8, .int 0), (7, .int 1), (6, .int 0), (5, .int 0), (4, .int 0), (0, .ref (b + 405)), (1, .int 0), (2, .int 1), (3, .int 1)]) B dX9_steps_165 (by decide) rfl ?_
  refine z_iload B dX9_steps_167 5 rfl ?_
  refine z_tableIn (tgt := 252) B dX9_steps_169 (by decide) (by decide) (show _ = some (83 : Int) by decide) (by decide) ?_
  refine z_aload_n B dX9_steps_252 rfl 7 rfl ?_
  refine z_iload_n B dX9_steps_253 rfl 8 rfl ?_
  refine z_iload_n B dX9_steps_254 rfl 9 rfl ?_
  refine z_iload_n B dX9_steps_255 rfl 10 rfl ?_
  refine z_bipush (v := 13) B dX9_steps_256 (by decide) ?_
  refine z_ldc2 (v := 10) B dX9_steps_258 wg_1247 ?_
  refine z_aload_n B dX9_steps_261 rfl 7 rfl ?_
  refine gf_X9_113 (x := w1) B (lKA (hk_K hK 405 rfl rfl)) (rI_at 405 29 hI_405_29) dX9_steps_262 ?_
  refine z_i2l B dX9_steps_265 rfl ?_
  refine z_lmul B dX9_steps_266 ?_
  refine z_lconst (v := 1) B dX9_steps_267 (by decide) ?_
  refine z_ladd B dX9_steps_268 ?_
  refine z_iconst (v := 0) B dX9_steps_269 (by decide) ?_
  refine z_cVi (As := [.int 0, .int 1, .int 1, .int 13, .long ((10 * (w1.toInt64)) + 1), .int 0]) (rest := []) B cw_X9_164 cx_10 dX9_steps_270 (ci_X9_meets_709 l (σ := (ap b σ [(405, 28, 1), (405, 38, 1)] [] [])) (b := b) (lyA hK) ((10 * (w1.toInt64)) + 1) (rI_at 405 27 hI_405_27) (rI_at 413 0 hI_413_0) (rR_at 405 11 hR_405_11) (rR_at 405 14 hR_405_14) (rR_at 405 15 hR_405_15)) (lKA (hk_K hK 405 rfl rfl)) rfl (by decide) rfl (Nat.le_of_ble_eq_true rfl) (by decide) (fun r u hu => ?_)
  refine z_eqs (σ' := (ap b σ [(405, 27, 2), (413, 0, 2), (416, 1, 13), (405, 28, 1), (405, 38, 1)] [(417, 1, ((10 * (w1.toInt64)) + 1))] [])) (hu.2.trans ap_ap) ?_
  show zx p l e _ s m _ below meth c g 12 0 0 _ _ 273 [(10, .int 1), (9, .int (-1)), (8, .int 0), (7, .int 1), (6, .int 0), (5, .int 0), (4, .int 0), (0, .ref (b + 405)), (1, .int 0), (2, .int 1), (3, .int 1)] _
  refine z_seti (y := 1) hu.1 ?_
  refine z_istore (lv' := [(10, .int 1), (9, .int (-1)), (8, .int 0), (7, .int 1), (6, .int 0), (5, .int 0), (4, .int 0), (0, .ref (b + 405)), (1, .int 0), (2, .int 1), (3, .int 1)]) B dX9_steps_273 (by decide) rfl ?_
  refine z_aload_n B dX9_steps_275 rfl 7 rfl ?_
  refine z_iload B dX9_steps_276 0 rfl ?_
  refine z_if_eq (tgt := 285) B dX9_steps_278 (by decide) (fun h => absurd h (by decide)) (fun _ => ?_)
  refine z_iconst (v := 1) B dX9_steps_281 (by decide) ?_
  refine z_goto (tgt := 286) B dX9_steps_282 (by decide) ?_
  refine pf_X9_134 (x := 1) (σ' := (ap b σ [(405, 37, 1), (405, 27, 2), (413, 0, 2), (416, 1, 13), (405, 28, 1), (405, 38, 1)] [(417, 1, ((10 * (w1.toInt64)) + 1))] [])) B (lKA (hk_K hK 405 rfl rfl)) wI_ap dX9_steps_286 ?_
  refine z_goto (tgt := 1085) B dX9_steps_289 (by decide) ?_
  refine z_iload B dX9_steps_1085 0 rfl ?_
  refine z_if_ne (tgt := 1113) B dX9_steps_1087 (by decide) (fun _ => ?_) (fun h => absurd h (by decide))
  refine z_iload B dX9_steps_1113 0 rfl ?_
  exact z_zret B hr (by decide) (by decide) (by decide) dX9_steps_1115 ⟨rfl, rfl⟩
set_option maxRecDepth 100000 in
set_option maxHeartbeats 4000000 in
theorem ci_X9_replays_711 (l : Launch) {g : gx_T} {σ : sx_T} {b : Nat} (hK : lay b σ) (w1 : Int64)  (hI_406_0 : sx_I σ (b + 406) 0 = 0) (hI_407_0 : sx_I σ (b + 407) 0 = 0) (hI_409_0 : sx_I σ (b + 409) 0 = 0) (hI_413_0 : sx_I σ (b + 413) 0 = 1) (hI_416_0 : sx_I σ (b + 416) 0 = 0) (hJ_417_0 : sx_J σ (b + 417) 0 = w1) (hR_405_3 : sx_R σ (b + 405) 3 = (some (b + 406))) (hR_405_4 : sx_R σ (b + 405) 4 = (some (b + 407))) (hR_405_7 : sx_R σ (b + 405) 7 = (some (b + 409))) (hR_405_11 : sx_R σ (b + 405) 11 = (some (b + 413))) (hR_405_14 : sx_R σ (b + 405) 14 = (some (b + 416))) (hR_405_15 : sx_R σ (b + 405) 15 = (some (b + 417))) : Met l yX9_replays (.code yX9_replays cX9_replays 5 (some .int) :: lw_g) { frames := 3, cells := 0, slots := 0, locals := 82 } (va_Pc [.ref (b + 405), .int 0, .int 1, .int 1] (zx_w g σ)) (va_Qi (fun r u => r = (-1) ∧ u = (ap b σ [(405, 26, 1), (405, 37, 1), (405, 27, 2), (413, 0, 2), (416, 1, 13), (405, 28, 1), (405, 38, 1), (405, 48, (-1)), (405, 27, 1), (405, 29, (w1.toInt32)), (405, 26, 1), (405, 47, 1), (405, 39, 0), (405, 38, 0), (405, 37, 0), (405, 36, 0), (405, 35, 0), (405, 34, 0), (405, 32, 0), (405, 31, 0), (405, 30, 0), (405, 29, 0), (405, 28, 0), (405, 27, 0), (405, 26, 1)] [(417, 1, ((10 * ((w1.toInt32).toInt64)) + 1))] [])) (zx_w g) (gx_Q g)) 0 0 (gx_Q g) := by
  refine z_met (by decide) (Nat.le_of_ble_eq_true rfl) (fun p e s m below meth c B hr hin => ?_)
  refine z_eqs (σ' := (ap b σ [] [] [])) rfl ?_
  show zx p l e _ s m _ below meth c g 5 0 0 _ _ 0 [(0, .ref (b + 405)), (1, .int 0), (2, .int 1), (3, .int 1)] []
  refine z_aload_n B dX9_replays_0 rfl 0 rfl ?_
  refine z_cVv (As := []) (rest := []) B cw_X9_175 cx_10 dX9_replays_1 (ci_X9_begins_706 l (σ := (ap b σ [] [] [])) (b := b) (lyA hK) ) (lKA (hk_K hK 405 rfl rfl)) rfl (by decide) rfl (Nat.le_of_ble_eq_true rfl) (by decide) (fun u hu => ?_)
  refine z_eqs (σ' := (ap b σ [(405, 39, 0), (405, 38, 0), (405, 37, 0), (405, 36, 0), (405, 35, 0), (405, 34, 0), (405, 32, 0), (405, 31, 0), (405, 30, 0), (405, 29, 0), (405, 28, 0), (405, 27, 0), (405, 26, 1)] [] [])) (hu.trans ap_ap) ?_
  show zx p l e _ s m _ below meth c g 5 0 0 _ _ 4 [(0, .ref (b + 405)), (1, .int 0), (2, .int 1), (3, .int 1)] _
  refine z_aload_n B dX9_replays_4 rfl 0 rfl ?_
  refine z_iload_n B dX9_replays_5 rfl 3 rfl ?_
  refine pf_X9_156 (x := 1) (σ' := (ap b σ [(405, 47, 1), (405, 39, 0), (405, 38, 0), (405, 37, 0), (405, 36, 0), (405, 35, 0), (405, 34, 0), (405, 32, 0), (405, 31, 0), (405, 30, 0), (405, 29, 0), (405, 28, 0), (405, 27, 0), (405, 26, 1)] [] [])) B (by decide) (lKA (hk_K hK 405 rfl rfl)) wI_ap dX9_replays_6 ?_
  refine z_aload_n B dX9_replays_9 rfl 0 rfl ?_
  refine z_aload_n B dX9_replays_10 rfl 0 rfl ?_
  refine gf_X9_44 (x := (some (b + 416))) B (lKA (hk_K hK 405 rfl rfl)) (rR_at 405 14 hR_405_14) dX9_replays_11 ?_
  refine z_sipush (v := 160) B dX9_replays_14 (by decide) ?_
  refine z_iload_n B dX9_replays_17 rfl 1 rfl ?_
  refine z_imul B dX9_replays_18 ?_
  refine z_seti (y := 0) (by decide) ?_
  refine z_iald (j := 0) (x := 0) B (lKA (hk_K hK 416 rfl rfl)) (by decide) (in_of (lNA (hk_N hK 416 rfl rfl)) (show ¬ ((0 : Int32) < 0 ∨ 6560 ≤ (0 : Int32).toNatClampNeg) by decide)) (rI_at 416 0 hI_416_0) dX9_replays_19 ?_
  refine z_if_ne (tgt := 27) B dX9_replays_20 (by decide) (fun h => absurd (by decide) h) (fun _ => ?_)
  refine z_iconst (v := 1) B dX9_replays_23 (by decide) ?_
  refine z_goto (tgt := 28) B dX9_replays_24 (by decide) ?_
  refine pf_X9_103 (x := 1) (σ' := (ap b σ [(405, 26, 1), (405, 47, 1), (405, 39, 0), (405, 38, 0), (405, 37, 0), (405, 36, 0), (405, 35, 0), (405, 34, 0), (405, 32, 0), (405, 31, 0), (405, 30, 0), (405, 29, 0), (405, 28, 0), (405, 27, 0), (405, 26, 1)] [] [])) B (by decide) (lKA (hk_K hK 405 rfl rfl)) wI_ap dX9_replays_28 ?_
  refine z_aload_n B dX9_replays_31 rfl 0 rfl ?_
  refine z_aload_n B dX9_replays_32 rfl 0 rfl ?_
  refine gf_X9_47 (x := (some (b + 417))) B (lKA (hk_K hK 405 rfl rfl)) (rR_at 405 15 hR_405_15) dX9_replays_33 ?_
  refine z_sipush (v := 160) B dX9_replays_36 (by decide) ?_
  refine z_iload_n B dX9_replays_39 rfl 1 rfl ?_
  refine z_imul B dX9_replays_40 ?_
  refine z_seti (y := 0) (by decide) ?_
  refine z_lald (j := 0) (x := w1) B (lKA (hk_K hK 417 rfl rfl)) (by decide) (in_of (lNA (hk_N hK 417 rfl rfl)) (show ¬ ((0 : Int32) < 0 ∨ 6560 ≤ (0 : Int32).toNatClampNeg) by decide)) (rJ_at 417 0 hJ_417_0) dX9_replays_41 ?_
  refine z_l2i B dX9_replays_42 rfl ?_
  refine pf_X9_113 (x := (w1.toInt32)) (σ' := (ap b σ [(405, 29, (w1.toInt32)), (405, 26, 1), (405, 47, 1), (405, 39, 0), (405, 38, 0), (405, 37, 0), (405, 36, 0), (405, 35, 0), (405, 34, 0), (405, 32, 0), (405, 31, 0), (405, 30, 0), (405, 29, 0), (405, 28, 0), (405, 27, 0), (405, 26, 1)] [] [])) B (lKA (hk_K hK 405 rfl rfl)) wI_ap dX9_replays_43 ?_
  refine z_aload_n B dX9_replays_46 rfl 0 rfl ?_
  refine z_iconst (v := 1) B dX9_replays_47 (by decide) ?_
  refine pf_X9_107 (x := 1) (σ' := (ap b σ [(405, 27, 1), (405, 29, (w1.toInt32)), (405, 26, 1), (405, 47, 1), (405, 39, 0), (405, 38, 0), (405, 37, 0), (405, 36, 0), (405, 35, 0), (405, 34, 0), (405, 32, 0), (405, 31, 0), (405, 30, 0), (405, 29, 0), (405, 28, 0), (405, 27, 0), (405, 26, 1)] [] [])) B (lKA (hk_K hK 405 rfl rfl)) wI_ap dX9_replays_48 ?_
  refine z_aload_n B dX9_replays_51 rfl 0 rfl ?_
  refine z_iconst (v := (-1)) B dX9_replays_52 (by decide) ?_
  refine pf_X9_172 (x := (-1)) (σ' := (ap b σ [(405, 48, (-1)), (405, 27, 1), (405, 29, (w1.toInt32)), (405, 26, 1), (405, 47, 1), (405, 39, 0), (405, 38, 0), (405, 37, 0), (405, 36, 0), (405, 35, 0), (405, 34, 0), (405, 32, 0), (405, 31, 0), (405, 30, 0), (405, 29, 0), (405, 28, 0), (405, 27, 0), (405, 26, 1)] [] [])) B (lKA (hk_K hK 405 rfl rfl)) wI_ap dX9_replays_53 ?_
  refine z_aload_n B dX9_replays_56 rfl 0 rfl ?_
  refine gf_X9_103 (x := 1) B (lKA (hk_K hK 405 rfl rfl)) (rI_at 405 26 rfl) dX9_replays_57 ?_
  refine z_istore (lv' := [(4, .int 1), (0, .ref (b + 405)), (1, .int 0), (2, .int 1), (3, .int 1)]) B dX9_replays_60 (by decide) rfl ?_
  refine z_iload B dX9_replays_62 0 rfl ?_
  refine z_if_eq (tgt := 180) B dX9_replays_64 (by decide) (fun h => absurd h (by decide)) (fun _ => ?_)
  refine z_aload_n B dX9_replays_67 rfl 1 rfl ?_
  refine gf_X9_103 (x := 1) B (lKA (hk_K hK 405 rfl rfl)) (rI_at 405 26 rfl) dX9_replays_68 ?_
  refine z_if_eq (tgt := 180) B dX9_replays_71 (by decide) (fun h => absurd h (by decide)) (fun _ => ?_)
  refine z_aload_n B dX9_replays_74 rfl 1 rfl ?_
  refine gf_X9_134 (x := 0) B (lKA (hk_K hK 405 rfl rfl)) (rI_at 405 37 rfl) dX9_replays_75 ?_
  refine z_if_le (tgt := 104) B dX9_replays_78 (by decide) (fun _ => ?_) (fun h => absurd (by decide) h)
  refine z_aload_n B dX9_replays_104 rfl 1 rfl ?_
  refine gf_X9_116 (x := 0) B (lKA (hk_K hK 405 rfl rfl)) (rI_at 405 30 rfl) dX9_replays_105 ?_
  refine z_if_eq (tgt := 139) B dX9_replays_108 (by decide) (fun _ => ?_) (fun h => absurd (by decide) h)
  refine z_aload_n B dX9_replays_139 rfl 1 rfl ?_
  refine gf_X9_131 (x := 0) B (lKA (hk_K hK 405 rfl rfl)) (rI_at 405 36 rfl) dX9_replays_140 ?_
  refine z_if_le (tgt := 158) B dX9_replays_143 (by decide) (fun _ => ?_) (fun h => absurd (by decide) h)
  refine z_aload_n B dX9_replays_158 rfl 1 rfl ?_
  refine z_iload_n B dX9_replays_159 rfl 2 rfl ?_
  refine z_iload_n B dX9_replays_160 rfl 3 rfl ?_
  refine z_iload_n B dX9_replays_161 rfl 4 rfl ?_
  refine z_cVi (As := [.int 0, .int 1, .int 1]) (rest := []) B cw_X9_186 cx_10 dX9_replays_162 (ci_X9_steps_710 l (σ := (ap b σ [(405, 48, (-1)), (405, 27, 1), (405, 29, (w1.toInt32)), (405, 26, 1), (405, 47, 1), (405, 39, 0), (405, 38, 0), (405, 37, 0), (405, 36, 0), (405, 35, 0), (405, 34, 0), (405, 32, 0), (405, 31, 0), (405, 30, 0), (405, 29, 0), (405, 28, 0), (405, 27, 0), (405, 26, 1)] [] [])) (b := b) (lyA hK) (w1.toInt32) (rI_at 405 27 rfl) (rI_at 405 28 rfl) (rI_at 405 29 rfl) (rI_at 405 38 rfl) (rI_at 406 0 hI_406_0) (rI_at 407 0 hI_407_0) (rI_at 409 0 hI_409_0) (rI_at 413 0 hI_413_0) (rR_at 405 3 hR_405_3) (rR_at 405 4 hR_405_4) (rR_at 405 7 hR_405_7) (rR_at 405 11 hR_405_11) (rR_at 405 14 hR_405_14) (rR_at 405 15 hR_405_15)) (lKA (hk_K hK 405 rfl rfl)) rfl (by decide) rfl (Nat.le_of_ble_eq_true rfl) (by decide) (fun r u hu => ?_)
  refine z_eqs (σ' := (ap b σ [(405, 37, 1), (405, 27, 2), (413, 0, 2), (416, 1, 13), (405, 28, 1), (405, 38, 1), (405, 48, (-1)), (405, 27, 1), (405, 29, (w1.toInt32)), (405, 26, 1), (405, 47, 1), (405, 39, 0), (405, 38, 0), (405, 37, 0), (405, 36, 0), (405, 35, 0), (405, 34, 0), (405, 32, 0), (405, 31, 0), (405, 30, 0), (405, 29, 0), (405, 28, 0), (405, 27, 0), (405, 26, 1)] [(417, 1, ((10 * ((w1.toInt32).toInt64)) + 1))] [])) (hu.2.trans ap_ap) ?_
  show zx p l e _ s m _ below meth c g 5 0 0 _ _ 165 [(4, .int 1), (0, .ref (b + 405)), (1, .int 0), (2, .int 1), (3, .int 1)] _
  refine z_seti (y := 1) hu.1 ?_
  refine z_istore (lv' := [(4, .int 1), (0, .ref (b + 405)), (1, .int 0), (2, .int 1), (3, .int 1)]) B dX9_replays_165 (by decide) rfl ?_
  refine z_aload_n B dX9_replays_167 rfl 1 rfl ?_
  refine gf_X9_172 (x := (-1)) B (lKA (hk_K hK 405 rfl rfl)) (rI_at 405 48 rfl) dX9_replays_168 ?_
  refine z_iconst (v := (-1)) B dX9_replays_171 (by decide) ?_
  refine z_icmp_eq (tgt := 62) B dX9_replays_172 (by decide) (fun _ => ?_) (fun h => absurd (by decide) h)
  refine z_iload B dX9_replays_62 0 rfl ?_
  refine z_if_eq (tgt := 180) B dX9_replays_64 (by decide) (fun h => absurd h (by decide)) (fun _ => ?_)
  refine z_aload_n B dX9_replays_67 rfl 1 rfl ?_
  refine gf_X9_103 (x := 1) B (lKA (hk_K hK 405 rfl rfl)) (rI_at 405 26 rfl) dX9_replays_68 ?_
  refine z_if_eq (tgt := 180) B dX9_replays_71 (by decide) (fun h => absurd h (by decide)) (fun _ => ?_)
  refine z_aload_n B dX9_replays_74 rfl 1 rfl ?_
  refine gf_X9_134 (x := 1) B (lKA (hk_K hK 405 rfl rfl)) (rI_at 405 37 rfl) dX9_replays_75 ?_
  refine z_if_le (tgt := 104) B dX9_replays_78 (by decide) (fun h => absurd h (by decide)) (fun _ => ?_)
  refine z_aload_n B dX9_replays_81 rfl 1 rfl ?_
  refine z_aload_n B dX9_replays_82 rfl 1 rfl ?_
  refine gf_X9_107 (x := 2) B (lKA (hk_K hK 405 rfl rfl)) (rI_at 405 27 rfl) dX9_replays_83 ?_
  refine z_iload_n B dX9_replays_86 rfl 3 rfl ?_
  refine z_icmp_lt (tgt := 94) B dX9_replays_87 (by decide) (fun h => absurd h (by decide)) (fun _ => ?_)
  refine z_iconst (v := 1) B dX9_replays_90 (by decide) ?_
  refine z_goto (tgt := 95) B dX9_replays_91 (by decide) ?_
  refine pf_X9_103 (x := 1) (σ' := (ap b σ [(405, 26, 1), (405, 37, 1), (405, 27, 2), (413, 0, 2), (416, 1, 13), (405, 28, 1), (405, 38, 1), (405, 48, (-1)), (405, 27, 1), (405, 29, (w1.toInt32)), (405, 26, 1), (405, 47, 1), (405, 39, 0), (405, 38, 0), (405, 37, 0), (405, 36, 0), (405, 35, 0), (405, 34, 0), (405, 32, 0), (405, 31, 0), (405, 30, 0), (405, 29, 0), (405, 28, 0), (405, 27, 0), (405, 26, 1)] [(417, 1, ((10 * ((w1.toInt32).toInt64)) + 1))] [])) B (by decide) (lKA (hk_K hK 405 rfl rfl)) wI_ap dX9_replays_95 ?_
  refine z_iconst (v := 0) B dX9_replays_98 (by decide) ?_
  refine z_istore (lv' := [(4, .int 0), (0, .ref (b + 405)), (1, .int 0), (2, .int 1), (3, .int 1)]) B dX9_replays_99 (by decide) rfl ?_
  refine z_goto (tgt := 62) B dX9_replays_101 (by decide) ?_
  refine z_iload B dX9_replays_62 0 rfl ?_
  refine z_if_eq (tgt := 180) B dX9_replays_64 (by decide) (fun _ => ?_) (fun h => absurd (by decide) h)
  refine z_iconst (v := (-1)) B dX9_replays_180 (by decide) ?_
  exact z_iret B hr (by decide) (by decide) dX9_replays_181 ⟨rfl, rfl⟩
set_option maxRecDepth 100000 in
set_option maxHeartbeats 4000000 in
theorem ci_X9_rests_712 (l : Launch) {g : gx_T} {σ : sx_T} {b : Nat} (hK : lay b σ) (w1 : Int32)  (hI_405_16 : sx_I σ (b + 405) 16 = 0) (hI_405_29 : sx_I σ (b + 405) 29 = w1) (hI_405_30 : sx_I σ (b + 405) 30 = 0) (hI_405_37 : sx_I σ (b + 405) 37 = 1) (hI_410_0 : sx_I σ (b + 410) 0 = (-1)) (hR_405_8 : sx_R σ (b + 405) 8 = (some (b + 410))) (hR_405_10 : sx_R σ (b + 405) 10 = (some (b + 412))) : Met l yX9_rests (.code yX9_rests cX9_rests 6 none :: lw_g) { frames := 0, cells := 0, slots := 0, locals := 0 } (va_Pc [.ref (b + 405), .int 0] (zx_w g σ)) (va_Qv (fun u => u = (ap b σ [(412, 0, 1)] [] [])) (zx_w g) (gx_Q g)) 0 0 (gx_Q g) := by
  refine z_met (by decide) (Nat.le_of_ble_eq_true rfl) (fun p e s m below meth c B hr hin => ?_)
  refine z_eqs (σ' := (ap b σ [] [] [])) rfl ?_
  show zx p l e _ s m _ below meth c g 6 0 0 _ _ 0 [(0, .ref (b + 405)), (1, .int 0)] []
  refine z_aload_n B dX9_rests_0 rfl 0 rfl ?_
  refine gf_X9_116 (x := 0) B (lKA (hk_K hK 405 rfl rfl)) (rI_at 405 30 hI_405_30) dX9_rests_1 ?_
  refine z_iconst (v := 1) B dX9_rests_4 (by decide) ?_
  refine z_icmp_eq (tgt := 17) B dX9_rests_5 (by decide) (fun h => absurd h (by decide)) (fun _ => ?_)
  refine z_aload_n B dX9_rests_8 rfl 0 rfl ?_
  refine gf_X9_116 (x := 0) B (lKA (hk_K hK 405 rfl rfl)) (rI_at 405 30 hI_405_30) dX9_rests_9 ?_
  refine z_bipush (v := 6) B dX9_rests_12 (by decide) ?_
  refine z_icmp_ne (tgt := 21) B dX9_rests_14 (by decide) (fun _ => ?_) (fun h => absurd h (by decide))
  refine z_iconst (v := 0) B dX9_rests_21 (by decide) ?_
  refine z_istore_n (lv' := [(2, .int 0), (0, .ref (b + 405)), (1, .int 0)]) B dX9_rests_22 rfl (by decide) rfl ?_
  refine z_iconst (v := 0) B dX9_rests_23 (by decide) ?_
  refine z_istore_n (lv' := [(3, .int 0), (2, .int 0), (0, .ref (b + 405)), (1, .int 0)]) B dX9_rests_24 rfl (by decide) rfl ?_
  refine z_iload_n B dX9_rests_25 rfl 0 rfl ?_
  refine z_aload_n B dX9_rests_26 rfl 2 rfl ?_
  refine gf_X9_100 (x := 0) B (lKA (hk_K hK 405 rfl rfl)) (rI_at 405 16 hI_405_16) dX9_rests_27 ?_
  refine z_icmp_ge (tgt := 78) B dX9_rests_30 (by decide) (fun _ => ?_) (fun h => absurd (by decide) h)
  refine z_iload_n B dX9_rests_78 rfl 1 rfl ?_
  refine z_if_eq (tgt := 102) B dX9_rests_79 (by decide) (fun _ => ?_) (fun h => absurd (by decide) h)
  refine z_aload_n B dX9_rests_102 rfl 2 rfl ?_
  refine gf_X9_134 (x := 1) B (lKA (hk_K hK 405 rfl rfl)) (rI_at 405 37 hI_405_37) dX9_rests_103 ?_
  refine z_if_le (tgt := 240) B dX9_rests_106 (by decide) (fun h => absurd h (by decide)) (fun _ => ?_)
  refine z_aload_n B dX9_rests_109 rfl 2 rfl ?_
  refine gf_X9_32 (x := (some (b + 412))) B (lKA (hk_K hK 405 rfl rfl)) (rR_at 405 10 hR_405_10) dX9_rests_110 ?_
  refine z_iload_n B dX9_rests_113 rfl 3 rfl ?_
  refine z_aload_n B dX9_rests_114 rfl 2 rfl ?_
  refine gf_X9_134 (x := 1) B (lKA (hk_K hK 405 rfl rfl)) (rI_at 405 37 hI_405_37) dX9_rests_115 ?_
  refine z_iast (j := 0) (σ' := (ap b σ [(412, 0, 1)] [] [])) B (lKA (hk_K hK 412 rfl rfl)) (by decide) (in_of (lNA (hk_N hK 412 rfl rfl)) (show ¬ ((0 : Int32) < 0 ∨ 41 ≤ (0 : Int32).toNatClampNeg) by decide)) wI_ap dX9_rests_118 ?_
  refine z_ldc2 (v := 10) B dX9_rests_119 wg_1247 ?_
  refine z_aload_n B dX9_rests_122 rfl 2 rfl ?_
  refine gf_X9_113 (x := w1) B (lKA (hk_K hK 405 rfl rfl)) (rI_at 405 29 hI_405_29) dX9_rests_123 ?_
  refine z_i2l B dX9_rests_126 rfl ?_
  refine z_lmul B dX9_rests_127 ?_
  refine z_aload_n B dX9_rests_128 rfl 2 rfl ?_
  refine gf_X9_134 (x := 1) B (lKA (hk_K hK 405 rfl rfl)) (rI_at 405 37 hI_405_37) dX9_rests_129 ?_
  refine z_i2l (v := 1) B dX9_rests_132 (by decide) ?_
  refine z_ladd B dX9_rests_133 ?_
  refine z_lstore_n (lv' := [(3, .long ((10 * (w1.toInt64)) + 1)), (2, .int 0), (0, .ref (b + 405)), (1, .int 0)]) B dX9_rests_134 rfl (by decide) rfl ?_
  refine z_aload_n B dX9_rests_135 rfl 2 rfl ?_
  refine gf_X9_26 (x := (some (b + 410))) B (lKA (hk_K hK 405 rfl rfl)) (rR_at 405 8 hR_405_8) dX9_rests_136 ?_
  refine z_iload_n B dX9_rests_139 rfl 3 rfl ?_
  refine z_iald (j := 0) (x := (-1)) B (lKA (hk_K hK 410 rfl rfl)) (by decide) (in_of (lNA (hk_N hK 410 rfl rfl)) (show ¬ ((0 : Int32) < 0 ∨ 41 ≤ (0 : Int32).toNatClampNeg) by decide)) (rI_at 410 0 hI_410_0) dX9_rests_140 ?_
  refine z_istore (lv' := [(5, .int (-1)), (3, .long ((10 * (w1.toInt64)) + 1)), (2, .int 0), (0, .ref (b + 405)), (1, .int 0)]) B dX9_rests_141 (by decide) rfl ?_
  refine z_aload_n B dX9_rests_143 rfl 3 rfl ?_
  refine gf_X9_134 (x := 1) B (lKA (hk_K hK 405 rfl rfl)) (rI_at 405 37 hI_405_37) dX9_rests_144 ?_
  refine z_iconst (v := 4) B dX9_rests_147 (by decide) ?_
  refine z_icmp_eq (tgt := 240) B dX9_rests_148 (by decide) (fun h => absurd h (by decide)) (fun _ => ?_)
  refine z_iload B dX9_rests_151 0 rfl ?_
  refine z_iconst (v := (-1)) B dX9_rests_153 (by decide) ?_
  refine z_icmp_eq (tgt := 240) B dX9_rests_154 (by decide) (fun _ => ?_) (fun h => absurd (by decide) h)
  exact z_vret B hr (by decide) (by decide) dX9_rests_240 rfl
set_option maxRecDepth 100000 in
set_option maxHeartbeats 4000000 in
theorem ci_X9_goesOn_713 (l : Launch) {g : gx_T} {σ : sx_T} {b : Nat} (hK : lay b σ) (w1 : Int64)  (hI_405_16 : sx_I σ (b + 405) 16 = 0) (hI_406_0 : sx_I σ (b + 406) 0 = 0) (hI_407_0 : sx_I σ (b + 407) 0 = 0) (hI_409_0 : sx_I σ (b + 409) 0 = 0) (hI_410_0 : sx_I σ (b + 410) 0 = (-1)) (hI_412_0 : sx_I σ (b + 412) 0 = 0) (hI_413_0 : sx_I σ (b + 413) 0 = 1) (hI_416_0 : sx_I σ (b + 416) 0 = 0) (hJ_417_0 : sx_J σ (b + 417) 0 = w1) (hR_405_3 : sx_R σ (b + 405) 3 = (some (b + 406))) (hR_405_4 : sx_R σ (b + 405) 4 = (some (b + 407))) (hR_405_7 : sx_R σ (b + 405) 7 = (some (b + 409))) (hR_405_8 : sx_R σ (b + 405) 8 = (some (b + 410))) (hR_405_10 : sx_R σ (b + 405) 10 = (some (b + 412))) (hR_405_11 : sx_R σ (b + 405) 11 = (some (b + 413))) (hR_405_12 : sx_R σ (b + 405) 12 = (some (b + 414))) (hR_405_14 : sx_R σ (b + 405) 14 = (some (b + 416))) (hR_405_15 : sx_R σ (b + 405) 15 = (some (b + 417))) (hR_405_42 : sx_R σ (b + 405) 42 = (some (b + 428))) : Met l yX9_goesOn (.code yX9_goesOn cX9_goesOn 5 none :: lw_g) { frames := 4, cells := 0, slots := 0, locals := 106 } (va_Pc [.ref (b + 405), .int 0] (zx_w g σ)) (va_Qv (fun u => u = (ap b σ [(412, 0, 1), (414, 0, 2), (405, 26, 1), (405, 37, 1), (405, 27, 2), (413, 0, 2), (416, 1, 13), (405, 28, 1), (405, 38, 1), (405, 48, (-1)), (405, 27, 1), (405, 29, (w1.toInt32)), (405, 26, 1), (405, 47, 1), (405, 39, 0), (405, 38, 0), (405, 37, 0), (405, 36, 0), (405, 35, 0), (405, 34, 0), (405, 32, 0), (405, 31, 0), (405, 30, 0), (405, 29, 0), (405, 28, 0), (405, 27, 0), (405, 26, 1), (428, 0, 0)] [(417, 1, ((10 * ((w1.toInt32).toInt64)) + 1))] [])) (zx_w g) (gx_Q g)) 0 0 (gx_Q g) := by
  refine z_met (by decide) (Nat.le_of_ble_eq_true rfl) (fun p e s m below meth c B hr hin => ?_)
  refine z_eqs (σ' := (ap b σ [] [] [])) rfl ?_
  show zx p l e _ s m _ below meth c g 5 0 0 _ _ 0 [(0, .ref (b + 405)), (1, .int 0)] []
  refine z_iconst (v := 1) B dX9_goesOn_0 (by decide) ?_
  refine z_istore_n (lv' := [(2, .int 1), (0, .ref (b + 405)), (1, .int 0)]) B dX9_goesOn_1 rfl (by decide) rfl ?_
  refine z_aload_n B dX9_goesOn_2 rfl 1 rfl ?_
  refine gf_X9_81 (x := (some (b + 428))) B (lKA (hk_K hK 405 rfl rfl)) (rR_at 405 42 hR_405_42) dX9_goesOn_3 ?_
  refine z_iconst (v := 0) B dX9_goesOn_6 (by decide) ?_
  refine z_iload_n B dX9_goesOn_7 rfl 2 rfl ?_
  refine z_iast (j := 0) (σ' := (ap b σ [(428, 0, 0)] [] [])) B (lKA (hk_K hK 428 rfl rfl)) (by decide) (in_of (lNA (hk_N hK 428 rfl rfl)) (show ¬ ((0 : Int32) < 0 ∨ 50 ≤ (0 : Int32).toNatClampNeg) by decide)) wI_ap dX9_goesOn_8 ?_
  refine z_iload_n B dX9_goesOn_9 rfl 0 rfl ?_
  refine z_if_le (tgt := 106) B dX9_goesOn_10 (by decide) (fun h => absurd h (by decide)) (fun _ => ?_)
  refine z_aload_n B dX9_goesOn_13 rfl 1 rfl ?_
  refine gf_X9_81 (x := (some (b + 428))) B (lKA (hk_K hK 405 rfl rfl)) (rR_at 405 42 hR_405_42) dX9_goesOn_14 ?_
  refine z_iload_n B dX9_goesOn_17 rfl 0 rfl ?_
  refine z_iconst (v := 1) B dX9_goesOn_18 (by decide) ?_
  refine z_isub B dX9_goesOn_19 ?_
  refine z_seti (y := 0) (by decide) ?_
  refine z_iald (j := 0) (x := 0) B (lKA (hk_K hK 428 rfl rfl)) (by decide) (in_of (lNA (hk_N hK 428 rfl rfl)) (show ¬ ((0 : Int32) < 0 ∨ 50 ≤ (0 : Int32).toNatClampNeg) by decide)) (rI_at 428 0 rfl) dX9_goesOn_20 ?_
  refine z_istore_n (lv' := [(3, .int 0), (2, .int 1), (0, .ref (b + 405)), (1, .int 0)]) B dX9_goesOn_21 rfl (by decide) rfl ?_
  refine z_aload_n B dX9_goesOn_22 rfl 2 rfl ?_
  refine gf_X9_32 (x := (some (b + 412))) B (lKA (hk_K hK 405 rfl rfl)) (rR_at 405 10 hR_405_10) dX9_goesOn_23 ?_
  refine z_iload_n B dX9_goesOn_26 rfl 0 rfl ?_
  refine z_iald (j := 0) (x := 0) B (lKA (hk_K hK 412 rfl rfl)) (by decide) (in_of (lNA (hk_N hK 412 rfl rfl)) (show ¬ ((0 : Int32) < 0 ∨ 41 ≤ (0 : Int32).toNatClampNeg) by decide)) (rI_at 412 0 hI_412_0) dX9_goesOn_27 ?_
  refine z_if_le (tgt := 35) B dX9_goesOn_28 (by decide) (fun _ => ?_) (fun h => absurd (by decide) h)
  refine z_aload_n B dX9_goesOn_35 rfl 2 rfl ?_
  refine z_iload_n B dX9_goesOn_36 rfl 0 rfl ?_
  refine z_aload_n B dX9_goesOn_37 rfl 2 rfl ?_
  refine gf_X9_35 (x := (some (b + 413))) B (lKA (hk_K hK 405 rfl rfl)) (rR_at 405 11 hR_405_11) dX9_goesOn_38 ?_
  refine z_iload_n B dX9_goesOn_41 rfl 0 rfl ?_
  refine z_iald (j := 0) (x := 1) B (lKA (hk_K hK 413 rfl rfl)) (by decide) (in_of (lNA (hk_N hK 413 rfl rfl)) (show ¬ ((0 : Int32) < 0 ∨ 41 ≤ (0 : Int32).toNatClampNeg) by decide)) (rI_at 413 0 hI_413_0) dX9_goesOn_42 ?_
  refine z_iconst (v := 1) B dX9_goesOn_43 (by decide) ?_
  refine z_cVi (As := [.int 0, .int 1, .int 1]) (rest := []) B cw_X9_216 cx_10 dX9_goesOn_44 (ci_X9_replays_711 l (σ := (ap b σ [(428, 0, 0)] [] [])) (b := b) (lyA hK) w1 (rI_at 406 0 hI_406_0) (rI_at 407 0 hI_407_0) (rI_at 409 0 hI_409_0) (rI_at 413 0 hI_413_0) (rI_at 416 0 hI_416_0) (rJ_at 417 0 hJ_417_0) (rR_at 405 3 hR_405_3) (rR_at 405 4 hR_405_4) (rR_at 405 7 hR_405_7) (rR_at 405 11 hR_405_11) (rR_at 405 14 hR_405_14) (rR_at 405 15 hR_405_15)) (lKA (hk_K hK 405 rfl rfl)) rfl (by decide) rfl (Nat.le_of_ble_eq_true rfl) (by decide) (fun r u hu => ?_)
  refine z_eqs (σ' := (ap b σ [(405, 26, 1), (405, 37, 1), (405, 27, 2), (413, 0, 2), (416, 1, 13), (405, 28, 1), (405, 38, 1), (405, 48, (-1)), (405, 27, 1), (405, 29, (w1.toInt32)), (405, 26, 1), (405, 47, 1), (405, 39, 0), (405, 38, 0), (405, 37, 0), (405, 36, 0), (405, 35, 0), (405, 34, 0), (405, 32, 0), (405, 31, 0), (405, 30, 0), (405, 29, 0), (405, 28, 0), (405, 27, 0), (405, 26, 1), (428, 0, 0)] [(417, 1, ((10 * ((w1.toInt32).toInt64)) + 1))] [])) (hu.2.trans ap_ap) ?_
  show zx p l e _ s m _ below meth c g 5 0 0 _ _ 47 [(3, .int 0), (2, .int 1), (0, .ref (b + 405)), (1, .int 0)] _
  refine z_seti (y := (-1)) hu.1 ?_
  refine z_istore (lv' := [(4, .int (-1)), (3, .int 0), (2, .int 1), (0, .ref (b + 405)), (1, .int 0)]) B dX9_goesOn_47 (by decide) rfl ?_
  refine z_iload B dX9_goesOn_49 0 rfl ?_
  refine z_iconst (v := (-1)) B dX9_goesOn_51 (by decide) ?_
  refine z_icmp_eq (tgt := 69) B dX9_goesOn_52 (by decide) (fun _ => ?_) (fun h => absurd (by decide) h)
  refine z_iinc (v := 0) (lv' := [(2, .int 0), (4, .int (-1)), (3, .int 0), (0, .ref (b + 405)), (1, .int 0)]) B dX9_goesOn_69 2 rfl (by decide) (by decide) rfl ?_
  refine z_aload_n B dX9_goesOn_72 rfl 3 rfl ?_
  refine gf_X9_32 (x := (some (b + 412))) B (lKA (hk_K hK 405 rfl rfl)) (rR_at 405 10 hR_405_10) dX9_goesOn_73 ?_
  refine z_iload_n B dX9_goesOn_76 rfl 2 rfl ?_
  refine z_iald (j := 0) (x := 0) B (lKA (hk_K hK 412 rfl rfl)) (by decide) (in_of (lNA (hk_N hK 412 rfl rfl)) (show ¬ ((0 : Int32) < 0 ∨ 41 ≤ (0 : Int32).toNatClampNeg) by decide)) (rI_at 412 0 hI_412_0) dX9_goesOn_77 ?_
  refine z_if_ne (tgt := 103) B dX9_goesOn_78 (by decide) (fun h => absurd (by decide) h) (fun _ => ?_)
  refine z_aload_n B dX9_goesOn_81 rfl 3 rfl ?_
  refine gf_X9_103 (x := 1) B (lKA (hk_K hK 405 rfl rfl)) (rI_at 405 26 rfl) dX9_goesOn_82 ?_
  refine z_if_eq (tgt := 103) B dX9_goesOn_85 (by decide) (fun h => absurd h (by decide)) (fun _ => ?_)
  refine z_aload_n B dX9_goesOn_88 rfl 3 rfl ?_
  refine gf_X9_38 (x := (some (b + 414))) B (lKA (hk_K hK 405 rfl rfl)) (rR_at 405 12 hR_405_12) dX9_goesOn_89 ?_
  refine z_iload_n B dX9_goesOn_92 rfl 2 rfl ?_
  refine z_aload_n B dX9_goesOn_93 rfl 3 rfl ?_
  refine gf_X9_107 (x := 2) B (lKA (hk_K hK 405 rfl rfl)) (rI_at 405 27 rfl) dX9_goesOn_94 ?_
  refine z_iast (j := 0) (σ' := (ap b σ [(414, 0, 2), (405, 26, 1), (405, 37, 1), (405, 27, 2), (413, 0, 2), (416, 1, 13), (405, 28, 1), (405, 38, 1), (405, 48, (-1)), (405, 27, 1), (405, 29, (w1.toInt32)), (405, 26, 1), (405, 47, 1), (405, 39, 0), (405, 38, 0), (405, 37, 0), (405, 36, 0), (405, 35, 0), (405, 34, 0), (405, 32, 0), (405, 31, 0), (405, 30, 0), (405, 29, 0), (405, 28, 0), (405, 27, 0), (405, 26, 1), (428, 0, 0)] [(417, 1, ((10 * ((w1.toInt32).toInt64)) + 1))] [])) B (lKA (hk_K hK 414 rfl rfl)) (by decide) (in_of (lNA (hk_N hK 414 rfl rfl)) (show ¬ ((0 : Int32) < 0 ∨ 41 ≤ (0 : Int32).toNatClampNeg) by decide)) wI_ap dX9_goesOn_97 ?_
  refine z_aload_n B dX9_goesOn_98 rfl 3 rfl ?_
  refine z_iload_n B dX9_goesOn_99 rfl 2 rfl ?_
  refine z_cVv (As := [.int 0]) (rest := []) B cw_X9_220 cx_10 dX9_goesOn_100 (ci_X9_rests_712 l (σ := (ap b σ [(414, 0, 2), (405, 26, 1), (405, 37, 1), (405, 27, 2), (413, 0, 2), (416, 1, 13), (405, 28, 1), (405, 38, 1), (405, 48, (-1)), (405, 27, 1), (405, 29, (w1.toInt32)), (405, 26, 1), (405, 47, 1), (405, 39, 0), (405, 38, 0), (405, 37, 0), (405, 36, 0), (405, 35, 0), (405, 34, 0), (405, 32, 0), (405, 31, 0), (405, 30, 0), (405, 29, 0), (405, 28, 0), (405, 27, 0), (405, 26, 1), (428, 0, 0)] [(417, 1, ((10 * ((w1.toInt32).toInt64)) + 1))] [])) (b := b) (lyA hK) (w1.toInt32) (rI_at 405 16 hI_405_16) (rI_at 405 29 rfl) (rI_at 405 30 rfl) (rI_at 405 37 rfl) (rI_at 410 0 hI_410_0) (rR_at 405 8 hR_405_8) (rR_at 405 10 hR_405_10)) (lKA (hk_K hK 405 rfl rfl)) rfl (by decide) rfl (Nat.le_of_ble_eq_true rfl) (by decide) (fun u hu => ?_)
  refine z_eqs (σ' := (ap b σ [(412, 0, 1), (414, 0, 2), (405, 26, 1), (405, 37, 1), (405, 27, 2), (413, 0, 2), (416, 1, 13), (405, 28, 1), (405, 38, 1), (405, 48, (-1)), (405, 27, 1), (405, 29, (w1.toInt32)), (405, 26, 1), (405, 47, 1), (405, 39, 0), (405, 38, 0), (405, 37, 0), (405, 36, 0), (405, 35, 0), (405, 34, 0), (405, 32, 0), (405, 31, 0), (405, 30, 0), (405, 29, 0), (405, 28, 0), (405, 27, 0), (405, 26, 1), (428, 0, 0)] [(417, 1, ((10 * ((w1.toInt32).toInt64)) + 1))] [])) (hu.trans ap_ap) ?_
  show zx p l e _ s m _ below meth c g 5 0 0 _ _ 103 [(2, .int 0), (4, .int (-1)), (3, .int 0), (0, .ref (b + 405)), (1, .int 0)] _
  refine z_goto (tgt := 9) B dX9_goesOn_103 (by decide) ?_
  refine z_iload_n B dX9_goesOn_9 rfl 0 rfl ?_
  refine z_if_le (tgt := 106) B dX9_goesOn_10 (by decide) (fun _ => ?_) (fun h => absurd (by decide) h)
  exact z_vret B hr (by decide) (by decide) dX9_goesOn_106 rfl
set_option maxRecDepth 100000 in
set_option maxHeartbeats 4000000 in
theorem ci_X9_runs_714 (l : Launch) {g : gx_T} {σ : sx_T} {b : Nat} (hK : lay b σ) (w1 : Int64)  (hI_405_16 : sx_I σ (b + 405) 16 = 0) (hI_406_0 : sx_I σ (b + 406) 0 = 0) (hI_407_0 : sx_I σ (b + 407) 0 = 0) (hI_409_0 : sx_I σ (b + 409) 0 = 0) (hI_410_0 : sx_I σ (b + 410) 0 = (-1)) (hI_412_0 : sx_I σ (b + 412) 0 = 0) (hI_413_0 : sx_I σ (b + 413) 0 = 1) (hI_416_0 : sx_I σ (b + 416) 0 = 0) (hJ_417_0 : sx_J σ (b + 417) 0 = w1) (hR_405_3 : sx_R σ (b + 405) 3 = (some (b + 406))) (hR_405_4 : sx_R σ (b + 405) 4 = (some (b + 407))) (hR_405_7 : sx_R σ (b + 405) 7 = (some (b + 409))) (hR_405_8 : sx_R σ (b + 405) 8 = (some (b + 410))) (hR_405_10 : sx_R σ (b + 405) 10 = (some (b + 412))) (hR_405_11 : sx_R σ (b + 405) 11 = (some (b + 413))) (hR_405_12 : sx_R σ (b + 405) 12 = (some (b + 414))) (hR_405_14 : sx_R σ (b + 405) 14 = (some (b + 416))) (hR_405_15 : sx_R σ (b + 405) 15 = (some (b + 417))) (hR_405_42 : sx_R σ (b + 405) 42 = (some (b + 428))) : Met l yX9_runs (.code yX9_runs cX9_runs 5 none :: lw_g) { frames := 5, cells := 0, slots := 0, locals := 130 } (va_Pc [.ref (b + 405), .int 0] (zx_w g σ)) (va_Qv (fun u => u = (ap b σ [(412, 0, 1), (414, 0, 2), (405, 26, 1), (405, 37, 1), (405, 27, 2), (413, 0, 2), (416, 1, 13), (405, 28, 1), (405, 38, 1), (405, 48, (-1)), (405, 27, 1), (405, 29, (w1.toInt32)), (405, 26, 1), (405, 47, 1), (405, 39, 0), (405, 38, 0), (405, 37, 0), (405, 36, 0), (405, 35, 0), (405, 34, 0), (405, 32, 0), (405, 31, 0), (405, 30, 0), (405, 29, 0), (405, 28, 0), (405, 27, 0), (405, 26, 1), (428, 0, 0), (405, 45, 0), (405, 43, 0)] [(417, 1, ((10 * ((w1.toInt32).toInt64)) + 1))] [])) (zx_w g) (gx_Q g)) 0 0 (gx_Q g) := by
  refine z_met (by decide) (Nat.le_of_ble_eq_true rfl) (fun p e s m below meth c B hr hin => ?_)
  refine z_eqs (σ' := (ap b σ [] [] [])) rfl ?_
  show zx p l e _ s m _ below meth c g 5 0 0 _ _ 0 [(0, .ref (b + 405)), (1, .int 0)] []
  refine z_aload_n B dX9_runs_0 rfl 0 rfl ?_
  refine z_iconst (v := 0) B dX9_runs_1 (by decide) ?_
  refine pf_X9_226 (x := 0) (σ' := (ap b σ [(405, 43, 0)] [] [])) B (lKA (hk_K hK 405 rfl rfl)) wI_ap dX9_runs_2 ?_
  refine z_aload_n B dX9_runs_5 rfl 0 rfl ?_
  refine z_iconst (v := 0) B dX9_runs_6 (by decide) ?_
  refine pf_X9_159 (x := 0) (σ' := (ap b σ [(405, 45, 0), (405, 43, 0)] [] [])) B (lKA (hk_K hK 405 rfl rfl)) wI_ap dX9_runs_7 ?_
  refine z_aload_n B dX9_runs_10 rfl 0 rfl ?_
  refine z_iload_n B dX9_runs_11 rfl 1 rfl ?_
  refine z_cVv (As := [.int 0]) (rest := []) B cw_X9_229 cx_10 dX9_runs_12 (ci_X9_goesOn_713 l (σ := (ap b σ [(405, 45, 0), (405, 43, 0)] [] [])) (b := b) (lyA hK) w1 (rI_at 405 16 hI_405_16) (rI_at 406 0 hI_406_0) (rI_at 407 0 hI_407_0) (rI_at 409 0 hI_409_0) (rI_at 410 0 hI_410_0) (rI_at 412 0 hI_412_0) (rI_at 413 0 hI_413_0) (rI_at 416 0 hI_416_0) (rJ_at 417 0 hJ_417_0) (rR_at 405 3 hR_405_3) (rR_at 405 4 hR_405_4) (rR_at 405 7 hR_405_7) (rR_at 405 8 hR_405_8) (rR_at 405 10 hR_405_10) (rR_at 405 11 hR_405_11) (rR_at 405 12 hR_405_12) (rR_at 405 14 hR_405_14) (rR_at 405 15 hR_405_15) (rR_at 405 42 hR_405_42)) (lKA (hk_K hK 405 rfl rfl)) rfl (by decide) rfl (Nat.le_of_ble_eq_true rfl) (by decide) (fun u hu => ?_)
  refine z_eqs (σ' := (ap b σ [(412, 0, 1), (414, 0, 2), (405, 26, 1), (405, 37, 1), (405, 27, 2), (413, 0, 2), (416, 1, 13), (405, 28, 1), (405, 38, 1), (405, 48, (-1)), (405, 27, 1), (405, 29, (w1.toInt32)), (405, 26, 1), (405, 47, 1), (405, 39, 0), (405, 38, 0), (405, 37, 0), (405, 36, 0), (405, 35, 0), (405, 34, 0), (405, 32, 0), (405, 31, 0), (405, 30, 0), (405, 29, 0), (405, 28, 0), (405, 27, 0), (405, 26, 1), (428, 0, 0), (405, 45, 0), (405, 43, 0)] [(417, 1, ((10 * ((w1.toInt32).toInt64)) + 1))] [])) (hu.trans ap_ap) ?_
  show zx p l e _ s m _ below meth c g 5 0 0 _ _ 15 [(0, .ref (b + 405)), (1, .int 0)] _
  refine z_iconst (v := 0) B dX9_runs_15 (by decide) ?_
  refine z_istore_n (lv' := [(2, .int 0), (0, .ref (b + 405)), (1, .int 0)]) B dX9_runs_16 rfl (by decide) rfl ?_
  refine z_iconst (v := 0) B dX9_runs_17 (by decide) ?_
  refine z_istore_n (lv' := [(3, .int 0), (2, .int 0), (0, .ref (b + 405)), (1, .int 0)]) B dX9_runs_18 rfl (by decide) rfl ?_
  refine z_iload_n B dX9_runs_19 rfl 1 rfl ?_
  refine z_aload_n B dX9_runs_20 rfl 2 rfl ?_
  refine gf_X9_226 (x := 0) B (lKA (hk_K hK 405 rfl rfl)) (rI_at 405 43 rfl) dX9_runs_21 ?_
  refine z_icmp_lt (tgt := 35) B dX9_runs_24 (by decide) (fun h => absurd h (by decide)) (fun _ => ?_)
  refine z_iload_n B dX9_runs_27 rfl 0 rfl ?_
  refine z_aload_n B dX9_runs_28 rfl 2 rfl ?_
  refine gf_X9_159 (x := 0) B (lKA (hk_K hK 405 rfl rfl)) (rI_at 405 45 rfl) dX9_runs_29 ?_
  refine z_icmp_ge (tgt := 90) B dX9_runs_32 (by decide) (fun _ => ?_) (fun h => absurd (by decide) h)
  exact z_vret B hr (by decide) (by decide) dX9_runs_90 rfl
set_option maxRecDepth 100000 in
set_option maxHeartbeats 4000000 in
theorem ci_X9_start_715 (l : Launch) {g : gx_T} {σ : sx_T} {b : Nat} (hK : lay b σ) (w1 : Int32) (q1_w1 : (-999 : Int) ≤ w1.toInt) (q2_w1 : w1.toInt ≤ (-1 : Int)) (hI_405_6 : sx_I σ (b + 405) 6 = 0) (hI_405_16 : sx_I σ (b + 405) 16 = 0) (hI_406_0 : sx_I σ (b + 406) 0 = 0) (hI_407_0 : sx_I σ (b + 407) 0 = 0) (hI_412_0 : sx_I σ (b + 412) 0 = 0) (hI_413_0 : sx_I σ (b + 413) 0 = 0) (hR_405_3 : sx_R σ (b + 405) 3 = (some (b + 406))) (hR_405_4 : sx_R σ (b + 405) 4 = (some (b + 407))) (hR_405_7 : sx_R σ (b + 405) 7 = (some (b + 409))) (hR_405_8 : sx_R σ (b + 405) 8 = (some (b + 410))) (hR_405_9 : sx_R σ (b + 405) 9 = (some (b + 411))) (hR_405_10 : sx_R σ (b + 405) 10 = (some (b + 412))) (hR_405_11 : sx_R σ (b + 405) 11 = (some (b + 413))) (hR_405_12 : sx_R σ (b + 405) 12 = (some (b + 414))) (hR_405_13 : sx_R σ (b + 405) 13 = (some (b + 415))) (hR_405_14 : sx_R σ (b + 405) 14 = (some (b + 416))) (hR_405_15 : sx_R σ (b + 405) 15 = (some (b + 417))) (hR_405_42 : sx_R σ (b + 405) 42 = (some (b + 428))) : Met l yX9_start (.code yX9_start cX9_start 4 (some .int) :: lw_g) { frames := 6, cells := 0, slots := 0, locals := 154 } (va_Pc [.ref (b + 405), .int 0, .int w1] (zx_w g σ)) (va_Qi (fun r u => r = 0 ∧ u = (ap b σ [(412, 0, 1), (414, 0, 2), (405, 26, 1), (405, 37, 1), (405, 27, 2), (413, 0, 2), (416, 1, 13), (405, 28, 1), (405, 38, 1), (405, 48, (-1)), (405, 27, 1), (405, 29, ((w1.toInt64).toInt32)), (405, 26, 1), (405, 47, 1), (405, 39, 0), (405, 38, 0), (405, 37, 0), (405, 36, 0), (405, 35, 0), (405, 34, 0), (405, 32, 0), (405, 31, 0), (405, 30, 0), (405, 29, 0), (405, 28, 0), (405, 27, 0), (405, 26, 1), (428, 0, 0), (405, 45, 0), (405, 43, 0), (413, 0, 1), (416, 0, 0), (415, 0, (-1)), (411, 0, 0), (410, 0, (-1)), (409, 0, 0), (405, 6, 1), (405, 0, 0)] [(417, 1, ((10 * (((w1.toInt64).toInt32).toInt64)) + 1)), (417, 0, (w1.toInt64))] [])) (zx_w g) (gx_Q g)) 0 0 (gx_Q g) := by
  refine z_met (by decide) (Nat.le_of_ble_eq_true rfl) (fun p e s m below meth c B hr hin => ?_)
  refine z_eqs (σ' := (ap b σ [] [] [])) rfl ?_
  show zx p l e _ s m _ below meth c g 4 0 0 _ _ 0 [(0, .ref (b + 405)), (1, .int 0), (2, .int w1)] []
  refine z_aload_n B dX9_start_0 rfl 0 rfl ?_
  refine z_iload_n B dX9_start_1 rfl 1 rfl ?_
  refine z_iconst (v := 0) B dX9_start_2 (by decide) ?_
  refine z_iconst (v := 5) B dX9_start_3 (by decide) ?_
  refine z_cSi (As := [.int 0, .int 0, .int 5]) (rest := [.ref (b + 405)]) B cw_X9_96 dX9_start_4 (ci_X9_in_54 l (σ := (ap b σ [] [] [])) (b := b) (lyA hK) ) rfl (by decide) rfl (Nat.le_of_ble_eq_true rfl) (by decide) (fun r u hu => ?_)
  refine z_eqs (σ' := (ap b σ [] [] [])) hu.2 ?_
  show zx p l e _ s m _ below meth c g 4 0 0 _ _ 7 [(0, .ref (b + 405)), (1, .int 0), (2, .int w1)] _
  refine z_seti (y := 1) hu.1 ?_
  refine z_iload_n B dX9_start_7 rfl 2 rfl ?_
  refine z_sipush (v := (-999)) B dX9_start_8 (by decide) ?_
  refine z_sipush (v := 999) B dX9_start_11 (by decide) ?_
  refine z_cSi (As := [.int w1, .int (-999), .int 999]) (rest := [.int 1, .ref (b + 405)]) B cw_X9_96 dX9_start_14 (ci_X9_in_702 l (σ := (ap b σ [] [] [])) (b := b) (lyA hK) w1 q1_w1 q2_w1) rfl (by decide) rfl (Nat.le_of_ble_eq_true rfl) (by decide) (fun r u hu => ?_)
  refine z_eqs (σ' := (ap b σ [] [] [])) hu.2 ?_
  show zx p l e _ s m _ below meth c g 4 0 0 _ _ 17 [(0, .ref (b + 405)), (1, .int 0), (2, .int w1)] _
  refine z_seti (y := 1) hu.1 ?_
  refine z_aload_n B dX9_start_17 rfl 0 rfl ?_
  refine gf_X9_93 (x := 0) B (lKA (hk_K hK 405 rfl rfl)) (rI_at 405 6 hI_405_6) dX9_start_18 ?_
  refine z_bipush (v := 40) B dX9_start_21 (by decide) ?_
  refine z_icmp_ge (tgt := 30) B dX9_start_23 (by decide) (fun h => absurd h (by decide)) (fun _ => ?_)
  refine z_iconst (v := 1) B dX9_start_26 (by decide) ?_
  refine z_goto (tgt := 31) B dX9_start_27 (by decide) ?_
  refine z_cVi (As := [.int 1, .int 1, .int 1]) (rest := []) B cw_X9_259 cx_10 dX9_start_31 (ci_X9_needs___703 l (σ := (ap b σ [] [] [])) (b := b) (lyA hK) ) (lKA (hk_K hK 405 rfl rfl)) rfl (by decide) rfl (Nat.le_of_ble_eq_true rfl) (by decide) (fun r u hu => ?_)
  refine z_eqs (σ' := (ap b σ [(405, 0, 0)] [] [])) (hu.2.trans ap_ap) ?_
  show zx p l e _ s m _ below meth c g 4 0 0 _ _ 34 [(0, .ref (b + 405)), (1, .int 0), (2, .int w1)] _
  refine z_seti (y := 1) hu.1 ?_
  refine z_if_ne (tgt := 39) B dX9_start_34 (by decide) (fun _ => ?_) (fun h => absurd h (by decide))
  refine z_aload_n B dX9_start_39 rfl 0 rfl ?_
  refine z_iload_n B dX9_start_40 rfl 1 rfl ?_
  refine z_iload_n B dX9_start_41 rfl 2 rfl ?_
  refine z_iconst (v := (-1)) B dX9_start_42 (by decide) ?_
  refine z_iconst (v := (-1)) B dX9_start_43 (by decide) ?_
  refine z_cVi (As := [.int 0, .int w1, .int (-1), .int (-1)]) (rest := []) B cw_X9_168 cx_10 dX9_start_44 (ci_X9_begets_705 l (σ := (ap b σ [(405, 0, 0)] [] [])) (b := b) (lyA hK) w1 (rI_at 405 6 hI_405_6) (rI_at 413 0 hI_413_0) (rR_at 405 7 hR_405_7) (rR_at 405 8 hR_405_8) (rR_at 405 9 hR_405_9) (rR_at 405 11 hR_405_11) (rR_at 405 13 hR_405_13) (rR_at 405 14 hR_405_14) (rR_at 405 15 hR_405_15)) (lKA (hk_K hK 405 rfl rfl)) rfl (by decide) rfl (Nat.le_of_ble_eq_true rfl) (by decide) (fun r u hu => ?_)
  refine z_eqs (σ' := (ap b σ [(413, 0, 1), (416, 0, 0), (415, 0, (-1)), (411, 0, 0), (410, 0, (-1)), (409, 0, 0), (405, 6, 1), (405, 0, 0)] [(417, 0, (w1.toInt64))] [])) (hu.2.trans ap_ap) ?_
  show zx p l e _ s m _ below meth c g 4 0 0 _ _ 47 [(0, .ref (b + 405)), (1, .int 0), (2, .int w1)] _
  refine z_seti (y := 0) hu.1 ?_
  refine z_istore_n (lv' := [(3, .int 0), (0, .ref (b + 405)), (1, .int 0), (2, .int w1)]) B dX9_start_47 rfl (by decide) rfl ?_
  refine z_aload_n B dX9_start_48 rfl 1 rfl ?_
  refine z_iload_n B dX9_start_49 rfl 0 rfl ?_
  refine z_cVv (As := [.int 0]) (rest := []) B cw_X9_253 cx_10 dX9_start_50 (ci_X9_runs_714 l (σ := (ap b σ [(413, 0, 1), (416, 0, 0), (415, 0, (-1)), (411, 0, 0), (410, 0, (-1)), (409, 0, 0), (405, 6, 1), (405, 0, 0)] [(417, 0, (w1.toInt64))] [])) (b := b) (lyA hK) (w1.toInt64) (rI_at 405 16 hI_405_16) (rI_at 406 0 hI_406_0) (rI_at 407 0 hI_407_0) (rI_at 409 0 rfl) (rI_at 410 0 rfl) (rI_at 412 0 hI_412_0) (rI_at 413 0 rfl) (rI_at 416 0 rfl) (rJ_at 417 0 rfl) (rR_at 405 3 hR_405_3) (rR_at 405 4 hR_405_4) (rR_at 405 7 hR_405_7) (rR_at 405 8 hR_405_8) (rR_at 405 10 hR_405_10) (rR_at 405 11 hR_405_11) (rR_at 405 12 hR_405_12) (rR_at 405 14 hR_405_14) (rR_at 405 15 hR_405_15) (rR_at 405 42 hR_405_42)) (lKA (hk_K hK 405 rfl rfl)) rfl (by decide) rfl (Nat.le_of_ble_eq_true rfl) (by decide) (fun u hu => ?_)
  refine z_eqs (σ' := (ap b σ [(412, 0, 1), (414, 0, 2), (405, 26, 1), (405, 37, 1), (405, 27, 2), (413, 0, 2), (416, 1, 13), (405, 28, 1), (405, 38, 1), (405, 48, (-1)), (405, 27, 1), (405, 29, ((w1.toInt64).toInt32)), (405, 26, 1), (405, 47, 1), (405, 39, 0), (405, 38, 0), (405, 37, 0), (405, 36, 0), (405, 35, 0), (405, 34, 0), (405, 32, 0), (405, 31, 0), (405, 30, 0), (405, 29, 0), (405, 28, 0), (405, 27, 0), (405, 26, 1), (428, 0, 0), (405, 45, 0), (405, 43, 0), (413, 0, 1), (416, 0, 0), (415, 0, (-1)), (411, 0, 0), (410, 0, (-1)), (409, 0, 0), (405, 6, 1), (405, 0, 0)] [(417, 1, ((10 * (((w1.toInt64).toInt32).toInt64)) + 1)), (417, 0, (w1.toInt64))] [])) (hu.trans ap_ap) ?_
  show zx p l e _ s m _ below meth c g 4 0 0 _ _ 53 [(3, .int 0), (0, .ref (b + 405)), (1, .int 0), (2, .int w1)] _
  refine z_iload_n B dX9_start_53 rfl 0 rfl ?_
  exact z_iret B hr (by decide) (by decide) dX9_start_54 ⟨rfl, rfl⟩
set_option maxRecDepth 100000 in
set_option maxHeartbeats 4000000 in
theorem ci_X5_takeWanted_716 (l : Launch) {g : gx_T} {σ : sx_T} {b : Nat} (hK : lay b σ) (w1 : Int64) (q1_w1 : (1 : Int) ≤ w1.toInt) (q2_w1 : w1.toInt ≤ (9991 : Int)) (hI_37_2 : sx_I σ (b + 37) 2 = 2) (hI_38_1 : sx_I σ (b + 38) 1 = 13) (hI_41_4 : sx_I σ (b + 41) 4 = 1) (hI_41_16 : sx_I σ (b + 41) 16 = 13) (hJ_39_1 : sx_J σ (b + 39) 1 = w1) (hJ_41_17 : sx_J σ (b + 41) 17 = w1) (hR_37_0 : sx_R σ (b + 37) 0 = (some (b + 38))) (hR_37_1 : sx_R σ (b + 37) 1 = (some (b + 39))) (hR_41_3 : sx_R σ (b + 41) 3 = (some (b + 37))) : Met l yX5_takeWanted (.code yX5_takeWanted cX5_takeWanted 6 none :: lw_g) { frames := 1, cells := 0, slots := 0, locals := 23 } (va_Pc [.ref (b + 41), .int 1] (zx_w g σ)) (va_Qv (fun u => u = (ap b σ [(41, 15, 1), (41, 4, 2), (41, 16, (-1))] [] [])) (zx_w g) (gx_Q g)) 0 0 (gx_Q g) := by
  refine z_met (by decide) (Nat.le_of_ble_eq_true rfl) (fun p e s m below meth c B hr hin => ?_)
  refine z_eqs (σ' := (ap b σ [] [] [])) rfl ?_
  show zx p l e _ s m _ below meth c g 6 0 0 _ _ 0 [(0, .ref (b + 41)), (1, .int 1)] []
  refine z_iload_n B dX5_takeWanted_0 rfl 1 rfl ?_
  refine z_if_ne (tgt := 5) B dX5_takeWanted_1 (by decide) (fun _ => ?_) (fun h => absurd h (by decide))
  refine z_aload_n B dX5_takeWanted_5 rfl 0 rfl ?_
  refine gf_X5_29 (x := (some (b + 37))) B (lKA (hk_K hK 41 rfl rfl)) (rR_at 41 3 hR_41_3) dX5_takeWanted_6 ?_
  refine z_aload_n B dX5_takeWanted_9 rfl 0 rfl ?_
  refine gf_X5_38 (x := 1) B (lKA (hk_K hK 41 rfl rfl)) (rI_at 41 4 hI_41_4) dX5_takeWanted_10 ?_
  refine z_cVi (As := [.int 1]) (rest := []) B cw_X5_118 cx_2 dX5_takeWanted_13 (ci_X1_kindAt_686 l (σ := (ap b σ [] [] [])) (b := b) (lyA hK) (rI_at 37 2 hI_37_2) (rI_at 38 1 hI_38_1) (rR_at 37 0 hR_37_0)) (lKA (hk_K hK 37 rfl rfl)) rfl (by decide) rfl (Nat.le_of_ble_eq_true rfl) (by decide) (fun r u hu => ?_)
  refine z_eqs (σ' := (ap b σ [] [] [])) hu.2 ?_
  show zx p l e _ s m _ below meth c g 6 0 0 _ _ 16 [(0, .ref (b + 41)), (1, .int 1)] _
  refine z_seti (y := 13) hu.1 ?_
  refine z_istore_n (lv' := [(2, .int 13), (0, .ref (b + 41)), (1, .int 1)]) B dX5_takeWanted_16 rfl (by decide) rfl ?_
  refine z_aload_n B dX5_takeWanted_17 rfl 1 rfl ?_
  refine gf_X5_29 (x := (some (b + 37))) B (lKA (hk_K hK 41 rfl rfl)) (rR_at 41 3 hR_41_3) dX5_takeWanted_18 ?_
  refine z_aload_n B dX5_takeWanted_21 rfl 1 rfl ?_
  refine gf_X5_38 (x := 1) B (lKA (hk_K hK 41 rfl rfl)) (rI_at 41 4 hI_41_4) dX5_takeWanted_22 ?_
  refine z_cVl (As := [.int 1]) (rest := []) B cw_X5_44 cx_2 dX5_takeWanted_25 (ci_X1_numberAt_687 l (σ := (ap b σ [] [] [])) (b := b) (lyA hK) w1 (rI_at 37 2 hI_37_2) (rJ_at 39 1 hJ_39_1) (rR_at 37 1 hR_37_1)) (lKA (hk_K hK 37 rfl rfl)) rfl (by decide) rfl (Nat.le_of_ble_eq_true rfl) (by decide) (fun r u hu => ?_)
  refine z_eqs (σ' := (ap b σ [] [] [])) hu.2 ?_
  show zx p l e _ s m _ below meth c g 6 0 0 _ _ 28 [(2, .int 13), (0, .ref (b + 41)), (1, .int 1)] _
  refine z_setl (y := w1) hu.1 ?_
  refine z_lstore_n (lv' := [(3, .long w1), (2, .int 13), (0, .ref (b + 41)), (1, .int 1)]) B dX5_takeWanted_28 rfl (by decide) rfl ?_
  refine z_iload_n B dX5_takeWanted_29 rfl 1 rfl ?_
  refine z_iconst (v := 4) B dX5_takeWanted_30 (by decide) ?_
  refine z_icmp_eq (tgt := 52) B dX5_takeWanted_31 (by decide) (fun h => absurd h (by decide)) (fun _ => ?_)
  refine z_iload_n B dX5_takeWanted_34 rfl 1 rfl ?_
  refine z_bipush (v := 7) B dX5_takeWanted_35 (by decide) ?_
  refine z_icmp_eq (tgt := 52) B dX5_takeWanted_37 (by decide) (fun h => absurd h (by decide)) (fun _ => ?_)
  refine z_iload_n B dX5_takeWanted_40 rfl 1 rfl ?_
  refine z_bipush (v := 9) B dX5_takeWanted_41 (by decide) ?_
  refine z_icmp_eq (tgt := 52) B dX5_takeWanted_43 (by decide) (fun h => absurd h (by decide)) (fun _ => ?_)
  refine z_iload_n B dX5_takeWanted_46 rfl 1 rfl ?_
  refine z_bipush (v := 14) B dX5_takeWanted_47 (by decide) ?_
  refine z_icmp_ne (tgt := 56) B dX5_takeWanted_49 (by decide) (fun _ => ?_) (fun h => absurd h (by decide))
  refine z_iconst (v := 0) B dX5_takeWanted_56 (by decide) ?_
  refine z_istore (lv' := [(5, .int 0), (3, .long w1), (2, .int 13), (0, .ref (b + 41)), (1, .int 1)]) B dX5_takeWanted_57 (by decide) rfl ?_
  refine z_iload_n B dX5_takeWanted_59 rfl 2 rfl ?_
  refine z_aload_n B dX5_takeWanted_60 rfl 3 rfl ?_
  refine gf_X5_82 (x := 13) B (lKA (hk_K hK 41 rfl rfl)) (rI_at 41 16 hI_41_16) dX5_takeWanted_61 ?_
  refine z_icmp_ne (tgt := 130) B dX5_takeWanted_64 (by decide) (fun h => absurd (by decide) h) (fun _ => ?_)
  refine z_iload B dX5_takeWanted_67 0 rfl ?_
  refine z_if_ne (tgt := 81) B dX5_takeWanted_69 (by decide) (fun h => absurd (by decide) h) (fun _ => ?_)
  refine z_lload_n B dX5_takeWanted_72 rfl 1 rfl ?_
  refine z_aload_n B dX5_takeWanted_73 rfl 3 rfl ?_
  refine gf_X5_85 (x := w1) B (lKA (hk_K hK 41 rfl rfl)) (rJ_at 41 17 hJ_41_17) dX5_takeWanted_74 ?_
  refine z_lcmp (v := 0) B dX5_takeWanted_77 lgc_self ?_
  refine z_if_ne (tgt := 130) B dX5_takeWanted_78 (by decide) (fun h => absurd (by decide) h) (fun _ => ?_)
  refine z_aload_n B dX5_takeWanted_81 rfl 3 rfl ?_
  refine z_iconst (v := (-1)) B dX5_takeWanted_82 (by decide) ?_
  refine pf_X5_82 (x := (-1)) (σ' := (ap b σ [(41, 16, (-1))] [] [])) B (lKA (hk_K hK 41 rfl rfl)) wI_ap dX5_takeWanted_83 ?_
  refine z_aload_n B dX5_takeWanted_86 rfl 3 rfl ?_
  refine z_dup B dX5_takeWanted_87 rfl ?_
  refine gf_X5_38 (x := 1) B (lKA (hk_K hK 41 rfl rfl)) (rI_at 41 4 hI_41_4) dX5_takeWanted_88 ?_
  refine z_iconst (v := 1) B dX5_takeWanted_91 (by decide) ?_
  refine z_iadd B dX5_takeWanted_92 ?_
  refine z_seti (y := 2) (by decide) ?_
  refine pf_X5_38 (x := 2) (σ' := (ap b σ [(41, 4, 2), (41, 16, (-1))] [] [])) B (lKA (hk_K hK 41 rfl rfl)) wI_ap dX5_takeWanted_93 ?_
  refine z_lload_n B dX5_takeWanted_96 rfl 1 rfl ?_
  refine z_lconst (v := 0) B dX5_takeWanted_97 (by decide) ?_
  refine z_lcmp (v := 1) B dX5_takeWanted_98 (lgc_gt q1_w1 (by decide)) ?_
  refine z_if_ge (tgt := 121) B dX5_takeWanted_99 (by decide) (fun _ => ?_) (fun h => absurd (by decide) h)
  refine z_aload_n B dX5_takeWanted_121 rfl 3 rfl ?_
  refine z_iload_n B dX5_takeWanted_122 rfl 2 rfl ?_
  refine z_lload_n B dX5_takeWanted_123 rfl 1 rfl ?_
  refine z_cVv (As := [.int 13, .long w1]) (rest := []) B cw_X5_125 cx_6 dX5_takeWanted_124 (ci_X5_follow_688 l (σ := (ap b σ [(41, 4, 2), (41, 16, (-1))] [] [])) (b := b) (lyA hK) w1) (lKA (hk_K hK 41 rfl rfl)) rfl (by decide) rfl (Nat.le_of_ble_eq_true rfl) (by decide) (fun u hu => ?_)
  refine z_eqs (σ' := (ap b σ [(41, 15, 1), (41, 4, 2), (41, 16, (-1))] [] [])) (hu.trans ap_ap) ?_
  show zx p l e _ s m _ below meth c g 6 0 0 _ _ 127 [(5, .int 0), (3, .long w1), (2, .int 13), (0, .ref (b + 41)), (1, .int 1)] _
  refine z_goto (tgt := 157) B dX5_takeWanted_127 (by decide) ?_
  exact z_vret B hr (by decide) (by decide) dX5_takeWanted_157 rfl
set_option maxRecDepth 100000 in
set_option maxHeartbeats 4000000 in
theorem ci_X5_advance_717 (l : Launch) {g : gx_T} {σ : sx_T} {b : Nat} (hK : lay b σ) (w1 : Int64) (q1_w1 : (1 : Int) ≤ w1.toInt) (q2_w1 : w1.toInt ≤ (9991 : Int)) (hI_37_2 : sx_I σ (b + 37) 2 = 2) (hI_38_1 : sx_I σ (b + 38) 1 = 13) (hI_41_4 : sx_I σ (b + 41) 4 = 1) (hI_41_16 : sx_I σ (b + 41) 16 = 13) (hI_41_19 : sx_I σ (b + 41) 19 = 0) (hJ_39_1 : sx_J σ (b + 39) 1 = w1) (hJ_41_17 : sx_J σ (b + 41) 17 = w1) (hR_37_0 : sx_R σ (b + 37) 0 = (some (b + 38))) (hR_37_1 : sx_R σ (b + 37) 1 = (some (b + 39))) (hR_41_3 : sx_R σ (b + 41) 3 = (some (b + 37))) : Met l yX5_advance (.code yX5_advance cX5_advance 5 none :: lw_g) { frames := 2, cells := 0, slots := 0, locals := 48 } (va_Pc [.ref (b + 41), .int 2] (zx_w g σ)) (va_Qv (fun u => u = (ap b σ [(41, 19, 0), (41, 15, 1), (41, 4, 2), (41, 16, (-1))] [] [])) (zx_w g) (gx_Q g)) 0 0 (gx_Q g) := by
  refine z_met (by decide) (Nat.le_of_ble_eq_true rfl) (fun p e s m below meth c B hr hin => ?_)
  refine z_eqs (σ' := (ap b σ [] [] [])) rfl ?_
  show zx p l e _ s m _ below meth c g 5 0 0 _ _ 0 [(0, .ref (b + 41)), (1, .int 2)] []
  refine z_iconst (v := 1) B dX5_advance_0 (by decide) ?_
  refine z_istore_n (lv' := [(2, .int 1), (0, .ref (b + 41)), (1, .int 2)]) B dX5_advance_1 rfl (by decide) rfl ?_
  refine z_iconst (v := 0) B dX5_advance_2 (by decide) ?_
  refine z_istore_n (lv' := [(3, .int 0), (2, .int 1), (0, .ref (b + 41)), (1, .int 2)]) B dX5_advance_3 rfl (by decide) rfl ?_
  refine z_iload_n B dX5_advance_4 rfl 0 rfl ?_
  refine z_ldc (v := 1000000) B dX5_advance_5 wg_355 ?_
  refine z_icmp_ge (tgt := 122) B dX5_advance_7 (by decide) (fun h => absurd h (by decide)) (fun _ => ?_)
  refine z_iload_n B dX5_advance_10 rfl 1 rfl ?_
  refine z_if_eq (tgt := 122) B dX5_advance_11 (by decide) (fun h => absurd h (by decide)) (fun _ => ?_)
  refine z_aload_n B dX5_advance_14 rfl 2 rfl ?_
  refine gf_X5_38 (x := 1) B (lKA (hk_K hK 41 rfl rfl)) (rI_at 41 4 hI_41_4) dX5_advance_15 ?_
  refine z_iload_n B dX5_advance_18 rfl 3 rfl ?_
  refine z_icmp_ge (tgt := 26) B dX5_advance_19 (by decide) (fun h => absurd h (by decide)) (fun _ => ?_)
  refine z_iconst (v := 1) B dX5_advance_22 (by decide) ?_
  refine z_goto (tgt := 27) B dX5_advance_23 (by decide) ?_
  refine z_istore (lv' := [(4, .int 1), (3, .int 0), (2, .int 1), (0, .ref (b + 41)), (1, .int 2)]) B dX5_advance_27 (by decide) rfl ?_
  refine z_aload_n B dX5_advance_29 rfl 3 rfl ?_
  refine gf_X5_91 (x := 0) B (lKA (hk_K hK 41 rfl rfl)) (rI_at 41 19 hI_41_19) dX5_advance_30 ?_
  refine z_if_eq (tgt := 41) B dX5_advance_33 (by decide) (fun _ => ?_) (fun h => absurd (by decide) h)
  refine z_aload_n B dX5_advance_41 rfl 3 rfl ?_
  refine gf_X5_82 (x := 13) B (lKA (hk_K hK 41 rfl rfl)) (rI_at 41 16 hI_41_16) dX5_advance_42 ?_
  refine z_iconst (v := (-1)) B dX5_advance_45 (by decide) ?_
  refine z_icmp_eq (tgt := 61) B dX5_advance_46 (by decide) (fun h => absurd h (by decide)) (fun _ => ?_)
  refine z_iload B dX5_advance_49 0 rfl ?_
  refine z_istore_n (lv' := [(2, .int 1), (4, .int 1), (3, .int 0), (0, .ref (b + 41)), (1, .int 2)]) B dX5_advance_51 rfl (by decide) rfl ?_
  refine z_aload_n B dX5_advance_52 rfl 3 rfl ?_
  refine z_iload B dX5_advance_53 1 rfl ?_
  refine z_cVv (As := [.int 1]) (rest := []) B cw_X5_95 cx_6 dX5_advance_55 (ci_X5_takeWanted_716 l (σ := (ap b σ [] [] [])) (b := b) (lyA hK) w1 q1_w1 q2_w1 (rI_at 37 2 hI_37_2) (rI_at 38 1 hI_38_1) (rI_at 41 4 hI_41_4) (rI_at 41 16 hI_41_16) (rJ_at 39 1 hJ_39_1) (rJ_at 41 17 hJ_41_17) (rR_at 37 0 hR_37_0) (rR_at 37 1 hR_37_1) (rR_at 41 3 hR_41_3)) (lKA (hk_K hK 41 rfl rfl)) rfl (by decide) rfl (Nat.le_of_ble_eq_true rfl) (by decide) (fun u hu => ?_)
  refine z_eqs (σ' := (ap b σ [(41, 15, 1), (41, 4, 2), (41, 16, (-1))] [] [])) (hu.trans ap_ap) ?_
  show zx p l e _ s m _ below meth c g 5 0 0 _ _ 58 [(2, .int 1), (4, .int 1), (3, .int 0), (0, .ref (b + 41)), (1, .int 2)] _
  refine z_goto (tgt := 116) B dX5_advance_58 (by decide) ?_
  refine z_iinc (v := 1) (lv' := [(3, .int 1), (2, .int 1), (4, .int 1), (0, .ref (b + 41)), (1, .int 2)]) B dX5_advance_116 2 rfl (by decide) (by decide) rfl ?_
  refine z_goto (tgt := 4) B dX5_advance_119 (by decide) ?_
  refine z_iload_n B dX5_advance_4 rfl 0 rfl ?_
  refine z_ldc (v := 1000000) B dX5_advance_5 wg_355 ?_
  refine z_icmp_ge (tgt := 122) B dX5_advance_7 (by decide) (fun h => absurd h (by decide)) (fun _ => ?_)
  refine z_iload_n B dX5_advance_10 rfl 1 rfl ?_
  refine z_if_eq (tgt := 122) B dX5_advance_11 (by decide) (fun h => absurd h (by decide)) (fun _ => ?_)
  refine z_aload_n B dX5_advance_14 rfl 3 rfl ?_
  refine gf_X5_38 (x := 2) B (lKA (hk_K hK 41 rfl rfl)) (rI_at 41 4 rfl) dX5_advance_15 ?_
  refine z_iload_n B dX5_advance_18 rfl 4 rfl ?_
  refine z_icmp_ge (tgt := 26) B dX5_advance_19 (by decide) (fun _ => ?_) (fun h => absurd (by decide) h)
  refine z_iconst (v := 0) B dX5_advance_26 (by decide) ?_
  refine z_istore (lv' := [(4, .int 0), (3, .int 1), (2, .int 1), (0, .ref (b + 41)), (1, .int 2)]) B dX5_advance_27 (by decide) rfl ?_
  refine z_aload_n B dX5_advance_29 rfl 3 rfl ?_
  refine gf_X5_91 (x := 0) B (lKA (hk_K hK 41 rfl rfl)) (rI_at 41 19 hI_41_19) dX5_advance_30 ?_
  refine z_if_eq (tgt := 41) B dX5_advance_33 (by decide) (fun _ => ?_) (fun h => absurd (by decide) h)
  refine z_aload_n B dX5_advance_41 rfl 3 rfl ?_
  refine gf_X5_82 (x := (-1)) B (lKA (hk_K hK 41 rfl rfl)) (rI_at 41 16 rfl) dX5_advance_42 ?_
  refine z_iconst (v := (-1)) B dX5_advance_45 (by decide) ?_
  refine z_icmp_eq (tgt := 61) B dX5_advance_46 (by decide) (fun _ => ?_) (fun h => absurd (by decide) h)
  refine z_aload_n B dX5_advance_61 rfl 3 rfl ?_
  refine gf_X5_79 (x := 1) B (lKA (hk_K hK 41 rfl rfl)) (rI_at 41 15 rfl) dX5_advance_62 ?_
  refine z_if_eq (tgt := 79) B dX5_advance_65 (by decide) (fun h => absurd h (by decide)) (fun _ => ?_)
  refine z_aload_n B dX5_advance_68 rfl 3 rfl ?_
  refine z_iload B dX5_advance_69 0 rfl ?_
  refine pf_X5_91 (x := 0) (σ' := (ap b σ [(41, 19, 0), (41, 15, 1), (41, 4, 2), (41, 16, (-1))] [] [])) B (by decide) (lKA (hk_K hK 41 rfl rfl)) wI_ap dX5_advance_71 ?_
  refine z_iconst (v := 0) B dX5_advance_74 (by decide) ?_
  refine z_istore_n (lv' := [(2, .int 0), (4, .int 0), (3, .int 1), (0, .ref (b + 41)), (1, .int 2)]) B dX5_advance_75 rfl (by decide) rfl ?_
  refine z_goto (tgt := 116) B dX5_advance_76 (by decide) ?_
  refine z_iinc (v := 2) (lv' := [(3, .int 2), (2, .int 0), (4, .int 0), (0, .ref (b + 41)), (1, .int 2)]) B dX5_advance_116 2 rfl (by decide) (by decide) rfl ?_
  refine z_goto (tgt := 4) B dX5_advance_119 (by decide) ?_
  refine z_iload_n B dX5_advance_4 rfl 0 rfl ?_
  refine z_ldc (v := 1000000) B dX5_advance_5 wg_355 ?_
  refine z_icmp_ge (tgt := 122) B dX5_advance_7 (by decide) (fun h => absurd h (by decide)) (fun _ => ?_)
  refine z_iload_n B dX5_advance_10 rfl 1 rfl ?_
  refine z_if_eq (tgt := 122) B dX5_advance_11 (by decide) (fun _ => ?_) (fun h => absurd (by decide) h)
  exact z_vret B hr (by decide) (by decide) dX5_advance_122 rfl
set_option maxRecDepth 100000 in
set_option maxHeartbeats 4000000 in
theorem ci_X8_goOn_718 (l : Launch) {g : gx_T} {σ : sx_T} {b : Nat} (hK : lay b σ) (w1 : Int32) (q1_w1 : (0 : Int) ≤ w1.toInt) (q2_w1 : w1.toInt ≤ (999 : Int)) (hI_5_1 : sx_I σ (b + 5) 1 = 0) (hI_5_2 : sx_I σ (b + 5) 2 = 0) (hI_7_1 : sx_I σ (b + 7) 1 = 0) (hI_7_2 : sx_I σ (b + 7) 2 = 0) (hI_10_0 : sx_I σ (b + 10) 0 = 0) (hI_11_0 : sx_I σ (b + 11) 0 = 0) (hI_12_0 : sx_I σ (b + 12) 0 = 0) (hI_37_2 : sx_I σ (b + 37) 2 = 1) (hI_40_4 : sx_I σ (b + 40) 4 = (-1)) (hI_40_8 : sx_I σ (b + 40) 8 = 0) (hI_41_4 : sx_I σ (b + 41) 4 = 1) (hI_41_5 : sx_I σ (b + 41) 5 = 0) (hI_41_6 : sx_I σ (b + 41) 6 = w1) (hI_41_7 : sx_I σ (b + 41) 7 = 0) (hI_41_8 : sx_I σ (b + 41) 8 = 0) (hI_41_14 : sx_I σ (b + 41) 14 = 0) (hI_41_15 : sx_I σ (b + 41) 15 = 0) (hI_41_16 : sx_I σ (b + 41) 16 = (-1)) (hI_41_18 : sx_I σ (b + 41) 18 = (-1)) (hI_41_19 : sx_I σ (b + 41) 19 = 0) (hR_0_4 : sx_R σ (b + 0) 4 = (some (b + 5))) (hR_0_5 : sx_R σ (b + 0) 5 = (some (b + 7))) (hR_5_0 : sx_R σ (b + 5) 0 = (some (b + 6))) (hR_9_1 : sx_R σ (b + 9) 1 = (some (b + 10))) (hR_9_2 : sx_R σ (b + 9) 2 = (some (b + 11))) (hR_9_3 : sx_R σ (b + 9) 3 = (some (b + 12))) (hR_37_0 : sx_R σ (b + 37) 0 = (some (b + 38))) (hR_37_1 : sx_R σ (b + 37) 1 = (some (b + 39))) (hR_40_1 : sx_R σ (b + 40) 1 = (some (b + 37))) (hR_40_2 : sx_R σ (b + 40) 2 = (some (b + 41))) (hR_40_7 : sx_R σ (b + 40) 7 = none) (hR_41_2 : sx_R σ (b + 41) 2 = (some (b + 9))) (hR_41_3 : sx_R σ (b + 41) 3 = (some (b + 37))) : Met l yX8_goOn (.code yX8_goOn cX8_goOn 5 none :: lw_g) { frames := 3, cells := 0, slots := 0, locals := 72 } (va_Pc [.ref (b + 0), .ref (b + 40)] (zx_w g σ)) (va_Qv (fun u => u = (ap b σ [(7, 2, 0), (7, 1, 0), (40, 8, 2), (5, 2, 0), (41, 19, 0), (41, 19, 0), (41, 15, 1), (41, 4, 2), (41, 16, (-1)), (37, 2, 2), (38, 1, 13), (41, 16, 13), (41, 7, 1), (41, 5, 1), (5, 2, 1)] [(39, 1, ((10 * (w1.toInt64)) + 1)), (41, 17, ((10 * (w1.toInt64)) + 1))] [(6, 0, (some (b + 40)))])) (zx_w g) (gx_Q g)) 0 0 (gx_Q g) := by
  refine z_met (by decide) (Nat.le_of_ble_eq_true rfl) (fun p e s m below meth c B hr hin => ?_)
  refine z_eqs (σ' := (ap b σ [] [] [])) rfl ?_
  show zx p l e _ s m _ below meth c g 5 0 0 _ _ 0 [(0, .ref (b + 0)), (1, .ref (b + 40))] []
  refine z_aload_n B dX8_goOn_0 rfl 0 rfl ?_
  refine gf_X8_35 (x := (some (b + 5))) B (lKA (hk_K hK 0 rfl rfl)) (rR_at 0 4 hR_0_4) dX8_goOn_1 ?_
  refine z_aload_n B dX8_goOn_4 rfl 1 rfl ?_
  refine z_cVv (As := [.ref (b + 40)]) (rest := []) B cw_X8_337 cx_3 dX8_goOn_5 (ci_X2_addLast_667 l (σ := (ap b σ [] [] [])) (b := b) (lyA hK) (rI_at 5 2 hI_5_2) (rR_at 5 0 hR_5_0)) (lKA (hk_K hK 5 rfl rfl)) rfl (by decide) rfl (Nat.le_of_ble_eq_true rfl) (by decide) (fun u hu => ?_)
  refine z_eqs (σ' := (ap b σ [(5, 2, 1)] [] [(6, 0, (some (b + 40)))])) (hu.trans ap_ap) ?_
  show zx p l e _ s m _ below meth c g 5 0 0 _ _ 8 [(0, .ref (b + 0)), (1, .ref (b + 40))] _
  refine z_iconst (v := 0) B dX8_goOn_8 (by decide) ?_
  refine z_istore_n (lv' := [(2, .int 0), (0, .ref (b + 0)), (1, .ref (b + 40))]) B dX8_goOn_9 rfl (by decide) rfl ?_
  refine z_iload_n B dX8_goOn_10 rfl 0 rfl ?_
  refine z_ldcw (v := 1000000) B dX8_goOn_11 wg_515 ?_
  refine z_icmp_ge (tgt := 126) B dX8_goOn_14 (by decide) (fun h => absurd h (by decide)) (fun _ => ?_)
  refine z_aload_n B dX8_goOn_17 rfl 1 rfl ?_
  refine gf_X8_35 (x := (some (b + 5))) B (lKA (hk_K hK 0 rfl rfl)) (rR_at 0 4 hR_0_4) dX8_goOn_18 ?_
  refine z_cVi (As := []) (rest := []) B cw_X8_341 cx_3 dX8_goOn_21 (ci_X2_isEmpty_668 l (σ := (ap b σ [(5, 2, 1)] [] [(6, 0, (some (b + 40)))])) (b := b) (lyA hK) (rI_at 5 1 hI_5_1) (rI_at 5 2 rfl)) (lKA (hk_K hK 5 rfl rfl)) rfl (by decide) rfl (Nat.le_of_ble_eq_true rfl) (by decide) (fun r u hu => ?_)
  refine z_eqs (σ' := (ap b σ [(5, 2, 1)] [] [(6, 0, (some (b + 40)))])) hu.2 ?_
  show zx p l e _ s m _ below meth c g 5 0 0 _ _ 24 [(2, .int 0), (0, .ref (b + 0)), (1, .ref (b + 40))] _
  refine z_seti (y := 0) hu.1 ?_
  refine z_if_eq (tgt := 41) B dX8_goOn_24 (by decide) (fun _ => ?_) (fun h => absurd (by decide) h)
  refine z_aload_n B dX8_goOn_41 rfl 1 rfl ?_
  refine gf_X8_35 (x := (some (b + 5))) B (lKA (hk_K hK 0 rfl rfl)) (rR_at 0 4 hR_0_4) dX8_goOn_42 ?_
  refine z_cVq (As := []) (rest := []) B cw_X8_348 cx_3 dX8_goOn_45 (ci_X2_last_669 l (σ := (ap b σ [(5, 2, 1)] [] [(6, 0, (some (b + 40)))])) (b := b) (lyA hK) (rI_at 5 1 hI_5_1) (rI_at 5 2 rfl) (rR_at 5 0 hR_5_0) (rR_at 6 0 rfl)) (lKA (hk_K hK 5 rfl rfl)) rfl (by decide) rfl (Nat.le_of_ble_eq_true rfl) (by decide) (fun r u hu => ?_)
  refine z_eqs (σ' := (ap b σ [(5, 2, 1)] [] [(6, 0, (some (b + 40)))])) hu.2 ?_
  show zx p l e _ s m _ below meth c g 5 0 0 _ _ 48 [(2, .int 0), (0, .ref (b + 0)), (1, .ref (b + 40))] _
  refine z_setr (y := (some (b + 40))) hu.1 ?_
  refine z_astore_n (lv' := [(3, .ref (b + 40)), (2, .int 0), (0, .ref (b + 0)), (1, .ref (b + 40))]) B dX8_goOn_48 rfl (by decide) rfl ?_
  refine z_aload_n B dX8_goOn_49 rfl 0 rfl ?_
  refine z_ifnonnull (r := (some (b + 40))) (tgt := 54) B dX8_goOn_50 (by decide) (fun _ _ => ?_) (fun h => nomatch h)
  refine z_aload_n B dX8_goOn_54 rfl 0 rfl ?_
  refine gf_X8_249 (x := (some (b + 41))) B (lKA (hk_K hK 40 rfl rfl)) (rR_at 40 2 hR_40_2) dX8_goOn_55 ?_
  refine z_aload_n B dX8_goOn_58 rfl 0 rfl ?_
  refine gf_X8_179 (x := (some (b + 37))) B (lKA (hk_K hK 40 rfl rfl)) (rR_at 40 1 hR_40_1) dX8_goOn_59 ?_
  refine z_cVi (As := []) (rest := [.ref (b + 41)]) B cw_X8_183 cx_2 dX8_goOn_62 (ci_X1_size_670 l (σ := (ap b σ [(5, 2, 1)] [] [(6, 0, (some (b + 40)))])) (b := b) (lyA hK) (rI_at 37 2 hI_37_2)) (lKA (hk_K hK 37 rfl rfl)) rfl (by decide) rfl (Nat.le_of_ble_eq_true rfl) (by decide) (fun r u hu => ?_)
  refine z_eqs (σ' := (ap b σ [(5, 2, 1)] [] [(6, 0, (some (b + 40)))])) hu.2 ?_
  show zx p l e _ s m _ below meth c g 5 0 0 _ _ 65 [(3, .ref (b + 40)), (2, .int 0), (0, .ref (b + 0)), (1, .ref (b + 40))] _
  refine z_seti (y := 1) hu.1 ?_
  refine z_cVv (As := [.int 1]) (rest := []) B cw_X8_289 cx_6 dX8_goOn_65 (ci_X5_advance_678 l (σ := (ap b σ [(5, 2, 1)] [] [(6, 0, (some (b + 40)))])) (b := b) (lyA hK) w1 (rI_at 10 0 hI_10_0) (rI_at 11 0 hI_11_0) (rI_at 12 0 hI_12_0) (rI_at 41 4 hI_41_4) (rI_at 41 5 hI_41_5) (rI_at 41 6 hI_41_6) (rI_at 41 7 hI_41_7) (rI_at 41 8 hI_41_8) (rI_at 41 14 hI_41_14) (rI_at 41 15 hI_41_15) (rI_at 41 16 hI_41_16) (rI_at 41 19 hI_41_19) (rR_at 9 1 hR_9_1) (rR_at 9 2 hR_9_2) (rR_at 9 3 hR_9_3) (rR_at 41 2 hR_41_2)) (lKA (hk_K hK 41 rfl rfl)) rfl (by decide) rfl (Nat.le_of_ble_eq_true rfl) (by decide) (fun u hu => ?_)
  refine z_eqs (σ' := (ap b σ [(41, 16, 13), (41, 7, 1), (41, 5, 1), (5, 2, 1)] [(41, 17, ((10 * (w1.toInt64)) + 1))] [(6, 0, (some (b + 40)))])) (hu.trans ap_ap) ?_
  show zx p l e _ s m _ below meth c g 5 0 0 _ _ 68 [(3, .ref (b + 40)), (2, .int 0), (0, .ref (b + 0)), (1, .ref (b + 40))] _
  refine z_aload_n B dX8_goOn_68 rfl 0 rfl ?_
  refine z_cVv (As := []) (rest := []) B cw_X8_351 cx_1 dX8_goOn_69 (ci_X0_letGo_679 l (σ := (ap b σ [(41, 16, 13), (41, 7, 1), (41, 5, 1), (5, 2, 1)] [(41, 17, ((10 * (w1.toInt64)) + 1))] [(6, 0, (some (b + 40)))])) (b := b) (lyA hK) (rR_at 40 7 hR_40_7)) (lKA (hk_K hK 40 rfl rfl)) rfl (by decide) rfl (Nat.le_of_ble_eq_true rfl) (by decide) (fun u hu => ?_)
  refine z_eqs (σ' := (ap b σ [(41, 16, 13), (41, 7, 1), (41, 5, 1), (5, 2, 1)] [(41, 17, ((10 * (w1.toInt64)) + 1))] [(6, 0, (some (b + 40)))])) hu ?_
  show zx p l e _ s m _ below meth c g 5 0 0 _ _ 72 [(3, .ref (b + 40)), (2, .int 0), (0, .ref (b + 0)), (1, .ref (b + 40))] _
  refine z_aload_n B dX8_goOn_72 rfl 0 rfl ?_
  refine gf_X8_249 (x := (some (b + 41))) B (lKA (hk_K hK 40 rfl rfl)) (rR_at 40 2 hR_40_2) dX8_goOn_73 ?_
  refine z_cVi (As := []) (rest := []) B cw_X8_354 cx_6 dX8_goOn_76 (ci_X5_wantsEvent_680 l (σ := (ap b σ [(41, 16, 13), (41, 7, 1), (41, 5, 1), (5, 2, 1)] [(41, 17, ((10 * (w1.toInt64)) + 1))] [(6, 0, (some (b + 40)))])) (b := b) (lyA hK) (rI_at 41 16 rfl) (rI_at 41 19 hI_41_19)) (lKA (hk_K hK 41 rfl rfl)) rfl (by decide) rfl (Nat.le_of_ble_eq_true rfl) (by decide) (fun r u hu => ?_)
  refine z_eqs (σ' := (ap b σ [(41, 16, 13), (41, 7, 1), (41, 5, 1), (5, 2, 1)] [(41, 17, ((10 * (w1.toInt64)) + 1))] [(6, 0, (some (b + 40)))])) hu.2 ?_
  show zx p l e _ s m _ below meth c g 5 0 0 _ _ 79 [(3, .ref (b + 40)), (2, .int 0), (0, .ref (b + 0)), (1, .ref (b + 40))] _
  refine z_seti (y := 1) hu.1 ?_
  refine z_if_eq (tgt := 115) B dX8_goOn_79 (by decide) (fun h => absurd h (by decide)) (fun _ => ?_)
  refine z_aload_n B dX8_goOn_82 rfl 2 rfl ?_
  refine z_aload_n B dX8_goOn_83 rfl 0 rfl ?_
  refine z_cVq (As := [.ref (b + 40)]) (rest := []) B cw_X8_357 cx_9 dX8_goOn_84 (ci_X8_make_684 l (σ := (ap b σ [(41, 16, 13), (41, 7, 1), (41, 5, 1), (5, 2, 1)] [(41, 17, ((10 * (w1.toInt64)) + 1))] [(6, 0, (some (b + 40)))])) (b := b) (lyA hK) ((10 * (w1.toInt64)) + 1) (rI_at 37 2 hI_37_2) (rI_at 40 4 hI_40_4) (rI_at 41 16 rfl) (rJ_at 41 17 rfl) (rR_at 37 0 hR_37_0) (rR_at 37 1 hR_37_1) (rR_at 40 1 hR_40_1) (rR_at 40 2 hR_40_2)) (lKA (hk_K hK 0 rfl rfl)) rfl (by decide) rfl (Nat.le_of_ble_eq_true rfl) (by decide) (fun r u hu => ?_)
  refine z_eqs (σ' := (ap b σ [(37, 2, 2), (38, 1, 13), (41, 16, 13), (41, 7, 1), (41, 5, 1), (5, 2, 1)] [(39, 1, ((10 * (w1.toInt64)) + 1)), (41, 17, ((10 * (w1.toInt64)) + 1))] [(6, 0, (some (b + 40)))])) (hu.2.trans ap_ap) ?_
  show zx p l e _ s m _ below meth c g 5 0 0 _ _ 87 [(3, .ref (b + 40)), (2, .int 0), (0, .ref (b + 0)), (1, .ref (b + 40))] _
  refine z_setr (y := none) hu.1 ?_
  refine z_qstore (r := none) (lv' := [(4, .null), (3, .ref (b + 40)), (2, .int 0), (0, .ref (b + 0)), (1, .ref (b + 40))]) B dX8_goOn_87 (by decide) rfl ?_
  refine z_aload_n B dX8_goOn_89 rfl 1 rfl ?_
  refine gf_X8_249 (x := (some (b + 41))) B (lKA (hk_K hK 40 rfl rfl)) (rR_at 40 2 hR_40_2) dX8_goOn_90 ?_
  refine z_aload_n B dX8_goOn_93 rfl 1 rfl ?_
  refine gf_X8_179 (x := (some (b + 37))) B (lKA (hk_K hK 40 rfl rfl)) (rR_at 40 1 hR_40_1) dX8_goOn_94 ?_
  refine z_cVi (As := []) (rest := [.ref (b + 41)]) B cw_X8_183 cx_2 dX8_goOn_97 (ci_X1_size_685 l (σ := (ap b σ [(37, 2, 2), (38, 1, 13), (41, 16, 13), (41, 7, 1), (41, 5, 1), (5, 2, 1)] [(39, 1, ((10 * (w1.toInt64)) + 1)), (41, 17, ((10 * (w1.toInt64)) + 1))] [(6, 0, (some (b + 40)))])) (b := b) (lyA hK) (rI_at 37 2 rfl)) (lKA (hk_K hK 37 rfl rfl)) rfl (by decide) rfl (Nat.le_of_ble_eq_true rfl) (by decide) (fun r u hu => ?_)
  refine z_eqs (σ' := (ap b σ [(37, 2, 2), (38, 1, 13), (41, 16, 13), (41, 7, 1), (41, 5, 1), (5, 2, 1)] [(39, 1, ((10 * (w1.toInt64)) + 1)), (41, 17, ((10 * (w1.toInt64)) + 1))] [(6, 0, (some (b + 40)))])) hu.2 ?_
  show zx p l e _ s m _ below meth c g 5 0 0 _ _ 100 [(4, .null), (3, .ref (b + 40)), (2, .int 0), (0, .ref (b + 0)), (1, .ref (b + 40))] _
  refine z_seti (y := 2) hu.1 ?_
  refine z_cVv (As := [.int 2]) (rest := []) B cw_X8_289 cx_6 dX8_goOn_100 (ci_X5_advance_717 l (σ := (ap b σ [(37, 2, 2), (38, 1, 13), (41, 16, 13), (41, 7, 1), (41, 5, 1), (5, 2, 1)] [(39, 1, ((10 * (w1.toInt64)) + 1)), (41, 17, ((10 * (w1.toInt64)) + 1))] [(6, 0, (some (b + 40)))])) (b := b) (lyA hK) ((10 * (w1.toInt64)) + 1) (iv_ladd (c := 1) (n := 1) rfl (iv_lmul (c := 10) (n := 10) rfl (by decide) (iv_i2l q1_w1 q2_w1).1 (iv_i2l q1_w1 q2_w1).2 (by decide) (by decide)).1 (iv_lmul (c := 10) (n := 10) rfl (by decide) (iv_i2l q1_w1 q2_w1).1 (iv_i2l q1_w1 q2_w1).2 (by decide) (by decide)).2 (by decide) (by decide)).1 (iv_ladd (c := 1) (n := 1) rfl (iv_lmul (c := 10) (n := 10) rfl (by decide) (iv_i2l q1_w1 q2_w1).1 (iv_i2l q1_w1 q2_w1).2 (by decide) (by decide)).1 (iv_lmul (c := 10) (n := 10) rfl (by decide) (iv_i2l q1_w1 q2_w1).1 (iv_i2l q1_w1 q2_w1).2 (by decide) (by decide)).2 (by decide) (by decide)).2 (rI_at 37 2 rfl) (rI_at 38 1 rfl) (rI_at 41 4 hI_41_4) (rI_at 41 16 rfl) (rI_at 41 19 hI_41_19) (rJ_at 39 1 rfl) (rJ_at 41 17 rfl) (rR_at 37 0 hR_37_0) (rR_at 37 1 hR_37_1) (rR_at 41 3 hR_41_3)) (lKA (hk_K hK 41 rfl rfl)) rfl (by decide) rfl (Nat.le_of_ble_eq_true rfl) (by decide) (fun u hu => ?_)
  refine z_eqs (σ' := (ap b σ [(41, 19, 0), (41, 15, 1), (41, 4, 2), (41, 16, (-1)), (37, 2, 2), (38, 1, 13), (41, 16, 13), (41, 7, 1), (41, 5, 1), (5, 2, 1)] [(39, 1, ((10 * (w1.toInt64)) + 1)), (41, 17, ((10 * (w1.toInt64)) + 1))] [(6, 0, (some (b + 40)))])) (hu.trans ap_ap) ?_
  show zx p l e _ s m _ below meth c g 5 0 0 _ _ 103 [(4, .null), (3, .ref (b + 40)), (2, .int 0), (0, .ref (b + 0)), (1, .ref (b + 40))] _
  refine z_aload_n B dX8_goOn_103 rfl 3 rfl ?_
  refine gf_X8_35 (x := (some (b + 5))) B (lKA (hk_K hK 0 rfl rfl)) (rR_at 0 4 hR_0_4) dX8_goOn_104 ?_
  refine z_qload (r := none) B dX8_goOn_107 0 rfl ?_
  refine z_cVv (As := [.null]) (rest := []) B cw_X8_337 cx_3 dX8_goOn_109 (ci_X2_addLast_691 l (σ := (ap b σ [(41, 19, 0), (41, 15, 1), (41, 4, 2), (41, 16, (-1)), (37, 2, 2), (38, 1, 13), (41, 16, 13), (41, 7, 1), (41, 5, 1), (5, 2, 1)] [(39, 1, ((10 * (w1.toInt64)) + 1)), (41, 17, ((10 * (w1.toInt64)) + 1))] [(6, 0, (some (b + 40)))])) (b := b) (lyA hK) ) (lKA (hk_K hK 5 rfl rfl)) rfl (by decide) rfl (Nat.le_of_ble_eq_true rfl) (by decide) (fun u hu => ?_)
  refine z_eqs (σ' := (ap b σ [(41, 19, 0), (41, 15, 1), (41, 4, 2), (41, 16, (-1)), (37, 2, 2), (38, 1, 13), (41, 16, 13), (41, 7, 1), (41, 5, 1), (5, 2, 1)] [(39, 1, ((10 * (w1.toInt64)) + 1)), (41, 17, ((10 * (w1.toInt64)) + 1))] [(6, 0, (some (b + 40)))])) hu ?_
  show zx p l e _ s m _ below meth c g 5 0 0 _ _ 112 [(4, .null), (3, .ref (b + 40)), (2, .int 0), (0, .ref (b + 0)), (1, .ref (b + 40))] _
  refine z_goto (tgt := 120) B dX8_goOn_112 (by decide) ?_
  refine z_iinc (v := 1) (lv' := [(2, .int 1), (4, .null), (3, .ref (b + 40)), (0, .ref (b + 0)), (1, .ref (b + 40))]) B dX8_goOn_120 2 rfl (by decide) (by decide) rfl ?_
  refine z_goto (tgt := 10) B dX8_goOn_123 (by decide) ?_
  refine z_iload_n B dX8_goOn_10 rfl 0 rfl ?_
  refine z_ldcw (v := 1000000) B dX8_goOn_11 wg_515 ?_
  refine z_icmp_ge (tgt := 126) B dX8_goOn_14 (by decide) (fun h => absurd h (by decide)) (fun _ => ?_)
  refine z_aload_n B dX8_goOn_17 rfl 3 rfl ?_
  refine gf_X8_35 (x := (some (b + 5))) B (lKA (hk_K hK 0 rfl rfl)) (rR_at 0 4 hR_0_4) dX8_goOn_18 ?_
  refine z_cVi (As := []) (rest := []) B cw_X8_341 cx_3 dX8_goOn_21 (ci_X2_isEmpty_668 l (σ := (ap b σ [(41, 19, 0), (41, 15, 1), (41, 4, 2), (41, 16, (-1)), (37, 2, 2), (38, 1, 13), (41, 16, 13), (41, 7, 1), (41, 5, 1), (5, 2, 1)] [(39, 1, ((10 * (w1.toInt64)) + 1)), (41, 17, ((10 * (w1.toInt64)) + 1))] [(6, 0, (some (b + 40)))])) (b := b) (lyA hK) (rI_at 5 1 hI_5_1) (rI_at 5 2 rfl)) (lKA (hk_K hK 5 rfl rfl)) rfl (by decide) rfl (Nat.le_of_ble_eq_true rfl) (by decide) (fun r u hu => ?_)
  refine z_eqs (σ' := (ap b σ [(41, 19, 0), (41, 15, 1), (41, 4, 2), (41, 16, (-1)), (37, 2, 2), (38, 1, 13), (41, 16, 13), (41, 7, 1), (41, 5, 1), (5, 2, 1)] [(39, 1, ((10 * (w1.toInt64)) + 1)), (41, 17, ((10 * (w1.toInt64)) + 1))] [(6, 0, (some (b + 40)))])) hu.2 ?_
  show zx p l e _ s m _ below meth c g 5 0 0 _ _ 24 [(2, .int 1), (4, .null), (3, .ref (b + 40)), (0, .ref (b + 0)), (1, .ref (b + 40))] _
  refine z_seti (y := 0) hu.1 ?_
  refine z_if_eq (tgt := 41) B dX8_goOn_24 (by decide) (fun _ => ?_) (fun h => absurd (by decide) h)
  refine z_aload_n B dX8_goOn_41 rfl 3 rfl ?_
  refine gf_X8_35 (x := (some (b + 5))) B (lKA (hk_K hK 0 rfl rfl)) (rR_at 0 4 hR_0_4) dX8_goOn_42 ?_
  refine z_cVq (As := []) (rest := []) B cw_X8_348 cx_3 dX8_goOn_45 (ci_X2_last_669 l (σ := (ap b σ [(41, 19, 0), (41, 15, 1), (41, 4, 2), (41, 16, (-1)), (37, 2, 2), (38, 1, 13), (41, 16, 13), (41, 7, 1), (41, 5, 1), (5, 2, 1)] [(39, 1, ((10 * (w1.toInt64)) + 1)), (41, 17, ((10 * (w1.toInt64)) + 1))] [(6, 0, (some (b + 40)))])) (b := b) (lyA hK) (rI_at 5 1 hI_5_1) (rI_at 5 2 rfl) (rR_at 5 0 hR_5_0) (rR_at 6 0 rfl)) (lKA (hk_K hK 5 rfl rfl)) rfl (by decide) rfl (Nat.le_of_ble_eq_true rfl) (by decide) (fun r u hu => ?_)
  refine z_eqs (σ' := (ap b σ [(41, 19, 0), (41, 15, 1), (41, 4, 2), (41, 16, (-1)), (37, 2, 2), (38, 1, 13), (41, 16, 13), (41, 7, 1), (41, 5, 1), (5, 2, 1)] [(39, 1, ((10 * (w1.toInt64)) + 1)), (41, 17, ((10 * (w1.toInt64)) + 1))] [(6, 0, (some (b + 40)))])) hu.2 ?_
  show zx p l e _ s m _ below meth c g 5 0 0 _ _ 48 [(2, .int 1), (4, .null), (3, .ref (b + 40)), (0, .ref (b + 0)), (1, .ref (b + 40))] _
  refine z_setr (y := (some (b + 40))) hu.1 ?_
  refine z_astore_n (lv' := [(3, .ref (b + 40)), (2, .int 1), (4, .null), (0, .ref (b + 0)), (1, .ref (b + 40))]) B dX8_goOn_48 rfl (by decide) rfl ?_
  refine z_aload_n B dX8_goOn_49 rfl 0 rfl ?_
  refine z_ifnonnull (r := (some (b + 40))) (tgt := 54) B dX8_goOn_50 (by decide) (fun _ _ => ?_) (fun h => nomatch h)
  refine z_aload_n B dX8_goOn_54 rfl 0 rfl ?_
  refine gf_X8_249 (x := (some (b + 41))) B (lKA (hk_K hK 40 rfl rfl)) (rR_at 40 2 hR_40_2) dX8_goOn_55 ?_
  refine z_aload_n B dX8_goOn_58 rfl 0 rfl ?_
  refine gf_X8_179 (x := (some (b + 37))) B (lKA (hk_K hK 40 rfl rfl)) (rR_at 40 1 hR_40_1) dX8_goOn_59 ?_
  refine z_cVi (As := []) (rest := [.ref (b + 41)]) B cw_X8_183 cx_2 dX8_goOn_62 (ci_X1_size_685 l (σ := (ap b σ [(41, 19, 0), (41, 15, 1), (41, 4, 2), (41, 16, (-1)), (37, 2, 2), (38, 1, 13), (41, 16, 13), (41, 7, 1), (41, 5, 1), (5, 2, 1)] [(39, 1, ((10 * (w1.toInt64)) + 1)), (41, 17, ((10 * (w1.toInt64)) + 1))] [(6, 0, (some (b + 40)))])) (b := b) (lyA hK) (rI_at 37 2 rfl)) (lKA (hk_K hK 37 rfl rfl)) rfl (by decide) rfl (Nat.le_of_ble_eq_true rfl) (by decide) (fun r u hu => ?_)
  refine z_eqs (σ' := (ap b σ [(41, 19, 0), (41, 15, 1), (41, 4, 2), (41, 16, (-1)), (37, 2, 2), (38, 1, 13), (41, 16, 13), (41, 7, 1), (41, 5, 1), (5, 2, 1)] [(39, 1, ((10 * (w1.toInt64)) + 1)), (41, 17, ((10 * (w1.toInt64)) + 1))] [(6, 0, (some (b + 40)))])) hu.2 ?_
  show zx p l e _ s m _ below meth c g 5 0 0 _ _ 65 [(3, .ref (b + 40)), (2, .int 1), (4, .null), (0, .ref (b + 0)), (1, .ref (b + 40))] _
  refine z_seti (y := 2) hu.1 ?_
  refine z_cVv (As := [.int 2]) (rest := []) B cw_X8_289 cx_6 dX8_goOn_65 (ci_X5_advance_692 l (σ := (ap b σ [(41, 19, 0), (41, 15, 1), (41, 4, 2), (41, 16, (-1)), (37, 2, 2), (38, 1, 13), (41, 16, 13), (41, 7, 1), (41, 5, 1), (5, 2, 1)] [(39, 1, ((10 * (w1.toInt64)) + 1)), (41, 17, ((10 * (w1.toInt64)) + 1))] [(6, 0, (some (b + 40)))])) (b := b) (lyA hK) (rI_at 41 4 rfl) (rI_at 41 15 rfl) (rI_at 41 16 rfl) (rI_at 41 19 rfl)) (lKA (hk_K hK 41 rfl rfl)) rfl (by decide) rfl (Nat.le_of_ble_eq_true rfl) (by decide) (fun u hu => ?_)
  refine z_eqs (σ' := (ap b σ [(41, 19, 0), (41, 19, 0), (41, 15, 1), (41, 4, 2), (41, 16, (-1)), (37, 2, 2), (38, 1, 13), (41, 16, 13), (41, 7, 1), (41, 5, 1), (5, 2, 1)] [(39, 1, ((10 * (w1.toInt64)) + 1)), (41, 17, ((10 * (w1.toInt64)) + 1))] [(6, 0, (some (b + 40)))])) (hu.trans ap_ap) ?_
  show zx p l e _ s m _ below meth c g 5 0 0 _ _ 68 [(3, .ref (b + 40)), (2, .int 1), (4, .null), (0, .ref (b + 0)), (1, .ref (b + 40))] _
  refine z_aload_n B dX8_goOn_68 rfl 0 rfl ?_
  refine z_cVv (As := []) (rest := []) B cw_X8_351 cx_1 dX8_goOn_69 (ci_X0_letGo_679 l (σ := (ap b σ [(41, 19, 0), (41, 19, 0), (41, 15, 1), (41, 4, 2), (41, 16, (-1)), (37, 2, 2), (38, 1, 13), (41, 16, 13), (41, 7, 1), (41, 5, 1), (5, 2, 1)] [(39, 1, ((10 * (w1.toInt64)) + 1)), (41, 17, ((10 * (w1.toInt64)) + 1))] [(6, 0, (some (b + 40)))])) (b := b) (lyA hK) (rR_at 40 7 hR_40_7)) (lKA (hk_K hK 40 rfl rfl)) rfl (by decide) rfl (Nat.le_of_ble_eq_true rfl) (by decide) (fun u hu => ?_)
  refine z_eqs (σ' := (ap b σ [(41, 19, 0), (41, 19, 0), (41, 15, 1), (41, 4, 2), (41, 16, (-1)), (37, 2, 2), (38, 1, 13), (41, 16, 13), (41, 7, 1), (41, 5, 1), (5, 2, 1)] [(39, 1, ((10 * (w1.toInt64)) + 1)), (41, 17, ((10 * (w1.toInt64)) + 1))] [(6, 0, (some (b + 40)))])) hu ?_
  show zx p l e _ s m _ below meth c g 5 0 0 _ _ 72 [(3, .ref (b + 40)), (2, .int 1), (4, .null), (0, .ref (b + 0)), (1, .ref (b + 40))] _
  refine z_aload_n B dX8_goOn_72 rfl 0 rfl ?_
  refine gf_X8_249 (x := (some (b + 41))) B (lKA (hk_K hK 40 rfl rfl)) (rR_at 40 2 hR_40_2) dX8_goOn_73 ?_
  refine z_cVi (As := []) (rest := []) B cw_X8_354 cx_6 dX8_goOn_76 (ci_X5_wantsEvent_693 l (σ := (ap b σ [(41, 19, 0), (41, 19, 0), (41, 15, 1), (41, 4, 2), (41, 16, (-1)), (37, 2, 2), (38, 1, 13), (41, 16, 13), (41, 7, 1), (41, 5, 1), (5, 2, 1)] [(39, 1, ((10 * (w1.toInt64)) + 1)), (41, 17, ((10 * (w1.toInt64)) + 1))] [(6, 0, (some (b + 40)))])) (b := b) (lyA hK) (rI_at 41 16 rfl) (rI_at 41 19 rfl)) (lKA (hk_K hK 41 rfl rfl)) rfl (by decide) rfl (Nat.le_of_ble_eq_true rfl) (by decide) (fun r u hu => ?_)
  refine z_eqs (σ' := (ap b σ [(41, 19, 0), (41, 19, 0), (41, 15, 1), (41, 4, 2), (41, 16, (-1)), (37, 2, 2), (38, 1, 13), (41, 16, 13), (41, 7, 1), (41, 5, 1), (5, 2, 1)] [(39, 1, ((10 * (w1.toInt64)) + 1)), (41, 17, ((10 * (w1.toInt64)) + 1))] [(6, 0, (some (b + 40)))])) hu.2 ?_
  show zx p l e _ s m _ below meth c g 5 0 0 _ _ 79 [(3, .ref (b + 40)), (2, .int 1), (4, .null), (0, .ref (b + 0)), (1, .ref (b + 40))] _
  refine z_seti (y := 0) hu.1 ?_
  refine z_if_eq (tgt := 115) B dX8_goOn_79 (by decide) (fun _ => ?_) (fun h => absurd (by decide) h)
  refine z_aload_n B dX8_goOn_115 rfl 3 rfl ?_
  refine z_aload_n B dX8_goOn_116 rfl 0 rfl ?_
  refine z_cVv (As := [.ref (b + 40)]) (rest := []) B cw_X8_361 cx_9 dX8_goOn_117 (ci_X8_leave_695 l (σ := (ap b σ [(41, 19, 0), (41, 19, 0), (41, 15, 1), (41, 4, 2), (41, 16, (-1)), (37, 2, 2), (38, 1, 13), (41, 16, 13), (41, 7, 1), (41, 5, 1), (5, 2, 1)] [(39, 1, ((10 * (w1.toInt64)) + 1)), (41, 17, ((10 * (w1.toInt64)) + 1))] [(6, 0, (some (b + 40)))])) (b := b) (lyA hK) (rI_at 5 1 hI_5_1) (rI_at 5 2 rfl) (rI_at 37 2 rfl) (rI_at 40 8 hI_40_8) (rI_at 41 18 hI_41_18) (rI_at 41 19 rfl) (rR_at 0 4 hR_0_4) (rR_at 40 1 hR_40_1) (rR_at 40 2 hR_40_2)) (lKA (hk_K hK 0 rfl rfl)) rfl (by decide) rfl (Nat.le_of_ble_eq_true rfl) (by decide) (fun u hu => ?_)
  refine z_eqs (σ' := (ap b σ [(40, 8, 2), (5, 2, 0), (41, 19, 0), (41, 19, 0), (41, 15, 1), (41, 4, 2), (41, 16, (-1)), (37, 2, 2), (38, 1, 13), (41, 16, 13), (41, 7, 1), (41, 5, 1), (5, 2, 1)] [(39, 1, ((10 * (w1.toInt64)) + 1)), (41, 17, ((10 * (w1.toInt64)) + 1))] [(6, 0, (some (b + 40)))])) (hu.trans ap_ap) ?_
  show zx p l e _ s m _ below meth c g 5 0 0 _ _ 120 [(3, .ref (b + 40)), (2, .int 1), (4, .null), (0, .ref (b + 0)), (1, .ref (b + 40))] _
  refine z_iinc (v := 2) (lv' := [(2, .int 2), (3, .ref (b + 40)), (4, .null), (0, .ref (b + 0)), (1, .ref (b + 40))]) B dX8_goOn_120 1 rfl (by decide) (by decide) rfl ?_
  refine z_goto (tgt := 10) B dX8_goOn_123 (by decide) ?_
  refine z_iload_n B dX8_goOn_10 rfl 0 rfl ?_
  refine z_ldcw (v := 1000000) B dX8_goOn_11 wg_515 ?_
  refine z_icmp_ge (tgt := 126) B dX8_goOn_14 (by decide) (fun h => absurd h (by decide)) (fun _ => ?_)
  refine z_aload_n B dX8_goOn_17 rfl 3 rfl ?_
  refine gf_X8_35 (x := (some (b + 5))) B (lKA (hk_K hK 0 rfl rfl)) (rR_at 0 4 hR_0_4) dX8_goOn_18 ?_
  refine z_cVi (As := []) (rest := []) B cw_X8_341 cx_3 dX8_goOn_21 (ci_X2_isEmpty_696 l (σ := (ap b σ [(40, 8, 2), (5, 2, 0), (41, 19, 0), (41, 19, 0), (41, 15, 1), (41, 4, 2), (41, 16, (-1)), (37, 2, 2), (38, 1, 13), (41, 16, 13), (41, 7, 1), (41, 5, 1), (5, 2, 1)] [(39, 1, ((10 * (w1.toInt64)) + 1)), (41, 17, ((10 * (w1.toInt64)) + 1))] [(6, 0, (some (b + 40)))])) (b := b) (lyA hK) (rI_at 5 1 hI_5_1) (rI_at 5 2 rfl)) (lKA (hk_K hK 5 rfl rfl)) rfl (by decide) rfl (Nat.le_of_ble_eq_true rfl) (by decide) (fun r u hu => ?_)
  refine z_eqs (σ' := (ap b σ [(40, 8, 2), (5, 2, 0), (41, 19, 0), (41, 19, 0), (41, 15, 1), (41, 4, 2), (41, 16, (-1)), (37, 2, 2), (38, 1, 13), (41, 16, 13), (41, 7, 1), (41, 5, 1), (5, 2, 1)] [(39, 1, ((10 * (w1.toInt64)) + 1)), (41, 17, ((10 * (w1.toInt64)) + 1))] [(6, 0, (some (b + 40)))])) hu.2 ?_
  show zx p l e _ s m _ below meth c g 5 0 0 _ _ 24 [(2, .int 2), (3, .ref (b + 40)), (4, .null), (0, .ref (b + 0)), (1, .ref (b + 40))] _
  refine z_seti (y := 1) hu.1 ?_
  refine z_if_eq (tgt := 41) B dX8_goOn_24 (by decide) (fun h => absurd h (by decide)) (fun _ => ?_)
  refine z_aload_n B dX8_goOn_27 rfl 3 rfl ?_
  refine gf_X8_35 (x := (some (b + 5))) B (lKA (hk_K hK 0 rfl rfl)) (rR_at 0 4 hR_0_4) dX8_goOn_28 ?_
  refine z_aload_n B dX8_goOn_31 rfl 3 rfl ?_
  refine gf_X8_39 (x := (some (b + 7))) B (lKA (hk_K hK 0 rfl rfl)) (rR_at 0 5 hR_0_5) dX8_goOn_32 ?_
  refine z_cVq (As := []) (rest := [.ref (b + 5)]) B cw_X8_344 cx_3 dX8_goOn_35 (ci_X2_removeFirst_697 l (σ := (ap b σ [(40, 8, 2), (5, 2, 0), (41, 19, 0), (41, 19, 0), (41, 15, 1), (41, 4, 2), (41, 16, (-1)), (37, 2, 2), (38, 1, 13), (41, 16, 13), (41, 7, 1), (41, 5, 1), (5, 2, 1)] [(39, 1, ((10 * (w1.toInt64)) + 1)), (41, 17, ((10 * (w1.toInt64)) + 1))] [(6, 0, (some (b + 40)))])) (b := b) (lyA hK) (rI_at 7 1 hI_7_1) (rI_at 7 2 hI_7_2)) (lKA (hk_K hK 7 rfl rfl)) rfl (by decide) rfl (Nat.le_of_ble_eq_true rfl) (by decide) (fun r u hu => ?_)
  refine z_eqs (σ' := (ap b σ [(7, 2, 0), (7, 1, 0), (40, 8, 2), (5, 2, 0), (41, 19, 0), (41, 19, 0), (41, 15, 1), (41, 4, 2), (41, 16, (-1)), (37, 2, 2), (38, 1, 13), (41, 16, 13), (41, 7, 1), (41, 5, 1), (5, 2, 1)] [(39, 1, ((10 * (w1.toInt64)) + 1)), (41, 17, ((10 * (w1.toInt64)) + 1))] [(6, 0, (some (b + 40)))])) (hu.2.trans ap_ap) ?_
  show zx p l e _ s m _ below meth c g 5 0 0 _ _ 38 [(2, .int 2), (3, .ref (b + 40)), (4, .null), (0, .ref (b + 0)), (1, .ref (b + 40))] _
  refine z_setr (y := none) hu.1 ?_
  refine z_cVv (As := [.null]) (rest := []) B cw_X8_337 cx_3 dX8_goOn_38 (ci_X2_addLast_691 l (σ := (ap b σ [(7, 2, 0), (7, 1, 0), (40, 8, 2), (5, 2, 0), (41, 19, 0), (41, 19, 0), (41, 15, 1), (41, 4, 2), (41, 16, (-1)), (37, 2, 2), (38, 1, 13), (41, 16, 13), (41, 7, 1), (41, 5, 1), (5, 2, 1)] [(39, 1, ((10 * (w1.toInt64)) + 1)), (41, 17, ((10 * (w1.toInt64)) + 1))] [(6, 0, (some (b + 40)))])) (b := b) (lyA hK) ) (lKA (hk_K hK 5 rfl rfl)) rfl (by decide) rfl (Nat.le_of_ble_eq_true rfl) (by decide) (fun u hu => ?_)
  refine z_eqs (σ' := (ap b σ [(7, 2, 0), (7, 1, 0), (40, 8, 2), (5, 2, 0), (41, 19, 0), (41, 19, 0), (41, 15, 1), (41, 4, 2), (41, 16, (-1)), (37, 2, 2), (38, 1, 13), (41, 16, 13), (41, 7, 1), (41, 5, 1), (5, 2, 1)] [(39, 1, ((10 * (w1.toInt64)) + 1)), (41, 17, ((10 * (w1.toInt64)) + 1))] [(6, 0, (some (b + 40)))])) hu ?_
  show zx p l e _ s m _ below meth c g 5 0 0 _ _ 41 [(2, .int 2), (3, .ref (b + 40)), (4, .null), (0, .ref (b + 0)), (1, .ref (b + 40))] _
  refine z_aload_n B dX8_goOn_41 rfl 3 rfl ?_
  refine gf_X8_35 (x := (some (b + 5))) B (lKA (hk_K hK 0 rfl rfl)) (rR_at 0 4 hR_0_4) dX8_goOn_42 ?_
  refine z_cVq (As := []) (rest := []) B cw_X8_348 cx_3 dX8_goOn_45 (ci_X2_last_698 l (σ := (ap b σ [(7, 2, 0), (7, 1, 0), (40, 8, 2), (5, 2, 0), (41, 19, 0), (41, 19, 0), (41, 15, 1), (41, 4, 2), (41, 16, (-1)), (37, 2, 2), (38, 1, 13), (41, 16, 13), (41, 7, 1), (41, 5, 1), (5, 2, 1)] [(39, 1, ((10 * (w1.toInt64)) + 1)), (41, 17, ((10 * (w1.toInt64)) + 1))] [(6, 0, (some (b + 40)))])) (b := b) (lyA hK) (rI_at 5 1 hI_5_1) (rI_at 5 2 rfl)) (lKA (hk_K hK 5 rfl rfl)) rfl (by decide) rfl (Nat.le_of_ble_eq_true rfl) (by decide) (fun r u hu => ?_)
  refine z_eqs (σ' := (ap b σ [(7, 2, 0), (7, 1, 0), (40, 8, 2), (5, 2, 0), (41, 19, 0), (41, 19, 0), (41, 15, 1), (41, 4, 2), (41, 16, (-1)), (37, 2, 2), (38, 1, 13), (41, 16, 13), (41, 7, 1), (41, 5, 1), (5, 2, 1)] [(39, 1, ((10 * (w1.toInt64)) + 1)), (41, 17, ((10 * (w1.toInt64)) + 1))] [(6, 0, (some (b + 40)))])) hu.2 ?_
  show zx p l e _ s m _ below meth c g 5 0 0 _ _ 48 [(2, .int 2), (3, .ref (b + 40)), (4, .null), (0, .ref (b + 0)), (1, .ref (b + 40))] _
  refine z_setr (y := none) hu.1 ?_
  refine z_qstore_n (r := none) (lv' := [(3, .null), (2, .int 2), (4, .null), (0, .ref (b + 0)), (1, .ref (b + 40))]) B dX8_goOn_48 rfl (by decide) rfl ?_
  refine z_qload_n (r := none) B dX8_goOn_49 rfl 0 rfl ?_
  refine z_ifnonnull (r := none) (tgt := 54) B dX8_goOn_50 (by decide) (fun a h => nomatch h) (fun _ => ?_)
  exact z_vret B hr (by decide) (by decide) dX8_goOn_53 rfl
set_option maxRecDepth 100000 in
set_option maxHeartbeats 4000000 in
theorem ci_X8_start_719 (l : Launch) {g : gx_T} {σ : sx_T} {b : Nat} (hK : lay b σ) (w1 : Int32) (q1_w1 : (0 : Int) ≤ w1.toInt) (q2_w1 : w1.toInt ≤ (999 : Int)) (hI_0_7 : sx_I σ (b + 0) 7 = 0) (hI_5_1 : sx_I σ (b + 5) 1 = 0) (hI_5_2 : sx_I σ (b + 5) 2 = 0) (hI_7_1 : sx_I σ (b + 7) 1 = 0) (hI_7_2 : sx_I σ (b + 7) 2 = 0) (hI_10_0 : sx_I σ (b + 10) 0 = 0) (hI_11_0 : sx_I σ (b + 11) 0 = 0) (hI_12_0 : sx_I σ (b + 12) 0 = 0) (hI_37_2 : sx_I σ (b + 37) 2 = 0) (hI_40_0 : sx_I σ (b + 40) 0 = 0) (hI_40_8 : sx_I σ (b + 40) 8 = 0) (hR_0_0 : sx_R σ (b + 0) 0 = (some (b + 1))) (hR_0_2 : sx_R σ (b + 0) 2 = (some (b + 3))) (hR_0_4 : sx_R σ (b + 0) 4 = (some (b + 5))) (hR_0_5 : sx_R σ (b + 0) 5 = (some (b + 7))) (hR_1_0 : sx_R σ (b + 1) 0 = (some (b + 9))) (hR_3_0 : sx_R σ (b + 3) 0 = (some (b + 40))) (hR_5_0 : sx_R σ (b + 5) 0 = (some (b + 6))) (hR_9_1 : sx_R σ (b + 9) 1 = (some (b + 10))) (hR_9_2 : sx_R σ (b + 9) 2 = (some (b + 11))) (hR_9_3 : sx_R σ (b + 9) 3 = (some (b + 12))) (hR_37_0 : sx_R σ (b + 37) 0 = (some (b + 38))) (hR_37_1 : sx_R σ (b + 37) 1 = (some (b + 39))) (hR_40_1 : sx_R σ (b + 40) 1 = (some (b + 37))) (hR_40_2 : sx_R σ (b + 40) 2 = (some (b + 41))) (hR_40_7 : sx_R σ (b + 40) 7 = none) (hR_41_0 : sx_R σ (b + 41) 0 = (some (b + 42))) (hR_41_1 : sx_R σ (b + 41) 1 = (some (b + 44))) : Met l yX8_start (.code yX8_start cX8_start 5 (some .int) :: lw_g) { frames := 4, cells := 0, slots := 0, locals := 96 } (va_Pc [.ref (b + 0), .int 0, .int w1] (zx_w g σ)) (va_Qi (fun r u => r = 0 ∧ u = (ap b σ [(7, 2, 0), (7, 1, 0), (40, 8, 2), (5, 2, 0), (41, 19, 0), (41, 19, 0), (41, 15, 1), (41, 4, 2), (41, 16, (-1)), (37, 2, 2), (38, 1, 13), (41, 16, 13), (41, 7, 1), (41, 5, 1), (5, 2, 1), (41, 19, 0), (41, 18, (-1)), (41, 16, (-1)), (41, 15, 0), (41, 14, 0), (41, 13, 0), (41, 12, 0), (41, 10, (-1)), (41, 9, (-1)), (41, 8, 0), (41, 7, 0), (41, 6, ((w1.toInt64).toInt32)), (41, 5, 0), (41, 4, 1), (44, 1, 0), (42, 1, 0), (37, 2, 1), (38, 0, 0), (40, 5, 0), (40, 4, (-1)), (0, 7, 1)] [(39, 1, ((10 * (((w1.toInt64).toInt32).toInt64)) + 1)), (41, 17, ((10 * (((w1.toInt64).toInt32).toInt64)) + 1)), (41, 17, 0), (41, 11, 0), (39, 0, (w1.toInt64))] [(6, 0, (some (b + 40))), (41, 3, (some (b + 37))), (41, 2, (some (b + 9))), (40, 3, (some (b + 9)))])) (zx_w g) (gx_Q g)) 0 0 (gx_Q g) := by
  refine z_met (by decide) (Nat.le_of_ble_eq_true rfl) (fun p e s m below meth c B hr hin => ?_)
  refine z_eqs (σ' := (ap b σ [] [] [])) rfl ?_
  show zx p l e _ s m _ below meth c g 5 0 0 _ _ 0 [(0, .ref (b + 0)), (1, .int 0), (2, .int w1)] []
  refine z_aload_n B dX8_start_0 rfl 0 rfl ?_
  refine z_iload_n B dX8_start_1 rfl 1 rfl ?_
  refine z_cVq (As := [.int 0]) (rest := []) B cw_X8_64 cx_9 dX8_start_2 (ci_X8_programAt_50 l (σ := (ap b σ [] [] [])) (b := b) (lyA hK) (rR_at 0 0 hR_0_0) (rR_at 1 0 hR_1_0)) (lKA (hk_K hK 0 rfl rfl)) rfl (by decide) rfl (Nat.le_of_ble_eq_true rfl) (by decide) (fun r u hu => ?_)
  refine z_eqs (σ' := (ap b σ [] [] [])) hu.2 ?_
  show zx p l e _ s m _ below meth c g 5 0 0 _ _ 5 [(0, .ref (b + 0)), (1, .int 0), (2, .int w1)] _
  refine z_setr (y := (some (b + 9))) hu.1 ?_
  refine z_astore_n (lv' := [(3, .ref (b + 9)), (0, .ref (b + 0)), (1, .int 0), (2, .int w1)]) B dX8_start_5 rfl (by decide) rfl ?_
  refine z_aload_n B dX8_start_6 rfl 0 rfl ?_
  refine z_ifnonnull (r := (some (b + 9))) (tgt := 20) B dX8_start_7 (by decide) (fun _ _ => ?_) (fun h => nomatch h)
  refine z_iload_n B dX8_start_20 rfl 3 rfl ?_
  refine z_sipush (v := (-999)) B dX8_start_21 (by decide) ?_
  refine z_icmp_lt (tgt := 34) B dX8_start_24 (by decide) (fun h => absurd h (iv_nlt q1_w1 (by decide))) (fun _ => ?_)
  refine z_iload_n B dX8_start_27 rfl 3 rfl ?_
  refine z_sipush (v := 999) B dX8_start_28 (by decide) ?_
  refine z_icmp_le (tgt := 44) B dX8_start_31 (by decide) (fun _ => ?_) (fun h => absurd (iv_le q2_w1 (by decide)) h)
  refine z_aload_n B dX8_start_44 rfl 1 rfl ?_
  refine z_aload_n B dX8_start_45 rfl 0 rfl ?_
  refine z_iload_n B dX8_start_46 rfl 3 rfl ?_
  refine z_iconst (v := (-1)) B dX8_start_47 (by decide) ?_
  refine z_iconst (v := (-1)) B dX8_start_48 (by decide) ?_
  refine z_cVq (As := [.ref (b + 9), .int w1, .int (-1), .int (-1)]) (rest := []) B cw_X8_141 cx_9 dX8_start_49 (ci_X8_open_666 l (σ := (ap b σ [] [] [])) (b := b) (lyA hK) w1 (rI_at 0 7 hI_0_7) (rI_at 37 2 hI_37_2) (rI_at 40 0 hI_40_0) (rR_at 0 2 hR_0_2) (rR_at 3 0 hR_3_0) (rR_at 37 0 hR_37_0) (rR_at 37 1 hR_37_1) (rR_at 40 1 hR_40_1) (rR_at 40 2 hR_40_2) (rR_at 41 0 hR_41_0) (rR_at 41 1 hR_41_1)) (lKA (hk_K hK 0 rfl rfl)) rfl (by decide) rfl (Nat.le_of_ble_eq_true rfl) (by decide) (fun r u hu => ?_)
  refine z_eqs (σ' := (ap b σ [(41, 19, 0), (41, 18, (-1)), (41, 16, (-1)), (41, 15, 0), (41, 14, 0), (41, 13, 0), (41, 12, 0), (41, 10, (-1)), (41, 9, (-1)), (41, 8, 0), (41, 7, 0), (41, 6, ((w1.toInt64).toInt32)), (41, 5, 0), (41, 4, 1), (44, 1, 0), (42, 1, 0), (37, 2, 1), (38, 0, 0), (40, 5, 0), (40, 4, (-1)), (0, 7, 1)] [(41, 17, 0), (41, 11, 0), (39, 0, (w1.toInt64))] [(41, 3, (some (b + 37))), (41, 2, (some (b + 9))), (40, 3, (some (b + 9)))])) (hu.2.trans ap_ap) ?_
  show zx p l e _ s m _ below meth c g 5 0 0 _ _ 52 [(3, .ref (b + 9)), (0, .ref (b + 0)), (1, .int 0), (2, .int w1)] _
  refine z_setr (y := (some (b + 40))) hu.1 ?_
  refine z_astore (lv' := [(4, .ref (b + 40)), (3, .ref (b + 9)), (0, .ref (b + 0)), (1, .int 0), (2, .int w1)]) B dX8_start_52 (by decide) rfl ?_
  refine z_aload B dX8_start_54 0 rfl ?_
  refine z_ifnonnull (r := (some (b + 40))) (tgt := 69) B dX8_start_56 (by decide) (fun _ _ => ?_) (fun h => nomatch h)
  refine z_aload_n B dX8_start_69 rfl 2 rfl ?_
  refine z_aload B dX8_start_70 0 rfl ?_
  refine z_cVv (As := [.ref (b + 40)]) (rest := []) B cw_X8_111 cx_9 dX8_start_72 (ci_X8_goOn_718 l (σ := (ap b σ [(41, 19, 0), (41, 18, (-1)), (41, 16, (-1)), (41, 15, 0), (41, 14, 0), (41, 13, 0), (41, 12, 0), (41, 10, (-1)), (41, 9, (-1)), (41, 8, 0), (41, 7, 0), (41, 6, ((w1.toInt64).toInt32)), (41, 5, 0), (41, 4, 1), (44, 1, 0), (42, 1, 0), (37, 2, 1), (38, 0, 0), (40, 5, 0), (40, 4, (-1)), (0, 7, 1)] [(41, 17, 0), (41, 11, 0), (39, 0, (w1.toInt64))] [(41, 3, (some (b + 37))), (41, 2, (some (b + 9))), (40, 3, (some (b + 9)))])) (b := b) (lyA hK) ((w1.toInt64).toInt32) (iv_l2i (iv_i2l q1_w1 q2_w1).1 (iv_i2l q1_w1 q2_w1).2 (by decide) (by decide)).1 (iv_l2i (iv_i2l q1_w1 q2_w1).1 (iv_i2l q1_w1 q2_w1).2 (by decide) (by decide)).2 (rI_at 5 1 hI_5_1) (rI_at 5 2 hI_5_2) (rI_at 7 1 hI_7_1) (rI_at 7 2 hI_7_2) (rI_at 10 0 hI_10_0) (rI_at 11 0 hI_11_0) (rI_at 12 0 hI_12_0) (rI_at 37 2 rfl) (rI_at 40 4 rfl) (rI_at 40 8 hI_40_8) (rI_at 41 4 rfl) (rI_at 41 5 rfl) (rI_at 41 6 rfl) (rI_at 41 7 rfl) (rI_at 41 8 rfl) (rI_at 41 14 rfl) (rI_at 41 15 rfl) (rI_at 41 16 rfl) (rI_at 41 18 rfl) (rI_at 41 19 rfl) (rR_at 0 4 hR_0_4) (rR_at 0 5 hR_0_5) (rR_at 5 0 hR_5_0) (rR_at 9 1 hR_9_1) (rR_at 9 2 hR_9_2) (rR_at 9 3 hR_9_3) (rR_at 37 0 hR_37_0) (rR_at 37 1 hR_37_1) (rR_at 40 1 hR_40_1) (rR_at 40 2 hR_40_2) (rR_at 40 7 hR_40_7) (rR_at 41 2 rfl) (rR_at 41 3 rfl)) (lKA (hk_K hK 0 rfl rfl)) rfl (by decide) rfl (Nat.le_of_ble_eq_true rfl) (by decide) (fun u hu => ?_)
  refine z_eqs (σ' := (ap b σ [(7, 2, 0), (7, 1, 0), (40, 8, 2), (5, 2, 0), (41, 19, 0), (41, 19, 0), (41, 15, 1), (41, 4, 2), (41, 16, (-1)), (37, 2, 2), (38, 1, 13), (41, 16, 13), (41, 7, 1), (41, 5, 1), (5, 2, 1), (41, 19, 0), (41, 18, (-1)), (41, 16, (-1)), (41, 15, 0), (41, 14, 0), (41, 13, 0), (41, 12, 0), (41, 10, (-1)), (41, 9, (-1)), (41, 8, 0), (41, 7, 0), (41, 6, ((w1.toInt64).toInt32)), (41, 5, 0), (41, 4, 1), (44, 1, 0), (42, 1, 0), (37, 2, 1), (38, 0, 0), (40, 5, 0), (40, 4, (-1)), (0, 7, 1)] [(39, 1, ((10 * (((w1.toInt64).toInt32).toInt64)) + 1)), (41, 17, ((10 * (((w1.toInt64).toInt32).toInt64)) + 1)), (41, 17, 0), (41, 11, 0), (39, 0, (w1.toInt64))] [(6, 0, (some (b + 40))), (41, 3, (some (b + 37))), (41, 2, (some (b + 9))), (40, 3, (some (b + 9)))])) (hu.trans ap_ap) ?_
  show zx p l e _ s m _ below meth c g 5 0 0 _ _ 75 [(4, .ref (b + 40)), (3, .ref (b + 9)), (0, .ref (b + 0)), (1, .int 0), (2, .int w1)] _
  refine z_aload B dX8_start_75 0 rfl ?_
  refine gf_X8_150 (x := 0) B (lKA (hk_K hK 40 rfl rfl)) (rI_at 40 0 hI_40_0) dX8_start_77 ?_
  exact z_iret B hr (by decide) (by decide) dX8_start_80 ⟨rfl, rfl⟩
set_option maxRecDepth 100000 in
set_option maxHeartbeats 4000000 in
theorem ci_L_start_720 (l : Launch) {g : gx_T} {σ : sx_T} {b : Nat} (hK : lay b σ) (w1 : Int32) (q1_w1 : (0 : Int) ≤ w1.toInt) (q2_w1 : w1.toInt ≤ (999 : Int)) (hI_0_7 : sx_I σ (b + 0) 7 = 0) (hI_5_1 : sx_I σ (b + 5) 1 = 0) (hI_5_2 : sx_I σ (b + 5) 2 = 0) (hI_7_1 : sx_I σ (b + 7) 1 = 0) (hI_7_2 : sx_I σ (b + 7) 2 = 0) (hI_10_0 : sx_I σ (b + 10) 0 = 0) (hI_11_0 : sx_I σ (b + 11) 0 = 0) (hI_12_0 : sx_I σ (b + 12) 0 = 0) (hI_37_2 : sx_I σ (b + 37) 2 = 0) (hI_40_0 : sx_I σ (b + 40) 0 = 0) (hI_40_8 : sx_I σ (b + 40) 8 = 0) (hR_0_0 : sx_R σ (b + 0) 0 = (some (b + 1))) (hR_0_2 : sx_R σ (b + 0) 2 = (some (b + 3))) (hR_0_4 : sx_R σ (b + 0) 4 = (some (b + 5))) (hR_0_5 : sx_R σ (b + 0) 5 = (some (b + 7))) (hR_1_0 : sx_R σ (b + 1) 0 = (some (b + 9))) (hR_3_0 : sx_R σ (b + 3) 0 = (some (b + 40))) (hR_5_0 : sx_R σ (b + 5) 0 = (some (b + 6))) (hR_9_1 : sx_R σ (b + 9) 1 = (some (b + 10))) (hR_9_2 : sx_R σ (b + 9) 2 = (some (b + 11))) (hR_9_3 : sx_R σ (b + 9) 3 = (some (b + 12))) (hR_37_0 : sx_R σ (b + 37) 0 = (some (b + 38))) (hR_37_1 : sx_R σ (b + 37) 1 = (some (b + 39))) (hR_40_1 : sx_R σ (b + 40) 1 = (some (b + 37))) (hR_40_2 : sx_R σ (b + 40) 2 = (some (b + 41))) (hR_40_7 : sx_R σ (b + 40) 7 = none) (hR_41_0 : sx_R σ (b + 41) 0 = (some (b + 42))) (hR_41_1 : sx_R σ (b + 41) 1 = (some (b + 44))) : Met l yL_start (.codeWith yL_start cL_start 5 (some .int) [(0, 10, 13, 13), (0, 10, 17, 15), (0, 10, 21, 24)] :: lw_g) { frames := 5, cells := 0, slots := 0, locals := 120 } (va_Pc [.ref (b + 0), .int 0, .int w1, .ref (b + 431)] (zx_w g σ)) (va_Qi (fun r u => r = 0 ∧ u = (ap b σ [(7, 2, 0), (7, 1, 0), (40, 8, 2), (5, 2, 0), (41, 19, 0), (41, 19, 0), (41, 15, 1), (41, 4, 2), (41, 16, (-1)), (37, 2, 2), (38, 1, 13), (41, 16, 13), (41, 7, 1), (41, 5, 1), (5, 2, 1), (41, 19, 0), (41, 18, (-1)), (41, 16, (-1)), (41, 15, 0), (41, 14, 0), (41, 13, 0), (41, 12, 0), (41, 10, (-1)), (41, 9, (-1)), (41, 8, 0), (41, 7, 0), (41, 6, ((w1.toInt64).toInt32)), (41, 5, 0), (41, 4, 1), (44, 1, 0), (42, 1, 0), (37, 2, 1), (38, 0, 0), (40, 5, 0), (40, 4, (-1)), (0, 7, 1)] [(431, 0, 0), (39, 1, ((10 * (((w1.toInt64).toInt32).toInt64)) + 1)), (41, 17, ((10 * (((w1.toInt64).toInt32).toInt64)) + 1)), (41, 17, 0), (41, 11, 0), (39, 0, (w1.toInt64))] [(6, 0, (some (b + 40))), (41, 3, (some (b + 37))), (41, 2, (some (b + 9))), (40, 3, (some (b + 9)))])) (zx_w g) (gx_Q g)) 0 0 (gx_Q g) := by
  refine z_metW (by decide) (Nat.le_of_ble_eq_true rfl) (fun p e s m below meth c B hr htab => ?_)
  refine z_eqs (σ' := (ap b σ [] [] [])) rfl ?_
  show zx p l e _ s m _ below meth c g 5 0 0 _ _ 0 [(0, .ref (b + 0)), (1, .int 0), (2, .int w1), (3, .ref (b + 431))] []
  refine z_aload_n B dL_start_0 rfl 3 rfl ?_
  refine z_iconst (v := 0) B dL_start_1 (by decide) ?_
  refine z_aload_n B dL_start_2 rfl 0 rfl ?_
  refine z_iload_n B dL_start_3 rfl 1 rfl ?_
  refine z_iload_n B dL_start_4 rfl 2 rfl ?_
  refine z_cVi (As := [.int 0, .int w1]) (rest := [.int 0, .ref (b + 431)]) B cw_L_20 cx_9 dL_start_5 (ci_X8_start_719 l (σ := (ap b σ [] [] [])) (b := b) (lyA hK) w1 q1_w1 q2_w1 (rI_at 0 7 hI_0_7) (rI_at 5 1 hI_5_1) (rI_at 5 2 hI_5_2) (rI_at 7 1 hI_7_1) (rI_at 7 2 hI_7_2) (rI_at 10 0 hI_10_0) (rI_at 11 0 hI_11_0) (rI_at 12 0 hI_12_0) (rI_at 37 2 hI_37_2) (rI_at 40 0 hI_40_0) (rI_at 40 8 hI_40_8) (rR_at 0 0 hR_0_0) (rR_at 0 2 hR_0_2) (rR_at 0 4 hR_0_4) (rR_at 0 5 hR_0_5) (rR_at 1 0 hR_1_0) (rR_at 3 0 hR_3_0) (rR_at 5 0 hR_5_0) (rR_at 9 1 hR_9_1) (rR_at 9 2 hR_9_2) (rR_at 9 3 hR_9_3) (rR_at 37 0 hR_37_0) (rR_at 37 1 hR_37_1) (rR_at 40 1 hR_40_1) (rR_at 40 2 hR_40_2) (rR_at 40 7 hR_40_7) (rR_at 41 0 hR_41_0) (rR_at 41 1 hR_41_1)) (lKA (hk_K hK 0 rfl rfl)) rfl (by decide) rfl (Nat.le_of_ble_eq_true rfl) (by decide) (fun r u hu => ?_)
  refine z_eqs (σ' := (ap b σ [(7, 2, 0), (7, 1, 0), (40, 8, 2), (5, 2, 0), (41, 19, 0), (41, 19, 0), (41, 15, 1), (41, 4, 2), (41, 16, (-1)), (37, 2, 2), (38, 1, 13), (41, 16, 13), (41, 7, 1), (41, 5, 1), (5, 2, 1), (41, 19, 0), (41, 18, (-1)), (41, 16, (-1)), (41, 15, 0), (41, 14, 0), (41, 13, 0), (41, 12, 0), (41, 10, (-1)), (41, 9, (-1)), (41, 8, 0), (41, 7, 0), (41, 6, ((w1.toInt64).toInt32)), (41, 5, 0), (41, 4, 1), (44, 1, 0), (42, 1, 0), (37, 2, 1), (38, 0, 0), (40, 5, 0), (40, 4, (-1)), (0, 7, 1)] [(39, 1, ((10 * (((w1.toInt64).toInt32).toInt64)) + 1)), (41, 17, ((10 * (((w1.toInt64).toInt32).toInt64)) + 1)), (41, 17, 0), (41, 11, 0), (39, 0, (w1.toInt64))] [(6, 0, (some (b + 40))), (41, 3, (some (b + 37))), (41, 2, (some (b + 9))), (40, 3, (some (b + 9)))])) (hu.2.trans ap_ap) ?_
  show zx p l e _ s m _ below meth c g 5 0 0 _ _ 8 [(0, .ref (b + 0)), (1, .int 0), (2, .int w1), (3, .ref (b + 431))] _
  refine z_seti (y := 0) hu.1 ?_
  refine z_i2l (v := 0) B dL_start_8 (by decide) ?_
  refine z_last (j := 0) (σ' := (ap b σ [(7, 2, 0), (7, 1, 0), (40, 8, 2), (5, 2, 0), (41, 19, 0), (41, 19, 0), (41, 15, 1), (41, 4, 2), (41, 16, (-1)), (37, 2, 2), (38, 1, 13), (41, 16, 13), (41, 7, 1), (41, 5, 1), (5, 2, 1), (41, 19, 0), (41, 18, (-1)), (41, 16, (-1)), (41, 15, 0), (41, 14, 0), (41, 13, 0), (41, 12, 0), (41, 10, (-1)), (41, 9, (-1)), (41, 8, 0), (41, 7, 0), (41, 6, ((w1.toInt64).toInt32)), (41, 5, 0), (41, 4, 1), (44, 1, 0), (42, 1, 0), (37, 2, 1), (38, 0, 0), (40, 5, 0), (40, 4, (-1)), (0, 7, 1)] [(431, 0, 0), (39, 1, ((10 * (((w1.toInt64).toInt32).toInt64)) + 1)), (41, 17, ((10 * (((w1.toInt64).toInt32).toInt64)) + 1)), (41, 17, 0), (41, 11, 0), (39, 0, (w1.toInt64))] [(6, 0, (some (b + 40))), (41, 3, (some (b + 37))), (41, 2, (some (b + 9))), (40, 3, (some (b + 9)))])) B (lKA (hk_K hK 431 rfl rfl)) (by decide) (in_of (lNA (hk_N hK 431 rfl rfl)) (show ¬ ((0 : Int32) < 0 ∨ 1 ≤ (0 : Int32).toNatClampNeg) by decide)) wJ_ap dL_start_9 ?_
  refine z_goto (tgt := 25) B dL_start_10 (by decide) ?_
  refine z_iconst (v := 0) B dL_start_25 (by decide) ?_
  exact z_iret B hr (by decide) (by decide) dL_start_26 ⟨rfl, rfl⟩
set_option maxRecDepth 100000 in
set_option maxHeartbeats 4000000 in
theorem ci_X9_in_721 (l : Launch) {g : gx_T} {σ : sx_T} {b : Nat} (hK : lay b σ) (w1 : Int32) (q1_w1 : (0 : Int) ≤ w1.toInt) (q2_w1 : w1.toInt ≤ (999 : Int))  : Met l yX9_in (.code yX9_in cX9_in 3 (some .boolean) :: lw_g) { frames := 0, cells := 0, slots := 0, locals := 0 } (va_Pc [.int w1, .int (-999), .int 999] (zx_w g σ)) (va_Qi (fun r u => r = 1 ∧ u = σ) (zx_w g) (gx_Q g)) 0 0 (gx_Q g) := by
  refine z_met (by decide) (Nat.le_of_ble_eq_true rfl) (fun p e s m below meth c B hr hin => ?_)
  refine z_eqs (σ' := (ap b σ [] [] [])) rfl ?_
  show zx p l e _ s m _ below meth c g 3 0 0 _ _ 0 [(0, .int w1), (1, .int (-999)), (2, .int 999)] []
  refine z_iload_n B dX9_in_0 rfl 0 rfl ?_
  refine z_iload_n B dX9_in_1 rfl 1 rfl ?_
  refine z_icmp_lt (tgt := 14) B dX9_in_2 (by decide) (fun h => absurd h (iv_nlt q1_w1 (by decide))) (fun _ => ?_)
  refine z_iload_n B dX9_in_5 rfl 0 rfl ?_
  refine z_iload_n B dX9_in_6 rfl 2 rfl ?_
  refine z_icmp_gt (tgt := 14) B dX9_in_7 (by decide) (fun h => absurd h (iv_ngt q2_w1 (by decide))) (fun _ => ?_)
  refine z_iconst (v := 1) B dX9_in_10 (by decide) ?_
  refine z_goto (tgt := 15) B dX9_in_11 (by decide) ?_
  exact z_zret B hr (by decide) (by decide) (by decide) dX9_in_15 ⟨rfl, rfl⟩
set_option maxRecDepth 100000 in
set_option maxHeartbeats 4000000 in
theorem ci_X9_start_722 (l : Launch) {g : gx_T} {σ : sx_T} {b : Nat} (hK : lay b σ) (w1 : Int32) (q1_w1 : (0 : Int) ≤ w1.toInt) (q2_w1 : w1.toInt ≤ (999 : Int)) (hI_405_6 : sx_I σ (b + 405) 6 = 0) (hI_405_16 : sx_I σ (b + 405) 16 = 0) (hI_406_0 : sx_I σ (b + 406) 0 = 0) (hI_407_0 : sx_I σ (b + 407) 0 = 0) (hI_412_0 : sx_I σ (b + 412) 0 = 0) (hI_413_0 : sx_I σ (b + 413) 0 = 0) (hR_405_3 : sx_R σ (b + 405) 3 = (some (b + 406))) (hR_405_4 : sx_R σ (b + 405) 4 = (some (b + 407))) (hR_405_7 : sx_R σ (b + 405) 7 = (some (b + 409))) (hR_405_8 : sx_R σ (b + 405) 8 = (some (b + 410))) (hR_405_9 : sx_R σ (b + 405) 9 = (some (b + 411))) (hR_405_10 : sx_R σ (b + 405) 10 = (some (b + 412))) (hR_405_11 : sx_R σ (b + 405) 11 = (some (b + 413))) (hR_405_12 : sx_R σ (b + 405) 12 = (some (b + 414))) (hR_405_13 : sx_R σ (b + 405) 13 = (some (b + 415))) (hR_405_14 : sx_R σ (b + 405) 14 = (some (b + 416))) (hR_405_15 : sx_R σ (b + 405) 15 = (some (b + 417))) (hR_405_42 : sx_R σ (b + 405) 42 = (some (b + 428))) : Met l yX9_start (.code yX9_start cX9_start 4 (some .int) :: lw_g) { frames := 6, cells := 0, slots := 0, locals := 154 } (va_Pc [.ref (b + 405), .int 0, .int w1] (zx_w g σ)) (va_Qi (fun r u => r = 0 ∧ u = (ap b σ [(412, 0, 1), (414, 0, 2), (405, 26, 1), (405, 37, 1), (405, 27, 2), (413, 0, 2), (416, 1, 13), (405, 28, 1), (405, 38, 1), (405, 48, (-1)), (405, 27, 1), (405, 29, ((w1.toInt64).toInt32)), (405, 26, 1), (405, 47, 1), (405, 39, 0), (405, 38, 0), (405, 37, 0), (405, 36, 0), (405, 35, 0), (405, 34, 0), (405, 32, 0), (405, 31, 0), (405, 30, 0), (405, 29, 0), (405, 28, 0), (405, 27, 0), (405, 26, 1), (428, 0, 0), (405, 45, 0), (405, 43, 0), (413, 0, 1), (416, 0, 0), (415, 0, (-1)), (411, 0, 0), (410, 0, (-1)), (409, 0, 0), (405, 6, 1), (405, 0, 0)] [(417, 1, ((10 * (((w1.toInt64).toInt32).toInt64)) + 1)), (417, 0, (w1.toInt64))] [])) (zx_w g) (gx_Q g)) 0 0 (gx_Q g) := by
  refine z_met (by decide) (Nat.le_of_ble_eq_true rfl) (fun p e s m below meth c B hr hin => ?_)
  refine z_eqs (σ' := (ap b σ [] [] [])) rfl ?_
  show zx p l e _ s m _ below meth c g 4 0 0 _ _ 0 [(0, .ref (b + 405)), (1, .int 0), (2, .int w1)] []
  refine z_aload_n B dX9_start_0 rfl 0 rfl ?_
  refine z_iload_n B dX9_start_1 rfl 1 rfl ?_
  refine z_iconst (v := 0) B dX9_start_2 (by decide) ?_
  refine z_iconst (v := 5) B dX9_start_3 (by decide) ?_
  refine z_cSi (As := [.int 0, .int 0, .int 5]) (rest := [.ref (b + 405)]) B cw_X9_96 dX9_start_4 (ci_X9_in_54 l (σ := (ap b σ [] [] [])) (b := b) (lyA hK) ) rfl (by decide) rfl (Nat.le_of_ble_eq_true rfl) (by decide) (fun r u hu => ?_)
  refine z_eqs (σ' := (ap b σ [] [] [])) hu.2 ?_
  show zx p l e _ s m _ below meth c g 4 0 0 _ _ 7 [(0, .ref (b + 405)), (1, .int 0), (2, .int w1)] _
  refine z_seti (y := 1) hu.1 ?_
  refine z_iload_n B dX9_start_7 rfl 2 rfl ?_
  refine z_sipush (v := (-999)) B dX9_start_8 (by decide) ?_
  refine z_sipush (v := 999) B dX9_start_11 (by decide) ?_
  refine z_cSi (As := [.int w1, .int (-999), .int 999]) (rest := [.int 1, .ref (b + 405)]) B cw_X9_96 dX9_start_14 (ci_X9_in_721 l (σ := (ap b σ [] [] [])) (b := b) (lyA hK) w1 q1_w1 q2_w1) rfl (by decide) rfl (Nat.le_of_ble_eq_true rfl) (by decide) (fun r u hu => ?_)
  refine z_eqs (σ' := (ap b σ [] [] [])) hu.2 ?_
  show zx p l e _ s m _ below meth c g 4 0 0 _ _ 17 [(0, .ref (b + 405)), (1, .int 0), (2, .int w1)] _
  refine z_seti (y := 1) hu.1 ?_
  refine z_aload_n B dX9_start_17 rfl 0 rfl ?_
  refine gf_X9_93 (x := 0) B (lKA (hk_K hK 405 rfl rfl)) (rI_at 405 6 hI_405_6) dX9_start_18 ?_
  refine z_bipush (v := 40) B dX9_start_21 (by decide) ?_
  refine z_icmp_ge (tgt := 30) B dX9_start_23 (by decide) (fun h => absurd h (by decide)) (fun _ => ?_)
  refine z_iconst (v := 1) B dX9_start_26 (by decide) ?_
  refine z_goto (tgt := 31) B dX9_start_27 (by decide) ?_
  refine z_cVi (As := [.int 1, .int 1, .int 1]) (rest := []) B cw_X9_259 cx_10 dX9_start_31 (ci_X9_needs___703 l (σ := (ap b σ [] [] [])) (b := b) (lyA hK) ) (lKA (hk_K hK 405 rfl rfl)) rfl (by decide) rfl (Nat.le_of_ble_eq_true rfl) (by decide) (fun r u hu => ?_)
  refine z_eqs (σ' := (ap b σ [(405, 0, 0)] [] [])) (hu.2.trans ap_ap) ?_
  show zx p l e _ s m _ below meth c g 4 0 0 _ _ 34 [(0, .ref (b + 405)), (1, .int 0), (2, .int w1)] _
  refine z_seti (y := 1) hu.1 ?_
  refine z_if_ne (tgt := 39) B dX9_start_34 (by decide) (fun _ => ?_) (fun h => absurd h (by decide))
  refine z_aload_n B dX9_start_39 rfl 0 rfl ?_
  refine z_iload_n B dX9_start_40 rfl 1 rfl ?_
  refine z_iload_n B dX9_start_41 rfl 2 rfl ?_
  refine z_iconst (v := (-1)) B dX9_start_42 (by decide) ?_
  refine z_iconst (v := (-1)) B dX9_start_43 (by decide) ?_
  refine z_cVi (As := [.int 0, .int w1, .int (-1), .int (-1)]) (rest := []) B cw_X9_168 cx_10 dX9_start_44 (ci_X9_begets_705 l (σ := (ap b σ [(405, 0, 0)] [] [])) (b := b) (lyA hK) w1 (rI_at 405 6 hI_405_6) (rI_at 413 0 hI_413_0) (rR_at 405 7 hR_405_7) (rR_at 405 8 hR_405_8) (rR_at 405 9 hR_405_9) (rR_at 405 11 hR_405_11) (rR_at 405 13 hR_405_13) (rR_at 405 14 hR_405_14) (rR_at 405 15 hR_405_15)) (lKA (hk_K hK 405 rfl rfl)) rfl (by decide) rfl (Nat.le_of_ble_eq_true rfl) (by decide) (fun r u hu => ?_)
  refine z_eqs (σ' := (ap b σ [(413, 0, 1), (416, 0, 0), (415, 0, (-1)), (411, 0, 0), (410, 0, (-1)), (409, 0, 0), (405, 6, 1), (405, 0, 0)] [(417, 0, (w1.toInt64))] [])) (hu.2.trans ap_ap) ?_
  show zx p l e _ s m _ below meth c g 4 0 0 _ _ 47 [(0, .ref (b + 405)), (1, .int 0), (2, .int w1)] _
  refine z_seti (y := 0) hu.1 ?_
  refine z_istore_n (lv' := [(3, .int 0), (0, .ref (b + 405)), (1, .int 0), (2, .int w1)]) B dX9_start_47 rfl (by decide) rfl ?_
  refine z_aload_n B dX9_start_48 rfl 1 rfl ?_
  refine z_iload_n B dX9_start_49 rfl 0 rfl ?_
  refine z_cVv (As := [.int 0]) (rest := []) B cw_X9_253 cx_10 dX9_start_50 (ci_X9_runs_714 l (σ := (ap b σ [(413, 0, 1), (416, 0, 0), (415, 0, (-1)), (411, 0, 0), (410, 0, (-1)), (409, 0, 0), (405, 6, 1), (405, 0, 0)] [(417, 0, (w1.toInt64))] [])) (b := b) (lyA hK) (w1.toInt64) (rI_at 405 16 hI_405_16) (rI_at 406 0 hI_406_0) (rI_at 407 0 hI_407_0) (rI_at 409 0 rfl) (rI_at 410 0 rfl) (rI_at 412 0 hI_412_0) (rI_at 413 0 rfl) (rI_at 416 0 rfl) (rJ_at 417 0 rfl) (rR_at 405 3 hR_405_3) (rR_at 405 4 hR_405_4) (rR_at 405 7 hR_405_7) (rR_at 405 8 hR_405_8) (rR_at 405 10 hR_405_10) (rR_at 405 11 hR_405_11) (rR_at 405 12 hR_405_12) (rR_at 405 14 hR_405_14) (rR_at 405 15 hR_405_15) (rR_at 405 42 hR_405_42)) (lKA (hk_K hK 405 rfl rfl)) rfl (by decide) rfl (Nat.le_of_ble_eq_true rfl) (by decide) (fun u hu => ?_)
  refine z_eqs (σ' := (ap b σ [(412, 0, 1), (414, 0, 2), (405, 26, 1), (405, 37, 1), (405, 27, 2), (413, 0, 2), (416, 1, 13), (405, 28, 1), (405, 38, 1), (405, 48, (-1)), (405, 27, 1), (405, 29, ((w1.toInt64).toInt32)), (405, 26, 1), (405, 47, 1), (405, 39, 0), (405, 38, 0), (405, 37, 0), (405, 36, 0), (405, 35, 0), (405, 34, 0), (405, 32, 0), (405, 31, 0), (405, 30, 0), (405, 29, 0), (405, 28, 0), (405, 27, 0), (405, 26, 1), (428, 0, 0), (405, 45, 0), (405, 43, 0), (413, 0, 1), (416, 0, 0), (415, 0, (-1)), (411, 0, 0), (410, 0, (-1)), (409, 0, 0), (405, 6, 1), (405, 0, 0)] [(417, 1, ((10 * (((w1.toInt64).toInt32).toInt64)) + 1)), (417, 0, (w1.toInt64))] [])) (hu.trans ap_ap) ?_
  show zx p l e _ s m _ below meth c g 4 0 0 _ _ 53 [(3, .int 0), (0, .ref (b + 405)), (1, .int 0), (2, .int w1)] _
  refine z_iload_n B dX9_start_53 rfl 0 rfl ?_
  exact z_iret B hr (by decide) (by decide) dX9_start_54 ⟨rfl, rfl⟩
set_option maxRecDepth 100000 in
set_option maxHeartbeats 4000000 in
theorem ci_X8_start_723 (l : Launch) (hlt : l.stackTraces = false) {g : gx_T} {σ : sx_T} {b : Nat} (hK : lay b σ) (w1 : Int32) (q1_w1 : (1000 : Int) ≤ w1.toInt) (q2_w1 : w1.toInt ≤ (2147483647 : Int)) (hR_0_0 : sx_R σ (b + 0) 0 = (some (b + 1))) (hR_1_0 : sx_R σ (b + 1) 0 = (some (b + 9))) : vx_Met l yX8_start (.code yX8_start cX8_start 5 (some .int) :: lw_g) { frames := 7, cells := 1, slots := 6, locals := 136 } (va_Pc [.ref (b + 0), .int 0, .int w1] (zx_w g σ)) (va_Qi (S := sx_T) (fun _ _ => False) (zx_w g) (gx_Q g)) (vx_X (fun u : sx_T => ∃ z, u = wx_Z σ z) (fun E u t => E = "java/lang/IllegalArgumentException" ∧ zx_h g u t.heap) (gx_Q g)) 1 6 (gx_Q g) := by
  refine z_metX (by decide) (Nat.le_of_ble_eq_true rfl) (fun p e s m below meth c B hr hin hout => ?_)
  refine z_eqs (σ' := (ap b σ [] [] [])) rfl ?_
  show zx p l e _ s m _ below meth c g 5 0 0 _ _ 0 [(0, .ref (b + 0)), (1, .int 0), (2, .int w1)] []
  refine z_aload_n B dX8_start_0 rfl 0 rfl ?_
  refine z_iload_n B dX8_start_1 rfl 1 rfl ?_
  refine z_cVq (As := [.int 0]) (rest := []) B cw_X8_64 cx_9 dX8_start_2 (ci_X8_programAt_50 l (σ := (ap b σ [] [] [])) (b := b) (lyA hK) (rR_at 0 0 hR_0_0) (rR_at 1 0 hR_1_0)) (lKA (hk_K hK 0 rfl rfl)) rfl (by decide) rfl (Nat.le_of_ble_eq_true rfl) (by decide) (fun r u hu => ?_)
  refine z_eqs (σ' := (ap b σ [] [] [])) hu.2 ?_
  show zx p l e _ s m _ below meth c g 5 0 0 _ _ 5 [(0, .ref (b + 0)), (1, .int 0), (2, .int w1)] _
  refine z_setr (y := (some (b + 9))) hu.1 ?_
  refine z_astore_n (lv' := [(3, .ref (b + 9)), (0, .ref (b + 0)), (1, .int 0), (2, .int w1)]) B dX8_start_5 rfl (by decide) rfl ?_
  refine z_aload_n B dX8_start_6 rfl 0 rfl ?_
  refine z_ifnonnull (r := (some (b + 9))) (tgt := 20) B dX8_start_7 (by decide) (fun _ _ => ?_) (fun h => nomatch h)
  refine z_iload_n B dX8_start_20 rfl 3 rfl ?_
  refine z_sipush (v := (-999)) B dX8_start_21 (by decide) ?_
  refine z_icmp_lt (tgt := 34) B dX8_start_24 (by decide) (fun h => absurd h (iv_nlt q1_w1 (by decide))) (fun _ => ?_)
  refine z_iload_n B dX8_start_27 rfl 3 rfl ?_
  refine z_sipush (v := 999) B dX8_start_28 (by decide) ?_
  refine z_icmp_le (tgt := 44) B dX8_start_31 (by decide) (fun h => absurd h (iv_nle q1_w1 (by decide))) (fun _ => ?_)
  exact z_throw B hlt hout (cls := "java/lang/IllegalArgumentException") (text := "input is out of range") tw_X8_83_139_87 dX8_start_34 dX8_start_37 dX8_start_38 dX8_start_40 dX8_start_43 (by decide) (by decide) (by decide) (by decide) (by decide) (by decide) (fun z => ⟨z, rfl⟩)
set_option maxRecDepth 100000 in
set_option maxHeartbeats 4000000 in
theorem ci_L_start_724 (l : Launch) (hlt : l.stackTraces = false) {g : gx_T} {σ : sx_T} {b : Nat} (hK : lay b σ) (w1 : Int32) (q1_w1 : (1000 : Int) ≤ w1.toInt) (q2_w1 : w1.toInt ≤ (2147483647 : Int)) (hR_0_0 : sx_R σ (b + 0) 0 = (some (b + 1))) (hR_1_0 : sx_R σ (b + 1) 0 = (some (b + 9))) : Met l yL_start (.codeWith yL_start cL_start 5 (some .int) [(0, 10, 13, 13), (0, 10, 17, 15), (0, 10, 21, 24)] :: lw_g) { frames := 8, cells := 1, slots := 6, locals := 160 } (va_Pc [.ref (b + 0), .int 0, .int w1, .ref (b + 431)] (zx_w g σ)) (va_Qi (fun r u => r = 2 ∧ ∃ z, u = (ap b (wx_Z σ z) [] [] [])) (zx_w g) (gx_Q g)) 1 6 (gx_Q g) := by
  refine z_metW (by decide) (Nat.le_of_ble_eq_true rfl) (fun p e s m below meth c B hr htab => ?_)
  refine z_eqs (σ' := (ap b σ [] [] [])) rfl ?_
  show zx p l e _ s m _ below meth c g 5 0 0 _ _ 0 [(0, .ref (b + 0)), (1, .int 0), (2, .int w1), (3, .ref (b + 431))] []
  refine z_aload_n B dL_start_0 rfl 3 rfl ?_
  refine z_iconst (v := 0) B dL_start_1 (by decide) ?_
  refine z_aload_n B dL_start_2 rfl 0 rfl ?_
  refine z_iload_n B dL_start_3 rfl 1 rfl ?_
  refine z_iload_n B dL_start_4 rfl 2 rfl ?_
  refine z_cXi (As := [.int 0, .int w1]) (rest := [.int 0, .ref (b + 431)]) B htab tc_start_5_IllegalArgumentException cw_L_20 cx_9 dL_start_5 (ci_X8_start_723 l hlt (σ := (ap b σ [] [] [])) (b := b) (lyA hK) w1 q1_w1 q2_w1 (rR_at 0 0 hR_0_0) (rR_at 1 0 hR_1_0)) (lKA (hk_K hK 0 rfl rfl)) rfl (by decide) rfl (Nat.le_of_ble_eq_true rfl) (by decide) (fun z q => ?_)
  refine z_eqs (σ' := (ap b (wx_Z σ z) [] [] [])) rfl ?_
  show zx p l e _ s m _ below meth c g 5 _ _ _ _ 17 [(0, .ref (b + 0)), (1, .int 0), (2, .int w1), (3, .ref (b + 431))] _
  refine z_astore (lv' := [(4, .ref q), (0, .ref (b + 0)), (1, .int 0), (2, .int w1), (3, .ref (b + 431))]) B dL_start_17 (by decide) rfl ?_
  refine z_iconst (v := 2) B dL_start_19 (by decide) ?_
  exact z_iret B hr (by decide) (by decide) dL_start_20 ⟨rfl, _, rfl⟩
set_option maxRecDepth 100000 in
set_option maxHeartbeats 4000000 in
theorem ci_X9_start_725 (l : Launch) {g : gx_T} {σ : sx_T} {b : Nat} (hK : lay b σ) (w1 : Int32) (q1_w1 : (1000 : Int) ≤ w1.toInt) (q2_w1 : w1.toInt ≤ (2147483647 : Int)) (hI_405_6 : sx_I σ (b + 405) 6 = 0) : Met l yX9_start (.code yX9_start cX9_start 4 (some .int) :: lw_g) { frames := 1, cells := 0, slots := 0, locals := 23 } (va_Pc [.ref (b + 405), .int 0, .int w1] (zx_w g σ)) (va_Qi (fun r u => r = 0 ∧ u = (ap b σ [(405, 0, 2)] [] [])) (zx_w g) (gx_Q g)) 0 0 (gx_Q g) := by
  refine z_met (by decide) (Nat.le_of_ble_eq_true rfl) (fun p e s m below meth c B hr hin => ?_)
  refine z_eqs (σ' := (ap b σ [] [] [])) rfl ?_
  show zx p l e _ s m _ below meth c g 4 0 0 _ _ 0 [(0, .ref (b + 405)), (1, .int 0), (2, .int w1)] []
  refine z_aload_n B dX9_start_0 rfl 0 rfl ?_
  refine z_iload_n B dX9_start_1 rfl 1 rfl ?_
  refine z_iconst (v := 0) B dX9_start_2 (by decide) ?_
  refine z_iconst (v := 5) B dX9_start_3 (by decide) ?_
  refine z_cSi (As := [.int 0, .int 0, .int 5]) (rest := [.ref (b + 405)]) B cw_X9_96 dX9_start_4 (ci_X9_in_54 l (σ := (ap b σ [] [] [])) (b := b) (lyA hK) ) rfl (by decide) rfl (Nat.le_of_ble_eq_true rfl) (by decide) (fun r u hu => ?_)
  refine z_eqs (σ' := (ap b σ [] [] [])) hu.2 ?_
  show zx p l e _ s m _ below meth c g 4 0 0 _ _ 7 [(0, .ref (b + 405)), (1, .int 0), (2, .int w1)] _
  refine z_seti (y := 1) hu.1 ?_
  refine z_iload_n B dX9_start_7 rfl 2 rfl ?_
  refine z_sipush (v := (-999)) B dX9_start_8 (by decide) ?_
  refine z_sipush (v := 999) B dX9_start_11 (by decide) ?_
  refine z_cSi (As := [.int w1, .int (-999), .int 999]) (rest := [.int 1, .ref (b + 405)]) B cw_X9_96 dX9_start_14 (ci_X9_in_657 l (σ := (ap b σ [] [] [])) (b := b) (lyA hK) w1 q1_w1 q2_w1) rfl (by decide) rfl (Nat.le_of_ble_eq_true rfl) (by decide) (fun r u hu => ?_)
  refine z_eqs (σ' := (ap b σ [] [] [])) hu.2 ?_
  show zx p l e _ s m _ below meth c g 4 0 0 _ _ 17 [(0, .ref (b + 405)), (1, .int 0), (2, .int w1)] _
  refine z_seti (y := 0) hu.1 ?_
  refine z_aload_n B dX9_start_17 rfl 0 rfl ?_
  refine gf_X9_93 (x := 0) B (lKA (hk_K hK 405 rfl rfl)) (rI_at 405 6 hI_405_6) dX9_start_18 ?_
  refine z_bipush (v := 40) B dX9_start_21 (by decide) ?_
  refine z_icmp_ge (tgt := 30) B dX9_start_23 (by decide) (fun h => absurd h (by decide)) (fun _ => ?_)
  refine z_iconst (v := 1) B dX9_start_26 (by decide) ?_
  refine z_goto (tgt := 31) B dX9_start_27 (by decide) ?_
  refine z_cVi (As := [.int 1, .int 0, .int 1]) (rest := []) B cw_X9_259 cx_10 dX9_start_31 (ci_X9_needs___661 l (σ := (ap b σ [] [] [])) (b := b) (lyA hK) ) (lKA (hk_K hK 405 rfl rfl)) rfl (by decide) rfl (Nat.le_of_ble_eq_true rfl) (by decide) (fun r u hu => ?_)
  refine z_eqs (σ' := (ap b σ [(405, 0, 2)] [] [])) (hu.2.trans ap_ap) ?_
  show zx p l e _ s m _ below meth c g 4 0 0 _ _ 34 [(0, .ref (b + 405)), (1, .int 0), (2, .int w1)] _
  refine z_seti (y := 0) hu.1 ?_
  refine z_if_ne (tgt := 39) B dX9_start_34 (by decide) (fun h => absurd (by decide) h) (fun _ => ?_)
  refine z_iconst (v := 0) B dX9_start_37 (by decide) ?_
  exact z_iret B hr (by decide) (by decide) dX9_start_38 ⟨rfl, rfl⟩
set_option maxRecDepth 100000 in
set_option maxHeartbeats 4000000 in
theorem ci_X8_start_726 (l : Launch) (hlt : l.stackTraces = false) {g : gx_T} {σ : sx_T} {b : Nat} (hK : lay b σ) (w1 : Int32) (q1_w1 : (-2147483648 : Int) ≤ w1.toInt) (q2_w1 : w1.toInt ≤ (-1000 : Int)) (hR_0_0 : sx_R σ (b + 0) 0 = (some (b + 1))) (hR_1_1 : sx_R σ (b + 1) 1 = (some (b + 13))) : vx_Met l yX8_start (.code yX8_start cX8_start 5 (some .int) :: lw_g) { frames := 7, cells := 1, slots := 6, locals := 136 } (va_Pc [.ref (b + 0), .int 1, .int w1] (zx_w g σ)) (va_Qi (S := sx_T) (fun _ _ => False) (zx_w g) (gx_Q g)) (vx_X (fun u : sx_T => ∃ z, u = wx_Z σ z) (fun E u t => E = "java/lang/IllegalArgumentException" ∧ zx_h g u t.heap) (gx_Q g)) 1 6 (gx_Q g) := by
  refine z_metX (by decide) (Nat.le_of_ble_eq_true rfl) (fun p e s m below meth c B hr hin hout => ?_)
  refine z_eqs (σ' := (ap b σ [] [] [])) rfl ?_
  show zx p l e _ s m _ below meth c g 5 0 0 _ _ 0 [(0, .ref (b + 0)), (1, .int 1), (2, .int w1)] []
  refine z_aload_n B dX8_start_0 rfl 0 rfl ?_
  refine z_iload_n B dX8_start_1 rfl 1 rfl ?_
  refine z_cVq (As := [.int 1]) (rest := []) B cw_X8_64 cx_9 dX8_start_2 (ci_X8_programAt_122 l (σ := (ap b σ [] [] [])) (b := b) (lyA hK) (rR_at 0 0 hR_0_0) (rR_at 1 1 hR_1_1)) (lKA (hk_K hK 0 rfl rfl)) rfl (by decide) rfl (Nat.le_of_ble_eq_true rfl) (by decide) (fun r u hu => ?_)
  refine z_eqs (σ' := (ap b σ [] [] [])) hu.2 ?_
  show zx p l e _ s m _ below meth c g 5 0 0 _ _ 5 [(0, .ref (b + 0)), (1, .int 1), (2, .int w1)] _
  refine z_setr (y := (some (b + 13))) hu.1 ?_
  refine z_astore_n (lv' := [(3, .ref (b + 13)), (0, .ref (b + 0)), (1, .int 1), (2, .int w1)]) B dX8_start_5 rfl (by decide) rfl ?_
  refine z_aload_n B dX8_start_6 rfl 0 rfl ?_
  refine z_ifnonnull (r := (some (b + 13))) (tgt := 20) B dX8_start_7 (by decide) (fun _ _ => ?_) (fun h => nomatch h)
  refine z_iload_n B dX8_start_20 rfl 3 rfl ?_
  refine z_sipush (v := (-999)) B dX8_start_21 (by decide) ?_
  refine z_icmp_lt (tgt := 34) B dX8_start_24 (by decide) (fun _ => ?_) (fun h => absurd (iv_lt q2_w1 (by decide)) h)
  exact z_throw B hlt hout (cls := "java/lang/IllegalArgumentException") (text := "input is out of range") tw_X8_83_139_87 dX8_start_34 dX8_start_37 dX8_start_38 dX8_start_40 dX8_start_43 (by decide) (by decide) (by decide) (by decide) (by decide) (by decide) (fun z => ⟨z, rfl⟩)
set_option maxRecDepth 100000 in
set_option maxHeartbeats 4000000 in
theorem ci_L_start_727 (l : Launch) (hlt : l.stackTraces = false) {g : gx_T} {σ : sx_T} {b : Nat} (hK : lay b σ) (w1 : Int32) (q1_w1 : (-2147483648 : Int) ≤ w1.toInt) (q2_w1 : w1.toInt ≤ (-1000 : Int)) (hR_0_0 : sx_R σ (b + 0) 0 = (some (b + 1))) (hR_1_1 : sx_R σ (b + 1) 1 = (some (b + 13))) : Met l yL_start (.codeWith yL_start cL_start 5 (some .int) [(0, 10, 13, 13), (0, 10, 17, 15), (0, 10, 21, 24)] :: lw_g) { frames := 8, cells := 1, slots := 6, locals := 160 } (va_Pc [.ref (b + 0), .int 1, .int w1, .ref (b + 431)] (zx_w g σ)) (va_Qi (fun r u => r = 2 ∧ ∃ z, u = (ap b (wx_Z σ z) [] [] [])) (zx_w g) (gx_Q g)) 1 6 (gx_Q g) := by
  refine z_metW (by decide) (Nat.le_of_ble_eq_true rfl) (fun p e s m below meth c B hr htab => ?_)
  refine z_eqs (σ' := (ap b σ [] [] [])) rfl ?_
  show zx p l e _ s m _ below meth c g 5 0 0 _ _ 0 [(0, .ref (b + 0)), (1, .int 1), (2, .int w1), (3, .ref (b + 431))] []
  refine z_aload_n B dL_start_0 rfl 3 rfl ?_
  refine z_iconst (v := 0) B dL_start_1 (by decide) ?_
  refine z_aload_n B dL_start_2 rfl 0 rfl ?_
  refine z_iload_n B dL_start_3 rfl 1 rfl ?_
  refine z_iload_n B dL_start_4 rfl 2 rfl ?_
  refine z_cXi (As := [.int 1, .int w1]) (rest := [.int 0, .ref (b + 431)]) B htab tc_start_5_IllegalArgumentException cw_L_20 cx_9 dL_start_5 (ci_X8_start_726 l hlt (σ := (ap b σ [] [] [])) (b := b) (lyA hK) w1 q1_w1 q2_w1 (rR_at 0 0 hR_0_0) (rR_at 1 1 hR_1_1)) (lKA (hk_K hK 0 rfl rfl)) rfl (by decide) rfl (Nat.le_of_ble_eq_true rfl) (by decide) (fun z q => ?_)
  refine z_eqs (σ' := (ap b (wx_Z σ z) [] [] [])) rfl ?_
  show zx p l e _ s m _ below meth c g 5 _ _ _ _ 17 [(0, .ref (b + 0)), (1, .int 1), (2, .int w1), (3, .ref (b + 431))] _
  refine z_astore (lv' := [(4, .ref q), (0, .ref (b + 0)), (1, .int 1), (2, .int w1), (3, .ref (b + 431))]) B dL_start_17 (by decide) rfl ?_
  refine z_iconst (v := 2) B dL_start_19 (by decide) ?_
  exact z_iret B hr (by decide) (by decide) dL_start_20 ⟨rfl, _, rfl⟩
set_option maxRecDepth 100000 in
set_option maxHeartbeats 4000000 in
theorem ci_X9_start_728 (l : Launch) {g : gx_T} {σ : sx_T} {b : Nat} (hK : lay b σ) (w1 : Int32) (q1_w1 : (-2147483648 : Int) ≤ w1.toInt) (q2_w1 : w1.toInt ≤ (-1000 : Int)) (hI_405_6 : sx_I σ (b + 405) 6 = 0) : Met l yX9_start (.code yX9_start cX9_start 4 (some .int) :: lw_g) { frames := 1, cells := 0, slots := 0, locals := 23 } (va_Pc [.ref (b + 405), .int 1, .int w1] (zx_w g σ)) (va_Qi (fun r u => r = 0 ∧ u = (ap b σ [(405, 0, 2)] [] [])) (zx_w g) (gx_Q g)) 0 0 (gx_Q g) := by
  refine z_met (by decide) (Nat.le_of_ble_eq_true rfl) (fun p e s m below meth c B hr hin => ?_)
  refine z_eqs (σ' := (ap b σ [] [] [])) rfl ?_
  show zx p l e _ s m _ below meth c g 4 0 0 _ _ 0 [(0, .ref (b + 405)), (1, .int 1), (2, .int w1)] []
  refine z_aload_n B dX9_start_0 rfl 0 rfl ?_
  refine z_iload_n B dX9_start_1 rfl 1 rfl ?_
  refine z_iconst (v := 0) B dX9_start_2 (by decide) ?_
  refine z_iconst (v := 5) B dX9_start_3 (by decide) ?_
  refine z_cSi (As := [.int 1, .int 0, .int 5]) (rest := [.ref (b + 405)]) B cw_X9_96 dX9_start_4 (ci_X9_in_125 l (σ := (ap b σ [] [] [])) (b := b) (lyA hK) ) rfl (by decide) rfl (Nat.le_of_ble_eq_true rfl) (by decide) (fun r u hu => ?_)
  refine z_eqs (σ' := (ap b σ [] [] [])) hu.2 ?_
  show zx p l e _ s m _ below meth c g 4 0 0 _ _ 7 [(0, .ref (b + 405)), (1, .int 1), (2, .int w1)] _
  refine z_seti (y := 1) hu.1 ?_
  refine z_iload_n B dX9_start_7 rfl 2 rfl ?_
  refine z_sipush (v := (-999)) B dX9_start_8 (by decide) ?_
  refine z_sipush (v := 999) B dX9_start_11 (by decide) ?_
  refine z_cSi (As := [.int w1, .int (-999), .int 999]) (rest := [.int 1, .ref (b + 405)]) B cw_X9_96 dX9_start_14 (ci_X9_in_651 l (σ := (ap b σ [] [] [])) (b := b) (lyA hK) w1 q1_w1 q2_w1) rfl (by decide) rfl (Nat.le_of_ble_eq_true rfl) (by decide) (fun r u hu => ?_)
  refine z_eqs (σ' := (ap b σ [] [] [])) hu.2 ?_
  show zx p l e _ s m _ below meth c g 4 0 0 _ _ 17 [(0, .ref (b + 405)), (1, .int 1), (2, .int w1)] _
  refine z_seti (y := 0) hu.1 ?_
  refine z_aload_n B dX9_start_17 rfl 0 rfl ?_
  refine gf_X9_93 (x := 0) B (lKA (hk_K hK 405 rfl rfl)) (rI_at 405 6 hI_405_6) dX9_start_18 ?_
  refine z_bipush (v := 40) B dX9_start_21 (by decide) ?_
  refine z_icmp_ge (tgt := 30) B dX9_start_23 (by decide) (fun h => absurd h (by decide)) (fun _ => ?_)
  refine z_iconst (v := 1) B dX9_start_26 (by decide) ?_
  refine z_goto (tgt := 31) B dX9_start_27 (by decide) ?_
  refine z_cVi (As := [.int 1, .int 0, .int 1]) (rest := []) B cw_X9_259 cx_10 dX9_start_31 (ci_X9_needs___661 l (σ := (ap b σ [] [] [])) (b := b) (lyA hK) ) (lKA (hk_K hK 405 rfl rfl)) rfl (by decide) rfl (Nat.le_of_ble_eq_true rfl) (by decide) (fun r u hu => ?_)
  refine z_eqs (σ' := (ap b σ [(405, 0, 2)] [] [])) (hu.2.trans ap_ap) ?_
  show zx p l e _ s m _ below meth c g 4 0 0 _ _ 34 [(0, .ref (b + 405)), (1, .int 1), (2, .int w1)] _
  refine z_seti (y := 0) hu.1 ?_
  refine z_if_ne (tgt := 39) B dX9_start_34 (by decide) (fun h => absurd (by decide) h) (fun _ => ?_)
  refine z_iconst (v := 0) B dX9_start_37 (by decide) ?_
  exact z_iret B hr (by decide) (by decide) dX9_start_38 ⟨rfl, rfl⟩
set_option maxRecDepth 100000 in
set_option maxHeartbeats 4000000 in
theorem ci_X5_begin_729 (l : Launch) {g : gx_T} {σ : sx_T} {b : Nat} (hK : lay b σ) (w1 : Int64)  (hI_37_2 : sx_I σ (b + 37) 2 = 1) (hJ_39_0 : sx_J σ (b + 39) 0 = w1) (hR_37_1 : sx_R σ (b + 37) 1 = (some (b + 39))) (hR_41_0 : sx_R σ (b + 41) 0 = (some (b + 42))) (hR_41_1 : sx_R σ (b + 41) 1 = (some (b + 44))) : Met l yX5_begin (.code yX5_begin cX5_begin 3 none :: lw_g) { frames := 1, cells := 0, slots := 0, locals := 21 } (va_Pc [.ref (b + 41), .ref (b + 13), .ref (b + 37)] (zx_w g σ)) (va_Qv (fun u => u = (ap b σ [(41, 19, 0), (41, 18, (-1)), (41, 16, (-1)), (41, 15, 0), (41, 14, 0), (41, 13, 0), (41, 12, 0), (41, 10, (-1)), (41, 9, (-1)), (41, 8, 0), (41, 7, 0), (41, 6, (w1.toInt32)), (41, 5, 0), (41, 4, 1), (44, 1, 0), (42, 1, 0)] [(41, 17, 0), (41, 11, 0)] [(41, 3, (some (b + 37))), (41, 2, (some (b + 13)))])) (zx_w g) (gx_Q g)) 0 0 (gx_Q g) := by
  refine z_met (by decide) (Nat.le_of_ble_eq_true rfl) (fun p e s m below meth c B hr hin => ?_)
  refine z_eqs (σ' := (ap b σ [] [] [])) rfl ?_
  show zx p l e _ s m _ below meth c g 3 0 0 _ _ 0 [(0, .ref (b + 41)), (1, .ref (b + 13)), (2, .ref (b + 37))] []
  refine z_aload_n B dX5_begin_0 rfl 0 rfl ?_
  refine z_aload_n B dX5_begin_1 rfl 1 rfl ?_
  refine pf_X5_25 (x := (some (b + 13))) (σ' := (ap b σ [] [] [(41, 2, (some (b + 13)))])) B (lKA (hk_K hK 41 rfl rfl)) wR_ap dX5_begin_2 ?_
  refine z_aload_n B dX5_begin_5 rfl 0 rfl ?_
  refine z_aload_n B dX5_begin_6 rfl 2 rfl ?_
  refine pf_X5_29 (x := (some (b + 37))) (σ' := (ap b σ [] [] [(41, 3, (some (b + 37))), (41, 2, (some (b + 13)))])) B (lKA (hk_K hK 41 rfl rfl)) wR_ap dX5_begin_7 ?_
  refine z_aload_n B dX5_begin_10 rfl 0 rfl ?_
  refine gf_X5_12 (x := (some (b + 42))) B (lKA (hk_K hK 41 rfl rfl)) (rR_at 41 0 hR_41_0) dX5_begin_11 ?_
  refine z_iconst (v := 0) B dX5_begin_14 (by decide) ?_
  refine pf_X5_33 (x := 0) (σ' := (ap b σ [(42, 1, 0)] [] [(41, 3, (some (b + 37))), (41, 2, (some (b + 13)))])) B (lKA (hk_K hK 42 rfl rfl)) wI_ap dX5_begin_15 ?_
  refine z_aload_n B dX5_begin_18 rfl 0 rfl ?_
  refine gf_X5_21 (x := (some (b + 44))) B (lKA (hk_K hK 41 rfl rfl)) (rR_at 41 1 hR_41_1) dX5_begin_19 ?_
  refine z_iconst (v := 0) B dX5_begin_22 (by decide) ?_
  refine pf_X5_37 (x := 0) (σ' := (ap b σ [(44, 1, 0), (42, 1, 0)] [] [(41, 3, (some (b + 37))), (41, 2, (some (b + 13)))])) B (lKA (hk_K hK 44 rfl rfl)) wI_ap dX5_begin_23 ?_
  refine z_aload_n B dX5_begin_26 rfl 0 rfl ?_
  refine z_iconst (v := 1) B dX5_begin_27 (by decide) ?_
  refine pf_X5_38 (x := 1) (σ' := (ap b σ [(41, 4, 1), (44, 1, 0), (42, 1, 0)] [] [(41, 3, (some (b + 37))), (41, 2, (some (b + 13)))])) B (lKA (hk_K hK 41 rfl rfl)) wI_ap dX5_begin_28 ?_
  refine z_aload_n B dX5_begin_31 rfl 0 rfl ?_
  refine z_iconst (v := 0) B dX5_begin_32 (by decide) ?_
  refine pf_X5_41 (x := 0) (σ' := (ap b σ [(41, 5, 0), (41, 4, 1), (44, 1, 0), (42, 1, 0)] [] [(41, 3, (some (b + 37))), (41, 2, (some (b + 13)))])) B (lKA (hk_K hK 41 rfl rfl)) wI_ap dX5_begin_33 ?_
  refine z_aload_n B dX5_begin_36 rfl 0 rfl ?_
  refine z_aload_n B dX5_begin_37 rfl 2 rfl ?_
  refine z_iconst (v := 0) B dX5_begin_38 (by decide) ?_
  refine z_cVl (As := [.int 0]) (rest := [.ref (b + 41)]) B cw_X5_44 cx_2 dX5_begin_39 (ci_X1_numberAt_664 l (σ := (ap b σ [(41, 5, 0), (41, 4, 1), (44, 1, 0), (42, 1, 0)] [] [(41, 3, (some (b + 37))), (41, 2, (some (b + 13)))])) (b := b) (lyA hK) w1 (rI_at 37 2 hI_37_2) (rJ_at 39 0 hJ_39_0) (rR_at 37 1 hR_37_1)) (lKA (hk_K hK 37 rfl rfl)) rfl (by decide) rfl (Nat.le_of_ble_eq_true rfl) (by decide) (fun r u hu => ?_)
  refine z_eqs (σ' := (ap b σ [(41, 5, 0), (41, 4, 1), (44, 1, 0), (42, 1, 0)] [] [(41, 3, (some (b + 37))), (41, 2, (some (b + 13)))])) hu.2 ?_
  show zx p l e _ s m _ below meth c g 3 0 0 _ _ 42 [(0, .ref (b + 41)), (1, .ref (b + 13)), (2, .ref (b + 37))] _
  refine z_setl (y := w1) hu.1 ?_
  refine z_l2i B dX5_begin_42 rfl ?_
  refine pf_X5_50 (x := (w1.toInt32)) (σ' := (ap b σ [(41, 6, (w1.toInt32)), (41, 5, 0), (41, 4, 1), (44, 1, 0), (42, 1, 0)] [] [(41, 3, (some (b + 37))), (41, 2, (some (b + 13)))])) B (lKA (hk_K hK 41 rfl rfl)) wI_ap dX5_begin_43 ?_
  refine z_aload_n B dX5_begin_46 rfl 0 rfl ?_
  refine z_iconst (v := 0) B dX5_begin_47 (by decide) ?_
  refine pf_X5_53 (x := 0) (σ' := (ap b σ [(41, 7, 0), (41, 6, (w1.toInt32)), (41, 5, 0), (41, 4, 1), (44, 1, 0), (42, 1, 0)] [] [(41, 3, (some (b + 37))), (41, 2, (some (b + 13)))])) B (lKA (hk_K hK 41 rfl rfl)) wI_ap dX5_begin_48 ?_
  refine z_aload_n B dX5_begin_51 rfl 0 rfl ?_
  refine z_iconst (v := 0) B dX5_begin_52 (by decide) ?_
  refine pf_X5_56 (x := 0) (σ' := (ap b σ [(41, 8, 0), (41, 7, 0), (41, 6, (w1.toInt32)), (41, 5, 0), (41, 4, 1), (44, 1, 0), (42, 1, 0)] [] [(41, 3, (some (b + 37))), (41, 2, (some (b + 13)))])) B (lKA (hk_K hK 41 rfl rfl)) wI_ap dX5_begin_53 ?_
  refine z_aload_n B dX5_begin_56 rfl 0 rfl ?_
  refine z_iconst (v := (-1)) B dX5_begin_57 (by decide) ?_
  refine pf_X5_59 (x := (-1)) (σ' := (ap b σ [(41, 9, (-1)), (41, 8, 0), (41, 7, 0), (41, 6, (w1.toInt32)), (41, 5, 0), (41, 4, 1), (44, 1, 0), (42, 1, 0)] [] [(41, 3, (some (b + 37))), (41, 2, (some (b + 13)))])) B (lKA (hk_K hK 41 rfl rfl)) wI_ap dX5_begin_58 ?_
  refine z_aload_n B dX5_begin_61 rfl 0 rfl ?_
  refine z_iconst (v := (-1)) B dX5_begin_62 (by decide) ?_
  refine pf_X5_62 (x := (-1)) (σ' := (ap b σ [(41, 10, (-1)), (41, 9, (-1)), (41, 8, 0), (41, 7, 0), (41, 6, (w1.toInt32)), (41, 5, 0), (41, 4, 1), (44, 1, 0), (42, 1, 0)] [] [(41, 3, (some (b + 37))), (41, 2, (some (b + 13)))])) B (lKA (hk_K hK 41 rfl rfl)) wI_ap dX5_begin_63 ?_
  refine z_aload_n B dX5_begin_66 rfl 0 rfl ?_
  refine z_lconst (v := 0) B dX5_begin_67 (by decide) ?_
  refine pf_X5_65 (x := 0) (σ' := (ap b σ [(41, 10, (-1)), (41, 9, (-1)), (41, 8, 0), (41, 7, 0), (41, 6, (w1.toInt32)), (41, 5, 0), (41, 4, 1), (44, 1, 0), (42, 1, 0)] [(41, 11, 0)] [(41, 3, (some (b + 37))), (41, 2, (some (b + 13)))])) B (lKA (hk_K hK 41 rfl rfl)) wJ_ap dX5_begin_68 ?_
  refine z_aload_n B dX5_begin_71 rfl 0 rfl ?_
  refine z_iconst (v := 0) B dX5_begin_72 (by decide) ?_
  refine pf_X5_69 (x := 0) (σ' := (ap b σ [(41, 12, 0), (41, 10, (-1)), (41, 9, (-1)), (41, 8, 0), (41, 7, 0), (41, 6, (w1.toInt32)), (41, 5, 0), (41, 4, 1), (44, 1, 0), (42, 1, 0)] [(41, 11, 0)] [(41, 3, (some (b + 37))), (41, 2, (some (b + 13)))])) B (by decide) (lKA (hk_K hK 41 rfl rfl)) wI_ap dX5_begin_73 ?_
  refine z_aload_n B dX5_begin_76 rfl 0 rfl ?_
  refine z_iconst (v := 0) B dX5_begin_77 (by decide) ?_
  refine pf_X5_73 (x := 0) (σ' := (ap b σ [(41, 13, 0), (41, 12, 0), (41, 10, (-1)), (41, 9, (-1)), (41, 8, 0), (41, 7, 0), (41, 6, (w1.toInt32)), (41, 5, 0), (41, 4, 1), (44, 1, 0), (42, 1, 0)] [(41, 11, 0)] [(41, 3, (some (b + 37))), (41, 2, (some (b + 13)))])) B (by decide) (lKA (hk_K hK 41 rfl rfl)) wI_ap dX5_begin_78 ?_
  refine z_aload_n B dX5_begin_81 rfl 0 rfl ?_
  refine z_iconst (v := 0) B dX5_begin_82 (by decide) ?_
  refine pf_X5_76 (x := 0) (σ' := (ap b σ [(41, 14, 0), (41, 13, 0), (41, 12, 0), (41, 10, (-1)), (41, 9, (-1)), (41, 8, 0), (41, 7, 0), (41, 6, (w1.toInt32)), (41, 5, 0), (41, 4, 1), (44, 1, 0), (42, 1, 0)] [(41, 11, 0)] [(41, 3, (some (b + 37))), (41, 2, (some (b + 13)))])) B (lKA (hk_K hK 41 rfl rfl)) wI_ap dX5_begin_83 ?_
  refine z_aload_n B dX5_begin_86 rfl 0 rfl ?_
  refine z_iconst (v := 0) B dX5_begin_87 (by decide) ?_
  refine pf_X5_79 (x := 0) (σ' := (ap b σ [(41, 15, 0), (41, 14, 0), (41, 13, 0), (41, 12, 0), (41, 10, (-1)), (41, 9, (-1)), (41, 8, 0), (41, 7, 0), (41, 6, (w1.toInt32)), (41, 5, 0), (41, 4, 1), (44, 1, 0), (42, 1, 0)] [(41, 11, 0)] [(41, 3, (some (b + 37))), (41, 2, (some (b + 13)))])) B (by decide) (lKA (hk_K hK 41 rfl rfl)) wI_ap dX5_begin_88 ?_
  refine z_aload_n B dX5_begin_91 rfl 0 rfl ?_
  refine z_iconst (v := (-1)) B dX5_begin_92 (by decide) ?_
  refine pf_X5_82 (x := (-1)) (σ' := (ap b σ [(41, 16, (-1)), (41, 15, 0), (41, 14, 0), (41, 13, 0), (41, 12, 0), (41, 10, (-1)), (41, 9, (-1)), (41, 8, 0), (41, 7, 0), (41, 6, (w1.toInt32)), (41, 5, 0), (41, 4, 1), (44, 1, 0), (42, 1, 0)] [(41, 11, 0)] [(41, 3, (some (b + 37))), (41, 2, (some (b + 13)))])) B (lKA (hk_K hK 41 rfl rfl)) wI_ap dX5_begin_93 ?_
  refine z_aload_n B dX5_begin_96 rfl 0 rfl ?_
  refine z_lconst (v := 0) B dX5_begin_97 (by decide) ?_
  refine pf_X5_85 (x := 0) (σ' := (ap b σ [(41, 16, (-1)), (41, 15, 0), (41, 14, 0), (41, 13, 0), (41, 12, 0), (41, 10, (-1)), (41, 9, (-1)), (41, 8, 0), (41, 7, 0), (41, 6, (w1.toInt32)), (41, 5, 0), (41, 4, 1), (44, 1, 0), (42, 1, 0)] [(41, 17, 0), (41, 11, 0)] [(41, 3, (some (b + 37))), (41, 2, (some (b + 13)))])) B (lKA (hk_K hK 41 rfl rfl)) wJ_ap dX5_begin_98 ?_
  refine z_aload_n B dX5_begin_101 rfl 0 rfl ?_
  refine z_iconst (v := (-1)) B dX5_begin_102 (by decide) ?_
  refine pf_X5_88 (x := (-1)) (σ' := (ap b σ [(41, 18, (-1)), (41, 16, (-1)), (41, 15, 0), (41, 14, 0), (41, 13, 0), (41, 12, 0), (41, 10, (-1)), (41, 9, (-1)), (41, 8, 0), (41, 7, 0), (41, 6, (w1.toInt32)), (41, 5, 0), (41, 4, 1), (44, 1, 0), (42, 1, 0)] [(41, 17, 0), (41, 11, 0)] [(41, 3, (some (b + 37))), (41, 2, (some (b + 13)))])) B (lKA (hk_K hK 41 rfl rfl)) wI_ap dX5_begin_103 ?_
  refine z_aload_n B dX5_begin_106 rfl 0 rfl ?_
  refine z_iconst (v := 0) B dX5_begin_107 (by decide) ?_
  refine pf_X5_91 (x := 0) (σ' := (ap b σ [(41, 19, 0), (41, 18, (-1)), (41, 16, (-1)), (41, 15, 0), (41, 14, 0), (41, 13, 0), (41, 12, 0), (41, 10, (-1)), (41, 9, (-1)), (41, 8, 0), (41, 7, 0), (41, 6, (w1.toInt32)), (41, 5, 0), (41, 4, 1), (44, 1, 0), (42, 1, 0)] [(41, 17, 0), (41, 11, 0)] [(41, 3, (some (b + 37))), (41, 2, (some (b + 13)))])) B (by decide) (lKA (hk_K hK 41 rfl rfl)) wI_ap dX5_begin_108 ?_
  exact z_vret B hr (by decide) (by decide) dX5_begin_111 rfl
set_option maxRecDepth 100000 in
set_option maxHeartbeats 4000000 in
theorem ci_X8_open_730 (l : Launch) {g : gx_T} {σ : sx_T} {b : Nat} (hK : lay b σ) (w1 : Int32)  (hI_0_7 : sx_I σ (b + 0) 7 = 0) (hI_37_2 : sx_I σ (b + 37) 2 = 0) (hI_40_0 : sx_I σ (b + 40) 0 = 0) (hR_0_2 : sx_R σ (b + 0) 2 = (some (b + 3))) (hR_3_0 : sx_R σ (b + 3) 0 = (some (b + 40))) (hR_37_0 : sx_R σ (b + 37) 0 = (some (b + 38))) (hR_37_1 : sx_R σ (b + 37) 1 = (some (b + 39))) (hR_40_1 : sx_R σ (b + 40) 1 = (some (b + 37))) (hR_40_2 : sx_R σ (b + 40) 2 = (some (b + 41))) (hR_41_0 : sx_R σ (b + 41) 0 = (some (b + 42))) (hR_41_1 : sx_R σ (b + 41) 1 = (some (b + 44))) : Met l yX8_open (.code yX8_open cX8_open 6 (some (.object "Loomkeeper$Flow")) :: lw_g) { frames := 2, cells := 0, slots := 0, locals := 43 } (va_Pc [.ref (b + 0), .ref (b + 13), .int w1, .int (-1), .int (-1)] (zx_w g σ)) (va_Qq (fun r u => r = (some (b + 40)) ∧ u = (ap b σ [(41, 19, 0), (41, 18, (-1)), (41, 16, (-1)), (41, 15, 0), (41, 14, 0), (41, 13, 0), (41, 12, 0), (41, 10, (-1)), (41, 9, (-1)), (41, 8, 0), (41, 7, 0), (41, 6, ((w1.toInt64).toInt32)), (41, 5, 0), (41, 4, 1), (44, 1, 0), (42, 1, 0), (37, 2, 1), (38, 0, 0), (40, 5, 0), (40, 4, (-1)), (0, 7, 1)] [(41, 17, 0), (41, 11, 0), (39, 0, (w1.toInt64))] [(41, 3, (some (b + 37))), (41, 2, (some (b + 13))), (40, 3, (some (b + 13)))])) (zx_w g) (gx_Q g)) 0 0 (gx_Q g) := by
  refine z_met (by decide) (Nat.le_of_ble_eq_true rfl) (fun p e s m below meth c B hr hin => ?_)
  refine z_eqs (σ' := (ap b σ [] [] [])) rfl ?_
  show zx p l e _ s m _ below meth c g 6 0 0 _ _ 0 [(0, .ref (b + 0)), (1, .ref (b + 13)), (2, .int w1), (3, .int (-1)), (4, .int (-1))] []
  refine z_aload_n B dX8_open_0 rfl 1 rfl ?_
  refine z_ifnull (r := (some (b + 13))) (tgt := 23) B dX8_open_1 (by decide) (fun h => nomatch h) (fun _ _ => ?_)
  refine z_aload_n B dX8_open_4 rfl 0 rfl ?_
  refine gf_X8_96 (x := 0) B (lKA (hk_K hK 0 rfl rfl)) (rI_at 0 7 hI_0_7) dX8_open_5 ?_
  refine z_if_lt (tgt := 23) B dX8_open_8 (by decide) (fun h => absurd h (by decide)) (fun _ => ?_)
  refine z_aload_n B dX8_open_11 rfl 0 rfl ?_
  refine gf_X8_96 (x := 0) B (lKA (hk_K hK 0 rfl rfl)) (rI_at 0 7 hI_0_7) dX8_open_12 ?_
  refine z_aload_n B dX8_open_15 rfl 0 rfl ?_
  refine gf_X8_21 (x := (some (b + 3))) B (lKA (hk_K hK 0 rfl rfl)) (rR_at 0 2 hR_0_2) dX8_open_16 ?_
  refine z_alen (kd := 15) (ti := 3) (v := 40) B (lKA (hk_K hK 3 rfl rfl)) (by decide) rfl (congrArg Int32.ofNat (lNA (hk_N hK 3 rfl rfl))) dX8_open_19 ?_
  refine z_icmp_lt (tgt := 25) B dX8_open_20 (by decide) (fun _ => ?_) (fun h => absurd (by decide) h)
  refine z_aload_n B dX8_open_25 rfl 0 rfl ?_
  refine gf_X8_21 (x := (some (b + 3))) B (lKA (hk_K hK 0 rfl rfl)) (rR_at 0 2 hR_0_2) dX8_open_26 ?_
  refine z_aload_n B dX8_open_29 rfl 0 rfl ?_
  refine gf_X8_96 (x := 0) B (lKA (hk_K hK 0 rfl rfl)) (rI_at 0 7 hI_0_7) dX8_open_30 ?_
  refine z_qald (j := 0) (kd := 15) (ti := 3) (r := (some (b + 40))) B (lKA (hk_K hK 3 rfl rfl)) (by decide) rfl (by decide) (in_of (lNA (hk_N hK 3 rfl rfl)) (show ¬ ((0 : Int32) < 0 ∨ 40 ≤ (0 : Int32).toNatClampNeg) by decide)) (rR_at 3 0 hR_3_0) dX8_open_33 ?_
  refine z_astore (lv' := [(5, .ref (b + 40)), (0, .ref (b + 0)), (1, .ref (b + 13)), (2, .int w1), (3, .int (-1)), (4, .int (-1))]) B dX8_open_34 (by decide) rfl ?_
  refine z_aload B dX8_open_36 0 rfl ?_
  refine z_ifnonnull (r := (some (b + 40))) (tgt := 43) B dX8_open_38 (by decide) (fun _ _ => ?_) (fun h => nomatch h)
  refine z_aload_n B dX8_open_43 rfl 1 rfl ?_
  refine z_dup B dX8_open_44 rfl ?_
  refine gf_X8_96 (x := 0) B (lKA (hk_K hK 0 rfl rfl)) (rI_at 0 7 hI_0_7) dX8_open_45 ?_
  refine z_iconst (v := 1) B dX8_open_48 (by decide) ?_
  refine z_iadd B dX8_open_49 ?_
  refine z_seti (y := 1) (by decide) ?_
  refine pf_X8_96 (x := 1) (σ' := (ap b σ [(0, 7, 1)] [] [])) B (lKA (hk_K hK 0 rfl rfl)) wI_ap dX8_open_50 ?_
  refine z_aload B dX8_open_53 0 rfl ?_
  refine z_aload_n B dX8_open_55 rfl 2 rfl ?_
  refine pf_X8_103 (x := (some (b + 13))) (σ' := (ap b σ [(0, 7, 1)] [] [(40, 3, (some (b + 13)))])) B (lKA (hk_K hK 40 rfl rfl)) wR_ap dX8_open_56 ?_
  refine z_aload B dX8_open_59 0 rfl ?_
  refine z_iload_n B dX8_open_61 rfl 4 rfl ?_
  refine pf_X8_259 (x := (-1)) (σ' := (ap b σ [(40, 4, (-1)), (0, 7, 1)] [] [(40, 3, (some (b + 13)))])) B (lKA (hk_K hK 40 rfl rfl)) wI_ap dX8_open_62 ?_
  refine z_aload B dX8_open_65 0 rfl ?_
  refine z_iload B dX8_open_67 5 rfl ?_
  refine z_iconst (v := (-1)) B dX8_open_69 (by decide) ?_
  refine z_icmp_ne (tgt := 81) B dX8_open_70 (by decide) (fun h => absurd (by decide) h) (fun _ => ?_)
  refine z_aload B dX8_open_73 0 rfl ?_
  refine gf_X8_150 (x := 0) B (lKA (hk_K hK 40 rfl rfl)) (rI_at 40 0 hI_40_0) dX8_open_75 ?_
  refine z_goto (tgt := 83) B dX8_open_78 (by decide) ?_
  refine pf_X8_406 (x := 0) (σ' := (ap b σ [(40, 5, 0), (40, 4, (-1)), (0, 7, 1)] [] [(40, 3, (some (b + 13)))])) B (lKA (hk_K hK 40 rfl rfl)) wI_ap dX8_open_83 ?_
  refine z_aload B dX8_open_86 0 rfl ?_
  refine gf_X8_179 (x := (some (b + 37))) B (lKA (hk_K hK 40 rfl rfl)) (rR_at 40 1 hR_40_1) dX8_open_88 ?_
  refine z_iconst (v := 0) B dX8_open_91 (by decide) ?_
  refine z_iload_n B dX8_open_92 rfl 3 rfl ?_
  refine z_i2l B dX8_open_93 rfl ?_
  refine z_cVv (As := [.int 0, .long (w1.toInt64)]) (rest := []) B cw_X8_333 cx_2 dX8_open_94 (ci_X1_add_663 l (σ := (ap b σ [(40, 5, 0), (40, 4, (-1)), (0, 7, 1)] [] [(40, 3, (some (b + 13)))])) (b := b) (lyA hK) (w1.toInt64) (rI_at 37 2 hI_37_2) (rR_at 37 0 hR_37_0) (rR_at 37 1 hR_37_1)) (lKA (hk_K hK 37 rfl rfl)) rfl (by decide) rfl (Nat.le_of_ble_eq_true rfl) (by decide) (fun u hu => ?_)
  refine z_eqs (σ' := (ap b σ [(37, 2, 1), (38, 0, 0), (40, 5, 0), (40, 4, (-1)), (0, 7, 1)] [(39, 0, (w1.toInt64))] [(40, 3, (some (b + 13)))])) (hu.trans ap_ap) ?_
  show zx p l e _ s m _ below meth c g 6 0 0 _ _ 97 [(5, .ref (b + 40)), (0, .ref (b + 0)), (1, .ref (b + 13)), (2, .int w1), (3, .int (-1)), (4, .int (-1))] _
  refine z_aload B dX8_open_97 0 rfl ?_
  refine gf_X8_249 (x := (some (b + 41))) B (lKA (hk_K hK 40 rfl rfl)) (rR_at 40 2 hR_40_2) dX8_open_99 ?_
  refine z_aload_n B dX8_open_102 rfl 2 rfl ?_
  refine z_aload B dX8_open_103 0 rfl ?_
  refine gf_X8_179 (x := (some (b + 37))) B (lKA (hk_K hK 40 rfl rfl)) (rR_at 40 1 hR_40_1) dX8_open_105 ?_
  refine z_cVv (As := [.ref (b + 13), .ref (b + 37)]) (rest := []) B cw_X8_286 cx_6 dX8_open_108 (ci_X5_begin_729 l (σ := (ap b σ [(37, 2, 1), (38, 0, 0), (40, 5, 0), (40, 4, (-1)), (0, 7, 1)] [(39, 0, (w1.toInt64))] [(40, 3, (some (b + 13)))])) (b := b) (lyA hK) (w1.toInt64) (rI_at 37 2 rfl) (rJ_at 39 0 rfl) (rR_at 37 1 hR_37_1) (rR_at 41 0 hR_41_0) (rR_at 41 1 hR_41_1)) (lKA (hk_K hK 41 rfl rfl)) rfl (by decide) rfl (Nat.le_of_ble_eq_true rfl) (by decide) (fun u hu => ?_)
  refine z_eqs (σ' := (ap b σ [(41, 19, 0), (41, 18, (-1)), (41, 16, (-1)), (41, 15, 0), (41, 14, 0), (41, 13, 0), (41, 12, 0), (41, 10, (-1)), (41, 9, (-1)), (41, 8, 0), (41, 7, 0), (41, 6, ((w1.toInt64).toInt32)), (41, 5, 0), (41, 4, 1), (44, 1, 0), (42, 1, 0), (37, 2, 1), (38, 0, 0), (40, 5, 0), (40, 4, (-1)), (0, 7, 1)] [(41, 17, 0), (41, 11, 0), (39, 0, (w1.toInt64))] [(41, 3, (some (b + 37))), (41, 2, (some (b + 13))), (40, 3, (some (b + 13)))])) (hu.trans ap_ap) ?_
  show zx p l e _ s m _ below meth c g 6 0 0 _ _ 111 [(5, .ref (b + 40)), (0, .ref (b + 0)), (1, .ref (b + 13)), (2, .int w1), (3, .int (-1)), (4, .int (-1))] _
  refine z_aload B dX8_open_111 0 rfl ?_
  exact z_qret (r := (some (b + 40))) B hr (by decide) (by decide) dX8_open_113 ⟨rfl, rfl⟩
set_option maxRecDepth 100000 in
set_option maxHeartbeats 4000000 in
theorem ci_X4_operation_731 (l : Launch) {g : gx_T} {σ : sx_T} {b : Nat} (hK : lay b σ)   (hI_14_0 : sx_I σ (b + 14) 0 = 0) (hR_13_1 : sx_R σ (b + 13) 1 = (some (b + 14))) : Met l yX4_operation (.code yX4_operation cX4_operation 2 (some .int) :: lw_g) { frames := 0, cells := 0, slots := 0, locals := 0 } (va_Pc [.ref (b + 13), .int 0] (zx_w g σ)) (va_Qi (fun r u => r = 0 ∧ u = σ) (zx_w g) (gx_Q g)) 0 0 (gx_Q g) := by
  refine z_met (by decide) (Nat.le_of_ble_eq_true rfl) (fun p e s m below meth c B hr hin => ?_)
  refine z_eqs (σ' := (ap b σ [] [] [])) rfl ?_
  show zx p l e _ s m _ below meth c g 2 0 0 _ _ 0 [(0, .ref (b + 13)), (1, .int 0)] []
  refine z_iload_n B dX4_operation_0 rfl 1 rfl ?_
  refine z_if_lt (tgt := 22) B dX4_operation_1 (by decide) (fun h => absurd h (by decide)) (fun _ => ?_)
  refine z_iload_n B dX4_operation_4 rfl 1 rfl ?_
  refine z_aload_n B dX4_operation_5 rfl 0 rfl ?_
  refine gf_X4_9 (x := (some (b + 14))) B (lKA (hk_K hK 13 rfl rfl)) (rR_at 13 1 hR_13_1) dX4_operation_6 ?_
  refine z_alen (kd := 13) (ti := 1) (v := 20) B (lKA (hk_K hK 14 rfl rfl)) (by decide) rfl (congrArg Int32.ofNat (lNA (hk_N hK 14 rfl rfl))) dX4_operation_9 ?_
  refine z_icmp_ge (tgt := 22) B dX4_operation_10 (by decide) (fun h => absurd h (by decide)) (fun _ => ?_)
  refine z_aload_n B dX4_operation_13 rfl 0 rfl ?_
  refine gf_X4_9 (x := (some (b + 14))) B (lKA (hk_K hK 13 rfl rfl)) (rR_at 13 1 hR_13_1) dX4_operation_14 ?_
  refine z_iload_n B dX4_operation_17 rfl 1 rfl ?_
  refine z_iald (j := 0) (x := 0) B (lKA (hk_K hK 14 rfl rfl)) (by decide) (in_of (lNA (hk_N hK 14 rfl rfl)) (show ¬ ((0 : Int32) < 0 ∨ 20 ≤ (0 : Int32).toNatClampNeg) by decide)) (rI_at 14 0 hI_14_0) dX4_operation_18 ?_
  refine z_goto (tgt := 23) B dX4_operation_19 (by decide) ?_
  exact z_iret B hr (by decide) (by decide) dX4_operation_23 ⟨rfl, rfl⟩
set_option maxRecDepth 100000 in
set_option maxHeartbeats 4000000 in
theorem ci_X4_first_732 (l : Launch) {g : gx_T} {σ : sx_T} {b : Nat} (hK : lay b σ)   (hI_15_0 : sx_I σ (b + 15) 0 = 0) (hR_13_2 : sx_R σ (b + 13) 2 = (some (b + 15))) : Met l yX4_first (.code yX4_first cX4_first 2 (some .int) :: lw_g) { frames := 0, cells := 0, slots := 0, locals := 0 } (va_Pc [.ref (b + 13), .int 0] (zx_w g σ)) (va_Qi (fun r u => r = 0 ∧ u = σ) (zx_w g) (gx_Q g)) 0 0 (gx_Q g) := by
  refine z_met (by decide) (Nat.le_of_ble_eq_true rfl) (fun p e s m below meth c B hr hin => ?_)
  refine z_eqs (σ' := (ap b σ [] [] [])) rfl ?_
  show zx p l e _ s m _ below meth c g 2 0 0 _ _ 0 [(0, .ref (b + 13)), (1, .int 0)] []
  refine z_iload_n B dX4_first_0 rfl 1 rfl ?_
  refine z_if_lt (tgt := 22) B dX4_first_1 (by decide) (fun h => absurd h (by decide)) (fun _ => ?_)
  refine z_iload_n B dX4_first_4 rfl 1 rfl ?_
  refine z_aload_n B dX4_first_5 rfl 0 rfl ?_
  refine gf_X4_15 (x := (some (b + 15))) B (lKA (hk_K hK 13 rfl rfl)) (rR_at 13 2 hR_13_2) dX4_first_6 ?_
  refine z_alen (kd := 13) (ti := 1) (v := 20) B (lKA (hk_K hK 15 rfl rfl)) (by decide) rfl (congrArg Int32.ofNat (lNA (hk_N hK 15 rfl rfl))) dX4_first_9 ?_
  refine z_icmp_ge (tgt := 22) B dX4_first_10 (by decide) (fun h => absurd h (by decide)) (fun _ => ?_)
  refine z_aload_n B dX4_first_13 rfl 0 rfl ?_
  refine gf_X4_15 (x := (some (b + 15))) B (lKA (hk_K hK 13 rfl rfl)) (rR_at 13 2 hR_13_2) dX4_first_14 ?_
  refine z_iload_n B dX4_first_17 rfl 1 rfl ?_
  refine z_iald (j := 0) (x := 0) B (lKA (hk_K hK 15 rfl rfl)) (by decide) (in_of (lNA (hk_N hK 15 rfl rfl)) (show ¬ ((0 : Int32) < 0 ∨ 20 ≤ (0 : Int32).toNatClampNeg) by decide)) (rI_at 15 0 hI_15_0) dX4_first_18 ?_
  refine z_goto (tgt := 23) B dX4_first_19 (by decide) ?_
  exact z_iret B hr (by decide) (by decide) dX4_first_23 ⟨rfl, rfl⟩
set_option maxRecDepth 100000 in
set_option maxHeartbeats 4000000 in
theorem ci_X4_second_733 (l : Launch) {g : gx_T} {σ : sx_T} {b : Nat} (hK : lay b σ)   (hI_16_0 : sx_I σ (b + 16) 0 = 0) (hR_13_3 : sx_R σ (b + 13) 3 = (some (b + 16))) : Met l yX4_second (.code yX4_second cX4_second 2 (some .int) :: lw_g) { frames := 0, cells := 0, slots := 0, locals := 0 } (va_Pc [.ref (b + 13), .int 0] (zx_w g σ)) (va_Qi (fun r u => r = 0 ∧ u = σ) (zx_w g) (gx_Q g)) 0 0 (gx_Q g) := by
  refine z_met (by decide) (Nat.le_of_ble_eq_true rfl) (fun p e s m below meth c B hr hin => ?_)
  refine z_eqs (σ' := (ap b σ [] [] [])) rfl ?_
  show zx p l e _ s m _ below meth c g 2 0 0 _ _ 0 [(0, .ref (b + 13)), (1, .int 0)] []
  refine z_iload_n B dX4_second_0 rfl 1 rfl ?_
  refine z_if_lt (tgt := 22) B dX4_second_1 (by decide) (fun h => absurd h (by decide)) (fun _ => ?_)
  refine z_iload_n B dX4_second_4 rfl 1 rfl ?_
  refine z_aload_n B dX4_second_5 rfl 0 rfl ?_
  refine gf_X4_18 (x := (some (b + 16))) B (lKA (hk_K hK 13 rfl rfl)) (rR_at 13 3 hR_13_3) dX4_second_6 ?_
  refine z_alen (kd := 13) (ti := 1) (v := 20) B (lKA (hk_K hK 16 rfl rfl)) (by decide) rfl (congrArg Int32.ofNat (lNA (hk_N hK 16 rfl rfl))) dX4_second_9 ?_
  refine z_icmp_ge (tgt := 22) B dX4_second_10 (by decide) (fun h => absurd h (by decide)) (fun _ => ?_)
  refine z_aload_n B dX4_second_13 rfl 0 rfl ?_
  refine gf_X4_18 (x := (some (b + 16))) B (lKA (hk_K hK 13 rfl rfl)) (rR_at 13 3 hR_13_3) dX4_second_14 ?_
  refine z_iload_n B dX4_second_17 rfl 1 rfl ?_
  refine z_iald (j := 0) (x := 0) B (lKA (hk_K hK 16 rfl rfl)) (by decide) (in_of (lNA (hk_N hK 16 rfl rfl)) (show ¬ ((0 : Int32) < 0 ∨ 20 ≤ (0 : Int32).toNatClampNeg) by decide)) (rI_at 16 0 hI_16_0) dX4_second_18 ?_
  refine z_goto (tgt := 23) B dX4_second_19 (by decide) ?_
  exact z_iret B hr (by decide) (by decide) dX4_second_23 ⟨rfl, rfl⟩
set_option maxRecDepth 100000 in
set_option maxHeartbeats 4000000 in
theorem ci_X5_step_734 (l : Launch) {g : gx_T} {σ : sx_T} {b : Nat} (hK : lay b σ) (w1 : Int32)  (hI_14_0 : sx_I σ (b + 14) 0 = 0) (hI_15_0 : sx_I σ (b + 15) 0 = 0) (hI_16_0 : sx_I σ (b + 16) 0 = 0) (hI_41_5 : sx_I σ (b + 41) 5 = 0) (hI_41_6 : sx_I σ (b + 41) 6 = w1) (hI_41_7 : sx_I σ (b + 41) 7 = 0) (hR_13_1 : sx_R σ (b + 13) 1 = (some (b + 14))) (hR_13_2 : sx_R σ (b + 13) 2 = (some (b + 15))) (hR_13_3 : sx_R σ (b + 13) 3 = (some (b + 16))) (hR_41_2 : sx_R σ (b + 41) 2 = (some (b + 13))) : Met l yX5_step (.code yX5_step cX5_step 4 none :: lw_g) { frames := 1, cells := 0, slots := 0, locals := 23 } (va_Pc [.ref (b + 41)] (zx_w g σ)) (va_Qv (fun u => u = (ap b σ [(41, 16, 13), (41, 7, 1), (41, 5, 1)] [(41, 17, ((10 * (w1.toInt64)) + 1))] [])) (zx_w g) (gx_Q g)) 0 0 (gx_Q g) := by
  refine z_met (by decide) (Nat.le_of_ble_eq_true rfl) (fun p e s m below meth c B hr hin => ?_)
  refine z_eqs (σ' := (ap b σ [] [] [])) rfl ?_
  show zx p l e _ s m _ below meth c g 4 0 0 _ _ 0 [(0, .ref (b + 41))] []
  refine z_aload_n B dX5_step_0 rfl 0 rfl ?_
  refine gf_X5_25 (x := (some (b + 13))) B (lKA (hk_K hK 41 rfl rfl)) (rR_at 41 2 hR_41_2) dX5_step_1 ?_
  refine z_aload_n B dX5_step_4 rfl 0 rfl ?_
  refine gf_X5_41 (x := 0) B (lKA (hk_K hK 41 rfl rfl)) (rI_at 41 5 hI_41_5) dX5_step_5 ?_
  refine z_cVi (As := [.int 0]) (rest := []) B cw_X5_155 cx_5 dX5_step_8 (ci_X4_operation_731 l (σ := (ap b σ [] [] [])) (b := b) (lyA hK) (rI_at 14 0 hI_14_0) (rR_at 13 1 hR_13_1)) (lKA (hk_K hK 13 rfl rfl)) rfl (by decide) rfl (Nat.le_of_ble_eq_true rfl) (by decide) (fun r u hu => ?_)
  refine z_eqs (σ' := (ap b σ [] [] [])) hu.2 ?_
  show zx p l e _ s m _ below meth c g 4 0 0 _ _ 11 [(0, .ref (b + 41))] _
  refine z_seti (y := 0) hu.1 ?_
  refine z_istore_n (lv' := [(1, .int 0), (0, .ref (b + 41))]) B dX5_step_11 rfl (by decide) rfl ?_
  refine z_aload_n B dX5_step_12 rfl 1 rfl ?_
  refine gf_X5_25 (x := (some (b + 13))) B (lKA (hk_K hK 41 rfl rfl)) (rR_at 41 2 hR_41_2) dX5_step_13 ?_
  refine z_aload_n B dX5_step_16 rfl 1 rfl ?_
  refine gf_X5_41 (x := 0) B (lKA (hk_K hK 41 rfl rfl)) (rI_at 41 5 hI_41_5) dX5_step_17 ?_
  refine z_cVi (As := [.int 0]) (rest := []) B cw_X5_160 cx_5 dX5_step_20 (ci_X4_first_732 l (σ := (ap b σ [] [] [])) (b := b) (lyA hK) (rI_at 15 0 hI_15_0) (rR_at 13 2 hR_13_2)) (lKA (hk_K hK 13 rfl rfl)) rfl (by decide) rfl (Nat.le_of_ble_eq_true rfl) (by decide) (fun r u hu => ?_)
  refine z_eqs (σ' := (ap b σ [] [] [])) hu.2 ?_
  show zx p l e _ s m _ below meth c g 4 0 0 _ _ 23 [(1, .int 0), (0, .ref (b + 41))] _
  refine z_seti (y := 0) hu.1 ?_
  refine z_istore_n (lv' := [(2, .int 0), (1, .int 0), (0, .ref (b + 41))]) B dX5_step_23 rfl (by decide) rfl ?_
  refine z_aload_n B dX5_step_24 rfl 2 rfl ?_
  refine gf_X5_25 (x := (some (b + 13))) B (lKA (hk_K hK 41 rfl rfl)) (rR_at 41 2 hR_41_2) dX5_step_25 ?_
  refine z_aload_n B dX5_step_28 rfl 2 rfl ?_
  refine gf_X5_41 (x := 0) B (lKA (hk_K hK 41 rfl rfl)) (rI_at 41 5 hI_41_5) dX5_step_29 ?_
  refine z_cVi (As := [.int 0]) (rest := []) B cw_X5_163 cx_5 dX5_step_32 (ci_X4_second_733 l (σ := (ap b σ [] [] [])) (b := b) (lyA hK) (rI_at 16 0 hI_16_0) (rR_at 13 3 hR_13_3)) (lKA (hk_K hK 13 rfl rfl)) rfl (by decide) rfl (Nat.le_of_ble_eq_true rfl) (by decide) (fun r u hu => ?_)
  refine z_eqs (σ' := (ap b σ [] [] [])) hu.2 ?_
  show zx p l e _ s m _ below meth c g 4 0 0 _ _ 35 [(2, .int 0), (1, .int 0), (0, .ref (b + 41))] _
  refine z_seti (y := 0) hu.1 ?_
  refine z_istore_n (lv' := [(3, .int 0), (2, .int 0), (1, .int 0), (0, .ref (b + 41))]) B dX5_step_35 rfl (by decide) rfl ?_
  refine z_aload_n B dX5_step_36 rfl 3 rfl ?_
  refine z_aload_n B dX5_step_37 rfl 3 rfl ?_
  refine gf_X5_41 (x := 0) B (lKA (hk_K hK 41 rfl rfl)) (rI_at 41 5 hI_41_5) dX5_step_38 ?_
  refine z_iconst (v := 1) B dX5_step_41 (by decide) ?_
  refine z_iadd B dX5_step_42 ?_
  refine z_seti (y := 1) (by decide) ?_
  refine z_bipush (v := 20) B dX5_step_43 (by decide) ?_
  refine z_irem B dX5_step_45 (by decide) ?_
  refine z_seti (y := 1) (by decide) ?_
  refine pf_X5_41 (x := 1) (σ' := (ap b σ [(41, 5, 1)] [] [])) B (lKA (hk_K hK 41 rfl rfl)) wI_ap dX5_step_46 ?_
  refine z_aload_n B dX5_step_49 rfl 3 rfl ?_
  refine z_dup B dX5_step_50 rfl ?_
  refine gf_X5_53 (x := 0) B (lKA (hk_K hK 41 rfl rfl)) (rI_at 41 7 hI_41_7) dX5_step_51 ?_
  refine z_iconst (v := 1) B dX5_step_54 (by decide) ?_
  refine z_iadd B dX5_step_55 ?_
  refine z_seti (y := 1) (by decide) ?_
  refine pf_X5_53 (x := 1) (σ' := (ap b σ [(41, 7, 1), (41, 5, 1)] [] [])) B (lKA (hk_K hK 41 rfl rfl)) wI_ap dX5_step_56 ?_
  refine z_aload_n B dX5_step_59 rfl 3 rfl ?_
  refine gf_X5_53 (x := 1) B (lKA (hk_K hK 41 rfl rfl)) (rI_at 41 7 rfl) dX5_step_60 ?_
  refine z_bipush (v := 60) B dX5_step_63 (by decide) ?_
  refine z_icmp_gt (tgt := 77) B dX5_step_65 (by decide) (fun h => absurd h (by decide)) (fun _ => ?_)
  refine z_aload_n B dX5_step_68 rfl 3 rfl ?_
  refine z_iload_n B dX5_step_69 rfl 2 rfl ?_
  refine z_iload_n B dX5_step_70 rfl 1 rfl ?_
  refine z_cVi (As := [.int 0, .int 0]) (rest := []) B cw_X5_166 cx_6 dX5_step_71 (ci_X5_isRefused_674 l (σ := (ap b σ [(41, 7, 1), (41, 5, 1)] [] [])) (b := b) (lyA hK) ) (lKA (hk_K hK 41 rfl rfl)) rfl (by decide) rfl (Nat.le_of_ble_eq_true rfl) (by decide) (fun r u hu => ?_)
  refine z_eqs (σ' := (ap b σ [(41, 7, 1), (41, 5, 1)] [] [])) hu.2 ?_
  show zx p l e _ s m _ below meth c g 4 0 0 _ _ 74 [(3, .int 0), (2, .int 0), (1, .int 0), (0, .ref (b + 41))] _
  refine z_seti (y := 0) hu.1 ?_
  refine z_if_eq (tgt := 82) B dX5_step_74 (by decide) (fun _ => ?_) (fun h => absurd (by decide) h)
  refine z_iload_n B dX5_step_82 rfl 2 rfl ?_
  refine z_tableIn (tgt := 276) B dX5_step_83 (by decide) (by decide) (show _ = some (193 : Int) by decide) (by decide) ?_
  refine z_aload_n B dX5_step_276 rfl 3 rfl ?_
  refine z_bipush (v := 13) B dX5_step_277 (by decide) ?_
  refine z_ldc2 (v := 10) B dX5_step_279 wg_370 ?_
  refine z_aload_n B dX5_step_282 rfl 3 rfl ?_
  refine gf_X5_50 (x := w1) B (lKA (hk_K hK 41 rfl rfl)) (rI_at 41 6 hI_41_6) dX5_step_283 ?_
  refine z_i2l B dX5_step_286 rfl ?_
  refine z_lmul B dX5_step_287 ?_
  refine z_lconst (v := 1) B dX5_step_288 (by decide) ?_
  refine z_ladd B dX5_step_289 ?_
  refine z_cVv (As := [.int 13, .long ((10 * (w1.toInt64)) + 1)]) (rest := []) B cw_X5_114 cx_6 dX5_step_290 (ci_X5_want_675 l (σ := (ap b σ [(41, 7, 1), (41, 5, 1)] [] [])) (b := b) (lyA hK) ((10 * (w1.toInt64)) + 1)) (lKA (hk_K hK 41 rfl rfl)) rfl (by decide) rfl (Nat.le_of_ble_eq_true rfl) (by decide) (fun u hu => ?_)
  refine z_eqs (σ' := (ap b σ [(41, 16, 13), (41, 7, 1), (41, 5, 1)] [(41, 17, ((10 * (w1.toInt64)) + 1))] [])) (hu.trans ap_ap) ?_
  show zx p l e _ s m _ below meth c g 4 0 0 _ _ 293 [(3, .int 0), (2, .int 0), (1, .int 0), (0, .ref (b + 41))] _
  refine z_goto (tgt := 302) B dX5_step_293 (by decide) ?_
  exact z_vret B hr (by decide) (by decide) dX5_step_302 rfl
set_option maxRecDepth 100000 in
set_option maxHeartbeats 4000000 in
theorem ci_X5_advance_735 (l : Launch) {g : gx_T} {σ : sx_T} {b : Nat} (hK : lay b σ) (w1 : Int32)  (hI_14_0 : sx_I σ (b + 14) 0 = 0) (hI_15_0 : sx_I σ (b + 15) 0 = 0) (hI_16_0 : sx_I σ (b + 16) 0 = 0) (hI_41_4 : sx_I σ (b + 41) 4 = 1) (hI_41_5 : sx_I σ (b + 41) 5 = 0) (hI_41_6 : sx_I σ (b + 41) 6 = w1) (hI_41_7 : sx_I σ (b + 41) 7 = 0) (hI_41_8 : sx_I σ (b + 41) 8 = 0) (hI_41_14 : sx_I σ (b + 41) 14 = 0) (hI_41_15 : sx_I σ (b + 41) 15 = 0) (hI_41_16 : sx_I σ (b + 41) 16 = (-1)) (hI_41_19 : sx_I σ (b + 41) 19 = 0) (hR_13_1 : sx_R σ (b + 13) 1 = (some (b + 14))) (hR_13_2 : sx_R σ (b + 13) 2 = (some (b + 15))) (hR_13_3 : sx_R σ (b + 13) 3 = (some (b + 16))) (hR_41_2 : sx_R σ (b + 41) 2 = (some (b + 13))) : Met l yX5_advance (.code yX5_advance cX5_advance 5 none :: lw_g) { frames := 2, cells := 0, slots := 0, locals := 46 } (va_Pc [.ref (b + 41), .int 1] (zx_w g σ)) (va_Qv (fun u => u = (ap b σ [(41, 16, 13), (41, 7, 1), (41, 5, 1)] [(41, 17, ((10 * (w1.toInt64)) + 1))] [])) (zx_w g) (gx_Q g)) 0 0 (gx_Q g) := by
  refine z_met (by decide) (Nat.le_of_ble_eq_true rfl) (fun p e s m below meth c B hr hin => ?_)
  refine z_eqs (σ' := (ap b σ [] [] [])) rfl ?_
  show zx p l e _ s m _ below meth c g 5 0 0 _ _ 0 [(0, .ref (b + 41)), (1, .int 1)] []
  refine z_iconst (v := 1) B dX5_advance_0 (by decide) ?_
  refine z_istore_n (lv' := [(2, .int 1), (0, .ref (b + 41)), (1, .int 1)]) B dX5_advance_1 rfl (by decide) rfl ?_
  refine z_iconst (v := 0) B dX5_advance_2 (by decide) ?_
  refine z_istore_n (lv' := [(3, .int 0), (2, .int 1), (0, .ref (b + 41)), (1, .int 1)]) B dX5_advance_3 rfl (by decide) rfl ?_
  refine z_iload_n B dX5_advance_4 rfl 0 rfl ?_
  refine z_ldc (v := 1000000) B dX5_advance_5 wg_355 ?_
  refine z_icmp_ge (tgt := 122) B dX5_advance_7 (by decide) (fun h => absurd h (by decide)) (fun _ => ?_)
  refine z_iload_n B dX5_advance_10 rfl 1 rfl ?_
  refine z_if_eq (tgt := 122) B dX5_advance_11 (by decide) (fun h => absurd h (by decide)) (fun _ => ?_)
  refine z_aload_n B dX5_advance_14 rfl 2 rfl ?_
  refine gf_X5_38 (x := 1) B (lKA (hk_K hK 41 rfl rfl)) (rI_at 41 4 hI_41_4) dX5_advance_15 ?_
  refine z_iload_n B dX5_advance_18 rfl 3 rfl ?_
  refine z_icmp_ge (tgt := 26) B dX5_advance_19 (by decide) (fun _ => ?_) (fun h => absurd (by decide) h)
  refine z_iconst (v := 0) B dX5_advance_26 (by decide) ?_
  refine z_istore (lv' := [(4, .int 0), (3, .int 0), (2, .int 1), (0, .ref (b + 41)), (1, .int 1)]) B dX5_advance_27 (by decide) rfl ?_
  refine z_aload_n B dX5_advance_29 rfl 3 rfl ?_
  refine gf_X5_91 (x := 0) B (lKA (hk_K hK 41 rfl rfl)) (rI_at 41 19 hI_41_19) dX5_advance_30 ?_
  refine z_if_eq (tgt := 41) B dX5_advance_33 (by decide) (fun _ => ?_) (fun h => absurd (by decide) h)
  refine z_aload_n B dX5_advance_41 rfl 3 rfl ?_
  refine gf_X5_82 (x := (-1)) B (lKA (hk_K hK 41 rfl rfl)) (rI_at 41 16 hI_41_16) dX5_advance_42 ?_
  refine z_iconst (v := (-1)) B dX5_advance_45 (by decide) ?_
  refine z_icmp_eq (tgt := 61) B dX5_advance_46 (by decide) (fun _ => ?_) (fun h => absurd (by decide) h)
  refine z_aload_n B dX5_advance_61 rfl 3 rfl ?_
  refine gf_X5_79 (x := 0) B (lKA (hk_K hK 41 rfl rfl)) (rI_at 41 15 hI_41_15) dX5_advance_62 ?_
  refine z_if_eq (tgt := 79) B dX5_advance_65 (by decide) (fun _ => ?_) (fun h => absurd (by decide) h)
  refine z_aload_n B dX5_advance_79 rfl 3 rfl ?_
  refine gf_X5_56 (x := 0) B (lKA (hk_K hK 41 rfl rfl)) (rI_at 41 8 hI_41_8) dX5_advance_80 ?_
  refine z_if_eq (tgt := 98) B dX5_advance_83 (by decide) (fun _ => ?_) (fun h => absurd (by decide) h)
  refine z_aload_n B dX5_advance_98 rfl 3 rfl ?_
  refine gf_X5_76 (x := 0) B (lKA (hk_K hK 41 rfl rfl)) (rI_at 41 14 hI_41_14) dX5_advance_99 ?_
  refine z_if_eq (tgt := 112) B dX5_advance_102 (by decide) (fun _ => ?_) (fun h => absurd (by decide) h)
  refine z_aload_n B dX5_advance_112 rfl 3 rfl ?_
  refine z_cVv (As := []) (rest := []) B cw_X5_105 cx_6 dX5_advance_113 (ci_X5_step_734 l (σ := (ap b σ [] [] [])) (b := b) (lyA hK) w1 (rI_at 14 0 hI_14_0) (rI_at 15 0 hI_15_0) (rI_at 16 0 hI_16_0) (rI_at 41 5 hI_41_5) (rI_at 41 6 hI_41_6) (rI_at 41 7 hI_41_7) (rR_at 13 1 hR_13_1) (rR_at 13 2 hR_13_2) (rR_at 13 3 hR_13_3) (rR_at 41 2 hR_41_2)) (lKA (hk_K hK 41 rfl rfl)) rfl (by decide) rfl (Nat.le_of_ble_eq_true rfl) (by decide) (fun u hu => ?_)
  refine z_eqs (σ' := (ap b σ [(41, 16, 13), (41, 7, 1), (41, 5, 1)] [(41, 17, ((10 * (w1.toInt64)) + 1))] [])) (hu.trans ap_ap) ?_
  show zx p l e _ s m _ below meth c g 5 0 0 _ _ 116 [(4, .int 0), (3, .int 0), (2, .int 1), (0, .ref (b + 41)), (1, .int 1)] _
  refine z_iinc (v := 1) (lv' := [(3, .int 1), (4, .int 0), (2, .int 1), (0, .ref (b + 41)), (1, .int 1)]) B dX5_advance_116 1 rfl (by decide) (by decide) rfl ?_
  refine z_goto (tgt := 4) B dX5_advance_119 (by decide) ?_
  refine z_iload_n B dX5_advance_4 rfl 0 rfl ?_
  refine z_ldc (v := 1000000) B dX5_advance_5 wg_355 ?_
  refine z_icmp_ge (tgt := 122) B dX5_advance_7 (by decide) (fun h => absurd h (by decide)) (fun _ => ?_)
  refine z_iload_n B dX5_advance_10 rfl 2 rfl ?_
  refine z_if_eq (tgt := 122) B dX5_advance_11 (by decide) (fun h => absurd h (by decide)) (fun _ => ?_)
  refine z_aload_n B dX5_advance_14 rfl 3 rfl ?_
  refine gf_X5_38 (x := 1) B (lKA (hk_K hK 41 rfl rfl)) (rI_at 41 4 hI_41_4) dX5_advance_15 ?_
  refine z_iload_n B dX5_advance_18 rfl 4 rfl ?_
  refine z_icmp_ge (tgt := 26) B dX5_advance_19 (by decide) (fun _ => ?_) (fun h => absurd (by decide) h)
  refine z_iconst (v := 0) B dX5_advance_26 (by decide) ?_
  refine z_istore (lv' := [(4, .int 0), (3, .int 1), (2, .int 1), (0, .ref (b + 41)), (1, .int 1)]) B dX5_advance_27 (by decide) rfl ?_
  refine z_aload_n B dX5_advance_29 rfl 3 rfl ?_
  refine gf_X5_91 (x := 0) B (lKA (hk_K hK 41 rfl rfl)) (rI_at 41 19 hI_41_19) dX5_advance_30 ?_
  refine z_if_eq (tgt := 41) B dX5_advance_33 (by decide) (fun _ => ?_) (fun h => absurd (by decide) h)
  refine z_aload_n B dX5_advance_41 rfl 3 rfl ?_
  refine gf_X5_82 (x := 13) B (lKA (hk_K hK 41 rfl rfl)) (rI_at 41 16 rfl) dX5_advance_42 ?_
  refine z_iconst (v := (-1)) B dX5_advance_45 (by decide) ?_
  refine z_icmp_eq (tgt := 61) B dX5_advance_46 (by decide) (fun h => absurd h (by decide)) (fun _ => ?_)
  refine z_iload B dX5_advance_49 0 rfl ?_
  refine z_istore_n (lv' := [(2, .int 0), (4, .int 0), (3, .int 1), (0, .ref (b + 41)), (1, .int 1)]) B dX5_advance_51 rfl (by decide) rfl ?_
  refine z_aload_n B dX5_advance_52 rfl 3 rfl ?_
  refine z_iload B dX5_advance_53 1 rfl ?_
  refine z_cVv (As := [.int 0]) (rest := []) B cw_X5_95 cx_6 dX5_advance_55 (ci_X5_takeWanted_677 l (σ := (ap b σ [(41, 16, 13), (41, 7, 1), (41, 5, 1)] [(41, 17, ((10 * (w1.toInt64)) + 1))] [])) (b := b) (lyA hK) ) (lKA (hk_K hK 41 rfl rfl)) rfl (by decide) rfl (Nat.le_of_ble_eq_true rfl) (by decide) (fun u hu => ?_)
  refine z_eqs (σ' := (ap b σ [(41, 16, 13), (41, 7, 1), (41, 5, 1)] [(41, 17, ((10 * (w1.toInt64)) + 1))] [])) hu ?_
  show zx p l e _ s m _ below meth c g 5 0 0 _ _ 58 [(2, .int 0), (4, .int 0), (3, .int 1), (0, .ref (b + 41)), (1, .int 1)] _
  refine z_goto (tgt := 116) B dX5_advance_58 (by decide) ?_
  refine z_iinc (v := 2) (lv' := [(3, .int 2), (2, .int 0), (4, .int 0), (0, .ref (b + 41)), (1, .int 1)]) B dX5_advance_116 2 rfl (by decide) (by decide) rfl ?_
  refine z_goto (tgt := 4) B dX5_advance_119 (by decide) ?_
  refine z_iload_n B dX5_advance_4 rfl 0 rfl ?_
  refine z_ldc (v := 1000000) B dX5_advance_5 wg_355 ?_
  refine z_icmp_ge (tgt := 122) B dX5_advance_7 (by decide) (fun h => absurd h (by decide)) (fun _ => ?_)
  refine z_iload_n B dX5_advance_10 rfl 1 rfl ?_
  refine z_if_eq (tgt := 122) B dX5_advance_11 (by decide) (fun _ => ?_) (fun h => absurd (by decide) h)
  exact z_vret B hr (by decide) (by decide) dX5_advance_122 rfl
set_option maxRecDepth 100000 in
set_option maxHeartbeats 4000000 in
theorem ci_X8_goOn_736 (l : Launch) {g : gx_T} {σ : sx_T} {b : Nat} (hK : lay b σ) (w1 : Int32) (q1_w1 : (-999 : Int) ≤ w1.toInt) (q2_w1 : w1.toInt ≤ (-1 : Int)) (hI_5_1 : sx_I σ (b + 5) 1 = 0) (hI_5_2 : sx_I σ (b + 5) 2 = 0) (hI_7_1 : sx_I σ (b + 7) 1 = 0) (hI_7_2 : sx_I σ (b + 7) 2 = 0) (hI_14_0 : sx_I σ (b + 14) 0 = 0) (hI_15_0 : sx_I σ (b + 15) 0 = 0) (hI_16_0 : sx_I σ (b + 16) 0 = 0) (hI_37_2 : sx_I σ (b + 37) 2 = 1) (hI_40_4 : sx_I σ (b + 40) 4 = (-1)) (hI_40_8 : sx_I σ (b + 40) 8 = 0) (hI_41_4 : sx_I σ (b + 41) 4 = 1) (hI_41_5 : sx_I σ (b + 41) 5 = 0) (hI_41_6 : sx_I σ (b + 41) 6 = w1) (hI_41_7 : sx_I σ (b + 41) 7 = 0) (hI_41_8 : sx_I σ (b + 41) 8 = 0) (hI_41_14 : sx_I σ (b + 41) 14 = 0) (hI_41_15 : sx_I σ (b + 41) 15 = 0) (hI_41_16 : sx_I σ (b + 41) 16 = (-1)) (hI_41_18 : sx_I σ (b + 41) 18 = (-1)) (hI_41_19 : sx_I σ (b + 41) 19 = 0) (hR_0_4 : sx_R σ (b + 0) 4 = (some (b + 5))) (hR_0_5 : sx_R σ (b + 0) 5 = (some (b + 7))) (hR_5_0 : sx_R σ (b + 5) 0 = (some (b + 6))) (hR_13_1 : sx_R σ (b + 13) 1 = (some (b + 14))) (hR_13_2 : sx_R σ (b + 13) 2 = (some (b + 15))) (hR_13_3 : sx_R σ (b + 13) 3 = (some (b + 16))) (hR_37_0 : sx_R σ (b + 37) 0 = (some (b + 38))) (hR_37_1 : sx_R σ (b + 37) 1 = (some (b + 39))) (hR_40_1 : sx_R σ (b + 40) 1 = (some (b + 37))) (hR_40_2 : sx_R σ (b + 40) 2 = (some (b + 41))) (hR_40_7 : sx_R σ (b + 40) 7 = none) (hR_41_2 : sx_R σ (b + 41) 2 = (some (b + 13))) (hR_41_3 : sx_R σ (b + 41) 3 = (some (b + 37))) : Met l yX8_goOn (.code yX8_goOn cX8_goOn 5 none :: lw_g) { frames := 3, cells := 0, slots := 0, locals := 72 } (va_Pc [.ref (b + 0), .ref (b + 40)] (zx_w g σ)) (va_Qv (fun u => u = (ap b σ [(7, 2, 0), (7, 1, 0), (40, 8, 2), (5, 2, 0), (41, 19, 0), (41, 19, 0), (41, 15, 1), (41, 4, 2), (41, 16, (-1)), (37, 2, 2), (38, 1, 13), (41, 16, 13), (41, 7, 1), (41, 5, 1), (5, 2, 1)] [(39, 1, ((10 * (w1.toInt64)) + 1)), (41, 17, ((10 * (w1.toInt64)) + 1))] [(6, 0, (some (b + 40)))])) (zx_w g) (gx_Q g)) 0 0 (gx_Q g) := by
  refine z_met (by decide) (Nat.le_of_ble_eq_true rfl) (fun p e s m below meth c B hr hin => ?_)
  refine z_eqs (σ' := (ap b σ [] [] [])) rfl ?_
  show zx p l e _ s m _ below meth c g 5 0 0 _ _ 0 [(0, .ref (b + 0)), (1, .ref (b + 40))] []
  refine z_aload_n B dX8_goOn_0 rfl 0 rfl ?_
  refine gf_X8_35 (x := (some (b + 5))) B (lKA (hk_K hK 0 rfl rfl)) (rR_at 0 4 hR_0_4) dX8_goOn_1 ?_
  refine z_aload_n B dX8_goOn_4 rfl 1 rfl ?_
  refine z_cVv (As := [.ref (b + 40)]) (rest := []) B cw_X8_337 cx_3 dX8_goOn_5 (ci_X2_addLast_667 l (σ := (ap b σ [] [] [])) (b := b) (lyA hK) (rI_at 5 2 hI_5_2) (rR_at 5 0 hR_5_0)) (lKA (hk_K hK 5 rfl rfl)) rfl (by decide) rfl (Nat.le_of_ble_eq_true rfl) (by decide) (fun u hu => ?_)
  refine z_eqs (σ' := (ap b σ [(5, 2, 1)] [] [(6, 0, (some (b + 40)))])) (hu.trans ap_ap) ?_
  show zx p l e _ s m _ below meth c g 5 0 0 _ _ 8 [(0, .ref (b + 0)), (1, .ref (b + 40))] _
  refine z_iconst (v := 0) B dX8_goOn_8 (by decide) ?_
  refine z_istore_n (lv' := [(2, .int 0), (0, .ref (b + 0)), (1, .ref (b + 40))]) B dX8_goOn_9 rfl (by decide) rfl ?_
  refine z_iload_n B dX8_goOn_10 rfl 0 rfl ?_
  refine z_ldcw (v := 1000000) B dX8_goOn_11 wg_515 ?_
  refine z_icmp_ge (tgt := 126) B dX8_goOn_14 (by decide) (fun h => absurd h (by decide)) (fun _ => ?_)
  refine z_aload_n B dX8_goOn_17 rfl 1 rfl ?_
  refine gf_X8_35 (x := (some (b + 5))) B (lKA (hk_K hK 0 rfl rfl)) (rR_at 0 4 hR_0_4) dX8_goOn_18 ?_
  refine z_cVi (As := []) (rest := []) B cw_X8_341 cx_3 dX8_goOn_21 (ci_X2_isEmpty_668 l (σ := (ap b σ [(5, 2, 1)] [] [(6, 0, (some (b + 40)))])) (b := b) (lyA hK) (rI_at 5 1 hI_5_1) (rI_at 5 2 rfl)) (lKA (hk_K hK 5 rfl rfl)) rfl (by decide) rfl (Nat.le_of_ble_eq_true rfl) (by decide) (fun r u hu => ?_)
  refine z_eqs (σ' := (ap b σ [(5, 2, 1)] [] [(6, 0, (some (b + 40)))])) hu.2 ?_
  show zx p l e _ s m _ below meth c g 5 0 0 _ _ 24 [(2, .int 0), (0, .ref (b + 0)), (1, .ref (b + 40))] _
  refine z_seti (y := 0) hu.1 ?_
  refine z_if_eq (tgt := 41) B dX8_goOn_24 (by decide) (fun _ => ?_) (fun h => absurd (by decide) h)
  refine z_aload_n B dX8_goOn_41 rfl 1 rfl ?_
  refine gf_X8_35 (x := (some (b + 5))) B (lKA (hk_K hK 0 rfl rfl)) (rR_at 0 4 hR_0_4) dX8_goOn_42 ?_
  refine z_cVq (As := []) (rest := []) B cw_X8_348 cx_3 dX8_goOn_45 (ci_X2_last_669 l (σ := (ap b σ [(5, 2, 1)] [] [(6, 0, (some (b + 40)))])) (b := b) (lyA hK) (rI_at 5 1 hI_5_1) (rI_at 5 2 rfl) (rR_at 5 0 hR_5_0) (rR_at 6 0 rfl)) (lKA (hk_K hK 5 rfl rfl)) rfl (by decide) rfl (Nat.le_of_ble_eq_true rfl) (by decide) (fun r u hu => ?_)
  refine z_eqs (σ' := (ap b σ [(5, 2, 1)] [] [(6, 0, (some (b + 40)))])) hu.2 ?_
  show zx p l e _ s m _ below meth c g 5 0 0 _ _ 48 [(2, .int 0), (0, .ref (b + 0)), (1, .ref (b + 40))] _
  refine z_setr (y := (some (b + 40))) hu.1 ?_
  refine z_astore_n (lv' := [(3, .ref (b + 40)), (2, .int 0), (0, .ref (b + 0)), (1, .ref (b + 40))]) B dX8_goOn_48 rfl (by decide) rfl ?_
  refine z_aload_n B dX8_goOn_49 rfl 0 rfl ?_
  refine z_ifnonnull (r := (some (b + 40))) (tgt := 54) B dX8_goOn_50 (by decide) (fun _ _ => ?_) (fun h => nomatch h)
  refine z_aload_n B dX8_goOn_54 rfl 0 rfl ?_
  refine gf_X8_249 (x := (some (b + 41))) B (lKA (hk_K hK 40 rfl rfl)) (rR_at 40 2 hR_40_2) dX8_goOn_55 ?_
  refine z_aload_n B dX8_goOn_58 rfl 0 rfl ?_
  refine gf_X8_179 (x := (some (b + 37))) B (lKA (hk_K hK 40 rfl rfl)) (rR_at 40 1 hR_40_1) dX8_goOn_59 ?_
  refine z_cVi (As := []) (rest := [.ref (b + 41)]) B cw_X8_183 cx_2 dX8_goOn_62 (ci_X1_size_670 l (σ := (ap b σ [(5, 2, 1)] [] [(6, 0, (some (b + 40)))])) (b := b) (lyA hK) (rI_at 37 2 hI_37_2)) (lKA (hk_K hK 37 rfl rfl)) rfl (by decide) rfl (Nat.le_of_ble_eq_true rfl) (by decide) (fun r u hu => ?_)
  refine z_eqs (σ' := (ap b σ [(5, 2, 1)] [] [(6, 0, (some (b + 40)))])) hu.2 ?_
  show zx p l e _ s m _ below meth c g 5 0 0 _ _ 65 [(3, .ref (b + 40)), (2, .int 0), (0, .ref (b + 0)), (1, .ref (b + 40))] _
  refine z_seti (y := 1) hu.1 ?_
  refine z_cVv (As := [.int 1]) (rest := []) B cw_X8_289 cx_6 dX8_goOn_65 (ci_X5_advance_735 l (σ := (ap b σ [(5, 2, 1)] [] [(6, 0, (some (b + 40)))])) (b := b) (lyA hK) w1 (rI_at 14 0 hI_14_0) (rI_at 15 0 hI_15_0) (rI_at 16 0 hI_16_0) (rI_at 41 4 hI_41_4) (rI_at 41 5 hI_41_5) (rI_at 41 6 hI_41_6) (rI_at 41 7 hI_41_7) (rI_at 41 8 hI_41_8) (rI_at 41 14 hI_41_14) (rI_at 41 15 hI_41_15) (rI_at 41 16 hI_41_16) (rI_at 41 19 hI_41_19) (rR_at 13 1 hR_13_1) (rR_at 13 2 hR_13_2) (rR_at 13 3 hR_13_3) (rR_at 41 2 hR_41_2)) (lKA (hk_K hK 41 rfl rfl)) rfl (by decide) rfl (Nat.le_of_ble_eq_true rfl) (by decide) (fun u hu => ?_)
  refine z_eqs (σ' := (ap b σ [(41, 16, 13), (41, 7, 1), (41, 5, 1), (5, 2, 1)] [(41, 17, ((10 * (w1.toInt64)) + 1))] [(6, 0, (some (b + 40)))])) (hu.trans ap_ap) ?_
  show zx p l e _ s m _ below meth c g 5 0 0 _ _ 68 [(3, .ref (b + 40)), (2, .int 0), (0, .ref (b + 0)), (1, .ref (b + 40))] _
  refine z_aload_n B dX8_goOn_68 rfl 0 rfl ?_
  refine z_cVv (As := []) (rest := []) B cw_X8_351 cx_1 dX8_goOn_69 (ci_X0_letGo_679 l (σ := (ap b σ [(41, 16, 13), (41, 7, 1), (41, 5, 1), (5, 2, 1)] [(41, 17, ((10 * (w1.toInt64)) + 1))] [(6, 0, (some (b + 40)))])) (b := b) (lyA hK) (rR_at 40 7 hR_40_7)) (lKA (hk_K hK 40 rfl rfl)) rfl (by decide) rfl (Nat.le_of_ble_eq_true rfl) (by decide) (fun u hu => ?_)
  refine z_eqs (σ' := (ap b σ [(41, 16, 13), (41, 7, 1), (41, 5, 1), (5, 2, 1)] [(41, 17, ((10 * (w1.toInt64)) + 1))] [(6, 0, (some (b + 40)))])) hu ?_
  show zx p l e _ s m _ below meth c g 5 0 0 _ _ 72 [(3, .ref (b + 40)), (2, .int 0), (0, .ref (b + 0)), (1, .ref (b + 40))] _
  refine z_aload_n B dX8_goOn_72 rfl 0 rfl ?_
  refine gf_X8_249 (x := (some (b + 41))) B (lKA (hk_K hK 40 rfl rfl)) (rR_at 40 2 hR_40_2) dX8_goOn_73 ?_
  refine z_cVi (As := []) (rest := []) B cw_X8_354 cx_6 dX8_goOn_76 (ci_X5_wantsEvent_680 l (σ := (ap b σ [(41, 16, 13), (41, 7, 1), (41, 5, 1), (5, 2, 1)] [(41, 17, ((10 * (w1.toInt64)) + 1))] [(6, 0, (some (b + 40)))])) (b := b) (lyA hK) (rI_at 41 16 rfl) (rI_at 41 19 hI_41_19)) (lKA (hk_K hK 41 rfl rfl)) rfl (by decide) rfl (Nat.le_of_ble_eq_true rfl) (by decide) (fun r u hu => ?_)
  refine z_eqs (σ' := (ap b σ [(41, 16, 13), (41, 7, 1), (41, 5, 1), (5, 2, 1)] [(41, 17, ((10 * (w1.toInt64)) + 1))] [(6, 0, (some (b + 40)))])) hu.2 ?_
  show zx p l e _ s m _ below meth c g 5 0 0 _ _ 79 [(3, .ref (b + 40)), (2, .int 0), (0, .ref (b + 0)), (1, .ref (b + 40))] _
  refine z_seti (y := 1) hu.1 ?_
  refine z_if_eq (tgt := 115) B dX8_goOn_79 (by decide) (fun h => absurd h (by decide)) (fun _ => ?_)
  refine z_aload_n B dX8_goOn_82 rfl 2 rfl ?_
  refine z_aload_n B dX8_goOn_83 rfl 0 rfl ?_
  refine z_cVq (As := [.ref (b + 40)]) (rest := []) B cw_X8_357 cx_9 dX8_goOn_84 (ci_X8_make_684 l (σ := (ap b σ [(41, 16, 13), (41, 7, 1), (41, 5, 1), (5, 2, 1)] [(41, 17, ((10 * (w1.toInt64)) + 1))] [(6, 0, (some (b + 40)))])) (b := b) (lyA hK) ((10 * (w1.toInt64)) + 1) (rI_at 37 2 hI_37_2) (rI_at 40 4 hI_40_4) (rI_at 41 16 rfl) (rJ_at 41 17 rfl) (rR_at 37 0 hR_37_0) (rR_at 37 1 hR_37_1) (rR_at 40 1 hR_40_1) (rR_at 40 2 hR_40_2)) (lKA (hk_K hK 0 rfl rfl)) rfl (by decide) rfl (Nat.le_of_ble_eq_true rfl) (by decide) (fun r u hu => ?_)
  refine z_eqs (σ' := (ap b σ [(37, 2, 2), (38, 1, 13), (41, 16, 13), (41, 7, 1), (41, 5, 1), (5, 2, 1)] [(39, 1, ((10 * (w1.toInt64)) + 1)), (41, 17, ((10 * (w1.toInt64)) + 1))] [(6, 0, (some (b + 40)))])) (hu.2.trans ap_ap) ?_
  show zx p l e _ s m _ below meth c g 5 0 0 _ _ 87 [(3, .ref (b + 40)), (2, .int 0), (0, .ref (b + 0)), (1, .ref (b + 40))] _
  refine z_setr (y := none) hu.1 ?_
  refine z_qstore (r := none) (lv' := [(4, .null), (3, .ref (b + 40)), (2, .int 0), (0, .ref (b + 0)), (1, .ref (b + 40))]) B dX8_goOn_87 (by decide) rfl ?_
  refine z_aload_n B dX8_goOn_89 rfl 1 rfl ?_
  refine gf_X8_249 (x := (some (b + 41))) B (lKA (hk_K hK 40 rfl rfl)) (rR_at 40 2 hR_40_2) dX8_goOn_90 ?_
  refine z_aload_n B dX8_goOn_93 rfl 1 rfl ?_
  refine gf_X8_179 (x := (some (b + 37))) B (lKA (hk_K hK 40 rfl rfl)) (rR_at 40 1 hR_40_1) dX8_goOn_94 ?_
  refine z_cVi (As := []) (rest := [.ref (b + 41)]) B cw_X8_183 cx_2 dX8_goOn_97 (ci_X1_size_685 l (σ := (ap b σ [(37, 2, 2), (38, 1, 13), (41, 16, 13), (41, 7, 1), (41, 5, 1), (5, 2, 1)] [(39, 1, ((10 * (w1.toInt64)) + 1)), (41, 17, ((10 * (w1.toInt64)) + 1))] [(6, 0, (some (b + 40)))])) (b := b) (lyA hK) (rI_at 37 2 rfl)) (lKA (hk_K hK 37 rfl rfl)) rfl (by decide) rfl (Nat.le_of_ble_eq_true rfl) (by decide) (fun r u hu => ?_)
  refine z_eqs (σ' := (ap b σ [(37, 2, 2), (38, 1, 13), (41, 16, 13), (41, 7, 1), (41, 5, 1), (5, 2, 1)] [(39, 1, ((10 * (w1.toInt64)) + 1)), (41, 17, ((10 * (w1.toInt64)) + 1))] [(6, 0, (some (b + 40)))])) hu.2 ?_
  show zx p l e _ s m _ below meth c g 5 0 0 _ _ 100 [(4, .null), (3, .ref (b + 40)), (2, .int 0), (0, .ref (b + 0)), (1, .ref (b + 40))] _
  refine z_seti (y := 2) hu.1 ?_
  refine z_cVv (As := [.int 2]) (rest := []) B cw_X8_289 cx_6 dX8_goOn_100 (ci_X5_advance_690 l (σ := (ap b σ [(37, 2, 2), (38, 1, 13), (41, 16, 13), (41, 7, 1), (41, 5, 1), (5, 2, 1)] [(39, 1, ((10 * (w1.toInt64)) + 1)), (41, 17, ((10 * (w1.toInt64)) + 1))] [(6, 0, (some (b + 40)))])) (b := b) (lyA hK) ((10 * (w1.toInt64)) + 1) (iv_ladd (c := 1) (n := 1) rfl (iv_lmul (c := 10) (n := 10) rfl (by decide) (iv_i2l q1_w1 q2_w1).1 (iv_i2l q1_w1 q2_w1).2 (by decide) (by decide)).1 (iv_lmul (c := 10) (n := 10) rfl (by decide) (iv_i2l q1_w1 q2_w1).1 (iv_i2l q1_w1 q2_w1).2 (by decide) (by decide)).2 (by decide) (by decide)).1 (iv_ladd (c := 1) (n := 1) rfl (iv_lmul (c := 10) (n := 10) rfl (by decide) (iv_i2l q1_w1 q2_w1).1 (iv_i2l q1_w1 q2_w1).2 (by decide) (by decide)).1 (iv_lmul (c := 10) (n := 10) rfl (by decide) (iv_i2l q1_w1 q2_w1).1 (iv_i2l q1_w1 q2_w1).2 (by decide) (by decide)).2 (by decide) (by decide)).2 (rI_at 37 2 rfl) (rI_at 38 1 rfl) (rI_at 41 4 hI_41_4) (rI_at 41 16 rfl) (rI_at 41 19 hI_41_19) (rJ_at 39 1 rfl) (rJ_at 41 17 rfl) (rR_at 37 0 hR_37_0) (rR_at 37 1 hR_37_1) (rR_at 41 3 hR_41_3)) (lKA (hk_K hK 41 rfl rfl)) rfl (by decide) rfl (Nat.le_of_ble_eq_true rfl) (by decide) (fun u hu => ?_)
  refine z_eqs (σ' := (ap b σ [(41, 19, 0), (41, 15, 1), (41, 4, 2), (41, 16, (-1)), (37, 2, 2), (38, 1, 13), (41, 16, 13), (41, 7, 1), (41, 5, 1), (5, 2, 1)] [(39, 1, ((10 * (w1.toInt64)) + 1)), (41, 17, ((10 * (w1.toInt64)) + 1))] [(6, 0, (some (b + 40)))])) (hu.trans ap_ap) ?_
  show zx p l e _ s m _ below meth c g 5 0 0 _ _ 103 [(4, .null), (3, .ref (b + 40)), (2, .int 0), (0, .ref (b + 0)), (1, .ref (b + 40))] _
  refine z_aload_n B dX8_goOn_103 rfl 3 rfl ?_
  refine gf_X8_35 (x := (some (b + 5))) B (lKA (hk_K hK 0 rfl rfl)) (rR_at 0 4 hR_0_4) dX8_goOn_104 ?_
  refine z_qload (r := none) B dX8_goOn_107 0 rfl ?_
  refine z_cVv (As := [.null]) (rest := []) B cw_X8_337 cx_3 dX8_goOn_109 (ci_X2_addLast_691 l (σ := (ap b σ [(41, 19, 0), (41, 15, 1), (41, 4, 2), (41, 16, (-1)), (37, 2, 2), (38, 1, 13), (41, 16, 13), (41, 7, 1), (41, 5, 1), (5, 2, 1)] [(39, 1, ((10 * (w1.toInt64)) + 1)), (41, 17, ((10 * (w1.toInt64)) + 1))] [(6, 0, (some (b + 40)))])) (b := b) (lyA hK) ) (lKA (hk_K hK 5 rfl rfl)) rfl (by decide) rfl (Nat.le_of_ble_eq_true rfl) (by decide) (fun u hu => ?_)
  refine z_eqs (σ' := (ap b σ [(41, 19, 0), (41, 15, 1), (41, 4, 2), (41, 16, (-1)), (37, 2, 2), (38, 1, 13), (41, 16, 13), (41, 7, 1), (41, 5, 1), (5, 2, 1)] [(39, 1, ((10 * (w1.toInt64)) + 1)), (41, 17, ((10 * (w1.toInt64)) + 1))] [(6, 0, (some (b + 40)))])) hu ?_
  show zx p l e _ s m _ below meth c g 5 0 0 _ _ 112 [(4, .null), (3, .ref (b + 40)), (2, .int 0), (0, .ref (b + 0)), (1, .ref (b + 40))] _
  refine z_goto (tgt := 120) B dX8_goOn_112 (by decide) ?_
  refine z_iinc (v := 1) (lv' := [(2, .int 1), (4, .null), (3, .ref (b + 40)), (0, .ref (b + 0)), (1, .ref (b + 40))]) B dX8_goOn_120 2 rfl (by decide) (by decide) rfl ?_
  refine z_goto (tgt := 10) B dX8_goOn_123 (by decide) ?_
  refine z_iload_n B dX8_goOn_10 rfl 0 rfl ?_
  refine z_ldcw (v := 1000000) B dX8_goOn_11 wg_515 ?_
  refine z_icmp_ge (tgt := 126) B dX8_goOn_14 (by decide) (fun h => absurd h (by decide)) (fun _ => ?_)
  refine z_aload_n B dX8_goOn_17 rfl 3 rfl ?_
  refine gf_X8_35 (x := (some (b + 5))) B (lKA (hk_K hK 0 rfl rfl)) (rR_at 0 4 hR_0_4) dX8_goOn_18 ?_
  refine z_cVi (As := []) (rest := []) B cw_X8_341 cx_3 dX8_goOn_21 (ci_X2_isEmpty_668 l (σ := (ap b σ [(41, 19, 0), (41, 15, 1), (41, 4, 2), (41, 16, (-1)), (37, 2, 2), (38, 1, 13), (41, 16, 13), (41, 7, 1), (41, 5, 1), (5, 2, 1)] [(39, 1, ((10 * (w1.toInt64)) + 1)), (41, 17, ((10 * (w1.toInt64)) + 1))] [(6, 0, (some (b + 40)))])) (b := b) (lyA hK) (rI_at 5 1 hI_5_1) (rI_at 5 2 rfl)) (lKA (hk_K hK 5 rfl rfl)) rfl (by decide) rfl (Nat.le_of_ble_eq_true rfl) (by decide) (fun r u hu => ?_)
  refine z_eqs (σ' := (ap b σ [(41, 19, 0), (41, 15, 1), (41, 4, 2), (41, 16, (-1)), (37, 2, 2), (38, 1, 13), (41, 16, 13), (41, 7, 1), (41, 5, 1), (5, 2, 1)] [(39, 1, ((10 * (w1.toInt64)) + 1)), (41, 17, ((10 * (w1.toInt64)) + 1))] [(6, 0, (some (b + 40)))])) hu.2 ?_
  show zx p l e _ s m _ below meth c g 5 0 0 _ _ 24 [(2, .int 1), (4, .null), (3, .ref (b + 40)), (0, .ref (b + 0)), (1, .ref (b + 40))] _
  refine z_seti (y := 0) hu.1 ?_
  refine z_if_eq (tgt := 41) B dX8_goOn_24 (by decide) (fun _ => ?_) (fun h => absurd (by decide) h)
  refine z_aload_n B dX8_goOn_41 rfl 3 rfl ?_
  refine gf_X8_35 (x := (some (b + 5))) B (lKA (hk_K hK 0 rfl rfl)) (rR_at 0 4 hR_0_4) dX8_goOn_42 ?_
  refine z_cVq (As := []) (rest := []) B cw_X8_348 cx_3 dX8_goOn_45 (ci_X2_last_669 l (σ := (ap b σ [(41, 19, 0), (41, 15, 1), (41, 4, 2), (41, 16, (-1)), (37, 2, 2), (38, 1, 13), (41, 16, 13), (41, 7, 1), (41, 5, 1), (5, 2, 1)] [(39, 1, ((10 * (w1.toInt64)) + 1)), (41, 17, ((10 * (w1.toInt64)) + 1))] [(6, 0, (some (b + 40)))])) (b := b) (lyA hK) (rI_at 5 1 hI_5_1) (rI_at 5 2 rfl) (rR_at 5 0 hR_5_0) (rR_at 6 0 rfl)) (lKA (hk_K hK 5 rfl rfl)) rfl (by decide) rfl (Nat.le_of_ble_eq_true rfl) (by decide) (fun r u hu => ?_)
  refine z_eqs (σ' := (ap b σ [(41, 19, 0), (41, 15, 1), (41, 4, 2), (41, 16, (-1)), (37, 2, 2), (38, 1, 13), (41, 16, 13), (41, 7, 1), (41, 5, 1), (5, 2, 1)] [(39, 1, ((10 * (w1.toInt64)) + 1)), (41, 17, ((10 * (w1.toInt64)) + 1))] [(6, 0, (some (b + 40)))])) hu.2 ?_
  show zx p l e _ s m _ below meth c g 5 0 0 _ _ 48 [(2, .int 1), (4, .null), (3, .ref (b + 40)), (0, .ref (b + 0)), (1, .ref (b + 40))] _
  refine z_setr (y := (some (b + 40))) hu.1 ?_
  refine z_astore_n (lv' := [(3, .ref (b + 40)), (2, .int 1), (4, .null), (0, .ref (b + 0)), (1, .ref (b + 40))]) B dX8_goOn_48 rfl (by decide) rfl ?_
  refine z_aload_n B dX8_goOn_49 rfl 0 rfl ?_
  refine z_ifnonnull (r := (some (b + 40))) (tgt := 54) B dX8_goOn_50 (by decide) (fun _ _ => ?_) (fun h => nomatch h)
  refine z_aload_n B dX8_goOn_54 rfl 0 rfl ?_
  refine gf_X8_249 (x := (some (b + 41))) B (lKA (hk_K hK 40 rfl rfl)) (rR_at 40 2 hR_40_2) dX8_goOn_55 ?_
  refine z_aload_n B dX8_goOn_58 rfl 0 rfl ?_
  refine gf_X8_179 (x := (some (b + 37))) B (lKA (hk_K hK 40 rfl rfl)) (rR_at 40 1 hR_40_1) dX8_goOn_59 ?_
  refine z_cVi (As := []) (rest := [.ref (b + 41)]) B cw_X8_183 cx_2 dX8_goOn_62 (ci_X1_size_685 l (σ := (ap b σ [(41, 19, 0), (41, 15, 1), (41, 4, 2), (41, 16, (-1)), (37, 2, 2), (38, 1, 13), (41, 16, 13), (41, 7, 1), (41, 5, 1), (5, 2, 1)] [(39, 1, ((10 * (w1.toInt64)) + 1)), (41, 17, ((10 * (w1.toInt64)) + 1))] [(6, 0, (some (b + 40)))])) (b := b) (lyA hK) (rI_at 37 2 rfl)) (lKA (hk_K hK 37 rfl rfl)) rfl (by decide) rfl (Nat.le_of_ble_eq_true rfl) (by decide) (fun r u hu => ?_)
  refine z_eqs (σ' := (ap b σ [(41, 19, 0), (41, 15, 1), (41, 4, 2), (41, 16, (-1)), (37, 2, 2), (38, 1, 13), (41, 16, 13), (41, 7, 1), (41, 5, 1), (5, 2, 1)] [(39, 1, ((10 * (w1.toInt64)) + 1)), (41, 17, ((10 * (w1.toInt64)) + 1))] [(6, 0, (some (b + 40)))])) hu.2 ?_
  show zx p l e _ s m _ below meth c g 5 0 0 _ _ 65 [(3, .ref (b + 40)), (2, .int 1), (4, .null), (0, .ref (b + 0)), (1, .ref (b + 40))] _
  refine z_seti (y := 2) hu.1 ?_
  refine z_cVv (As := [.int 2]) (rest := []) B cw_X8_289 cx_6 dX8_goOn_65 (ci_X5_advance_692 l (σ := (ap b σ [(41, 19, 0), (41, 15, 1), (41, 4, 2), (41, 16, (-1)), (37, 2, 2), (38, 1, 13), (41, 16, 13), (41, 7, 1), (41, 5, 1), (5, 2, 1)] [(39, 1, ((10 * (w1.toInt64)) + 1)), (41, 17, ((10 * (w1.toInt64)) + 1))] [(6, 0, (some (b + 40)))])) (b := b) (lyA hK) (rI_at 41 4 rfl) (rI_at 41 15 rfl) (rI_at 41 16 rfl) (rI_at 41 19 rfl)) (lKA (hk_K hK 41 rfl rfl)) rfl (by decide) rfl (Nat.le_of_ble_eq_true rfl) (by decide) (fun u hu => ?_)
  refine z_eqs (σ' := (ap b σ [(41, 19, 0), (41, 19, 0), (41, 15, 1), (41, 4, 2), (41, 16, (-1)), (37, 2, 2), (38, 1, 13), (41, 16, 13), (41, 7, 1), (41, 5, 1), (5, 2, 1)] [(39, 1, ((10 * (w1.toInt64)) + 1)), (41, 17, ((10 * (w1.toInt64)) + 1))] [(6, 0, (some (b + 40)))])) (hu.trans ap_ap) ?_
  show zx p l e _ s m _ below meth c g 5 0 0 _ _ 68 [(3, .ref (b + 40)), (2, .int 1), (4, .null), (0, .ref (b + 0)), (1, .ref (b + 40))] _
  refine z_aload_n B dX8_goOn_68 rfl 0 rfl ?_
  refine z_cVv (As := []) (rest := []) B cw_X8_351 cx_1 dX8_goOn_69 (ci_X0_letGo_679 l (σ := (ap b σ [(41, 19, 0), (41, 19, 0), (41, 15, 1), (41, 4, 2), (41, 16, (-1)), (37, 2, 2), (38, 1, 13), (41, 16, 13), (41, 7, 1), (41, 5, 1), (5, 2, 1)] [(39, 1, ((10 * (w1.toInt64)) + 1)), (41, 17, ((10 * (w1.toInt64)) + 1))] [(6, 0, (some (b + 40)))])) (b := b) (lyA hK) (rR_at 40 7 hR_40_7)) (lKA (hk_K hK 40 rfl rfl)) rfl (by decide) rfl (Nat.le_of_ble_eq_true rfl) (by decide) (fun u hu => ?_)
  refine z_eqs (σ' := (ap b σ [(41, 19, 0), (41, 19, 0), (41, 15, 1), (41, 4, 2), (41, 16, (-1)), (37, 2, 2), (38, 1, 13), (41, 16, 13), (41, 7, 1), (41, 5, 1), (5, 2, 1)] [(39, 1, ((10 * (w1.toInt64)) + 1)), (41, 17, ((10 * (w1.toInt64)) + 1))] [(6, 0, (some (b + 40)))])) hu ?_
  show zx p l e _ s m _ below meth c g 5 0 0 _ _ 72 [(3, .ref (b + 40)), (2, .int 1), (4, .null), (0, .ref (b + 0)), (1, .ref (b + 40))] _
  refine z_aload_n B dX8_goOn_72 rfl 0 rfl ?_
  refine gf_X8_249 (x := (some (b + 41))) B (lKA (hk_K hK 40 rfl rfl)) (rR_at 40 2 hR_40_2) dX8_goOn_73 ?_
  refine z_cVi (As := []) (rest := []) B cw_X8_354 cx_6 dX8_goOn_76 (ci_X5_wantsEvent_693 l (σ := (ap b σ [(41, 19, 0), (41, 19, 0), (41, 15, 1), (41, 4, 2), (41, 16, (-1)), (37, 2, 2), (38, 1, 13), (41, 16, 13), (41, 7, 1), (41, 5, 1), (5, 2, 1)] [(39, 1, ((10 * (w1.toInt64)) + 1)), (41, 17, ((10 * (w1.toInt64)) + 1))] [(6, 0, (some (b + 40)))])) (b := b) (lyA hK) (rI_at 41 16 rfl) (rI_at 41 19 rfl)) (lKA (hk_K hK 41 rfl rfl)) rfl (by decide) rfl (Nat.le_of_ble_eq_true rfl) (by decide) (fun r u hu => ?_)
  refine z_eqs (σ' := (ap b σ [(41, 19, 0), (41, 19, 0), (41, 15, 1), (41, 4, 2), (41, 16, (-1)), (37, 2, 2), (38, 1, 13), (41, 16, 13), (41, 7, 1), (41, 5, 1), (5, 2, 1)] [(39, 1, ((10 * (w1.toInt64)) + 1)), (41, 17, ((10 * (w1.toInt64)) + 1))] [(6, 0, (some (b + 40)))])) hu.2 ?_
  show zx p l e _ s m _ below meth c g 5 0 0 _ _ 79 [(3, .ref (b + 40)), (2, .int 1), (4, .null), (0, .ref (b + 0)), (1, .ref (b + 40))] _
  refine z_seti (y := 0) hu.1 ?_
  refine z_if_eq (tgt := 115) B dX8_goOn_79 (by decide) (fun _ => ?_) (fun h => absurd (by decide) h)
  refine z_aload_n B dX8_goOn_115 rfl 3 rfl ?_
  refine z_aload_n B dX8_goOn_116 rfl 0 rfl ?_
  refine z_cVv (As := [.ref (b + 40)]) (rest := []) B cw_X8_361 cx_9 dX8_goOn_117 (ci_X8_leave_695 l (σ := (ap b σ [(41, 19, 0), (41, 19, 0), (41, 15, 1), (41, 4, 2), (41, 16, (-1)), (37, 2, 2), (38, 1, 13), (41, 16, 13), (41, 7, 1), (41, 5, 1), (5, 2, 1)] [(39, 1, ((10 * (w1.toInt64)) + 1)), (41, 17, ((10 * (w1.toInt64)) + 1))] [(6, 0, (some (b + 40)))])) (b := b) (lyA hK) (rI_at 5 1 hI_5_1) (rI_at 5 2 rfl) (rI_at 37 2 rfl) (rI_at 40 8 hI_40_8) (rI_at 41 18 hI_41_18) (rI_at 41 19 rfl) (rR_at 0 4 hR_0_4) (rR_at 40 1 hR_40_1) (rR_at 40 2 hR_40_2)) (lKA (hk_K hK 0 rfl rfl)) rfl (by decide) rfl (Nat.le_of_ble_eq_true rfl) (by decide) (fun u hu => ?_)
  refine z_eqs (σ' := (ap b σ [(40, 8, 2), (5, 2, 0), (41, 19, 0), (41, 19, 0), (41, 15, 1), (41, 4, 2), (41, 16, (-1)), (37, 2, 2), (38, 1, 13), (41, 16, 13), (41, 7, 1), (41, 5, 1), (5, 2, 1)] [(39, 1, ((10 * (w1.toInt64)) + 1)), (41, 17, ((10 * (w1.toInt64)) + 1))] [(6, 0, (some (b + 40)))])) (hu.trans ap_ap) ?_
  show zx p l e _ s m _ below meth c g 5 0 0 _ _ 120 [(3, .ref (b + 40)), (2, .int 1), (4, .null), (0, .ref (b + 0)), (1, .ref (b + 40))] _
  refine z_iinc (v := 2) (lv' := [(2, .int 2), (3, .ref (b + 40)), (4, .null), (0, .ref (b + 0)), (1, .ref (b + 40))]) B dX8_goOn_120 1 rfl (by decide) (by decide) rfl ?_
  refine z_goto (tgt := 10) B dX8_goOn_123 (by decide) ?_
  refine z_iload_n B dX8_goOn_10 rfl 0 rfl ?_
  refine z_ldcw (v := 1000000) B dX8_goOn_11 wg_515 ?_
  refine z_icmp_ge (tgt := 126) B dX8_goOn_14 (by decide) (fun h => absurd h (by decide)) (fun _ => ?_)
  refine z_aload_n B dX8_goOn_17 rfl 3 rfl ?_
  refine gf_X8_35 (x := (some (b + 5))) B (lKA (hk_K hK 0 rfl rfl)) (rR_at 0 4 hR_0_4) dX8_goOn_18 ?_
  refine z_cVi (As := []) (rest := []) B cw_X8_341 cx_3 dX8_goOn_21 (ci_X2_isEmpty_696 l (σ := (ap b σ [(40, 8, 2), (5, 2, 0), (41, 19, 0), (41, 19, 0), (41, 15, 1), (41, 4, 2), (41, 16, (-1)), (37, 2, 2), (38, 1, 13), (41, 16, 13), (41, 7, 1), (41, 5, 1), (5, 2, 1)] [(39, 1, ((10 * (w1.toInt64)) + 1)), (41, 17, ((10 * (w1.toInt64)) + 1))] [(6, 0, (some (b + 40)))])) (b := b) (lyA hK) (rI_at 5 1 hI_5_1) (rI_at 5 2 rfl)) (lKA (hk_K hK 5 rfl rfl)) rfl (by decide) rfl (Nat.le_of_ble_eq_true rfl) (by decide) (fun r u hu => ?_)
  refine z_eqs (σ' := (ap b σ [(40, 8, 2), (5, 2, 0), (41, 19, 0), (41, 19, 0), (41, 15, 1), (41, 4, 2), (41, 16, (-1)), (37, 2, 2), (38, 1, 13), (41, 16, 13), (41, 7, 1), (41, 5, 1), (5, 2, 1)] [(39, 1, ((10 * (w1.toInt64)) + 1)), (41, 17, ((10 * (w1.toInt64)) + 1))] [(6, 0, (some (b + 40)))])) hu.2 ?_
  show zx p l e _ s m _ below meth c g 5 0 0 _ _ 24 [(2, .int 2), (3, .ref (b + 40)), (4, .null), (0, .ref (b + 0)), (1, .ref (b + 40))] _
  refine z_seti (y := 1) hu.1 ?_
  refine z_if_eq (tgt := 41) B dX8_goOn_24 (by decide) (fun h => absurd h (by decide)) (fun _ => ?_)
  refine z_aload_n B dX8_goOn_27 rfl 3 rfl ?_
  refine gf_X8_35 (x := (some (b + 5))) B (lKA (hk_K hK 0 rfl rfl)) (rR_at 0 4 hR_0_4) dX8_goOn_28 ?_
  refine z_aload_n B dX8_goOn_31 rfl 3 rfl ?_
  refine gf_X8_39 (x := (some (b + 7))) B (lKA (hk_K hK 0 rfl rfl)) (rR_at 0 5 hR_0_5) dX8_goOn_32 ?_
  refine z_cVq (As := []) (rest := [.ref (b + 5)]) B cw_X8_344 cx_3 dX8_goOn_35 (ci_X2_removeFirst_697 l (σ := (ap b σ [(40, 8, 2), (5, 2, 0), (41, 19, 0), (41, 19, 0), (41, 15, 1), (41, 4, 2), (41, 16, (-1)), (37, 2, 2), (38, 1, 13), (41, 16, 13), (41, 7, 1), (41, 5, 1), (5, 2, 1)] [(39, 1, ((10 * (w1.toInt64)) + 1)), (41, 17, ((10 * (w1.toInt64)) + 1))] [(6, 0, (some (b + 40)))])) (b := b) (lyA hK) (rI_at 7 1 hI_7_1) (rI_at 7 2 hI_7_2)) (lKA (hk_K hK 7 rfl rfl)) rfl (by decide) rfl (Nat.le_of_ble_eq_true rfl) (by decide) (fun r u hu => ?_)
  refine z_eqs (σ' := (ap b σ [(7, 2, 0), (7, 1, 0), (40, 8, 2), (5, 2, 0), (41, 19, 0), (41, 19, 0), (41, 15, 1), (41, 4, 2), (41, 16, (-1)), (37, 2, 2), (38, 1, 13), (41, 16, 13), (41, 7, 1), (41, 5, 1), (5, 2, 1)] [(39, 1, ((10 * (w1.toInt64)) + 1)), (41, 17, ((10 * (w1.toInt64)) + 1))] [(6, 0, (some (b + 40)))])) (hu.2.trans ap_ap) ?_
  show zx p l e _ s m _ below meth c g 5 0 0 _ _ 38 [(2, .int 2), (3, .ref (b + 40)), (4, .null), (0, .ref (b + 0)), (1, .ref (b + 40))] _
  refine z_setr (y := none) hu.1 ?_
  refine z_cVv (As := [.null]) (rest := []) B cw_X8_337 cx_3 dX8_goOn_38 (ci_X2_addLast_691 l (σ := (ap b σ [(7, 2, 0), (7, 1, 0), (40, 8, 2), (5, 2, 0), (41, 19, 0), (41, 19, 0), (41, 15, 1), (41, 4, 2), (41, 16, (-1)), (37, 2, 2), (38, 1, 13), (41, 16, 13), (41, 7, 1), (41, 5, 1), (5, 2, 1)] [(39, 1, ((10 * (w1.toInt64)) + 1)), (41, 17, ((10 * (w1.toInt64)) + 1))] [(6, 0, (some (b + 40)))])) (b := b) (lyA hK) ) (lKA (hk_K hK 5 rfl rfl)) rfl (by decide) rfl (Nat.le_of_ble_eq_true rfl) (by decide) (fun u hu => ?_)
  refine z_eqs (σ' := (ap b σ [(7, 2, 0), (7, 1, 0), (40, 8, 2), (5, 2, 0), (41, 19, 0), (41, 19, 0), (41, 15, 1), (41, 4, 2), (41, 16, (-1)), (37, 2, 2), (38, 1, 13), (41, 16, 13), (41, 7, 1), (41, 5, 1), (5, 2, 1)] [(39, 1, ((10 * (w1.toInt64)) + 1)), (41, 17, ((10 * (w1.toInt64)) + 1))] [(6, 0, (some (b + 40)))])) hu ?_
  show zx p l e _ s m _ below meth c g 5 0 0 _ _ 41 [(2, .int 2), (3, .ref (b + 40)), (4, .null), (0, .ref (b + 0)), (1, .ref (b + 40))] _
  refine z_aload_n B dX8_goOn_41 rfl 3 rfl ?_
  refine gf_X8_35 (x := (some (b + 5))) B (lKA (hk_K hK 0 rfl rfl)) (rR_at 0 4 hR_0_4) dX8_goOn_42 ?_
  refine z_cVq (As := []) (rest := []) B cw_X8_348 cx_3 dX8_goOn_45 (ci_X2_last_698 l (σ := (ap b σ [(7, 2, 0), (7, 1, 0), (40, 8, 2), (5, 2, 0), (41, 19, 0), (41, 19, 0), (41, 15, 1), (41, 4, 2), (41, 16, (-1)), (37, 2, 2), (38, 1, 13), (41, 16, 13), (41, 7, 1), (41, 5, 1), (5, 2, 1)] [(39, 1, ((10 * (w1.toInt64)) + 1)), (41, 17, ((10 * (w1.toInt64)) + 1))] [(6, 0, (some (b + 40)))])) (b := b) (lyA hK) (rI_at 5 1 hI_5_1) (rI_at 5 2 rfl)) (lKA (hk_K hK 5 rfl rfl)) rfl (by decide) rfl (Nat.le_of_ble_eq_true rfl) (by decide) (fun r u hu => ?_)
  refine z_eqs (σ' := (ap b σ [(7, 2, 0), (7, 1, 0), (40, 8, 2), (5, 2, 0), (41, 19, 0), (41, 19, 0), (41, 15, 1), (41, 4, 2), (41, 16, (-1)), (37, 2, 2), (38, 1, 13), (41, 16, 13), (41, 7, 1), (41, 5, 1), (5, 2, 1)] [(39, 1, ((10 * (w1.toInt64)) + 1)), (41, 17, ((10 * (w1.toInt64)) + 1))] [(6, 0, (some (b + 40)))])) hu.2 ?_
  show zx p l e _ s m _ below meth c g 5 0 0 _ _ 48 [(2, .int 2), (3, .ref (b + 40)), (4, .null), (0, .ref (b + 0)), (1, .ref (b + 40))] _
  refine z_setr (y := none) hu.1 ?_
  refine z_qstore_n (r := none) (lv' := [(3, .null), (2, .int 2), (4, .null), (0, .ref (b + 0)), (1, .ref (b + 40))]) B dX8_goOn_48 rfl (by decide) rfl ?_
  refine z_qload_n (r := none) B dX8_goOn_49 rfl 0 rfl ?_
  refine z_ifnonnull (r := none) (tgt := 54) B dX8_goOn_50 (by decide) (fun a h => nomatch h) (fun _ => ?_)
  exact z_vret B hr (by decide) (by decide) dX8_goOn_53 rfl
set_option maxRecDepth 100000 in
set_option maxHeartbeats 4000000 in
theorem ci_X8_start_737 (l : Launch) {g : gx_T} {σ : sx_T} {b : Nat} (hK : lay b σ) (w1 : Int32) (q1_w1 : (-999 : Int) ≤ w1.toInt) (q2_w1 : w1.toInt ≤ (-1 : Int)) (hI_0_7 : sx_I σ (b + 0) 7 = 0) (hI_5_1 : sx_I σ (b + 5) 1 = 0) (hI_5_2 : sx_I σ (b + 5) 2 = 0) (hI_7_1 : sx_I σ (b + 7) 1 = 0) (hI_7_2 : sx_I σ (b + 7) 2 = 0) (hI_14_0 : sx_I σ (b + 14) 0 = 0) (hI_15_0 : sx_I σ (b + 15) 0 = 0) (hI_16_0 : sx_I σ (b + 16) 0 = 0) (hI_37_2 : sx_I σ (b + 37) 2 = 0) (hI_40_0 : sx_I σ (b + 40) 0 = 0) (hI_40_8 : sx_I σ (b + 40) 8 = 0) (hR_0_0 : sx_R σ (b + 0) 0 = (some (b + 1))) (hR_0_2 : sx_R σ (b + 0) 2 = (some (b + 3))) (hR_0_4 : sx_R σ (b + 0) 4 = (some (b + 5))) (hR_0_5 : sx_R σ (b + 0) 5 = (some (b + 7))) (hR_1_1 : sx_R σ (b + 1) 1 = (some (b + 13))) (hR_3_0 : sx_R σ (b + 3) 0 = (some (b + 40))) (hR_5_0 : sx_R σ (b + 5) 0 = (some (b + 6))) (hR_13_1 : sx_R σ (b + 13) 1 = (some (b + 14))) (hR_13_2 : sx_R σ (b + 13) 2 = (some (b + 15))) (hR_13_3 : sx_R σ (b + 13) 3 = (some (b + 16))) (hR_37_0 : sx_R σ (b + 37) 0 = (some (b + 38))) (hR_37_1 : sx_R σ (b + 37) 1 = (some (b + 39))) (hR_40_1 : sx_R σ (b + 40) 1 = (some (b + 37))) (hR_40_2 : sx_R σ (b + 40) 2 = (some (b + 41))) (hR_40_7 : sx_R σ (b + 40) 7 = none) (hR_41_0 : sx_R σ (b + 41) 0 = (some (b + 42))) (hR_41_1 : sx_R σ (b + 41) 1 = (some (b + 44))) : Met l yX8_start (.code yX8_start cX8_start 5 (some .int) :: lw_g) { frames := 4, cells := 0, slots := 0, locals := 96 } (va_Pc [.ref (b + 0), .int 1, .int w1] (zx_w g σ)) (va_Qi (fun r u => r = 0 ∧ u = (ap b σ [(7, 2, 0), (7, 1, 0), (40, 8, 2), (5, 2, 0), (41, 19, 0), (41, 19, 0), (41, 15, 1), (41, 4, 2), (41, 16, (-1)), (37, 2, 2), (38, 1, 13), (41, 16, 13), (41, 7, 1), (41, 5, 1), (5, 2, 1), (41, 19, 0), (41, 18, (-1)), (41, 16, (-1)), (41, 15, 0), (41, 14, 0), (41, 13, 0), (41, 12, 0), (41, 10, (-1)), (41, 9, (-1)), (41, 8, 0), (41, 7, 0), (41, 6, ((w1.toInt64).toInt32)), (41, 5, 0), (41, 4, 1), (44, 1, 0), (42, 1, 0), (37, 2, 1), (38, 0, 0), (40, 5, 0), (40, 4, (-1)), (0, 7, 1)] [(39, 1, ((10 * (((w1.toInt64).toInt32).toInt64)) + 1)), (41, 17, ((10 * (((w1.toInt64).toInt32).toInt64)) + 1)), (41, 17, 0), (41, 11, 0), (39, 0, (w1.toInt64))] [(6, 0, (some (b + 40))), (41, 3, (some (b + 37))), (41, 2, (some (b + 13))), (40, 3, (some (b + 13)))])) (zx_w g) (gx_Q g)) 0 0 (gx_Q g) := by
  refine z_met (by decide) (Nat.le_of_ble_eq_true rfl) (fun p e s m below meth c B hr hin => ?_)
  refine z_eqs (σ' := (ap b σ [] [] [])) rfl ?_
  show zx p l e _ s m _ below meth c g 5 0 0 _ _ 0 [(0, .ref (b + 0)), (1, .int 1), (2, .int w1)] []
  refine z_aload_n B dX8_start_0 rfl 0 rfl ?_
  refine z_iload_n B dX8_start_1 rfl 1 rfl ?_
  refine z_cVq (As := [.int 1]) (rest := []) B cw_X8_64 cx_9 dX8_start_2 (ci_X8_programAt_122 l (σ := (ap b σ [] [] [])) (b := b) (lyA hK) (rR_at 0 0 hR_0_0) (rR_at 1 1 hR_1_1)) (lKA (hk_K hK 0 rfl rfl)) rfl (by decide) rfl (Nat.le_of_ble_eq_true rfl) (by decide) (fun r u hu => ?_)
  refine z_eqs (σ' := (ap b σ [] [] [])) hu.2 ?_
  show zx p l e _ s m _ below meth c g 5 0 0 _ _ 5 [(0, .ref (b + 0)), (1, .int 1), (2, .int w1)] _
  refine z_setr (y := (some (b + 13))) hu.1 ?_
  refine z_astore_n (lv' := [(3, .ref (b + 13)), (0, .ref (b + 0)), (1, .int 1), (2, .int w1)]) B dX8_start_5 rfl (by decide) rfl ?_
  refine z_aload_n B dX8_start_6 rfl 0 rfl ?_
  refine z_ifnonnull (r := (some (b + 13))) (tgt := 20) B dX8_start_7 (by decide) (fun _ _ => ?_) (fun h => nomatch h)
  refine z_iload_n B dX8_start_20 rfl 3 rfl ?_
  refine z_sipush (v := (-999)) B dX8_start_21 (by decide) ?_
  refine z_icmp_lt (tgt := 34) B dX8_start_24 (by decide) (fun h => absurd h (iv_nlt q1_w1 (by decide))) (fun _ => ?_)
  refine z_iload_n B dX8_start_27 rfl 3 rfl ?_
  refine z_sipush (v := 999) B dX8_start_28 (by decide) ?_
  refine z_icmp_le (tgt := 44) B dX8_start_31 (by decide) (fun _ => ?_) (fun h => absurd (iv_le q2_w1 (by decide)) h)
  refine z_aload_n B dX8_start_44 rfl 1 rfl ?_
  refine z_aload_n B dX8_start_45 rfl 0 rfl ?_
  refine z_iload_n B dX8_start_46 rfl 3 rfl ?_
  refine z_iconst (v := (-1)) B dX8_start_47 (by decide) ?_
  refine z_iconst (v := (-1)) B dX8_start_48 (by decide) ?_
  refine z_cVq (As := [.ref (b + 13), .int w1, .int (-1), .int (-1)]) (rest := []) B cw_X8_141 cx_9 dX8_start_49 (ci_X8_open_730 l (σ := (ap b σ [] [] [])) (b := b) (lyA hK) w1 (rI_at 0 7 hI_0_7) (rI_at 37 2 hI_37_2) (rI_at 40 0 hI_40_0) (rR_at 0 2 hR_0_2) (rR_at 3 0 hR_3_0) (rR_at 37 0 hR_37_0) (rR_at 37 1 hR_37_1) (rR_at 40 1 hR_40_1) (rR_at 40 2 hR_40_2) (rR_at 41 0 hR_41_0) (rR_at 41 1 hR_41_1)) (lKA (hk_K hK 0 rfl rfl)) rfl (by decide) rfl (Nat.le_of_ble_eq_true rfl) (by decide) (fun r u hu => ?_)
  refine z_eqs (σ' := (ap b σ [(41, 19, 0), (41, 18, (-1)), (41, 16, (-1)), (41, 15, 0), (41, 14, 0), (41, 13, 0), (41, 12, 0), (41, 10, (-1)), (41, 9, (-1)), (41, 8, 0), (41, 7, 0), (41, 6, ((w1.toInt64).toInt32)), (41, 5, 0), (41, 4, 1), (44, 1, 0), (42, 1, 0), (37, 2, 1), (38, 0, 0), (40, 5, 0), (40, 4, (-1)), (0, 7, 1)] [(41, 17, 0), (41, 11, 0), (39, 0, (w1.toInt64))] [(41, 3, (some (b + 37))), (41, 2, (some (b + 13))), (40, 3, (some (b + 13)))])) (hu.2.trans ap_ap) ?_
  show zx p l e _ s m _ below meth c g 5 0 0 _ _ 52 [(3, .ref (b + 13)), (0, .ref (b + 0)), (1, .int 1), (2, .int w1)] _
  refine z_setr (y := (some (b + 40))) hu.1 ?_
  refine z_astore (lv' := [(4, .ref (b + 40)), (3, .ref (b + 13)), (0, .ref (b + 0)), (1, .int 1), (2, .int w1)]) B dX8_start_52 (by decide) rfl ?_
  refine z_aload B dX8_start_54 0 rfl ?_
  refine z_ifnonnull (r := (some (b + 40))) (tgt := 69) B dX8_start_56 (by decide) (fun _ _ => ?_) (fun h => nomatch h)
  refine z_aload_n B dX8_start_69 rfl 2 rfl ?_
  refine z_aload B dX8_start_70 0 rfl ?_
  refine z_cVv (As := [.ref (b + 40)]) (rest := []) B cw_X8_111 cx_9 dX8_start_72 (ci_X8_goOn_736 l (σ := (ap b σ [(41, 19, 0), (41, 18, (-1)), (41, 16, (-1)), (41, 15, 0), (41, 14, 0), (41, 13, 0), (41, 12, 0), (41, 10, (-1)), (41, 9, (-1)), (41, 8, 0), (41, 7, 0), (41, 6, ((w1.toInt64).toInt32)), (41, 5, 0), (41, 4, 1), (44, 1, 0), (42, 1, 0), (37, 2, 1), (38, 0, 0), (40, 5, 0), (40, 4, (-1)), (0, 7, 1)] [(41, 17, 0), (41, 11, 0), (39, 0, (w1.toInt64))] [(41, 3, (some (b + 37))), (41, 2, (some (b + 13))), (40, 3, (some (b + 13)))])) (b := b) (lyA hK) ((w1.toInt64).toInt32) (iv_l2i (iv_i2l q1_w1 q2_w1).1 (iv_i2l q1_w1 q2_w1).2 (by decide) (by decide)).1 (iv_l2i (iv_i2l q1_w1 q2_w1).1 (iv_i2l q1_w1 q2_w1).2 (by decide) (by decide)).2 (rI_at 5 1 hI_5_1) (rI_at 5 2 hI_5_2) (rI_at 7 1 hI_7_1) (rI_at 7 2 hI_7_2) (rI_at 14 0 hI_14_0) (rI_at 15 0 hI_15_0) (rI_at 16 0 hI_16_0) (rI_at 37 2 rfl) (rI_at 40 4 rfl) (rI_at 40 8 hI_40_8) (rI_at 41 4 rfl) (rI_at 41 5 rfl) (rI_at 41 6 rfl) (rI_at 41 7 rfl) (rI_at 41 8 rfl) (rI_at 41 14 rfl) (rI_at 41 15 rfl) (rI_at 41 16 rfl) (rI_at 41 18 rfl) (rI_at 41 19 rfl) (rR_at 0 4 hR_0_4) (rR_at 0 5 hR_0_5) (rR_at 5 0 hR_5_0) (rR_at 13 1 hR_13_1) (rR_at 13 2 hR_13_2) (rR_at 13 3 hR_13_3) (rR_at 37 0 hR_37_0) (rR_at 37 1 hR_37_1) (rR_at 40 1 hR_40_1) (rR_at 40 2 hR_40_2) (rR_at 40 7 hR_40_7) (rR_at 41 2 rfl) (rR_at 41 3 rfl)) (lKA (hk_K hK 0 rfl rfl)) rfl (by decide) rfl (Nat.le_of_ble_eq_true rfl) (by decide) (fun u hu => ?_)
  refine z_eqs (σ' := (ap b σ [(7, 2, 0), (7, 1, 0), (40, 8, 2), (5, 2, 0), (41, 19, 0), (41, 19, 0), (41, 15, 1), (41, 4, 2), (41, 16, (-1)), (37, 2, 2), (38, 1, 13), (41, 16, 13), (41, 7, 1), (41, 5, 1), (5, 2, 1), (41, 19, 0), (41, 18, (-1)), (41, 16, (-1)), (41, 15, 0), (41, 14, 0), (41, 13, 0), (41, 12, 0), (41, 10, (-1)), (41, 9, (-1)), (41, 8, 0), (41, 7, 0), (41, 6, ((w1.toInt64).toInt32)), (41, 5, 0), (41, 4, 1), (44, 1, 0), (42, 1, 0), (37, 2, 1), (38, 0, 0), (40, 5, 0), (40, 4, (-1)), (0, 7, 1)] [(39, 1, ((10 * (((w1.toInt64).toInt32).toInt64)) + 1)), (41, 17, ((10 * (((w1.toInt64).toInt32).toInt64)) + 1)), (41, 17, 0), (41, 11, 0), (39, 0, (w1.toInt64))] [(6, 0, (some (b + 40))), (41, 3, (some (b + 37))), (41, 2, (some (b + 13))), (40, 3, (some (b + 13)))])) (hu.trans ap_ap) ?_
  show zx p l e _ s m _ below meth c g 5 0 0 _ _ 75 [(4, .ref (b + 40)), (3, .ref (b + 13)), (0, .ref (b + 0)), (1, .int 1), (2, .int w1)] _
  refine z_aload B dX8_start_75 0 rfl ?_
  refine gf_X8_150 (x := 0) B (lKA (hk_K hK 40 rfl rfl)) (rI_at 40 0 hI_40_0) dX8_start_77 ?_
  exact z_iret B hr (by decide) (by decide) dX8_start_80 ⟨rfl, rfl⟩
set_option maxRecDepth 100000 in
set_option maxHeartbeats 4000000 in
theorem ci_L_start_738 (l : Launch) {g : gx_T} {σ : sx_T} {b : Nat} (hK : lay b σ) (w1 : Int32) (q1_w1 : (-999 : Int) ≤ w1.toInt) (q2_w1 : w1.toInt ≤ (-1 : Int)) (hI_0_7 : sx_I σ (b + 0) 7 = 0) (hI_5_1 : sx_I σ (b + 5) 1 = 0) (hI_5_2 : sx_I σ (b + 5) 2 = 0) (hI_7_1 : sx_I σ (b + 7) 1 = 0) (hI_7_2 : sx_I σ (b + 7) 2 = 0) (hI_14_0 : sx_I σ (b + 14) 0 = 0) (hI_15_0 : sx_I σ (b + 15) 0 = 0) (hI_16_0 : sx_I σ (b + 16) 0 = 0) (hI_37_2 : sx_I σ (b + 37) 2 = 0) (hI_40_0 : sx_I σ (b + 40) 0 = 0) (hI_40_8 : sx_I σ (b + 40) 8 = 0) (hR_0_0 : sx_R σ (b + 0) 0 = (some (b + 1))) (hR_0_2 : sx_R σ (b + 0) 2 = (some (b + 3))) (hR_0_4 : sx_R σ (b + 0) 4 = (some (b + 5))) (hR_0_5 : sx_R σ (b + 0) 5 = (some (b + 7))) (hR_1_1 : sx_R σ (b + 1) 1 = (some (b + 13))) (hR_3_0 : sx_R σ (b + 3) 0 = (some (b + 40))) (hR_5_0 : sx_R σ (b + 5) 0 = (some (b + 6))) (hR_13_1 : sx_R σ (b + 13) 1 = (some (b + 14))) (hR_13_2 : sx_R σ (b + 13) 2 = (some (b + 15))) (hR_13_3 : sx_R σ (b + 13) 3 = (some (b + 16))) (hR_37_0 : sx_R σ (b + 37) 0 = (some (b + 38))) (hR_37_1 : sx_R σ (b + 37) 1 = (some (b + 39))) (hR_40_1 : sx_R σ (b + 40) 1 = (some (b + 37))) (hR_40_2 : sx_R σ (b + 40) 2 = (some (b + 41))) (hR_40_7 : sx_R σ (b + 40) 7 = none) (hR_41_0 : sx_R σ (b + 41) 0 = (some (b + 42))) (hR_41_1 : sx_R σ (b + 41) 1 = (some (b + 44))) : Met l yL_start (.codeWith yL_start cL_start 5 (some .int) [(0, 10, 13, 13), (0, 10, 17, 15), (0, 10, 21, 24)] :: lw_g) { frames := 5, cells := 0, slots := 0, locals := 120 } (va_Pc [.ref (b + 0), .int 1, .int w1, .ref (b + 431)] (zx_w g σ)) (va_Qi (fun r u => r = 0 ∧ u = (ap b σ [(7, 2, 0), (7, 1, 0), (40, 8, 2), (5, 2, 0), (41, 19, 0), (41, 19, 0), (41, 15, 1), (41, 4, 2), (41, 16, (-1)), (37, 2, 2), (38, 1, 13), (41, 16, 13), (41, 7, 1), (41, 5, 1), (5, 2, 1), (41, 19, 0), (41, 18, (-1)), (41, 16, (-1)), (41, 15, 0), (41, 14, 0), (41, 13, 0), (41, 12, 0), (41, 10, (-1)), (41, 9, (-1)), (41, 8, 0), (41, 7, 0), (41, 6, ((w1.toInt64).toInt32)), (41, 5, 0), (41, 4, 1), (44, 1, 0), (42, 1, 0), (37, 2, 1), (38, 0, 0), (40, 5, 0), (40, 4, (-1)), (0, 7, 1)] [(431, 0, 0), (39, 1, ((10 * (((w1.toInt64).toInt32).toInt64)) + 1)), (41, 17, ((10 * (((w1.toInt64).toInt32).toInt64)) + 1)), (41, 17, 0), (41, 11, 0), (39, 0, (w1.toInt64))] [(6, 0, (some (b + 40))), (41, 3, (some (b + 37))), (41, 2, (some (b + 13))), (40, 3, (some (b + 13)))])) (zx_w g) (gx_Q g)) 0 0 (gx_Q g) := by
  refine z_metW (by decide) (Nat.le_of_ble_eq_true rfl) (fun p e s m below meth c B hr htab => ?_)
  refine z_eqs (σ' := (ap b σ [] [] [])) rfl ?_
  show zx p l e _ s m _ below meth c g 5 0 0 _ _ 0 [(0, .ref (b + 0)), (1, .int 1), (2, .int w1), (3, .ref (b + 431))] []
  refine z_aload_n B dL_start_0 rfl 3 rfl ?_
  refine z_iconst (v := 0) B dL_start_1 (by decide) ?_
  refine z_aload_n B dL_start_2 rfl 0 rfl ?_
  refine z_iload_n B dL_start_3 rfl 1 rfl ?_
  refine z_iload_n B dL_start_4 rfl 2 rfl ?_
  refine z_cVi (As := [.int 1, .int w1]) (rest := [.int 0, .ref (b + 431)]) B cw_L_20 cx_9 dL_start_5 (ci_X8_start_737 l (σ := (ap b σ [] [] [])) (b := b) (lyA hK) w1 q1_w1 q2_w1 (rI_at 0 7 hI_0_7) (rI_at 5 1 hI_5_1) (rI_at 5 2 hI_5_2) (rI_at 7 1 hI_7_1) (rI_at 7 2 hI_7_2) (rI_at 14 0 hI_14_0) (rI_at 15 0 hI_15_0) (rI_at 16 0 hI_16_0) (rI_at 37 2 hI_37_2) (rI_at 40 0 hI_40_0) (rI_at 40 8 hI_40_8) (rR_at 0 0 hR_0_0) (rR_at 0 2 hR_0_2) (rR_at 0 4 hR_0_4) (rR_at 0 5 hR_0_5) (rR_at 1 1 hR_1_1) (rR_at 3 0 hR_3_0) (rR_at 5 0 hR_5_0) (rR_at 13 1 hR_13_1) (rR_at 13 2 hR_13_2) (rR_at 13 3 hR_13_3) (rR_at 37 0 hR_37_0) (rR_at 37 1 hR_37_1) (rR_at 40 1 hR_40_1) (rR_at 40 2 hR_40_2) (rR_at 40 7 hR_40_7) (rR_at 41 0 hR_41_0) (rR_at 41 1 hR_41_1)) (lKA (hk_K hK 0 rfl rfl)) rfl (by decide) rfl (Nat.le_of_ble_eq_true rfl) (by decide) (fun r u hu => ?_)
  refine z_eqs (σ' := (ap b σ [(7, 2, 0), (7, 1, 0), (40, 8, 2), (5, 2, 0), (41, 19, 0), (41, 19, 0), (41, 15, 1), (41, 4, 2), (41, 16, (-1)), (37, 2, 2), (38, 1, 13), (41, 16, 13), (41, 7, 1), (41, 5, 1), (5, 2, 1), (41, 19, 0), (41, 18, (-1)), (41, 16, (-1)), (41, 15, 0), (41, 14, 0), (41, 13, 0), (41, 12, 0), (41, 10, (-1)), (41, 9, (-1)), (41, 8, 0), (41, 7, 0), (41, 6, ((w1.toInt64).toInt32)), (41, 5, 0), (41, 4, 1), (44, 1, 0), (42, 1, 0), (37, 2, 1), (38, 0, 0), (40, 5, 0), (40, 4, (-1)), (0, 7, 1)] [(39, 1, ((10 * (((w1.toInt64).toInt32).toInt64)) + 1)), (41, 17, ((10 * (((w1.toInt64).toInt32).toInt64)) + 1)), (41, 17, 0), (41, 11, 0), (39, 0, (w1.toInt64))] [(6, 0, (some (b + 40))), (41, 3, (some (b + 37))), (41, 2, (some (b + 13))), (40, 3, (some (b + 13)))])) (hu.2.trans ap_ap) ?_
  show zx p l e _ s m _ below meth c g 5 0 0 _ _ 8 [(0, .ref (b + 0)), (1, .int 1), (2, .int w1), (3, .ref (b + 431))] _
  refine z_seti (y := 0) hu.1 ?_
  refine z_i2l (v := 0) B dL_start_8 (by decide) ?_
  refine z_last (j := 0) (σ' := (ap b σ [(7, 2, 0), (7, 1, 0), (40, 8, 2), (5, 2, 0), (41, 19, 0), (41, 19, 0), (41, 15, 1), (41, 4, 2), (41, 16, (-1)), (37, 2, 2), (38, 1, 13), (41, 16, 13), (41, 7, 1), (41, 5, 1), (5, 2, 1), (41, 19, 0), (41, 18, (-1)), (41, 16, (-1)), (41, 15, 0), (41, 14, 0), (41, 13, 0), (41, 12, 0), (41, 10, (-1)), (41, 9, (-1)), (41, 8, 0), (41, 7, 0), (41, 6, ((w1.toInt64).toInt32)), (41, 5, 0), (41, 4, 1), (44, 1, 0), (42, 1, 0), (37, 2, 1), (38, 0, 0), (40, 5, 0), (40, 4, (-1)), (0, 7, 1)] [(431, 0, 0), (39, 1, ((10 * (((w1.toInt64).toInt32).toInt64)) + 1)), (41, 17, ((10 * (((w1.toInt64).toInt32).toInt64)) + 1)), (41, 17, 0), (41, 11, 0), (39, 0, (w1.toInt64))] [(6, 0, (some (b + 40))), (41, 3, (some (b + 37))), (41, 2, (some (b + 13))), (40, 3, (some (b + 13)))])) B (lKA (hk_K hK 431 rfl rfl)) (by decide) (in_of (lNA (hk_N hK 431 rfl rfl)) (show ¬ ((0 : Int32) < 0 ∨ 1 ≤ (0 : Int32).toNatClampNeg) by decide)) wJ_ap dL_start_9 ?_
  refine z_goto (tgt := 25) B dL_start_10 (by decide) ?_
  refine z_iconst (v := 0) B dL_start_25 (by decide) ?_
  exact z_iret B hr (by decide) (by decide) dL_start_26 ⟨rfl, rfl⟩
set_option maxRecDepth 100000 in
set_option maxHeartbeats 4000000 in
theorem ci_X9_begets_739 (l : Launch) {g : gx_T} {σ : sx_T} {b : Nat} (hK : lay b σ) (w1 : Int32)  (hI_405_6 : sx_I σ (b + 405) 6 = 0) (hI_413_0 : sx_I σ (b + 413) 0 = 0) (hR_405_7 : sx_R σ (b + 405) 7 = (some (b + 409))) (hR_405_8 : sx_R σ (b + 405) 8 = (some (b + 410))) (hR_405_9 : sx_R σ (b + 405) 9 = (some (b + 411))) (hR_405_11 : sx_R σ (b + 405) 11 = (some (b + 413))) (hR_405_13 : sx_R σ (b + 405) 13 = (some (b + 415))) (hR_405_14 : sx_R σ (b + 405) 14 = (some (b + 416))) (hR_405_15 : sx_R σ (b + 405) 15 = (some (b + 417))) : Met l yX9_begets (.code yX9_begets cX9_begets 6 (some .int) :: lw_g) { frames := 1, cells := 0, slots := 0, locals := 24 } (va_Pc [.ref (b + 405), .int 1, .int w1, .int (-1), .int (-1)] (zx_w g σ)) (va_Qi (fun r u => r = 0 ∧ u = (ap b σ [(413, 0, 1), (416, 0, 0), (415, 0, (-1)), (411, 0, 0), (410, 0, (-1)), (409, 0, 1), (405, 6, 1)] [(417, 0, (w1.toInt64))] [])) (zx_w g) (gx_Q g)) 0 0 (gx_Q g) := by
  refine z_met (by decide) (Nat.le_of_ble_eq_true rfl) (fun p e s m below meth c B hr hin => ?_)
  refine z_eqs (σ' := (ap b σ [] [] [])) rfl ?_
  show zx p l e _ s m _ below meth c g 6 0 0 _ _ 0 [(0, .ref (b + 405)), (1, .int 1), (2, .int w1), (3, .int (-1)), (4, .int (-1))] []
  refine z_aload_n B dX9_begets_0 rfl 0 rfl ?_
  refine gf_X9_93 (x := 0) B (lKA (hk_K hK 405 rfl rfl)) (rI_at 405 6 hI_405_6) dX9_begets_1 ?_
  refine z_bipush (v := 40) B dX9_begets_4 (by decide) ?_
  refine z_icmp_ne (tgt := 11) B dX9_begets_6 (by decide) (fun _ => ?_) (fun h => absurd h (by decide))
  refine z_aload_n B dX9_begets_11 rfl 0 rfl ?_
  refine gf_X9_93 (x := 0) B (lKA (hk_K hK 405 rfl rfl)) (rI_at 405 6 hI_405_6) dX9_begets_12 ?_
  refine z_istore (lv' := [(5, .int 0), (0, .ref (b + 405)), (1, .int 1), (2, .int w1), (3, .int (-1)), (4, .int (-1))]) B dX9_begets_15 (by decide) rfl ?_
  refine z_aload_n B dX9_begets_17 rfl 1 rfl ?_
  refine z_dup B dX9_begets_18 rfl ?_
  refine gf_X9_93 (x := 0) B (lKA (hk_K hK 405 rfl rfl)) (rI_at 405 6 hI_405_6) dX9_begets_19 ?_
  refine z_iconst (v := 1) B dX9_begets_22 (by decide) ?_
  refine z_iadd B dX9_begets_23 ?_
  refine z_seti (y := 1) (by decide) ?_
  refine pf_X9_93 (x := 1) (σ' := (ap b σ [(405, 6, 1)] [] [])) B (lKA (hk_K hK 405 rfl rfl)) wI_ap dX9_begets_24 ?_
  refine z_aload_n B dX9_begets_27 rfl 1 rfl ?_
  refine gf_X9_23 (x := (some (b + 409))) B (lKA (hk_K hK 405 rfl rfl)) (rR_at 405 7 hR_405_7) dX9_begets_28 ?_
  refine z_iload B dX9_begets_31 0 rfl ?_
  refine z_iload_n B dX9_begets_33 rfl 2 rfl ?_
  refine z_iast (j := 0) (σ' := (ap b σ [(409, 0, 1), (405, 6, 1)] [] [])) B (lKA (hk_K hK 409 rfl rfl)) (by decide) (in_of (lNA (hk_N hK 409 rfl rfl)) (show ¬ ((0 : Int32) < 0 ∨ 41 ≤ (0 : Int32).toNatClampNeg) by decide)) wI_ap dX9_begets_34 ?_
  refine z_aload_n B dX9_begets_35 rfl 1 rfl ?_
  refine gf_X9_26 (x := (some (b + 410))) B (lKA (hk_K hK 405 rfl rfl)) (rR_at 405 8 hR_405_8) dX9_begets_36 ?_
  refine z_iload B dX9_begets_39 0 rfl ?_
  refine z_iload_n B dX9_begets_41 rfl 4 rfl ?_
  refine z_iast (j := 0) (σ' := (ap b σ [(410, 0, (-1)), (409, 0, 1), (405, 6, 1)] [] [])) B (lKA (hk_K hK 410 rfl rfl)) (by decide) (in_of (lNA (hk_N hK 410 rfl rfl)) (show ¬ ((0 : Int32) < 0 ∨ 41 ≤ (0 : Int32).toNatClampNeg) by decide)) wI_ap dX9_begets_42 ?_
  refine z_aload_n B dX9_begets_43 rfl 1 rfl ?_
  refine gf_X9_29 (x := (some (b + 411))) B (lKA (hk_K hK 405 rfl rfl)) (rR_at 405 9 hR_405_9) dX9_begets_44 ?_
  refine z_iload B dX9_begets_47 0 rfl ?_
  refine z_iload B dX9_begets_49 5 rfl ?_
  refine z_iconst (v := (-1)) B dX9_begets_51 (by decide) ?_
  refine z_icmp_ne (tgt := 60) B dX9_begets_52 (by decide) (fun h => absurd (by decide) h) (fun _ => ?_)
  refine z_iload B dX9_begets_55 0 rfl ?_
  refine z_goto (tgt := 62) B dX9_begets_57 (by decide) ?_
  refine z_iast (j := 0) (σ' := (ap b σ [(411, 0, 0), (410, 0, (-1)), (409, 0, 1), (405, 6, 1)] [] [])) B (lKA (hk_K hK 411 rfl rfl)) (by decide) (in_of (lNA (hk_N hK 411 rfl rfl)) (show ¬ ((0 : Int32) < 0 ∨ 41 ≤ (0 : Int32).toNatClampNeg) by decide)) wI_ap dX9_begets_62 ?_
  refine z_aload_n B dX9_begets_63 rfl 1 rfl ?_
  refine gf_X9_41 (x := (some (b + 415))) B (lKA (hk_K hK 405 rfl rfl)) (rR_at 405 13 hR_405_13) dX9_begets_64 ?_
  refine z_iload B dX9_begets_67 0 rfl ?_
  refine z_iconst (v := (-1)) B dX9_begets_69 (by decide) ?_
  refine z_iast (j := 0) (σ' := (ap b σ [(415, 0, (-1)), (411, 0, 0), (410, 0, (-1)), (409, 0, 1), (405, 6, 1)] [] [])) B (lKA (hk_K hK 415 rfl rfl)) (by decide) (in_of (lNA (hk_N hK 415 rfl rfl)) (show ¬ ((0 : Int32) < 0 ∨ 41 ≤ (0 : Int32).toNatClampNeg) by decide)) wI_ap dX9_begets_70 ?_
  refine z_aload_n B dX9_begets_71 rfl 1 rfl ?_
  refine z_iload B dX9_begets_72 0 rfl ?_
  refine z_iconst (v := 0) B dX9_begets_74 (by decide) ?_
  refine z_iload_n B dX9_begets_75 rfl 3 rfl ?_
  refine z_i2l B dX9_begets_76 rfl ?_
  refine z_cVv (As := [.int 0, .int 0, .long (w1.toInt64)]) (rest := []) B cw_X9_143 cx_10 dX9_begets_77 (ci_X9_adds_704 l (σ := (ap b σ [(415, 0, (-1)), (411, 0, 0), (410, 0, (-1)), (409, 0, 1), (405, 6, 1)] [] [])) (b := b) (lyA hK) (w1.toInt64) (rI_at 413 0 hI_413_0) (rR_at 405 11 hR_405_11) (rR_at 405 14 hR_405_14) (rR_at 405 15 hR_405_15)) (lKA (hk_K hK 405 rfl rfl)) rfl (by decide) rfl (Nat.le_of_ble_eq_true rfl) (by decide) (fun u hu => ?_)
  refine z_eqs (σ' := (ap b σ [(413, 0, 1), (416, 0, 0), (415, 0, (-1)), (411, 0, 0), (410, 0, (-1)), (409, 0, 1), (405, 6, 1)] [(417, 0, (w1.toInt64))] [])) (hu.trans ap_ap) ?_
  show zx p l e _ s m _ below meth c g 6 0 0 _ _ 80 [(5, .int 0), (0, .ref (b + 405)), (1, .int 1), (2, .int w1), (3, .int (-1)), (4, .int (-1))] _
  refine z_iload B dX9_begets_80 0 rfl ?_
  exact z_iret B hr (by decide) (by decide) dX9_begets_82 ⟨rfl, rfl⟩
set_option maxRecDepth 100000 in
set_option maxHeartbeats 4000000 in
theorem ci_X9_steps_740 (l : Launch) {g : gx_T} {σ : sx_T} {b : Nat} (hK : lay b σ) (w1 : Int32)  (hI_405_27 : sx_I σ (b + 405) 27 = 1) (hI_405_28 : sx_I σ (b + 405) 28 = 0) (hI_405_29 : sx_I σ (b + 405) 29 = w1) (hI_405_38 : sx_I σ (b + 405) 38 = 0) (hI_406_20 : sx_I σ (b + 406) 20 = 0) (hI_407_20 : sx_I σ (b + 407) 20 = 0) (hI_409_0 : sx_I σ (b + 409) 0 = 1) (hI_413_0 : sx_I σ (b + 413) 0 = 1) (hR_405_3 : sx_R σ (b + 405) 3 = (some (b + 406))) (hR_405_4 : sx_R σ (b + 405) 4 = (some (b + 407))) (hR_405_7 : sx_R σ (b + 405) 7 = (some (b + 409))) (hR_405_11 : sx_R σ (b + 405) 11 = (some (b + 413))) (hR_405_14 : sx_R σ (b + 405) 14 = (some (b + 416))) (hR_405_15 : sx_R σ (b + 405) 15 = (some (b + 417))) : Met l yX9_steps (.code yX9_steps cX9_steps 12 (some .boolean) :: lw_g) { frames := 2, cells := 0, slots := 0, locals := 51 } (va_Pc [.ref (b + 405), .int 0, .int 1, .int 1] (zx_w g σ)) (va_Qi (fun r u => r = 1 ∧ u = (ap b σ [(405, 37, 1), (405, 27, 2), (413, 0, 2), (416, 1, 13), (405, 28, 1), (405, 38, 1)] [(417, 1, ((10 * (w1.toInt64)) + 1))] [])) (zx_w g) (gx_Q g)) 0 0 (gx_Q g) := by
  refine z_met (by decide) (Nat.le_of_ble_eq_true rfl) (fun p e s m below meth c B hr hin => ?_)
  refine z_eqs (σ' := (ap b σ [] [] [])) rfl ?_
  show zx p l e _ s m _ below meth c g 12 0 0 _ _ 0 [(0, .ref (b + 405)), (1, .int 0), (2, .int 1), (3, .int 1)] []
  refine z_aload_n B dX9_steps_0 rfl 0 rfl ?_
  refine gf_X9_137 (x := 0) B (lKA (hk_K hK 405 rfl rfl)) (rI_at 405 38 hI_405_38) dX9_steps_1 ?_
  refine z_bipush (v := 60) B dX9_steps_4 (by decide) ?_
  refine z_icmp_ne (tgt := 16) B dX9_steps_6 (by decide) (fun _ => ?_) (fun h => absurd h (by decide))
  refine z_bipush (v := 20) B dX9_steps_16 (by decide) ?_
  refine z_aload_n B dX9_steps_18 rfl 0 rfl ?_
  refine gf_X9_23 (x := (some (b + 409))) B (lKA (hk_K hK 405 rfl rfl)) (rR_at 405 7 hR_405_7) dX9_steps_19 ?_
  refine z_iload_n B dX9_steps_22 rfl 1 rfl ?_
  refine z_iald (j := 0) (x := 1) B (lKA (hk_K hK 409 rfl rfl)) (by decide) (in_of (lNA (hk_N hK 409 rfl rfl)) (show ¬ ((0 : Int32) < 0 ∨ 41 ≤ (0 : Int32).toNatClampNeg) by decide)) (rI_at 409 0 hI_409_0) dX9_steps_23 ?_
  refine z_imul B dX9_steps_24 ?_
  refine z_seti (y := 20) (by decide) ?_
  refine z_aload_n B dX9_steps_25 rfl 0 rfl ?_
  refine gf_X9_110 (x := 0) B (lKA (hk_K hK 405 rfl rfl)) (rI_at 405 28 hI_405_28) dX9_steps_26 ?_
  refine z_iadd B dX9_steps_29 ?_
  refine z_seti (y := 20) (by decide) ?_
  refine z_istore (lv' := [(4, .int 20), (0, .ref (b + 405)), (1, .int 0), (2, .int 1), (3, .int 1)]) B dX9_steps_30 (by decide) rfl ?_
  refine z_aload_n B dX9_steps_32 rfl 1 rfl ?_
  refine gf_X9_13 (x := (some (b + 406))) B (lKA (hk_K hK 405 rfl rfl)) (rR_at 405 3 hR_405_3) dX9_steps_33 ?_
  refine z_iload B dX9_steps_36 0 rfl ?_
  refine z_iald (j := 20) (x := 0) B (lKA (hk_K hK 406 rfl rfl)) (by decide) (in_of (lNA (hk_N hK 406 rfl rfl)) (show ¬ ((20 : Int32) < 0 ∨ 120 ≤ (20 : Int32).toNatClampNeg) by decide)) (rI_at 406 20 hI_406_20) dX9_steps_38 ?_
  refine z_istore (lv' := [(5, .int 0), (4, .int 20), (0, .ref (b + 405)), (1, .int 0), (2, .int 1), (3, .int 1)]) B dX9_steps_39 (by decide) rfl ?_
  refine z_aload_n B dX9_steps_41 rfl 2 rfl ?_
  refine gf_X9_17 (x := (some (b + 407))) B (lKA (hk_K hK 405 rfl rfl)) (rR_at 405 4 hR_405_4) dX9_steps_42 ?_
  refine z_iload B dX9_steps_45 1 rfl ?_
  refine z_iald (j := 20) (x := 0) B (lKA (hk_K hK 407 rfl rfl)) (by decide) (in_of (lNA (hk_N hK 407 rfl rfl)) (show ¬ ((20 : Int32) < 0 ∨ 120 ≤ (20 : Int32).toNatClampNeg) by decide)) (rI_at 407 20 hI_407_20) dX9_steps_47 ?_
  refine z_istore (lv' := [(6, .int 0), (5, .int 0), (4, .int 20), (0, .ref (b + 405)), (1, .int 0), (2, .int 1), (3, .int 1)]) B dX9_steps_48 (by decide) rfl ?_
  refine z_aload_n B dX9_steps_50 rfl 3 rfl ?_
  refine gf_X9_107 (x := 1) B (lKA (hk_K hK 405 rfl rfl)) (rI_at 405 27 hI_405_27) dX9_steps_51 ?_
  refine z_iload_n B dX9_steps_54 rfl 5 rfl ?_
  refine z_icmp_lt (tgt := 62) B dX9_steps_55 (by decide) (fun h => absurd h (by decide)) (fun _ => ?_)
  refine z_iconst (v := 1) B dX9_steps_58 (by decide) ?_
  refine z_goto (tgt := 63) B dX9_steps_59 (by decide) ?_
  refine z_istore (lv' := [(7, .int 1), (6, .int 0), (5, .int 0), (4, .int 20), (0, .ref (b + 405)), (1, .int 0), (2, .int 1), (3, .int 1)]) B dX9_steps_63 (by decide) rfl ?_
  refine z_aload_n B dX9_steps_65 rfl 4 rfl ?_
  refine gf_X9_110 (x := 0) B (lKA (hk_K hK 405 rfl rfl)) (rI_at 405 28 hI_405_28) dX9_steps_66 ?_
  refine z_istore (lv' := [(8, .int 0), (7, .int 1), (6, .int 0), (5, .int 0), (4, .int 20), (0, .ref (b + 405)), (1, .int 0), (2, .int 1), (3, .int 1)]) B dX9_steps_69 (by decide) rfl ?_
  refine z_aload_n B dX9_steps_71 rfl 5 rfl ?_
  refine z_dup B dX9_steps_72 rfl ?_
  refine gf_X9_137 (x := 0) B (lKA (hk_K hK 405 rfl rfl)) (rI_at 405 38 hI_405_38) dX9_steps_73 ?_
  refine z_iconst (v := 1) B dX9_steps_76 (by decide) ?_
  refine z_iadd B dX9_steps_77 ?_
  refine z_seti (y := 1) (by decide) ?_
  refine pf_X9_137 (x := 1) (σ' := (ap b σ [(405, 38, 1)] [] [])) B (lKA (hk_K hK 405 rfl rfl)) wI_ap dX9_steps_78 ?_
  refine z_aload_n B dX9_steps_81 rfl 5 rfl ?_
  refine z_aload_n B dX9_steps_82 rfl 5 rfl ?_
  refine gf_X9_110 (x := 0) B (lKA (hk_K hK 405 rfl rfl)) (rI_at 405 28 hI_405_28) dX9_steps_83 ?_
  refine z_iconst (v := 1) B dX9_steps_86 (by decide) ?_
  refine z_iadd B dX9_steps_87 ?_
  refine z_seti (y := 1) (by decide) ?_
  refine z_bipush (v := 20) B dX9_steps_88 (by decide) ?_
  refine z_irem B dX9_steps_90 (by decide) ?_
  refine z_seti (y := 1) (by decide) ?_
  refine pf_X9_110 (x := 1) (σ' := (ap b σ [(405, 28, 1), (405, 38, 1)] [] [])) B (lKA (hk_K hK 405 rfl rfl)) wI_ap dX9_steps_91 ?_
  refine z_iload B dX9_steps_94 3 rfl ?_
  refine z_iconst (v := 3) B dX9_steps_96 (by decide) ?_
  refine z_icmp_eq (tgt := 106) B dX9_steps_97 (by decide) (fun h => absurd h (by decide)) (fun _ => ?_)
  refine z_iload B dX9_steps_100 3 rfl ?_
  refine z_iconst (v := 4) B dX9_steps_102 (by decide) ?_
  refine z_icmp_ne (tgt := 115) B dX9_steps_103 (by decide) (fun _ => ?_) (fun h => absurd h (by decide))
  refine z_iconst (v := (-1)) B dX9_steps_115 (by decide) ?_
  refine z_istore (lv' := [(9, .int (-1)), (8, .int 0), (7, .int 1), (6, .int 0), (5, .int 0), (4, .int 20), (0, .ref (b + 405)), (1, .int 0), (2, .int 1), (3, .int 1)]) B dX9_steps_116 (by decide) rfl ?_
  refine z_iload B dX9_steps_118 4 rfl ?_
  refine z_cSi (As := [.int 0]) (rest := []) B cw_X9_193 dX9_steps_120 (ci_X9_isBounded_707 l (σ := (ap b σ [(405, 28, 1), (405, 38, 1)] [] [])) (b := b) (lyA hK) ) rfl (by decide) rfl (Nat.le_of_ble_eq_true rfl) (by decide) (fun r u hu => ?_)
  refine z_eqs (σ' := (ap b σ [(405, 28, 1), (405, 38, 1)] [] [])) hu.2 ?_
  show zx p l e _ s m _ below meth c g 12 0 0 _ _ 123 [(9, .int (-1)), (8, .int 0), (7, .int 1), (6, .int 0), (5, .int 0), (4, .int 20), (0, .ref (b + 405)), (1, .int 0), (2, .int 1), (3, .int 1)] _
  refine z_seti (y := 0) hu.1 ?_
  refine z_if_eq (tgt := 141) B dX9_steps_123 (by decide) (fun _ => ?_) (fun h => absurd (by decide) h)
  refine z_iload B dX9_steps_141 4 rfl ?_
  refine z_bipush (v := 12) B dX9_steps_143 (by decide) ?_
  refine z_icmp_ne (tgt := 164) B dX9_steps_145 (by decide) (fun _ => ?_) (fun h => absurd h (by decide))
  refine z_iconst (v := 1) B dX9_steps_164 (by decide) ?_
  refine z_istore (lv' := [(10, .int 1), (9, .int (-1)), (8, .int 0), (7, .int 1), (6, .int 0), (5, .int 0), (4, .int 20), (0, .ref (b + 405)), (1, .int 0), (2, .int 1), (3, .int 1)]) B dX9_steps_165 (by decide) rfl ?_
  refine z_iload B dX9_steps_167 5 rfl ?_
  refine z_tableIn (tgt := 252) B dX9_steps_169 (by decide) (by decide) (show _ = some (83 : Int) by decide) (by decide) ?_
  refine z_aload_n B dX9_steps_252 rfl 7 rfl ?_
  refine z_iload_n B dX9_steps_253 rfl 8 rfl ?_
  refine z_iload_n B dX9_steps_254 rfl 9 rfl ?_
  refine z_iload_n B dX9_steps_255 rfl 10 rfl ?_
  refine z_bipush (v := 13) B dX9_steps_256 (by decide) ?_
  refine z_ldc2 (v := 10) B dX9_steps_258 wg_1247 ?_
  refine z_aload_n B dX9_steps_261 rfl 7 rfl ?_
  refine gf_X9_113 (x := w1) B (lKA (hk_K hK 405 rfl rfl)) (rI_at 405 29 hI_405_29) dX9_steps_262 ?_
  refine z_i2l B dX9_steps_265 rfl ?_
  refine z_lmul B dX9_steps_266 ?_
  refine z_lconst (v := 1) B dX9_steps_267 (by decide) ?_
  refine z_ladd B dX9_steps_268 ?_
  refine z_iconst (v := 0) B dX9_steps_269 (by decide) ?_
  refine z_cVi (As := [.int 0, .int 1, .int 1, .int 13, .long ((10 * (w1.toInt64)) + 1), .int 0]) (rest := []) B cw_X9_164 cx_10 dX9_steps_270 (ci_X9_meets_709 l (σ := (ap b σ [(405, 28, 1), (405, 38, 1)] [] [])) (b := b) (lyA hK) ((10 * (w1.toInt64)) + 1) (rI_at 405 27 hI_405_27) (rI_at 413 0 hI_413_0) (rR_at 405 11 hR_405_11) (rR_at 405 14 hR_405_14) (rR_at 405 15 hR_405_15)) (lKA (hk_K hK 405 rfl rfl)) rfl (by decide) rfl (Nat.le_of_ble_eq_true rfl) (by decide) (fun r u hu => ?_)
  refine z_eqs (σ' := (ap b σ [(405, 27, 2), (413, 0, 2), (416, 1, 13), (405, 28, 1), (405, 38, 1)] [(417, 1, ((10 * (w1.toInt64)) + 1))] [])) (hu.2.trans ap_ap) ?_
  show zx p l e _ s m _ below meth c g 12 0 0 _ _ 273 [(10, .int 1), (9, .int (-1)), (8, .int 0), (7, .int 1), (6, .int 0), (5, .int 0), (4, .int 20), (0, .ref (b + 405)), (1, .int 0), (2, .int 1), (3, .int 1)] _
  refine z_seti (y := 1) hu.1 ?_
  refine z_istore (lv' := [(10, .int 1), (9, .int (-1)), (8, .int 0), (7, .int 1), (6, .int 0), (5, .int 0), (4, .int 20), (0, .ref (b + 405)), (1, .int 0), (2, .int 1), (3, .int 1)]) B dX9_steps_273 (by decide) rfl ?_
  refine z_aload_n B dX9_steps_275 rfl 7 rfl ?_
  refine z_iload B dX9_steps_276 0 rfl ?_
  refine z_if_eq (tgt := 285) B dX9_steps_278 (by decide) (fun h => absurd h (by decide)) (fun _ => ?_)
  refine z_iconst (v := 1) B dX9_steps_281 (by decide) ?_
  refine z_goto (tgt := 286) B dX9_steps_282 (by decide) ?_
  refine pf_X9_134 (x := 1) (σ' := (ap b σ [(405, 37, 1), (405, 27, 2), (413, 0, 2), (416, 1, 13), (405, 28, 1), (405, 38, 1)] [(417, 1, ((10 * (w1.toInt64)) + 1))] [])) B (lKA (hk_K hK 405 rfl rfl)) wI_ap dX9_steps_286 ?_
  refine z_goto (tgt := 1085) B dX9_steps_289 (by decide) ?_
  refine z_iload B dX9_steps_1085 0 rfl ?_
  refine z_if_ne (tgt := 1113) B dX9_steps_1087 (by decide) (fun _ => ?_) (fun h => absurd h (by decide))
  refine z_iload B dX9_steps_1113 0 rfl ?_
  exact z_zret B hr (by decide) (by decide) (by decide) dX9_steps_1115 ⟨rfl, rfl⟩
set_option maxRecDepth 100000 in
set_option maxHeartbeats 4000000 in
theorem ci_X9_replays_741 (l : Launch) {g : gx_T} {σ : sx_T} {b : Nat} (hK : lay b σ) (w1 : Int64)  (hI_406_20 : sx_I σ (b + 406) 20 = 0) (hI_407_20 : sx_I σ (b + 407) 20 = 0) (hI_409_0 : sx_I σ (b + 409) 0 = 1) (hI_413_0 : sx_I σ (b + 413) 0 = 1) (hI_416_0 : sx_I σ (b + 416) 0 = 0) (hJ_417_0 : sx_J σ (b + 417) 0 = w1) (hR_405_3 : sx_R σ (b + 405) 3 = (some (b + 406))) (hR_405_4 : sx_R σ (b + 405) 4 = (some (b + 407))) (hR_405_7 : sx_R σ (b + 405) 7 = (some (b + 409))) (hR_405_11 : sx_R σ (b + 405) 11 = (some (b + 413))) (hR_405_14 : sx_R σ (b + 405) 14 = (some (b + 416))) (hR_405_15 : sx_R σ (b + 405) 15 = (some (b + 417))) : Met l yX9_replays (.code yX9_replays cX9_replays 5 (some .int) :: lw_g) { frames := 3, cells := 0, slots := 0, locals := 82 } (va_Pc [.ref (b + 405), .int 0, .int 1, .int 1] (zx_w g σ)) (va_Qi (fun r u => r = (-1) ∧ u = (ap b σ [(405, 26, 1), (405, 37, 1), (405, 27, 2), (413, 0, 2), (416, 1, 13), (405, 28, 1), (405, 38, 1), (405, 48, (-1)), (405, 27, 1), (405, 29, (w1.toInt32)), (405, 26, 1), (405, 47, 1), (405, 39, 0), (405, 38, 0), (405, 37, 0), (405, 36, 0), (405, 35, 0), (405, 34, 0), (405, 32, 0), (405, 31, 0), (405, 30, 0), (405, 29, 0), (405, 28, 0), (405, 27, 0), (405, 26, 1)] [(417, 1, ((10 * ((w1.toInt32).toInt64)) + 1))] [])) (zx_w g) (gx_Q g)) 0 0 (gx_Q g) := by
  refine z_met (by decide) (Nat.le_of_ble_eq_true rfl) (fun p e s m below meth c B hr hin => ?_)
  refine z_eqs (σ' := (ap b σ [] [] [])) rfl ?_
  show zx p l e _ s m _ below meth c g 5 0 0 _ _ 0 [(0, .ref (b + 405)), (1, .int 0), (2, .int 1), (3, .int 1)] []
  refine z_aload_n B dX9_replays_0 rfl 0 rfl ?_
  refine z_cVv (As := []) (rest := []) B cw_X9_175 cx_10 dX9_replays_1 (ci_X9_begins_706 l (σ := (ap b σ [] [] [])) (b := b) (lyA hK) ) (lKA (hk_K hK 405 rfl rfl)) rfl (by decide) rfl (Nat.le_of_ble_eq_true rfl) (by decide) (fun u hu => ?_)
  refine z_eqs (σ' := (ap b σ [(405, 39, 0), (405, 38, 0), (405, 37, 0), (405, 36, 0), (405, 35, 0), (405, 34, 0), (405, 32, 0), (405, 31, 0), (405, 30, 0), (405, 29, 0), (405, 28, 0), (405, 27, 0), (405, 26, 1)] [] [])) (hu.trans ap_ap) ?_
  show zx p l e _ s m _ below meth c g 5 0 0 _ _ 4 [(0, .ref (b + 405)), (1, .int 0), (2, .int 1), (3, .int 1)] _
  refine z_aload_n B dX9_replays_4 rfl 0 rfl ?_
  refine z_iload_n B dX9_replays_5 rfl 3 rfl ?_
  refine pf_X9_156 (x := 1) (σ' := (ap b σ [(405, 47, 1), (405, 39, 0), (405, 38, 0), (405, 37, 0), (405, 36, 0), (405, 35, 0), (405, 34, 0), (405, 32, 0), (405, 31, 0), (405, 30, 0), (405, 29, 0), (405, 28, 0), (405, 27, 0), (405, 26, 1)] [] [])) B (by decide) (lKA (hk_K hK 405 rfl rfl)) wI_ap dX9_replays_6 ?_
  refine z_aload_n B dX9_replays_9 rfl 0 rfl ?_
  refine z_aload_n B dX9_replays_10 rfl 0 rfl ?_
  refine gf_X9_44 (x := (some (b + 416))) B (lKA (hk_K hK 405 rfl rfl)) (rR_at 405 14 hR_405_14) dX9_replays_11 ?_
  refine z_sipush (v := 160) B dX9_replays_14 (by decide) ?_
  refine z_iload_n B dX9_replays_17 rfl 1 rfl ?_
  refine z_imul B dX9_replays_18 ?_
  refine z_seti (y := 0) (by decide) ?_
  refine z_iald (j := 0) (x := 0) B (lKA (hk_K hK 416 rfl rfl)) (by decide) (in_of (lNA (hk_N hK 416 rfl rfl)) (show ¬ ((0 : Int32) < 0 ∨ 6560 ≤ (0 : Int32).toNatClampNeg) by decide)) (rI_at 416 0 hI_416_0) dX9_replays_19 ?_
  refine z_if_ne (tgt := 27) B dX9_replays_20 (by decide) (fun h => absurd (by decide) h) (fun _ => ?_)
  refine z_iconst (v := 1) B dX9_replays_23 (by decide) ?_
  refine z_goto (tgt := 28) B dX9_replays_24 (by decide) ?_
  refine pf_X9_103 (x := 1) (σ' := (ap b σ [(405, 26, 1), (405, 47, 1), (405, 39, 0), (405, 38, 0), (405, 37, 0), (405, 36, 0), (405, 35, 0), (405, 34, 0), (405, 32, 0), (405, 31, 0), (405, 30, 0), (405, 29, 0), (405, 28, 0), (405, 27, 0), (405, 26, 1)] [] [])) B (by decide) (lKA (hk_K hK 405 rfl rfl)) wI_ap dX9_replays_28 ?_
  refine z_aload_n B dX9_replays_31 rfl 0 rfl ?_
  refine z_aload_n B dX9_replays_32 rfl 0 rfl ?_
  refine gf_X9_47 (x := (some (b + 417))) B (lKA (hk_K hK 405 rfl rfl)) (rR_at 405 15 hR_405_15) dX9_replays_33 ?_
  refine z_sipush (v := 160) B dX9_replays_36 (by decide) ?_
  refine z_iload_n B dX9_replays_39 rfl 1 rfl ?_
  refine z_imul B dX9_replays_40 ?_
  refine z_seti (y := 0) (by decide) ?_
  refine z_lald (j := 0) (x := w1) B (lKA (hk_K hK 417 rfl rfl)) (by decide) (in_of (lNA (hk_N hK 417 rfl rfl)) (show ¬ ((0 : Int32) < 0 ∨ 6560 ≤ (0 : Int32).toNatClampNeg) by decide)) (rJ_at 417 0 hJ_417_0) dX9_replays_41 ?_
  refine z_l2i B dX9_replays_42 rfl ?_
  refine pf_X9_113 (x := (w1.toInt32)) (σ' := (ap b σ [(405, 29, (w1.toInt32)), (405, 26, 1), (405, 47, 1), (405, 39, 0), (405, 38, 0), (405, 37, 0), (405, 36, 0), (405, 35, 0), (405, 34, 0), (405, 32, 0), (405, 31, 0), (405, 30, 0), (405, 29, 0), (405, 28, 0), (405, 27, 0), (405, 26, 1)] [] [])) B (lKA (hk_K hK 405 rfl rfl)) wI_ap dX9_replays_43 ?_
  refine z_aload_n B dX9_replays_46 rfl 0 rfl ?_
  refine z_iconst (v := 1) B dX9_replays_47 (by decide) ?_
  refine pf_X9_107 (x := 1) (σ' := (ap b σ [(405, 27, 1), (405, 29, (w1.toInt32)), (405, 26, 1), (405, 47, 1), (405, 39, 0), (405, 38, 0), (405, 37, 0), (405, 36, 0), (405, 35, 0), (405, 34, 0), (405, 32, 0), (405, 31, 0), (405, 30, 0), (405, 29, 0), (405, 28, 0), (405, 27, 0), (405, 26, 1)] [] [])) B (lKA (hk_K hK 405 rfl rfl)) wI_ap dX9_replays_48 ?_
  refine z_aload_n B dX9_replays_51 rfl 0 rfl ?_
  refine z_iconst (v := (-1)) B dX9_replays_52 (by decide) ?_
  refine pf_X9_172 (x := (-1)) (σ' := (ap b σ [(405, 48, (-1)), (405, 27, 1), (405, 29, (w1.toInt32)), (405, 26, 1), (405, 47, 1), (405, 39, 0), (405, 38, 0), (405, 37, 0), (405, 36, 0), (405, 35, 0), (405, 34, 0), (405, 32, 0), (405, 31, 0), (405, 30, 0), (405, 29, 0), (405, 28, 0), (405, 27, 0), (405, 26, 1)] [] [])) B (lKA (hk_K hK 405 rfl rfl)) wI_ap dX9_replays_53 ?_
  refine z_aload_n B dX9_replays_56 rfl 0 rfl ?_
  refine gf_X9_103 (x := 1) B (lKA (hk_K hK 405 rfl rfl)) (rI_at 405 26 rfl) dX9_replays_57 ?_
  refine z_istore (lv' := [(4, .int 1), (0, .ref (b + 405)), (1, .int 0), (2, .int 1), (3, .int 1)]) B dX9_replays_60 (by decide) rfl ?_
  refine z_iload B dX9_replays_62 0 rfl ?_
  refine z_if_eq (tgt := 180) B dX9_replays_64 (by decide) (fun h => absurd h (by decide)) (fun _ => ?_)
  refine z_aload_n B dX9_replays_67 rfl 1 rfl ?_
  refine gf_X9_103 (x := 1) B (lKA (hk_K hK 405 rfl rfl)) (rI_at 405 26 rfl) dX9_replays_68 ?_
  refine z_if_eq (tgt := 180) B dX9_replays_71 (by decide) (fun h => absurd h (by decide)) (fun _ => ?_)
  refine z_aload_n B dX9_replays_74 rfl 1 rfl ?_
  refine gf_X9_134 (x := 0) B (lKA (hk_K hK 405 rfl rfl)) (rI_at 405 37 rfl) dX9_replays_75 ?_
  refine z_if_le (tgt := 104) B dX9_replays_78 (by decide) (fun _ => ?_) (fun h => absurd (by decide) h)
  refine z_aload_n B dX9_replays_104 rfl 1 rfl ?_
  refine gf_X9_116 (x := 0) B (lKA (hk_K hK 405 rfl rfl)) (rI_at 405 30 rfl) dX9_replays_105 ?_
  refine z_if_eq (tgt := 139) B dX9_replays_108 (by decide) (fun _ => ?_) (fun h => absurd (by decide) h)
  refine z_aload_n B dX9_replays_139 rfl 1 rfl ?_
  refine gf_X9_131 (x := 0) B (lKA (hk_K hK 405 rfl rfl)) (rI_at 405 36 rfl) dX9_replays_140 ?_
  refine z_if_le (tgt := 158) B dX9_replays_143 (by decide) (fun _ => ?_) (fun h => absurd (by decide) h)
  refine z_aload_n B dX9_replays_158 rfl 1 rfl ?_
  refine z_iload_n B dX9_replays_159 rfl 2 rfl ?_
  refine z_iload_n B dX9_replays_160 rfl 3 rfl ?_
  refine z_iload_n B dX9_replays_161 rfl 4 rfl ?_
  refine z_cVi (As := [.int 0, .int 1, .int 1]) (rest := []) B cw_X9_186 cx_10 dX9_replays_162 (ci_X9_steps_740 l (σ := (ap b σ [(405, 48, (-1)), (405, 27, 1), (405, 29, (w1.toInt32)), (405, 26, 1), (405, 47, 1), (405, 39, 0), (405, 38, 0), (405, 37, 0), (405, 36, 0), (405, 35, 0), (405, 34, 0), (405, 32, 0), (405, 31, 0), (405, 30, 0), (405, 29, 0), (405, 28, 0), (405, 27, 0), (405, 26, 1)] [] [])) (b := b) (lyA hK) (w1.toInt32) (rI_at 405 27 rfl) (rI_at 405 28 rfl) (rI_at 405 29 rfl) (rI_at 405 38 rfl) (rI_at 406 20 hI_406_20) (rI_at 407 20 hI_407_20) (rI_at 409 0 hI_409_0) (rI_at 413 0 hI_413_0) (rR_at 405 3 hR_405_3) (rR_at 405 4 hR_405_4) (rR_at 405 7 hR_405_7) (rR_at 405 11 hR_405_11) (rR_at 405 14 hR_405_14) (rR_at 405 15 hR_405_15)) (lKA (hk_K hK 405 rfl rfl)) rfl (by decide) rfl (Nat.le_of_ble_eq_true rfl) (by decide) (fun r u hu => ?_)
  refine z_eqs (σ' := (ap b σ [(405, 37, 1), (405, 27, 2), (413, 0, 2), (416, 1, 13), (405, 28, 1), (405, 38, 1), (405, 48, (-1)), (405, 27, 1), (405, 29, (w1.toInt32)), (405, 26, 1), (405, 47, 1), (405, 39, 0), (405, 38, 0), (405, 37, 0), (405, 36, 0), (405, 35, 0), (405, 34, 0), (405, 32, 0), (405, 31, 0), (405, 30, 0), (405, 29, 0), (405, 28, 0), (405, 27, 0), (405, 26, 1)] [(417, 1, ((10 * ((w1.toInt32).toInt64)) + 1))] [])) (hu.2.trans ap_ap) ?_
  show zx p l e _ s m _ below meth c g 5 0 0 _ _ 165 [(4, .int 1), (0, .ref (b + 405)), (1, .int 0), (2, .int 1), (3, .int 1)] _
  refine z_seti (y := 1) hu.1 ?_
  refine z_istore (lv' := [(4, .int 1), (0, .ref (b + 405)), (1, .int 0), (2, .int 1), (3, .int 1)]) B dX9_replays_165 (by decide) rfl ?_
  refine z_aload_n B dX9_replays_167 rfl 1 rfl ?_
  refine gf_X9_172 (x := (-1)) B (lKA (hk_K hK 405 rfl rfl)) (rI_at 405 48 rfl) dX9_replays_168 ?_
  refine z_iconst (v := (-1)) B dX9_replays_171 (by decide) ?_
  refine z_icmp_eq (tgt := 62) B dX9_replays_172 (by decide) (fun _ => ?_) (fun h => absurd (by decide) h)
  refine z_iload B dX9_replays_62 0 rfl ?_
  refine z_if_eq (tgt := 180) B dX9_replays_64 (by decide) (fun h => absurd h (by decide)) (fun _ => ?_)
  refine z_aload_n B dX9_replays_67 rfl 1 rfl ?_
  refine gf_X9_103 (x := 1) B (lKA (hk_K hK 405 rfl rfl)) (rI_at 405 26 rfl) dX9_replays_68 ?_
  refine z_if_eq (tgt := 180) B dX9_replays_71 (by decide) (fun h => absurd h (by decide)) (fun _ => ?_)
  refine z_aload_n B dX9_replays_74 rfl 1 rfl ?_
  refine gf_X9_134 (x := 1) B (lKA (hk_K hK 405 rfl rfl)) (rI_at 405 37 rfl) dX9_replays_75 ?_
  refine z_if_le (tgt := 104) B dX9_replays_78 (by decide) (fun h => absurd h (by decide)) (fun _ => ?_)
  refine z_aload_n B dX9_replays_81 rfl 1 rfl ?_
  refine z_aload_n B dX9_replays_82 rfl 1 rfl ?_
  refine gf_X9_107 (x := 2) B (lKA (hk_K hK 405 rfl rfl)) (rI_at 405 27 rfl) dX9_replays_83 ?_
  refine z_iload_n B dX9_replays_86 rfl 3 rfl ?_
  refine z_icmp_lt (tgt := 94) B dX9_replays_87 (by decide) (fun h => absurd h (by decide)) (fun _ => ?_)
  refine z_iconst (v := 1) B dX9_replays_90 (by decide) ?_
  refine z_goto (tgt := 95) B dX9_replays_91 (by decide) ?_
  refine pf_X9_103 (x := 1) (σ' := (ap b σ [(405, 26, 1), (405, 37, 1), (405, 27, 2), (413, 0, 2), (416, 1, 13), (405, 28, 1), (405, 38, 1), (405, 48, (-1)), (405, 27, 1), (405, 29, (w1.toInt32)), (405, 26, 1), (405, 47, 1), (405, 39, 0), (405, 38, 0), (405, 37, 0), (405, 36, 0), (405, 35, 0), (405, 34, 0), (405, 32, 0), (405, 31, 0), (405, 30, 0), (405, 29, 0), (405, 28, 0), (405, 27, 0), (405, 26, 1)] [(417, 1, ((10 * ((w1.toInt32).toInt64)) + 1))] [])) B (by decide) (lKA (hk_K hK 405 rfl rfl)) wI_ap dX9_replays_95 ?_
  refine z_iconst (v := 0) B dX9_replays_98 (by decide) ?_
  refine z_istore (lv' := [(4, .int 0), (0, .ref (b + 405)), (1, .int 0), (2, .int 1), (3, .int 1)]) B dX9_replays_99 (by decide) rfl ?_
  refine z_goto (tgt := 62) B dX9_replays_101 (by decide) ?_
  refine z_iload B dX9_replays_62 0 rfl ?_
  refine z_if_eq (tgt := 180) B dX9_replays_64 (by decide) (fun _ => ?_) (fun h => absurd (by decide) h)
  refine z_iconst (v := (-1)) B dX9_replays_180 (by decide) ?_
  exact z_iret B hr (by decide) (by decide) dX9_replays_181 ⟨rfl, rfl⟩
set_option maxRecDepth 100000 in
set_option maxHeartbeats 4000000 in
theorem ci_X9_goesOn_742 (l : Launch) {g : gx_T} {σ : sx_T} {b : Nat} (hK : lay b σ) (w1 : Int64)  (hI_405_16 : sx_I σ (b + 405) 16 = 0) (hI_406_20 : sx_I σ (b + 406) 20 = 0) (hI_407_20 : sx_I σ (b + 407) 20 = 0) (hI_409_0 : sx_I σ (b + 409) 0 = 1) (hI_410_0 : sx_I σ (b + 410) 0 = (-1)) (hI_412_0 : sx_I σ (b + 412) 0 = 0) (hI_413_0 : sx_I σ (b + 413) 0 = 1) (hI_416_0 : sx_I σ (b + 416) 0 = 0) (hJ_417_0 : sx_J σ (b + 417) 0 = w1) (hR_405_3 : sx_R σ (b + 405) 3 = (some (b + 406))) (hR_405_4 : sx_R σ (b + 405) 4 = (some (b + 407))) (hR_405_7 : sx_R σ (b + 405) 7 = (some (b + 409))) (hR_405_8 : sx_R σ (b + 405) 8 = (some (b + 410))) (hR_405_10 : sx_R σ (b + 405) 10 = (some (b + 412))) (hR_405_11 : sx_R σ (b + 405) 11 = (some (b + 413))) (hR_405_12 : sx_R σ (b + 405) 12 = (some (b + 414))) (hR_405_14 : sx_R σ (b + 405) 14 = (some (b + 416))) (hR_405_15 : sx_R σ (b + 405) 15 = (some (b + 417))) (hR_405_42 : sx_R σ (b + 405) 42 = (some (b + 428))) : Met l yX9_goesOn (.code yX9_goesOn cX9_goesOn 5 none :: lw_g) { frames := 4, cells := 0, slots := 0, locals := 106 } (va_Pc [.ref (b + 405), .int 0] (zx_w g σ)) (va_Qv (fun u => u = (ap b σ [(412, 0, 1), (414, 0, 2), (405, 26, 1), (405, 37, 1), (405, 27, 2), (413, 0, 2), (416, 1, 13), (405, 28, 1), (405, 38, 1), (405, 48, (-1)), (405, 27, 1), (405, 29, (w1.toInt32)), (405, 26, 1), (405, 47, 1), (405, 39, 0), (405, 38, 0), (405, 37, 0), (405, 36, 0), (405, 35, 0), (405, 34, 0), (405, 32, 0), (405, 31, 0), (405, 30, 0), (405, 29, 0), (405, 28, 0), (405, 27, 0), (405, 26, 1), (428, 0, 0)] [(417, 1, ((10 * ((w1.toInt32).toInt64)) + 1))] [])) (zx_w g) (gx_Q g)) 0 0 (gx_Q g) := by
  refine z_met (by decide) (Nat.le_of_ble_eq_true rfl) (fun p e s m below meth c B hr hin => ?_)
  refine z_eqs (σ' := (ap b σ [] [] [])) rfl ?_
  show zx p l e _ s m _ below meth c g 5 0 0 _ _ 0 [(0, .ref (b + 405)), (1, .int 0)] []
  refine z_iconst (v := 1) B dX9_goesOn_0 (by decide) ?_
  refine z_istore_n (lv' := [(2, .int 1), (0, .ref (b + 405)), (1, .int 0)]) B dX9_goesOn_1 rfl (by decide) rfl ?_
  refine z_aload_n B dX9_goesOn_2 rfl 1 rfl ?_
  refine gf_X9_81 (x := (some (b + 428))) B (lKA (hk_K hK 405 rfl rfl)) (rR_at 405 42 hR_405_42) dX9_goesOn_3 ?_
  refine z_iconst (v := 0) B dX9_goesOn_6 (by decide) ?_
  refine z_iload_n B dX9_goesOn_7 rfl 2 rfl ?_
  refine z_iast (j := 0) (σ' := (ap b σ [(428, 0, 0)] [] [])) B (lKA (hk_K hK 428 rfl rfl)) (by decide) (in_of (lNA (hk_N hK 428 rfl rfl)) (show ¬ ((0 : Int32) < 0 ∨ 50 ≤ (0 : Int32).toNatClampNeg) by decide)) wI_ap dX9_goesOn_8 ?_
  refine z_iload_n B dX9_goesOn_9 rfl 0 rfl ?_
  refine z_if_le (tgt := 106) B dX9_goesOn_10 (by decide) (fun h => absurd h (by decide)) (fun _ => ?_)
  refine z_aload_n B dX9_goesOn_13 rfl 1 rfl ?_
  refine gf_X9_81 (x := (some (b + 428))) B (lKA (hk_K hK 405 rfl rfl)) (rR_at 405 42 hR_405_42) dX9_goesOn_14 ?_
  refine z_iload_n B dX9_goesOn_17 rfl 0 rfl ?_
  refine z_iconst (v := 1) B dX9_goesOn_18 (by decide) ?_
  refine z_isub B dX9_goesOn_19 ?_
  refine z_seti (y := 0) (by decide) ?_
  refine z_iald (j := 0) (x := 0) B (lKA (hk_K hK 428 rfl rfl)) (by decide) (in_of (lNA (hk_N hK 428 rfl rfl)) (show ¬ ((0 : Int32) < 0 ∨ 50 ≤ (0 : Int32).toNatClampNeg) by decide)) (rI_at 428 0 rfl) dX9_goesOn_20 ?_
  refine z_istore_n (lv' := [(3, .int 0), (2, .int 1), (0, .ref (b + 405)), (1, .int 0)]) B dX9_goesOn_21 rfl (by decide) rfl ?_
  refine z_aload_n B dX9_goesOn_22 rfl 2 rfl ?_
  refine gf_X9_32 (x := (some (b + 412))) B (lKA (hk_K hK 405 rfl rfl)) (rR_at 405 10 hR_405_10) dX9_goesOn_23 ?_
  refine z_iload_n B dX9_goesOn_26 rfl 0 rfl ?_
  refine z_iald (j := 0) (x := 0) B (lKA (hk_K hK 412 rfl rfl)) (by decide) (in_of (lNA (hk_N hK 412 rfl rfl)) (show ¬ ((0 : Int32) < 0 ∨ 41 ≤ (0 : Int32).toNatClampNeg) by decide)) (rI_at 412 0 hI_412_0) dX9_goesOn_27 ?_
  refine z_if_le (tgt := 35) B dX9_goesOn_28 (by decide) (fun _ => ?_) (fun h => absurd (by decide) h)
  refine z_aload_n B dX9_goesOn_35 rfl 2 rfl ?_
  refine z_iload_n B dX9_goesOn_36 rfl 0 rfl ?_
  refine z_aload_n B dX9_goesOn_37 rfl 2 rfl ?_
  refine gf_X9_35 (x := (some (b + 413))) B (lKA (hk_K hK 405 rfl rfl)) (rR_at 405 11 hR_405_11) dX9_goesOn_38 ?_
  refine z_iload_n B dX9_goesOn_41 rfl 0 rfl ?_
  refine z_iald (j := 0) (x := 1) B (lKA (hk_K hK 413 rfl rfl)) (by decide) (in_of (lNA (hk_N hK 413 rfl rfl)) (show ¬ ((0 : Int32) < 0 ∨ 41 ≤ (0 : Int32).toNatClampNeg) by decide)) (rI_at 413 0 hI_413_0) dX9_goesOn_42 ?_
  refine z_iconst (v := 1) B dX9_goesOn_43 (by decide) ?_
  refine z_cVi (As := [.int 0, .int 1, .int 1]) (rest := []) B cw_X9_216 cx_10 dX9_goesOn_44 (ci_X9_replays_741 l (σ := (ap b σ [(428, 0, 0)] [] [])) (b := b) (lyA hK) w1 (rI_at 406 20 hI_406_20) (rI_at 407 20 hI_407_20) (rI_at 409 0 hI_409_0) (rI_at 413 0 hI_413_0) (rI_at 416 0 hI_416_0) (rJ_at 417 0 hJ_417_0) (rR_at 405 3 hR_405_3) (rR_at 405 4 hR_405_4) (rR_at 405 7 hR_405_7) (rR_at 405 11 hR_405_11) (rR_at 405 14 hR_405_14) (rR_at 405 15 hR_405_15)) (lKA (hk_K hK 405 rfl rfl)) rfl (by decide) rfl (Nat.le_of_ble_eq_true rfl) (by decide) (fun r u hu => ?_)
  refine z_eqs (σ' := (ap b σ [(405, 26, 1), (405, 37, 1), (405, 27, 2), (413, 0, 2), (416, 1, 13), (405, 28, 1), (405, 38, 1), (405, 48, (-1)), (405, 27, 1), (405, 29, (w1.toInt32)), (405, 26, 1), (405, 47, 1), (405, 39, 0), (405, 38, 0), (405, 37, 0), (405, 36, 0), (405, 35, 0), (405, 34, 0), (405, 32, 0), (405, 31, 0), (405, 30, 0), (405, 29, 0), (405, 28, 0), (405, 27, 0), (405, 26, 1), (428, 0, 0)] [(417, 1, ((10 * ((w1.toInt32).toInt64)) + 1))] [])) (hu.2.trans ap_ap) ?_
  show zx p l e _ s m _ below meth c g 5 0 0 _ _ 47 [(3, .int 0), (2, .int 1), (0, .ref (b + 405)), (1, .int 0)] _
  refine z_seti (y := (-1)) hu.1 ?_
  refine z_istore (lv' := [(4, .int (-1)), (3, .int 0), (2, .int 1), (0, .ref (b + 405)), (1, .int 0)]) B dX9_goesOn_47 (by decide) rfl ?_
  refine z_iload B dX9_goesOn_49 0 rfl ?_
  refine z_iconst (v := (-1)) B dX9_goesOn_51 (by decide) ?_
  refine z_icmp_eq (tgt := 69) B dX9_goesOn_52 (by decide) (fun _ => ?_) (fun h => absurd (by decide) h)
  refine z_iinc (v := 0) (lv' := [(2, .int 0), (4, .int (-1)), (3, .int 0), (0, .ref (b + 405)), (1, .int 0)]) B dX9_goesOn_69 2 rfl (by decide) (by decide) rfl ?_
  refine z_aload_n B dX9_goesOn_72 rfl 3 rfl ?_
  refine gf_X9_32 (x := (some (b + 412))) B (lKA (hk_K hK 405 rfl rfl)) (rR_at 405 10 hR_405_10) dX9_goesOn_73 ?_
  refine z_iload_n B dX9_goesOn_76 rfl 2 rfl ?_
  refine z_iald (j := 0) (x := 0) B (lKA (hk_K hK 412 rfl rfl)) (by decide) (in_of (lNA (hk_N hK 412 rfl rfl)) (show ¬ ((0 : Int32) < 0 ∨ 41 ≤ (0 : Int32).toNatClampNeg) by decide)) (rI_at 412 0 hI_412_0) dX9_goesOn_77 ?_
  refine z_if_ne (tgt := 103) B dX9_goesOn_78 (by decide) (fun h => absurd (by decide) h) (fun _ => ?_)
  refine z_aload_n B dX9_goesOn_81 rfl 3 rfl ?_
  refine gf_X9_103 (x := 1) B (lKA (hk_K hK 405 rfl rfl)) (rI_at 405 26 rfl) dX9_goesOn_82 ?_
  refine z_if_eq (tgt := 103) B dX9_goesOn_85 (by decide) (fun h => absurd h (by decide)) (fun _ => ?_)
  refine z_aload_n B dX9_goesOn_88 rfl 3 rfl ?_
  refine gf_X9_38 (x := (some (b + 414))) B (lKA (hk_K hK 405 rfl rfl)) (rR_at 405 12 hR_405_12) dX9_goesOn_89 ?_
  refine z_iload_n B dX9_goesOn_92 rfl 2 rfl ?_
  refine z_aload_n B dX9_goesOn_93 rfl 3 rfl ?_
  refine gf_X9_107 (x := 2) B (lKA (hk_K hK 405 rfl rfl)) (rI_at 405 27 rfl) dX9_goesOn_94 ?_
  refine z_iast (j := 0) (σ' := (ap b σ [(414, 0, 2), (405, 26, 1), (405, 37, 1), (405, 27, 2), (413, 0, 2), (416, 1, 13), (405, 28, 1), (405, 38, 1), (405, 48, (-1)), (405, 27, 1), (405, 29, (w1.toInt32)), (405, 26, 1), (405, 47, 1), (405, 39, 0), (405, 38, 0), (405, 37, 0), (405, 36, 0), (405, 35, 0), (405, 34, 0), (405, 32, 0), (405, 31, 0), (405, 30, 0), (405, 29, 0), (405, 28, 0), (405, 27, 0), (405, 26, 1), (428, 0, 0)] [(417, 1, ((10 * ((w1.toInt32).toInt64)) + 1))] [])) B (lKA (hk_K hK 414 rfl rfl)) (by decide) (in_of (lNA (hk_N hK 414 rfl rfl)) (show ¬ ((0 : Int32) < 0 ∨ 41 ≤ (0 : Int32).toNatClampNeg) by decide)) wI_ap dX9_goesOn_97 ?_
  refine z_aload_n B dX9_goesOn_98 rfl 3 rfl ?_
  refine z_iload_n B dX9_goesOn_99 rfl 2 rfl ?_
  refine z_cVv (As := [.int 0]) (rest := []) B cw_X9_220 cx_10 dX9_goesOn_100 (ci_X9_rests_712 l (σ := (ap b σ [(414, 0, 2), (405, 26, 1), (405, 37, 1), (405, 27, 2), (413, 0, 2), (416, 1, 13), (405, 28, 1), (405, 38, 1), (405, 48, (-1)), (405, 27, 1), (405, 29, (w1.toInt32)), (405, 26, 1), (405, 47, 1), (405, 39, 0), (405, 38, 0), (405, 37, 0), (405, 36, 0), (405, 35, 0), (405, 34, 0), (405, 32, 0), (405, 31, 0), (405, 30, 0), (405, 29, 0), (405, 28, 0), (405, 27, 0), (405, 26, 1), (428, 0, 0)] [(417, 1, ((10 * ((w1.toInt32).toInt64)) + 1))] [])) (b := b) (lyA hK) (w1.toInt32) (rI_at 405 16 hI_405_16) (rI_at 405 29 rfl) (rI_at 405 30 rfl) (rI_at 405 37 rfl) (rI_at 410 0 hI_410_0) (rR_at 405 8 hR_405_8) (rR_at 405 10 hR_405_10)) (lKA (hk_K hK 405 rfl rfl)) rfl (by decide) rfl (Nat.le_of_ble_eq_true rfl) (by decide) (fun u hu => ?_)
  refine z_eqs (σ' := (ap b σ [(412, 0, 1), (414, 0, 2), (405, 26, 1), (405, 37, 1), (405, 27, 2), (413, 0, 2), (416, 1, 13), (405, 28, 1), (405, 38, 1), (405, 48, (-1)), (405, 27, 1), (405, 29, (w1.toInt32)), (405, 26, 1), (405, 47, 1), (405, 39, 0), (405, 38, 0), (405, 37, 0), (405, 36, 0), (405, 35, 0), (405, 34, 0), (405, 32, 0), (405, 31, 0), (405, 30, 0), (405, 29, 0), (405, 28, 0), (405, 27, 0), (405, 26, 1), (428, 0, 0)] [(417, 1, ((10 * ((w1.toInt32).toInt64)) + 1))] [])) (hu.trans ap_ap) ?_
  show zx p l e _ s m _ below meth c g 5 0 0 _ _ 103 [(2, .int 0), (4, .int (-1)), (3, .int 0), (0, .ref (b + 405)), (1, .int 0)] _
  refine z_goto (tgt := 9) B dX9_goesOn_103 (by decide) ?_
  refine z_iload_n B dX9_goesOn_9 rfl 0 rfl ?_
  refine z_if_le (tgt := 106) B dX9_goesOn_10 (by decide) (fun _ => ?_) (fun h => absurd (by decide) h)
  exact z_vret B hr (by decide) (by decide) dX9_goesOn_106 rfl
set_option maxRecDepth 100000 in
set_option maxHeartbeats 4000000 in
theorem ci_X9_runs_743 (l : Launch) {g : gx_T} {σ : sx_T} {b : Nat} (hK : lay b σ) (w1 : Int64)  (hI_405_16 : sx_I σ (b + 405) 16 = 0) (hI_406_20 : sx_I σ (b + 406) 20 = 0) (hI_407_20 : sx_I σ (b + 407) 20 = 0) (hI_409_0 : sx_I σ (b + 409) 0 = 1) (hI_410_0 : sx_I σ (b + 410) 0 = (-1)) (hI_412_0 : sx_I σ (b + 412) 0 = 0) (hI_413_0 : sx_I σ (b + 413) 0 = 1) (hI_416_0 : sx_I σ (b + 416) 0 = 0) (hJ_417_0 : sx_J σ (b + 417) 0 = w1) (hR_405_3 : sx_R σ (b + 405) 3 = (some (b + 406))) (hR_405_4 : sx_R σ (b + 405) 4 = (some (b + 407))) (hR_405_7 : sx_R σ (b + 405) 7 = (some (b + 409))) (hR_405_8 : sx_R σ (b + 405) 8 = (some (b + 410))) (hR_405_10 : sx_R σ (b + 405) 10 = (some (b + 412))) (hR_405_11 : sx_R σ (b + 405) 11 = (some (b + 413))) (hR_405_12 : sx_R σ (b + 405) 12 = (some (b + 414))) (hR_405_14 : sx_R σ (b + 405) 14 = (some (b + 416))) (hR_405_15 : sx_R σ (b + 405) 15 = (some (b + 417))) (hR_405_42 : sx_R σ (b + 405) 42 = (some (b + 428))) : Met l yX9_runs (.code yX9_runs cX9_runs 5 none :: lw_g) { frames := 5, cells := 0, slots := 0, locals := 130 } (va_Pc [.ref (b + 405), .int 0] (zx_w g σ)) (va_Qv (fun u => u = (ap b σ [(412, 0, 1), (414, 0, 2), (405, 26, 1), (405, 37, 1), (405, 27, 2), (413, 0, 2), (416, 1, 13), (405, 28, 1), (405, 38, 1), (405, 48, (-1)), (405, 27, 1), (405, 29, (w1.toInt32)), (405, 26, 1), (405, 47, 1), (405, 39, 0), (405, 38, 0), (405, 37, 0), (405, 36, 0), (405, 35, 0), (405, 34, 0), (405, 32, 0), (405, 31, 0), (405, 30, 0), (405, 29, 0), (405, 28, 0), (405, 27, 0), (405, 26, 1), (428, 0, 0), (405, 45, 0), (405, 43, 0)] [(417, 1, ((10 * ((w1.toInt32).toInt64)) + 1))] [])) (zx_w g) (gx_Q g)) 0 0 (gx_Q g) := by
  refine z_met (by decide) (Nat.le_of_ble_eq_true rfl) (fun p e s m below meth c B hr hin => ?_)
  refine z_eqs (σ' := (ap b σ [] [] [])) rfl ?_
  show zx p l e _ s m _ below meth c g 5 0 0 _ _ 0 [(0, .ref (b + 405)), (1, .int 0)] []
  refine z_aload_n B dX9_runs_0 rfl 0 rfl ?_
  refine z_iconst (v := 0) B dX9_runs_1 (by decide) ?_
  refine pf_X9_226 (x := 0) (σ' := (ap b σ [(405, 43, 0)] [] [])) B (lKA (hk_K hK 405 rfl rfl)) wI_ap dX9_runs_2 ?_
  refine z_aload_n B dX9_runs_5 rfl 0 rfl ?_
  refine z_iconst (v := 0) B dX9_runs_6 (by decide) ?_
  refine pf_X9_159 (x := 0) (σ' := (ap b σ [(405, 45, 0), (405, 43, 0)] [] [])) B (lKA (hk_K hK 405 rfl rfl)) wI_ap dX9_runs_7 ?_
  refine z_aload_n B dX9_runs_10 rfl 0 rfl ?_
  refine z_iload_n B dX9_runs_11 rfl 1 rfl ?_
  refine z_cVv (As := [.int 0]) (rest := []) B cw_X9_229 cx_10 dX9_runs_12 (ci_X9_goesOn_742 l (σ := (ap b σ [(405, 45, 0), (405, 43, 0)] [] [])) (b := b) (lyA hK) w1 (rI_at 405 16 hI_405_16) (rI_at 406 20 hI_406_20) (rI_at 407 20 hI_407_20) (rI_at 409 0 hI_409_0) (rI_at 410 0 hI_410_0) (rI_at 412 0 hI_412_0) (rI_at 413 0 hI_413_0) (rI_at 416 0 hI_416_0) (rJ_at 417 0 hJ_417_0) (rR_at 405 3 hR_405_3) (rR_at 405 4 hR_405_4) (rR_at 405 7 hR_405_7) (rR_at 405 8 hR_405_8) (rR_at 405 10 hR_405_10) (rR_at 405 11 hR_405_11) (rR_at 405 12 hR_405_12) (rR_at 405 14 hR_405_14) (rR_at 405 15 hR_405_15) (rR_at 405 42 hR_405_42)) (lKA (hk_K hK 405 rfl rfl)) rfl (by decide) rfl (Nat.le_of_ble_eq_true rfl) (by decide) (fun u hu => ?_)
  refine z_eqs (σ' := (ap b σ [(412, 0, 1), (414, 0, 2), (405, 26, 1), (405, 37, 1), (405, 27, 2), (413, 0, 2), (416, 1, 13), (405, 28, 1), (405, 38, 1), (405, 48, (-1)), (405, 27, 1), (405, 29, (w1.toInt32)), (405, 26, 1), (405, 47, 1), (405, 39, 0), (405, 38, 0), (405, 37, 0), (405, 36, 0), (405, 35, 0), (405, 34, 0), (405, 32, 0), (405, 31, 0), (405, 30, 0), (405, 29, 0), (405, 28, 0), (405, 27, 0), (405, 26, 1), (428, 0, 0), (405, 45, 0), (405, 43, 0)] [(417, 1, ((10 * ((w1.toInt32).toInt64)) + 1))] [])) (hu.trans ap_ap) ?_
  show zx p l e _ s m _ below meth c g 5 0 0 _ _ 15 [(0, .ref (b + 405)), (1, .int 0)] _
  refine z_iconst (v := 0) B dX9_runs_15 (by decide) ?_
  refine z_istore_n (lv' := [(2, .int 0), (0, .ref (b + 405)), (1, .int 0)]) B dX9_runs_16 rfl (by decide) rfl ?_
  refine z_iconst (v := 0) B dX9_runs_17 (by decide) ?_
  refine z_istore_n (lv' := [(3, .int 0), (2, .int 0), (0, .ref (b + 405)), (1, .int 0)]) B dX9_runs_18 rfl (by decide) rfl ?_
  refine z_iload_n B dX9_runs_19 rfl 1 rfl ?_
  refine z_aload_n B dX9_runs_20 rfl 2 rfl ?_
  refine gf_X9_226 (x := 0) B (lKA (hk_K hK 405 rfl rfl)) (rI_at 405 43 rfl) dX9_runs_21 ?_
  refine z_icmp_lt (tgt := 35) B dX9_runs_24 (by decide) (fun h => absurd h (by decide)) (fun _ => ?_)
  refine z_iload_n B dX9_runs_27 rfl 0 rfl ?_
  refine z_aload_n B dX9_runs_28 rfl 2 rfl ?_
  refine gf_X9_159 (x := 0) B (lKA (hk_K hK 405 rfl rfl)) (rI_at 405 45 rfl) dX9_runs_29 ?_
  refine z_icmp_ge (tgt := 90) B dX9_runs_32 (by decide) (fun _ => ?_) (fun h => absurd (by decide) h)
  exact z_vret B hr (by decide) (by decide) dX9_runs_90 rfl
set_option maxRecDepth 100000 in
set_option maxHeartbeats 4000000 in
theorem ci_X9_start_744 (l : Launch) {g : gx_T} {σ : sx_T} {b : Nat} (hK : lay b σ) (w1 : Int32) (q1_w1 : (-999 : Int) ≤ w1.toInt) (q2_w1 : w1.toInt ≤ (-1 : Int)) (hI_405_6 : sx_I σ (b + 405) 6 = 0) (hI_405_16 : sx_I σ (b + 405) 16 = 0) (hI_406_20 : sx_I σ (b + 406) 20 = 0) (hI_407_20 : sx_I σ (b + 407) 20 = 0) (hI_412_0 : sx_I σ (b + 412) 0 = 0) (hI_413_0 : sx_I σ (b + 413) 0 = 0) (hR_405_3 : sx_R σ (b + 405) 3 = (some (b + 406))) (hR_405_4 : sx_R σ (b + 405) 4 = (some (b + 407))) (hR_405_7 : sx_R σ (b + 405) 7 = (some (b + 409))) (hR_405_8 : sx_R σ (b + 405) 8 = (some (b + 410))) (hR_405_9 : sx_R σ (b + 405) 9 = (some (b + 411))) (hR_405_10 : sx_R σ (b + 405) 10 = (some (b + 412))) (hR_405_11 : sx_R σ (b + 405) 11 = (some (b + 413))) (hR_405_12 : sx_R σ (b + 405) 12 = (some (b + 414))) (hR_405_13 : sx_R σ (b + 405) 13 = (some (b + 415))) (hR_405_14 : sx_R σ (b + 405) 14 = (some (b + 416))) (hR_405_15 : sx_R σ (b + 405) 15 = (some (b + 417))) (hR_405_42 : sx_R σ (b + 405) 42 = (some (b + 428))) : Met l yX9_start (.code yX9_start cX9_start 4 (some .int) :: lw_g) { frames := 6, cells := 0, slots := 0, locals := 154 } (va_Pc [.ref (b + 405), .int 1, .int w1] (zx_w g σ)) (va_Qi (fun r u => r = 0 ∧ u = (ap b σ [(412, 0, 1), (414, 0, 2), (405, 26, 1), (405, 37, 1), (405, 27, 2), (413, 0, 2), (416, 1, 13), (405, 28, 1), (405, 38, 1), (405, 48, (-1)), (405, 27, 1), (405, 29, ((w1.toInt64).toInt32)), (405, 26, 1), (405, 47, 1), (405, 39, 0), (405, 38, 0), (405, 37, 0), (405, 36, 0), (405, 35, 0), (405, 34, 0), (405, 32, 0), (405, 31, 0), (405, 30, 0), (405, 29, 0), (405, 28, 0), (405, 27, 0), (405, 26, 1), (428, 0, 0), (405, 45, 0), (405, 43, 0), (413, 0, 1), (416, 0, 0), (415, 0, (-1)), (411, 0, 0), (410, 0, (-1)), (409, 0, 1), (405, 6, 1), (405, 0, 0)] [(417, 1, ((10 * (((w1.toInt64).toInt32).toInt64)) + 1)), (417, 0, (w1.toInt64))] [])) (zx_w g) (gx_Q g)) 0 0 (gx_Q g) := by
  refine z_met (by decide) (Nat.le_of_ble_eq_true rfl) (fun p e s m below meth c B hr hin => ?_)
  refine z_eqs (σ' := (ap b σ [] [] [])) rfl ?_
  show zx p l e _ s m _ below meth c g 4 0 0 _ _ 0 [(0, .ref (b + 405)), (1, .int 1), (2, .int w1)] []
  refine z_aload_n B dX9_start_0 rfl 0 rfl ?_
  refine z_iload_n B dX9_start_1 rfl 1 rfl ?_
  refine z_iconst (v := 0) B dX9_start_2 (by decide) ?_
  refine z_iconst (v := 5) B dX9_start_3 (by decide) ?_
  refine z_cSi (As := [.int 1, .int 0, .int 5]) (rest := [.ref (b + 405)]) B cw_X9_96 dX9_start_4 (ci_X9_in_125 l (σ := (ap b σ [] [] [])) (b := b) (lyA hK) ) rfl (by decide) rfl (Nat.le_of_ble_eq_true rfl) (by decide) (fun r u hu => ?_)
  refine z_eqs (σ' := (ap b σ [] [] [])) hu.2 ?_
  show zx p l e _ s m _ below meth c g 4 0 0 _ _ 7 [(0, .ref (b + 405)), (1, .int 1), (2, .int w1)] _
  refine z_seti (y := 1) hu.1 ?_
  refine z_iload_n B dX9_start_7 rfl 2 rfl ?_
  refine z_sipush (v := (-999)) B dX9_start_8 (by decide) ?_
  refine z_sipush (v := 999) B dX9_start_11 (by decide) ?_
  refine z_cSi (As := [.int w1, .int (-999), .int 999]) (rest := [.int 1, .ref (b + 405)]) B cw_X9_96 dX9_start_14 (ci_X9_in_702 l (σ := (ap b σ [] [] [])) (b := b) (lyA hK) w1 q1_w1 q2_w1) rfl (by decide) rfl (Nat.le_of_ble_eq_true rfl) (by decide) (fun r u hu => ?_)
  refine z_eqs (σ' := (ap b σ [] [] [])) hu.2 ?_
  show zx p l e _ s m _ below meth c g 4 0 0 _ _ 17 [(0, .ref (b + 405)), (1, .int 1), (2, .int w1)] _
  refine z_seti (y := 1) hu.1 ?_
  refine z_aload_n B dX9_start_17 rfl 0 rfl ?_
  refine gf_X9_93 (x := 0) B (lKA (hk_K hK 405 rfl rfl)) (rI_at 405 6 hI_405_6) dX9_start_18 ?_
  refine z_bipush (v := 40) B dX9_start_21 (by decide) ?_
  refine z_icmp_ge (tgt := 30) B dX9_start_23 (by decide) (fun h => absurd h (by decide)) (fun _ => ?_)
  refine z_iconst (v := 1) B dX9_start_26 (by decide) ?_
  refine z_goto (tgt := 31) B dX9_start_27 (by decide) ?_
  refine z_cVi (As := [.int 1, .int 1, .int 1]) (rest := []) B cw_X9_259 cx_10 dX9_start_31 (ci_X9_needs___703 l (σ := (ap b σ [] [] [])) (b := b) (lyA hK) ) (lKA (hk_K hK 405 rfl rfl)) rfl (by decide) rfl (Nat.le_of_ble_eq_true rfl) (by decide) (fun r u hu => ?_)
  refine z_eqs (σ' := (ap b σ [(405, 0, 0)] [] [])) (hu.2.trans ap_ap) ?_
  show zx p l e _ s m _ below meth c g 4 0 0 _ _ 34 [(0, .ref (b + 405)), (1, .int 1), (2, .int w1)] _
  refine z_seti (y := 1) hu.1 ?_
  refine z_if_ne (tgt := 39) B dX9_start_34 (by decide) (fun _ => ?_) (fun h => absurd h (by decide))
  refine z_aload_n B dX9_start_39 rfl 0 rfl ?_
  refine z_iload_n B dX9_start_40 rfl 1 rfl ?_
  refine z_iload_n B dX9_start_41 rfl 2 rfl ?_
  refine z_iconst (v := (-1)) B dX9_start_42 (by decide) ?_
  refine z_iconst (v := (-1)) B dX9_start_43 (by decide) ?_
  refine z_cVi (As := [.int 1, .int w1, .int (-1), .int (-1)]) (rest := []) B cw_X9_168 cx_10 dX9_start_44 (ci_X9_begets_739 l (σ := (ap b σ [(405, 0, 0)] [] [])) (b := b) (lyA hK) w1 (rI_at 405 6 hI_405_6) (rI_at 413 0 hI_413_0) (rR_at 405 7 hR_405_7) (rR_at 405 8 hR_405_8) (rR_at 405 9 hR_405_9) (rR_at 405 11 hR_405_11) (rR_at 405 13 hR_405_13) (rR_at 405 14 hR_405_14) (rR_at 405 15 hR_405_15)) (lKA (hk_K hK 405 rfl rfl)) rfl (by decide) rfl (Nat.le_of_ble_eq_true rfl) (by decide) (fun r u hu => ?_)
  refine z_eqs (σ' := (ap b σ [(413, 0, 1), (416, 0, 0), (415, 0, (-1)), (411, 0, 0), (410, 0, (-1)), (409, 0, 1), (405, 6, 1), (405, 0, 0)] [(417, 0, (w1.toInt64))] [])) (hu.2.trans ap_ap) ?_
  show zx p l e _ s m _ below meth c g 4 0 0 _ _ 47 [(0, .ref (b + 405)), (1, .int 1), (2, .int w1)] _
  refine z_seti (y := 0) hu.1 ?_
  refine z_istore_n (lv' := [(3, .int 0), (0, .ref (b + 405)), (1, .int 1), (2, .int w1)]) B dX9_start_47 rfl (by decide) rfl ?_
  refine z_aload_n B dX9_start_48 rfl 1 rfl ?_
  refine z_iload_n B dX9_start_49 rfl 0 rfl ?_
  refine z_cVv (As := [.int 0]) (rest := []) B cw_X9_253 cx_10 dX9_start_50 (ci_X9_runs_743 l (σ := (ap b σ [(413, 0, 1), (416, 0, 0), (415, 0, (-1)), (411, 0, 0), (410, 0, (-1)), (409, 0, 1), (405, 6, 1), (405, 0, 0)] [(417, 0, (w1.toInt64))] [])) (b := b) (lyA hK) (w1.toInt64) (rI_at 405 16 hI_405_16) (rI_at 406 20 hI_406_20) (rI_at 407 20 hI_407_20) (rI_at 409 0 rfl) (rI_at 410 0 rfl) (rI_at 412 0 hI_412_0) (rI_at 413 0 rfl) (rI_at 416 0 rfl) (rJ_at 417 0 rfl) (rR_at 405 3 hR_405_3) (rR_at 405 4 hR_405_4) (rR_at 405 7 hR_405_7) (rR_at 405 8 hR_405_8) (rR_at 405 10 hR_405_10) (rR_at 405 11 hR_405_11) (rR_at 405 12 hR_405_12) (rR_at 405 14 hR_405_14) (rR_at 405 15 hR_405_15) (rR_at 405 42 hR_405_42)) (lKA (hk_K hK 405 rfl rfl)) rfl (by decide) rfl (Nat.le_of_ble_eq_true rfl) (by decide) (fun u hu => ?_)
  refine z_eqs (σ' := (ap b σ [(412, 0, 1), (414, 0, 2), (405, 26, 1), (405, 37, 1), (405, 27, 2), (413, 0, 2), (416, 1, 13), (405, 28, 1), (405, 38, 1), (405, 48, (-1)), (405, 27, 1), (405, 29, ((w1.toInt64).toInt32)), (405, 26, 1), (405, 47, 1), (405, 39, 0), (405, 38, 0), (405, 37, 0), (405, 36, 0), (405, 35, 0), (405, 34, 0), (405, 32, 0), (405, 31, 0), (405, 30, 0), (405, 29, 0), (405, 28, 0), (405, 27, 0), (405, 26, 1), (428, 0, 0), (405, 45, 0), (405, 43, 0), (413, 0, 1), (416, 0, 0), (415, 0, (-1)), (411, 0, 0), (410, 0, (-1)), (409, 0, 1), (405, 6, 1), (405, 0, 0)] [(417, 1, ((10 * (((w1.toInt64).toInt32).toInt64)) + 1)), (417, 0, (w1.toInt64))] [])) (hu.trans ap_ap) ?_
  show zx p l e _ s m _ below meth c g 4 0 0 _ _ 53 [(3, .int 0), (0, .ref (b + 405)), (1, .int 1), (2, .int w1)] _
  refine z_iload_n B dX9_start_53 rfl 0 rfl ?_
  exact z_iret B hr (by decide) (by decide) dX9_start_54 ⟨rfl, rfl⟩
set_option maxRecDepth 100000 in
set_option maxHeartbeats 4000000 in
theorem ci_X8_goOn_745 (l : Launch) {g : gx_T} {σ : sx_T} {b : Nat} (hK : lay b σ) (w1 : Int32) (q1_w1 : (0 : Int) ≤ w1.toInt) (q2_w1 : w1.toInt ≤ (999 : Int)) (hI_5_1 : sx_I σ (b + 5) 1 = 0) (hI_5_2 : sx_I σ (b + 5) 2 = 0) (hI_7_1 : sx_I σ (b + 7) 1 = 0) (hI_7_2 : sx_I σ (b + 7) 2 = 0) (hI_14_0 : sx_I σ (b + 14) 0 = 0) (hI_15_0 : sx_I σ (b + 15) 0 = 0) (hI_16_0 : sx_I σ (b + 16) 0 = 0) (hI_37_2 : sx_I σ (b + 37) 2 = 1) (hI_40_4 : sx_I σ (b + 40) 4 = (-1)) (hI_40_8 : sx_I σ (b + 40) 8 = 0) (hI_41_4 : sx_I σ (b + 41) 4 = 1) (hI_41_5 : sx_I σ (b + 41) 5 = 0) (hI_41_6 : sx_I σ (b + 41) 6 = w1) (hI_41_7 : sx_I σ (b + 41) 7 = 0) (hI_41_8 : sx_I σ (b + 41) 8 = 0) (hI_41_14 : sx_I σ (b + 41) 14 = 0) (hI_41_15 : sx_I σ (b + 41) 15 = 0) (hI_41_16 : sx_I σ (b + 41) 16 = (-1)) (hI_41_18 : sx_I σ (b + 41) 18 = (-1)) (hI_41_19 : sx_I σ (b + 41) 19 = 0) (hR_0_4 : sx_R σ (b + 0) 4 = (some (b + 5))) (hR_0_5 : sx_R σ (b + 0) 5 = (some (b + 7))) (hR_5_0 : sx_R σ (b + 5) 0 = (some (b + 6))) (hR_13_1 : sx_R σ (b + 13) 1 = (some (b + 14))) (hR_13_2 : sx_R σ (b + 13) 2 = (some (b + 15))) (hR_13_3 : sx_R σ (b + 13) 3 = (some (b + 16))) (hR_37_0 : sx_R σ (b + 37) 0 = (some (b + 38))) (hR_37_1 : sx_R σ (b + 37) 1 = (some (b + 39))) (hR_40_1 : sx_R σ (b + 40) 1 = (some (b + 37))) (hR_40_2 : sx_R σ (b + 40) 2 = (some (b + 41))) (hR_40_7 : sx_R σ (b + 40) 7 = none) (hR_41_2 : sx_R σ (b + 41) 2 = (some (b + 13))) (hR_41_3 : sx_R σ (b + 41) 3 = (some (b + 37))) : Met l yX8_goOn (.code yX8_goOn cX8_goOn 5 none :: lw_g) { frames := 3, cells := 0, slots := 0, locals := 72 } (va_Pc [.ref (b + 0), .ref (b + 40)] (zx_w g σ)) (va_Qv (fun u => u = (ap b σ [(7, 2, 0), (7, 1, 0), (40, 8, 2), (5, 2, 0), (41, 19, 0), (41, 19, 0), (41, 15, 1), (41, 4, 2), (41, 16, (-1)), (37, 2, 2), (38, 1, 13), (41, 16, 13), (41, 7, 1), (41, 5, 1), (5, 2, 1)] [(39, 1, ((10 * (w1.toInt64)) + 1)), (41, 17, ((10 * (w1.toInt64)) + 1))] [(6, 0, (some (b + 40)))])) (zx_w g) (gx_Q g)) 0 0 (gx_Q g) := by
  refine z_met (by decide) (Nat.le_of_ble_eq_true rfl) (fun p e s m below meth c B hr hin => ?_)
  refine z_eqs (σ' := (ap b σ [] [] [])) rfl ?_
  show zx p l e _ s m _ below meth c g 5 0 0 _ _ 0 [(0, .ref (b + 0)), (1, .ref (b + 40))] []
  refine z_aload_n B dX8_goOn_0 rfl 0 rfl ?_
  refine gf_X8_35 (x := (some (b + 5))) B (lKA (hk_K hK 0 rfl rfl)) (rR_at 0 4 hR_0_4) dX8_goOn_1 ?_
  refine z_aload_n B dX8_goOn_4 rfl 1 rfl ?_
  refine z_cVv (As := [.ref (b + 40)]) (rest := []) B cw_X8_337 cx_3 dX8_goOn_5 (ci_X2_addLast_667 l (σ := (ap b σ [] [] [])) (b := b) (lyA hK) (rI_at 5 2 hI_5_2) (rR_at 5 0 hR_5_0)) (lKA (hk_K hK 5 rfl rfl)) rfl (by decide) rfl (Nat.le_of_ble_eq_true rfl) (by decide) (fun u hu => ?_)
  refine z_eqs (σ' := (ap b σ [(5, 2, 1)] [] [(6, 0, (some (b + 40)))])) (hu.trans ap_ap) ?_
  show zx p l e _ s m _ below meth c g 5 0 0 _ _ 8 [(0, .ref (b + 0)), (1, .ref (b + 40))] _
  refine z_iconst (v := 0) B dX8_goOn_8 (by decide) ?_
  refine z_istore_n (lv' := [(2, .int 0), (0, .ref (b + 0)), (1, .ref (b + 40))]) B dX8_goOn_9 rfl (by decide) rfl ?_
  refine z_iload_n B dX8_goOn_10 rfl 0 rfl ?_
  refine z_ldcw (v := 1000000) B dX8_goOn_11 wg_515 ?_
  refine z_icmp_ge (tgt := 126) B dX8_goOn_14 (by decide) (fun h => absurd h (by decide)) (fun _ => ?_)
  refine z_aload_n B dX8_goOn_17 rfl 1 rfl ?_
  refine gf_X8_35 (x := (some (b + 5))) B (lKA (hk_K hK 0 rfl rfl)) (rR_at 0 4 hR_0_4) dX8_goOn_18 ?_
  refine z_cVi (As := []) (rest := []) B cw_X8_341 cx_3 dX8_goOn_21 (ci_X2_isEmpty_668 l (σ := (ap b σ [(5, 2, 1)] [] [(6, 0, (some (b + 40)))])) (b := b) (lyA hK) (rI_at 5 1 hI_5_1) (rI_at 5 2 rfl)) (lKA (hk_K hK 5 rfl rfl)) rfl (by decide) rfl (Nat.le_of_ble_eq_true rfl) (by decide) (fun r u hu => ?_)
  refine z_eqs (σ' := (ap b σ [(5, 2, 1)] [] [(6, 0, (some (b + 40)))])) hu.2 ?_
  show zx p l e _ s m _ below meth c g 5 0 0 _ _ 24 [(2, .int 0), (0, .ref (b + 0)), (1, .ref (b + 40))] _
  refine z_seti (y := 0) hu.1 ?_
  refine z_if_eq (tgt := 41) B dX8_goOn_24 (by decide) (fun _ => ?_) (fun h => absurd (by decide) h)
  refine z_aload_n B dX8_goOn_41 rfl 1 rfl ?_
  refine gf_X8_35 (x := (some (b + 5))) B (lKA (hk_K hK 0 rfl rfl)) (rR_at 0 4 hR_0_4) dX8_goOn_42 ?_
  refine z_cVq (As := []) (rest := []) B cw_X8_348 cx_3 dX8_goOn_45 (ci_X2_last_669 l (σ := (ap b σ [(5, 2, 1)] [] [(6, 0, (some (b + 40)))])) (b := b) (lyA hK) (rI_at 5 1 hI_5_1) (rI_at 5 2 rfl) (rR_at 5 0 hR_5_0) (rR_at 6 0 rfl)) (lKA (hk_K hK 5 rfl rfl)) rfl (by decide) rfl (Nat.le_of_ble_eq_true rfl) (by decide) (fun r u hu => ?_)
  refine z_eqs (σ' := (ap b σ [(5, 2, 1)] [] [(6, 0, (some (b + 40)))])) hu.2 ?_
  show zx p l e _ s m _ below meth c g 5 0 0 _ _ 48 [(2, .int 0), (0, .ref (b + 0)), (1, .ref (b + 40))] _
  refine z_setr (y := (some (b + 40))) hu.1 ?_
  refine z_astore_n (lv' := [(3, .ref (b + 40)), (2, .int 0), (0, .ref (b + 0)), (1, .ref (b + 40))]) B dX8_goOn_48 rfl (by decide) rfl ?_
  refine z_aload_n B dX8_goOn_49 rfl 0 rfl ?_
  refine z_ifnonnull (r := (some (b + 40))) (tgt := 54) B dX8_goOn_50 (by decide) (fun _ _ => ?_) (fun h => nomatch h)
  refine z_aload_n B dX8_goOn_54 rfl 0 rfl ?_
  refine gf_X8_249 (x := (some (b + 41))) B (lKA (hk_K hK 40 rfl rfl)) (rR_at 40 2 hR_40_2) dX8_goOn_55 ?_
  refine z_aload_n B dX8_goOn_58 rfl 0 rfl ?_
  refine gf_X8_179 (x := (some (b + 37))) B (lKA (hk_K hK 40 rfl rfl)) (rR_at 40 1 hR_40_1) dX8_goOn_59 ?_
  refine z_cVi (As := []) (rest := [.ref (b + 41)]) B cw_X8_183 cx_2 dX8_goOn_62 (ci_X1_size_670 l (σ := (ap b σ [(5, 2, 1)] [] [(6, 0, (some (b + 40)))])) (b := b) (lyA hK) (rI_at 37 2 hI_37_2)) (lKA (hk_K hK 37 rfl rfl)) rfl (by decide) rfl (Nat.le_of_ble_eq_true rfl) (by decide) (fun r u hu => ?_)
  refine z_eqs (σ' := (ap b σ [(5, 2, 1)] [] [(6, 0, (some (b + 40)))])) hu.2 ?_
  show zx p l e _ s m _ below meth c g 5 0 0 _ _ 65 [(3, .ref (b + 40)), (2, .int 0), (0, .ref (b + 0)), (1, .ref (b + 40))] _
  refine z_seti (y := 1) hu.1 ?_
  refine z_cVv (As := [.int 1]) (rest := []) B cw_X8_289 cx_6 dX8_goOn_65 (ci_X5_advance_735 l (σ := (ap b σ [(5, 2, 1)] [] [(6, 0, (some (b + 40)))])) (b := b) (lyA hK) w1 (rI_at 14 0 hI_14_0) (rI_at 15 0 hI_15_0) (rI_at 16 0 hI_16_0) (rI_at 41 4 hI_41_4) (rI_at 41 5 hI_41_5) (rI_at 41 6 hI_41_6) (rI_at 41 7 hI_41_7) (rI_at 41 8 hI_41_8) (rI_at 41 14 hI_41_14) (rI_at 41 15 hI_41_15) (rI_at 41 16 hI_41_16) (rI_at 41 19 hI_41_19) (rR_at 13 1 hR_13_1) (rR_at 13 2 hR_13_2) (rR_at 13 3 hR_13_3) (rR_at 41 2 hR_41_2)) (lKA (hk_K hK 41 rfl rfl)) rfl (by decide) rfl (Nat.le_of_ble_eq_true rfl) (by decide) (fun u hu => ?_)
  refine z_eqs (σ' := (ap b σ [(41, 16, 13), (41, 7, 1), (41, 5, 1), (5, 2, 1)] [(41, 17, ((10 * (w1.toInt64)) + 1))] [(6, 0, (some (b + 40)))])) (hu.trans ap_ap) ?_
  show zx p l e _ s m _ below meth c g 5 0 0 _ _ 68 [(3, .ref (b + 40)), (2, .int 0), (0, .ref (b + 0)), (1, .ref (b + 40))] _
  refine z_aload_n B dX8_goOn_68 rfl 0 rfl ?_
  refine z_cVv (As := []) (rest := []) B cw_X8_351 cx_1 dX8_goOn_69 (ci_X0_letGo_679 l (σ := (ap b σ [(41, 16, 13), (41, 7, 1), (41, 5, 1), (5, 2, 1)] [(41, 17, ((10 * (w1.toInt64)) + 1))] [(6, 0, (some (b + 40)))])) (b := b) (lyA hK) (rR_at 40 7 hR_40_7)) (lKA (hk_K hK 40 rfl rfl)) rfl (by decide) rfl (Nat.le_of_ble_eq_true rfl) (by decide) (fun u hu => ?_)
  refine z_eqs (σ' := (ap b σ [(41, 16, 13), (41, 7, 1), (41, 5, 1), (5, 2, 1)] [(41, 17, ((10 * (w1.toInt64)) + 1))] [(6, 0, (some (b + 40)))])) hu ?_
  show zx p l e _ s m _ below meth c g 5 0 0 _ _ 72 [(3, .ref (b + 40)), (2, .int 0), (0, .ref (b + 0)), (1, .ref (b + 40))] _
  refine z_aload_n B dX8_goOn_72 rfl 0 rfl ?_
  refine gf_X8_249 (x := (some (b + 41))) B (lKA (hk_K hK 40 rfl rfl)) (rR_at 40 2 hR_40_2) dX8_goOn_73 ?_
  refine z_cVi (As := []) (rest := []) B cw_X8_354 cx_6 dX8_goOn_76 (ci_X5_wantsEvent_680 l (σ := (ap b σ [(41, 16, 13), (41, 7, 1), (41, 5, 1), (5, 2, 1)] [(41, 17, ((10 * (w1.toInt64)) + 1))] [(6, 0, (some (b + 40)))])) (b := b) (lyA hK) (rI_at 41 16 rfl) (rI_at 41 19 hI_41_19)) (lKA (hk_K hK 41 rfl rfl)) rfl (by decide) rfl (Nat.le_of_ble_eq_true rfl) (by decide) (fun r u hu => ?_)
  refine z_eqs (σ' := (ap b σ [(41, 16, 13), (41, 7, 1), (41, 5, 1), (5, 2, 1)] [(41, 17, ((10 * (w1.toInt64)) + 1))] [(6, 0, (some (b + 40)))])) hu.2 ?_
  show zx p l e _ s m _ below meth c g 5 0 0 _ _ 79 [(3, .ref (b + 40)), (2, .int 0), (0, .ref (b + 0)), (1, .ref (b + 40))] _
  refine z_seti (y := 1) hu.1 ?_
  refine z_if_eq (tgt := 115) B dX8_goOn_79 (by decide) (fun h => absurd h (by decide)) (fun _ => ?_)
  refine z_aload_n B dX8_goOn_82 rfl 2 rfl ?_
  refine z_aload_n B dX8_goOn_83 rfl 0 rfl ?_
  refine z_cVq (As := [.ref (b + 40)]) (rest := []) B cw_X8_357 cx_9 dX8_goOn_84 (ci_X8_make_684 l (σ := (ap b σ [(41, 16, 13), (41, 7, 1), (41, 5, 1), (5, 2, 1)] [(41, 17, ((10 * (w1.toInt64)) + 1))] [(6, 0, (some (b + 40)))])) (b := b) (lyA hK) ((10 * (w1.toInt64)) + 1) (rI_at 37 2 hI_37_2) (rI_at 40 4 hI_40_4) (rI_at 41 16 rfl) (rJ_at 41 17 rfl) (rR_at 37 0 hR_37_0) (rR_at 37 1 hR_37_1) (rR_at 40 1 hR_40_1) (rR_at 40 2 hR_40_2)) (lKA (hk_K hK 0 rfl rfl)) rfl (by decide) rfl (Nat.le_of_ble_eq_true rfl) (by decide) (fun r u hu => ?_)
  refine z_eqs (σ' := (ap b σ [(37, 2, 2), (38, 1, 13), (41, 16, 13), (41, 7, 1), (41, 5, 1), (5, 2, 1)] [(39, 1, ((10 * (w1.toInt64)) + 1)), (41, 17, ((10 * (w1.toInt64)) + 1))] [(6, 0, (some (b + 40)))])) (hu.2.trans ap_ap) ?_
  show zx p l e _ s m _ below meth c g 5 0 0 _ _ 87 [(3, .ref (b + 40)), (2, .int 0), (0, .ref (b + 0)), (1, .ref (b + 40))] _
  refine z_setr (y := none) hu.1 ?_
  refine z_qstore (r := none) (lv' := [(4, .null), (3, .ref (b + 40)), (2, .int 0), (0, .ref (b + 0)), (1, .ref (b + 40))]) B dX8_goOn_87 (by decide) rfl ?_
  refine z_aload_n B dX8_goOn_89 rfl 1 rfl ?_
  refine gf_X8_249 (x := (some (b + 41))) B (lKA (hk_K hK 40 rfl rfl)) (rR_at 40 2 hR_40_2) dX8_goOn_90 ?_
  refine z_aload_n B dX8_goOn_93 rfl 1 rfl ?_
  refine gf_X8_179 (x := (some (b + 37))) B (lKA (hk_K hK 40 rfl rfl)) (rR_at 40 1 hR_40_1) dX8_goOn_94 ?_
  refine z_cVi (As := []) (rest := [.ref (b + 41)]) B cw_X8_183 cx_2 dX8_goOn_97 (ci_X1_size_685 l (σ := (ap b σ [(37, 2, 2), (38, 1, 13), (41, 16, 13), (41, 7, 1), (41, 5, 1), (5, 2, 1)] [(39, 1, ((10 * (w1.toInt64)) + 1)), (41, 17, ((10 * (w1.toInt64)) + 1))] [(6, 0, (some (b + 40)))])) (b := b) (lyA hK) (rI_at 37 2 rfl)) (lKA (hk_K hK 37 rfl rfl)) rfl (by decide) rfl (Nat.le_of_ble_eq_true rfl) (by decide) (fun r u hu => ?_)
  refine z_eqs (σ' := (ap b σ [(37, 2, 2), (38, 1, 13), (41, 16, 13), (41, 7, 1), (41, 5, 1), (5, 2, 1)] [(39, 1, ((10 * (w1.toInt64)) + 1)), (41, 17, ((10 * (w1.toInt64)) + 1))] [(6, 0, (some (b + 40)))])) hu.2 ?_
  show zx p l e _ s m _ below meth c g 5 0 0 _ _ 100 [(4, .null), (3, .ref (b + 40)), (2, .int 0), (0, .ref (b + 0)), (1, .ref (b + 40))] _
  refine z_seti (y := 2) hu.1 ?_
  refine z_cVv (As := [.int 2]) (rest := []) B cw_X8_289 cx_6 dX8_goOn_100 (ci_X5_advance_717 l (σ := (ap b σ [(37, 2, 2), (38, 1, 13), (41, 16, 13), (41, 7, 1), (41, 5, 1), (5, 2, 1)] [(39, 1, ((10 * (w1.toInt64)) + 1)), (41, 17, ((10 * (w1.toInt64)) + 1))] [(6, 0, (some (b + 40)))])) (b := b) (lyA hK) ((10 * (w1.toInt64)) + 1) (iv_ladd (c := 1) (n := 1) rfl (iv_lmul (c := 10) (n := 10) rfl (by decide) (iv_i2l q1_w1 q2_w1).1 (iv_i2l q1_w1 q2_w1).2 (by decide) (by decide)).1 (iv_lmul (c := 10) (n := 10) rfl (by decide) (iv_i2l q1_w1 q2_w1).1 (iv_i2l q1_w1 q2_w1).2 (by decide) (by decide)).2 (by decide) (by decide)).1 (iv_ladd (c := 1) (n := 1) rfl (iv_lmul (c := 10) (n := 10) rfl (by decide) (iv_i2l q1_w1 q2_w1).1 (iv_i2l q1_w1 q2_w1).2 (by decide) (by decide)).1 (iv_lmul (c := 10) (n := 10) rfl (by decide) (iv_i2l q1_w1 q2_w1).1 (iv_i2l q1_w1 q2_w1).2 (by decide) (by decide)).2 (by decide) (by decide)).2 (rI_at 37 2 rfl) (rI_at 38 1 rfl) (rI_at 41 4 hI_41_4) (rI_at 41 16 rfl) (rI_at 41 19 hI_41_19) (rJ_at 39 1 rfl) (rJ_at 41 17 rfl) (rR_at 37 0 hR_37_0) (rR_at 37 1 hR_37_1) (rR_at 41 3 hR_41_3)) (lKA (hk_K hK 41 rfl rfl)) rfl (by decide) rfl (Nat.le_of_ble_eq_true rfl) (by decide) (fun u hu => ?_)
  refine z_eqs (σ' := (ap b σ [(41, 19, 0), (41, 15, 1), (41, 4, 2), (41, 16, (-1)), (37, 2, 2), (38, 1, 13), (41, 16, 13), (41, 7, 1), (41, 5, 1), (5, 2, 1)] [(39, 1, ((10 * (w1.toInt64)) + 1)), (41, 17, ((10 * (w1.toInt64)) + 1))] [(6, 0, (some (b + 40)))])) (hu.trans ap_ap) ?_
  show zx p l e _ s m _ below meth c g 5 0 0 _ _ 103 [(4, .null), (3, .ref (b + 40)), (2, .int 0), (0, .ref (b + 0)), (1, .ref (b + 40))] _
  refine z_aload_n B dX8_goOn_103 rfl 3 rfl ?_
  refine gf_X8_35 (x := (some (b + 5))) B (lKA (hk_K hK 0 rfl rfl)) (rR_at 0 4 hR_0_4) dX8_goOn_104 ?_
  refine z_qload (r := none) B dX8_goOn_107 0 rfl ?_
  refine z_cVv (As := [.null]) (rest := []) B cw_X8_337 cx_3 dX8_goOn_109 (ci_X2_addLast_691 l (σ := (ap b σ [(41, 19, 0), (41, 15, 1), (41, 4, 2), (41, 16, (-1)), (37, 2, 2), (38, 1, 13), (41, 16, 13), (41, 7, 1), (41, 5, 1), (5, 2, 1)] [(39, 1, ((10 * (w1.toInt64)) + 1)), (41, 17, ((10 * (w1.toInt64)) + 1))] [(6, 0, (some (b + 40)))])) (b := b) (lyA hK) ) (lKA (hk_K hK 5 rfl rfl)) rfl (by decide) rfl (Nat.le_of_ble_eq_true rfl) (by decide) (fun u hu => ?_)
  refine z_eqs (σ' := (ap b σ [(41, 19, 0), (41, 15, 1), (41, 4, 2), (41, 16, (-1)), (37, 2, 2), (38, 1, 13), (41, 16, 13), (41, 7, 1), (41, 5, 1), (5, 2, 1)] [(39, 1, ((10 * (w1.toInt64)) + 1)), (41, 17, ((10 * (w1.toInt64)) + 1))] [(6, 0, (some (b + 40)))])) hu ?_
  show zx p l e _ s m _ below meth c g 5 0 0 _ _ 112 [(4, .null), (3, .ref (b + 40)), (2, .int 0), (0, .ref (b + 0)), (1, .ref (b + 40))] _
  refine z_goto (tgt := 120) B dX8_goOn_112 (by decide) ?_
  refine z_iinc (v := 1) (lv' := [(2, .int 1), (4, .null), (3, .ref (b + 40)), (0, .ref (b + 0)), (1, .ref (b + 40))]) B dX8_goOn_120 2 rfl (by decide) (by decide) rfl ?_
  refine z_goto (tgt := 10) B dX8_goOn_123 (by decide) ?_
  refine z_iload_n B dX8_goOn_10 rfl 0 rfl ?_
  refine z_ldcw (v := 1000000) B dX8_goOn_11 wg_515 ?_
  refine z_icmp_ge (tgt := 126) B dX8_goOn_14 (by decide) (fun h => absurd h (by decide)) (fun _ => ?_)
  refine z_aload_n B dX8_goOn_17 rfl 3 rfl ?_
  refine gf_X8_35 (x := (some (b + 5))) B (lKA (hk_K hK 0 rfl rfl)) (rR_at 0 4 hR_0_4) dX8_goOn_18 ?_
  refine z_cVi (As := []) (rest := []) B cw_X8_341 cx_3 dX8_goOn_21 (ci_X2_isEmpty_668 l (σ := (ap b σ [(41, 19, 0), (41, 15, 1), (41, 4, 2), (41, 16, (-1)), (37, 2, 2), (38, 1, 13), (41, 16, 13), (41, 7, 1), (41, 5, 1), (5, 2, 1)] [(39, 1, ((10 * (w1.toInt64)) + 1)), (41, 17, ((10 * (w1.toInt64)) + 1))] [(6, 0, (some (b + 40)))])) (b := b) (lyA hK) (rI_at 5 1 hI_5_1) (rI_at 5 2 rfl)) (lKA (hk_K hK 5 rfl rfl)) rfl (by decide) rfl (Nat.le_of_ble_eq_true rfl) (by decide) (fun r u hu => ?_)
  refine z_eqs (σ' := (ap b σ [(41, 19, 0), (41, 15, 1), (41, 4, 2), (41, 16, (-1)), (37, 2, 2), (38, 1, 13), (41, 16, 13), (41, 7, 1), (41, 5, 1), (5, 2, 1)] [(39, 1, ((10 * (w1.toInt64)) + 1)), (41, 17, ((10 * (w1.toInt64)) + 1))] [(6, 0, (some (b + 40)))])) hu.2 ?_
  show zx p l e _ s m _ below meth c g 5 0 0 _ _ 24 [(2, .int 1), (4, .null), (3, .ref (b + 40)), (0, .ref (b + 0)), (1, .ref (b + 40))] _
  refine z_seti (y := 0) hu.1 ?_
  refine z_if_eq (tgt := 41) B dX8_goOn_24 (by decide) (fun _ => ?_) (fun h => absurd (by decide) h)
  refine z_aload_n B dX8_goOn_41 rfl 3 rfl ?_
  refine gf_X8_35 (x := (some (b + 5))) B (lKA (hk_K hK 0 rfl rfl)) (rR_at 0 4 hR_0_4) dX8_goOn_42 ?_
  refine z_cVq (As := []) (rest := []) B cw_X8_348 cx_3 dX8_goOn_45 (ci_X2_last_669 l (σ := (ap b σ [(41, 19, 0), (41, 15, 1), (41, 4, 2), (41, 16, (-1)), (37, 2, 2), (38, 1, 13), (41, 16, 13), (41, 7, 1), (41, 5, 1), (5, 2, 1)] [(39, 1, ((10 * (w1.toInt64)) + 1)), (41, 17, ((10 * (w1.toInt64)) + 1))] [(6, 0, (some (b + 40)))])) (b := b) (lyA hK) (rI_at 5 1 hI_5_1) (rI_at 5 2 rfl) (rR_at 5 0 hR_5_0) (rR_at 6 0 rfl)) (lKA (hk_K hK 5 rfl rfl)) rfl (by decide) rfl (Nat.le_of_ble_eq_true rfl) (by decide) (fun r u hu => ?_)
  refine z_eqs (σ' := (ap b σ [(41, 19, 0), (41, 15, 1), (41, 4, 2), (41, 16, (-1)), (37, 2, 2), (38, 1, 13), (41, 16, 13), (41, 7, 1), (41, 5, 1), (5, 2, 1)] [(39, 1, ((10 * (w1.toInt64)) + 1)), (41, 17, ((10 * (w1.toInt64)) + 1))] [(6, 0, (some (b + 40)))])) hu.2 ?_
  show zx p l e _ s m _ below meth c g 5 0 0 _ _ 48 [(2, .int 1), (4, .null), (3, .ref (b + 40)), (0, .ref (b + 0)), (1, .ref (b + 40))] _
  refine z_setr (y := (some (b + 40))) hu.1 ?_
  refine z_astore_n (lv' := [(3, .ref (b + 40)), (2, .int 1), (4, .null), (0, .ref (b + 0)), (1, .ref (b + 40))]) B dX8_goOn_48 rfl (by decide) rfl ?_
  refine z_aload_n B dX8_goOn_49 rfl 0 rfl ?_
  refine z_ifnonnull (r := (some (b + 40))) (tgt := 54) B dX8_goOn_50 (by decide) (fun _ _ => ?_) (fun h => nomatch h)
  refine z_aload_n B dX8_goOn_54 rfl 0 rfl ?_
  refine gf_X8_249 (x := (some (b + 41))) B (lKA (hk_K hK 40 rfl rfl)) (rR_at 40 2 hR_40_2) dX8_goOn_55 ?_
  refine z_aload_n B dX8_goOn_58 rfl 0 rfl ?_
  refine gf_X8_179 (x := (some (b + 37))) B (lKA (hk_K hK 40 rfl rfl)) (rR_at 40 1 hR_40_1) dX8_goOn_59 ?_
  refine z_cVi (As := []) (rest := [.ref (b + 41)]) B cw_X8_183 cx_2 dX8_goOn_62 (ci_X1_size_685 l (σ := (ap b σ [(41, 19, 0), (41, 15, 1), (41, 4, 2), (41, 16, (-1)), (37, 2, 2), (38, 1, 13), (41, 16, 13), (41, 7, 1), (41, 5, 1), (5, 2, 1)] [(39, 1, ((10 * (w1.toInt64)) + 1)), (41, 17, ((10 * (w1.toInt64)) + 1))] [(6, 0, (some (b + 40)))])) (b := b) (lyA hK) (rI_at 37 2 rfl)) (lKA (hk_K hK 37 rfl rfl)) rfl (by decide) rfl (Nat.le_of_ble_eq_true rfl) (by decide) (fun r u hu => ?_)
  refine z_eqs (σ' := (ap b σ [(41, 19, 0), (41, 15, 1), (41, 4, 2), (41, 16, (-1)), (37, 2, 2), (38, 1, 13), (41, 16, 13), (41, 7, 1), (41, 5, 1), (5, 2, 1)] [(39, 1, ((10 * (w1.toInt64)) + 1)), (41, 17, ((10 * (w1.toInt64)) + 1))] [(6, 0, (some (b + 40)))])) hu.2 ?_
  show zx p l e _ s m _ below meth c g 5 0 0 _ _ 65 [(3, .ref (b + 40)), (2, .int 1), (4, .null), (0, .ref (b + 0)), (1, .ref (b + 40))] _
  refine z_seti (y := 2) hu.1 ?_
  refine z_cVv (As := [.int 2]) (rest := []) B cw_X8_289 cx_6 dX8_goOn_65 (ci_X5_advance_692 l (σ := (ap b σ [(41, 19, 0), (41, 15, 1), (41, 4, 2), (41, 16, (-1)), (37, 2, 2), (38, 1, 13), (41, 16, 13), (41, 7, 1), (41, 5, 1), (5, 2, 1)] [(39, 1, ((10 * (w1.toInt64)) + 1)), (41, 17, ((10 * (w1.toInt64)) + 1))] [(6, 0, (some (b + 40)))])) (b := b) (lyA hK) (rI_at 41 4 rfl) (rI_at 41 15 rfl) (rI_at 41 16 rfl) (rI_at 41 19 rfl)) (lKA (hk_K hK 41 rfl rfl)) rfl (by decide) rfl (Nat.le_of_ble_eq_true rfl) (by decide) (fun u hu => ?_)
  refine z_eqs (σ' := (ap b σ [(41, 19, 0), (41, 19, 0), (41, 15, 1), (41, 4, 2), (41, 16, (-1)), (37, 2, 2), (38, 1, 13), (41, 16, 13), (41, 7, 1), (41, 5, 1), (5, 2, 1)] [(39, 1, ((10 * (w1.toInt64)) + 1)), (41, 17, ((10 * (w1.toInt64)) + 1))] [(6, 0, (some (b + 40)))])) (hu.trans ap_ap) ?_
  show zx p l e _ s m _ below meth c g 5 0 0 _ _ 68 [(3, .ref (b + 40)), (2, .int 1), (4, .null), (0, .ref (b + 0)), (1, .ref (b + 40))] _
  refine z_aload_n B dX8_goOn_68 rfl 0 rfl ?_
  refine z_cVv (As := []) (rest := []) B cw_X8_351 cx_1 dX8_goOn_69 (ci_X0_letGo_679 l (σ := (ap b σ [(41, 19, 0), (41, 19, 0), (41, 15, 1), (41, 4, 2), (41, 16, (-1)), (37, 2, 2), (38, 1, 13), (41, 16, 13), (41, 7, 1), (41, 5, 1), (5, 2, 1)] [(39, 1, ((10 * (w1.toInt64)) + 1)), (41, 17, ((10 * (w1.toInt64)) + 1))] [(6, 0, (some (b + 40)))])) (b := b) (lyA hK) (rR_at 40 7 hR_40_7)) (lKA (hk_K hK 40 rfl rfl)) rfl (by decide) rfl (Nat.le_of_ble_eq_true rfl) (by decide) (fun u hu => ?_)
  refine z_eqs (σ' := (ap b σ [(41, 19, 0), (41, 19, 0), (41, 15, 1), (41, 4, 2), (41, 16, (-1)), (37, 2, 2), (38, 1, 13), (41, 16, 13), (41, 7, 1), (41, 5, 1), (5, 2, 1)] [(39, 1, ((10 * (w1.toInt64)) + 1)), (41, 17, ((10 * (w1.toInt64)) + 1))] [(6, 0, (some (b + 40)))])) hu ?_
  show zx p l e _ s m _ below meth c g 5 0 0 _ _ 72 [(3, .ref (b + 40)), (2, .int 1), (4, .null), (0, .ref (b + 0)), (1, .ref (b + 40))] _
  refine z_aload_n B dX8_goOn_72 rfl 0 rfl ?_
  refine gf_X8_249 (x := (some (b + 41))) B (lKA (hk_K hK 40 rfl rfl)) (rR_at 40 2 hR_40_2) dX8_goOn_73 ?_
  refine z_cVi (As := []) (rest := []) B cw_X8_354 cx_6 dX8_goOn_76 (ci_X5_wantsEvent_693 l (σ := (ap b σ [(41, 19, 0), (41, 19, 0), (41, 15, 1), (41, 4, 2), (41, 16, (-1)), (37, 2, 2), (38, 1, 13), (41, 16, 13), (41, 7, 1), (41, 5, 1), (5, 2, 1)] [(39, 1, ((10 * (w1.toInt64)) + 1)), (41, 17, ((10 * (w1.toInt64)) + 1))] [(6, 0, (some (b + 40)))])) (b := b) (lyA hK) (rI_at 41 16 rfl) (rI_at 41 19 rfl)) (lKA (hk_K hK 41 rfl rfl)) rfl (by decide) rfl (Nat.le_of_ble_eq_true rfl) (by decide) (fun r u hu => ?_)
  refine z_eqs (σ' := (ap b σ [(41, 19, 0), (41, 19, 0), (41, 15, 1), (41, 4, 2), (41, 16, (-1)), (37, 2, 2), (38, 1, 13), (41, 16, 13), (41, 7, 1), (41, 5, 1), (5, 2, 1)] [(39, 1, ((10 * (w1.toInt64)) + 1)), (41, 17, ((10 * (w1.toInt64)) + 1))] [(6, 0, (some (b + 40)))])) hu.2 ?_
  show zx p l e _ s m _ below meth c g 5 0 0 _ _ 79 [(3, .ref (b + 40)), (2, .int 1), (4, .null), (0, .ref (b + 0)), (1, .ref (b + 40))] _
  refine z_seti (y := 0) hu.1 ?_
  refine z_if_eq (tgt := 115) B dX8_goOn_79 (by decide) (fun _ => ?_) (fun h => absurd (by decide) h)
  refine z_aload_n B dX8_goOn_115 rfl 3 rfl ?_
  refine z_aload_n B dX8_goOn_116 rfl 0 rfl ?_
  refine z_cVv (As := [.ref (b + 40)]) (rest := []) B cw_X8_361 cx_9 dX8_goOn_117 (ci_X8_leave_695 l (σ := (ap b σ [(41, 19, 0), (41, 19, 0), (41, 15, 1), (41, 4, 2), (41, 16, (-1)), (37, 2, 2), (38, 1, 13), (41, 16, 13), (41, 7, 1), (41, 5, 1), (5, 2, 1)] [(39, 1, ((10 * (w1.toInt64)) + 1)), (41, 17, ((10 * (w1.toInt64)) + 1))] [(6, 0, (some (b + 40)))])) (b := b) (lyA hK) (rI_at 5 1 hI_5_1) (rI_at 5 2 rfl) (rI_at 37 2 rfl) (rI_at 40 8 hI_40_8) (rI_at 41 18 hI_41_18) (rI_at 41 19 rfl) (rR_at 0 4 hR_0_4) (rR_at 40 1 hR_40_1) (rR_at 40 2 hR_40_2)) (lKA (hk_K hK 0 rfl rfl)) rfl (by decide) rfl (Nat.le_of_ble_eq_true rfl) (by decide) (fun u hu => ?_)
  refine z_eqs (σ' := (ap b σ [(40, 8, 2), (5, 2, 0), (41, 19, 0), (41, 19, 0), (41, 15, 1), (41, 4, 2), (41, 16, (-1)), (37, 2, 2), (38, 1, 13), (41, 16, 13), (41, 7, 1), (41, 5, 1), (5, 2, 1)] [(39, 1, ((10 * (w1.toInt64)) + 1)), (41, 17, ((10 * (w1.toInt64)) + 1))] [(6, 0, (some (b + 40)))])) (hu.trans ap_ap) ?_
  show zx p l e _ s m _ below meth c g 5 0 0 _ _ 120 [(3, .ref (b + 40)), (2, .int 1), (4, .null), (0, .ref (b + 0)), (1, .ref (b + 40))] _
  refine z_iinc (v := 2) (lv' := [(2, .int 2), (3, .ref (b + 40)), (4, .null), (0, .ref (b + 0)), (1, .ref (b + 40))]) B dX8_goOn_120 1 rfl (by decide) (by decide) rfl ?_
  refine z_goto (tgt := 10) B dX8_goOn_123 (by decide) ?_
  refine z_iload_n B dX8_goOn_10 rfl 0 rfl ?_
  refine z_ldcw (v := 1000000) B dX8_goOn_11 wg_515 ?_
  refine z_icmp_ge (tgt := 126) B dX8_goOn_14 (by decide) (fun h => absurd h (by decide)) (fun _ => ?_)
  refine z_aload_n B dX8_goOn_17 rfl 3 rfl ?_
  refine gf_X8_35 (x := (some (b + 5))) B (lKA (hk_K hK 0 rfl rfl)) (rR_at 0 4 hR_0_4) dX8_goOn_18 ?_
  refine z_cVi (As := []) (rest := []) B cw_X8_341 cx_3 dX8_goOn_21 (ci_X2_isEmpty_696 l (σ := (ap b σ [(40, 8, 2), (5, 2, 0), (41, 19, 0), (41, 19, 0), (41, 15, 1), (41, 4, 2), (41, 16, (-1)), (37, 2, 2), (38, 1, 13), (41, 16, 13), (41, 7, 1), (41, 5, 1), (5, 2, 1)] [(39, 1, ((10 * (w1.toInt64)) + 1)), (41, 17, ((10 * (w1.toInt64)) + 1))] [(6, 0, (some (b + 40)))])) (b := b) (lyA hK) (rI_at 5 1 hI_5_1) (rI_at 5 2 rfl)) (lKA (hk_K hK 5 rfl rfl)) rfl (by decide) rfl (Nat.le_of_ble_eq_true rfl) (by decide) (fun r u hu => ?_)
  refine z_eqs (σ' := (ap b σ [(40, 8, 2), (5, 2, 0), (41, 19, 0), (41, 19, 0), (41, 15, 1), (41, 4, 2), (41, 16, (-1)), (37, 2, 2), (38, 1, 13), (41, 16, 13), (41, 7, 1), (41, 5, 1), (5, 2, 1)] [(39, 1, ((10 * (w1.toInt64)) + 1)), (41, 17, ((10 * (w1.toInt64)) + 1))] [(6, 0, (some (b + 40)))])) hu.2 ?_
  show zx p l e _ s m _ below meth c g 5 0 0 _ _ 24 [(2, .int 2), (3, .ref (b + 40)), (4, .null), (0, .ref (b + 0)), (1, .ref (b + 40))] _
  refine z_seti (y := 1) hu.1 ?_
  refine z_if_eq (tgt := 41) B dX8_goOn_24 (by decide) (fun h => absurd h (by decide)) (fun _ => ?_)
  refine z_aload_n B dX8_goOn_27 rfl 3 rfl ?_
  refine gf_X8_35 (x := (some (b + 5))) B (lKA (hk_K hK 0 rfl rfl)) (rR_at 0 4 hR_0_4) dX8_goOn_28 ?_
  refine z_aload_n B dX8_goOn_31 rfl 3 rfl ?_
  refine gf_X8_39 (x := (some (b + 7))) B (lKA (hk_K hK 0 rfl rfl)) (rR_at 0 5 hR_0_5) dX8_goOn_32 ?_
  refine z_cVq (As := []) (rest := [.ref (b + 5)]) B cw_X8_344 cx_3 dX8_goOn_35 (ci_X2_removeFirst_697 l (σ := (ap b σ [(40, 8, 2), (5, 2, 0), (41, 19, 0), (41, 19, 0), (41, 15, 1), (41, 4, 2), (41, 16, (-1)), (37, 2, 2), (38, 1, 13), (41, 16, 13), (41, 7, 1), (41, 5, 1), (5, 2, 1)] [(39, 1, ((10 * (w1.toInt64)) + 1)), (41, 17, ((10 * (w1.toInt64)) + 1))] [(6, 0, (some (b + 40)))])) (b := b) (lyA hK) (rI_at 7 1 hI_7_1) (rI_at 7 2 hI_7_2)) (lKA (hk_K hK 7 rfl rfl)) rfl (by decide) rfl (Nat.le_of_ble_eq_true rfl) (by decide) (fun r u hu => ?_)
  refine z_eqs (σ' := (ap b σ [(7, 2, 0), (7, 1, 0), (40, 8, 2), (5, 2, 0), (41, 19, 0), (41, 19, 0), (41, 15, 1), (41, 4, 2), (41, 16, (-1)), (37, 2, 2), (38, 1, 13), (41, 16, 13), (41, 7, 1), (41, 5, 1), (5, 2, 1)] [(39, 1, ((10 * (w1.toInt64)) + 1)), (41, 17, ((10 * (w1.toInt64)) + 1))] [(6, 0, (some (b + 40)))])) (hu.2.trans ap_ap) ?_
  show zx p l e _ s m _ below meth c g 5 0 0 _ _ 38 [(2, .int 2), (3, .ref (b + 40)), (4, .null), (0, .ref (b + 0)), (1, .ref (b + 40))] _
  refine z_setr (y := none) hu.1 ?_
  refine z_cVv (As := [.null]) (rest := []) B cw_X8_337 cx_3 dX8_goOn_38 (ci_X2_addLast_691 l (σ := (ap b σ [(7, 2, 0), (7, 1, 0), (40, 8, 2), (5, 2, 0), (41, 19, 0), (41, 19, 0), (41, 15, 1), (41, 4, 2), (41, 16, (-1)), (37, 2, 2), (38, 1, 13), (41, 16, 13), (41, 7, 1), (41, 5, 1), (5, 2, 1)] [(39, 1, ((10 * (w1.toInt64)) + 1)), (41, 17, ((10 * (w1.toInt64)) + 1))] [(6, 0, (some (b + 40)))])) (b := b) (lyA hK) ) (lKA (hk_K hK 5 rfl rfl)) rfl (by decide) rfl (Nat.le_of_ble_eq_true rfl) (by decide) (fun u hu => ?_)
  refine z_eqs (σ' := (ap b σ [(7, 2, 0), (7, 1, 0), (40, 8, 2), (5, 2, 0), (41, 19, 0), (41, 19, 0), (41, 15, 1), (41, 4, 2), (41, 16, (-1)), (37, 2, 2), (38, 1, 13), (41, 16, 13), (41, 7, 1), (41, 5, 1), (5, 2, 1)] [(39, 1, ((10 * (w1.toInt64)) + 1)), (41, 17, ((10 * (w1.toInt64)) + 1))] [(6, 0, (some (b + 40)))])) hu ?_
  show zx p l e _ s m _ below meth c g 5 0 0 _ _ 41 [(2, .int 2), (3, .ref (b + 40)), (4, .null), (0, .ref (b + 0)), (1, .ref (b + 40))] _
  refine z_aload_n B dX8_goOn_41 rfl 3 rfl ?_
  refine gf_X8_35 (x := (some (b + 5))) B (lKA (hk_K hK 0 rfl rfl)) (rR_at 0 4 hR_0_4) dX8_goOn_42 ?_
  refine z_cVq (As := []) (rest := []) B cw_X8_348 cx_3 dX8_goOn_45 (ci_X2_last_698 l (σ := (ap b σ [(7, 2, 0), (7, 1, 0), (40, 8, 2), (5, 2, 0), (41, 19, 0), (41, 19, 0), (41, 15, 1), (41, 4, 2), (41, 16, (-1)), (37, 2, 2), (38, 1, 13), (41, 16, 13), (41, 7, 1), (41, 5, 1), (5, 2, 1)] [(39, 1, ((10 * (w1.toInt64)) + 1)), (41, 17, ((10 * (w1.toInt64)) + 1))] [(6, 0, (some (b + 40)))])) (b := b) (lyA hK) (rI_at 5 1 hI_5_1) (rI_at 5 2 rfl)) (lKA (hk_K hK 5 rfl rfl)) rfl (by decide) rfl (Nat.le_of_ble_eq_true rfl) (by decide) (fun r u hu => ?_)
  refine z_eqs (σ' := (ap b σ [(7, 2, 0), (7, 1, 0), (40, 8, 2), (5, 2, 0), (41, 19, 0), (41, 19, 0), (41, 15, 1), (41, 4, 2), (41, 16, (-1)), (37, 2, 2), (38, 1, 13), (41, 16, 13), (41, 7, 1), (41, 5, 1), (5, 2, 1)] [(39, 1, ((10 * (w1.toInt64)) + 1)), (41, 17, ((10 * (w1.toInt64)) + 1))] [(6, 0, (some (b + 40)))])) hu.2 ?_
  show zx p l e _ s m _ below meth c g 5 0 0 _ _ 48 [(2, .int 2), (3, .ref (b + 40)), (4, .null), (0, .ref (b + 0)), (1, .ref (b + 40))] _
  refine z_setr (y := none) hu.1 ?_
  refine z_qstore_n (r := none) (lv' := [(3, .null), (2, .int 2), (4, .null), (0, .ref (b + 0)), (1, .ref (b + 40))]) B dX8_goOn_48 rfl (by decide) rfl ?_
  refine z_qload_n (r := none) B dX8_goOn_49 rfl 0 rfl ?_
  refine z_ifnonnull (r := none) (tgt := 54) B dX8_goOn_50 (by decide) (fun a h => nomatch h) (fun _ => ?_)
  exact z_vret B hr (by decide) (by decide) dX8_goOn_53 rfl
set_option maxRecDepth 100000 in
set_option maxHeartbeats 4000000 in
theorem ci_X8_start_746 (l : Launch) {g : gx_T} {σ : sx_T} {b : Nat} (hK : lay b σ) (w1 : Int32) (q1_w1 : (0 : Int) ≤ w1.toInt) (q2_w1 : w1.toInt ≤ (999 : Int)) (hI_0_7 : sx_I σ (b + 0) 7 = 0) (hI_5_1 : sx_I σ (b + 5) 1 = 0) (hI_5_2 : sx_I σ (b + 5) 2 = 0) (hI_7_1 : sx_I σ (b + 7) 1 = 0) (hI_7_2 : sx_I σ (b + 7) 2 = 0) (hI_14_0 : sx_I σ (b + 14) 0 = 0) (hI_15_0 : sx_I σ (b + 15) 0 = 0) (hI_16_0 : sx_I σ (b + 16) 0 = 0) (hI_37_2 : sx_I σ (b + 37) 2 = 0) (hI_40_0 : sx_I σ (b + 40) 0 = 0) (hI_40_8 : sx_I σ (b + 40) 8 = 0) (hR_0_0 : sx_R σ (b + 0) 0 = (some (b + 1))) (hR_0_2 : sx_R σ (b + 0) 2 = (some (b + 3))) (hR_0_4 : sx_R σ (b + 0) 4 = (some (b + 5))) (hR_0_5 : sx_R σ (b + 0) 5 = (some (b + 7))) (hR_1_1 : sx_R σ (b + 1) 1 = (some (b + 13))) (hR_3_0 : sx_R σ (b + 3) 0 = (some (b + 40))) (hR_5_0 : sx_R σ (b + 5) 0 = (some (b + 6))) (hR_13_1 : sx_R σ (b + 13) 1 = (some (b + 14))) (hR_13_2 : sx_R σ (b + 13) 2 = (some (b + 15))) (hR_13_3 : sx_R σ (b + 13) 3 = (some (b + 16))) (hR_37_0 : sx_R σ (b + 37) 0 = (some (b + 38))) (hR_37_1 : sx_R σ (b + 37) 1 = (some (b + 39))) (hR_40_1 : sx_R σ (b + 40) 1 = (some (b + 37))) (hR_40_2 : sx_R σ (b + 40) 2 = (some (b + 41))) (hR_40_7 : sx_R σ (b + 40) 7 = none) (hR_41_0 : sx_R σ (b + 41) 0 = (some (b + 42))) (hR_41_1 : sx_R σ (b + 41) 1 = (some (b + 44))) : Met l yX8_start (.code yX8_start cX8_start 5 (some .int) :: lw_g) { frames := 4, cells := 0, slots := 0, locals := 96 } (va_Pc [.ref (b + 0), .int 1, .int w1] (zx_w g σ)) (va_Qi (fun r u => r = 0 ∧ u = (ap b σ [(7, 2, 0), (7, 1, 0), (40, 8, 2), (5, 2, 0), (41, 19, 0), (41, 19, 0), (41, 15, 1), (41, 4, 2), (41, 16, (-1)), (37, 2, 2), (38, 1, 13), (41, 16, 13), (41, 7, 1), (41, 5, 1), (5, 2, 1), (41, 19, 0), (41, 18, (-1)), (41, 16, (-1)), (41, 15, 0), (41, 14, 0), (41, 13, 0), (41, 12, 0), (41, 10, (-1)), (41, 9, (-1)), (41, 8, 0), (41, 7, 0), (41, 6, ((w1.toInt64).toInt32)), (41, 5, 0), (41, 4, 1), (44, 1, 0), (42, 1, 0), (37, 2, 1), (38, 0, 0), (40, 5, 0), (40, 4, (-1)), (0, 7, 1)] [(39, 1, ((10 * (((w1.toInt64).toInt32).toInt64)) + 1)), (41, 17, ((10 * (((w1.toInt64).toInt32).toInt64)) + 1)), (41, 17, 0), (41, 11, 0), (39, 0, (w1.toInt64))] [(6, 0, (some (b + 40))), (41, 3, (some (b + 37))), (41, 2, (some (b + 13))), (40, 3, (some (b + 13)))])) (zx_w g) (gx_Q g)) 0 0 (gx_Q g) := by
  refine z_met (by decide) (Nat.le_of_ble_eq_true rfl) (fun p e s m below meth c B hr hin => ?_)
  refine z_eqs (σ' := (ap b σ [] [] [])) rfl ?_
  show zx p l e _ s m _ below meth c g 5 0 0 _ _ 0 [(0, .ref (b + 0)), (1, .int 1), (2, .int w1)] []
  refine z_aload_n B dX8_start_0 rfl 0 rfl ?_
  refine z_iload_n B dX8_start_1 rfl 1 rfl ?_
  refine z_cVq (As := [.int 1]) (rest := []) B cw_X8_64 cx_9 dX8_start_2 (ci_X8_programAt_122 l (σ := (ap b σ [] [] [])) (b := b) (lyA hK) (rR_at 0 0 hR_0_0) (rR_at 1 1 hR_1_1)) (lKA (hk_K hK 0 rfl rfl)) rfl (by decide) rfl (Nat.le_of_ble_eq_true rfl) (by decide) (fun r u hu => ?_)
  refine z_eqs (σ' := (ap b σ [] [] [])) hu.2 ?_
  show zx p l e _ s m _ below meth c g 5 0 0 _ _ 5 [(0, .ref (b + 0)), (1, .int 1), (2, .int w1)] _
  refine z_setr (y := (some (b + 13))) hu.1 ?_
  refine z_astore_n (lv' := [(3, .ref (b + 13)), (0, .ref (b + 0)), (1, .int 1), (2, .int w1)]) B dX8_start_5 rfl (by decide) rfl ?_
  refine z_aload_n B dX8_start_6 rfl 0 rfl ?_
  refine z_ifnonnull (r := (some (b + 13))) (tgt := 20) B dX8_start_7 (by decide) (fun _ _ => ?_) (fun h => nomatch h)
  refine z_iload_n B dX8_start_20 rfl 3 rfl ?_
  refine z_sipush (v := (-999)) B dX8_start_21 (by decide) ?_
  refine z_icmp_lt (tgt := 34) B dX8_start_24 (by decide) (fun h => absurd h (iv_nlt q1_w1 (by decide))) (fun _ => ?_)
  refine z_iload_n B dX8_start_27 rfl 3 rfl ?_
  refine z_sipush (v := 999) B dX8_start_28 (by decide) ?_
  refine z_icmp_le (tgt := 44) B dX8_start_31 (by decide) (fun _ => ?_) (fun h => absurd (iv_le q2_w1 (by decide)) h)
  refine z_aload_n B dX8_start_44 rfl 1 rfl ?_
  refine z_aload_n B dX8_start_45 rfl 0 rfl ?_
  refine z_iload_n B dX8_start_46 rfl 3 rfl ?_
  refine z_iconst (v := (-1)) B dX8_start_47 (by decide) ?_
  refine z_iconst (v := (-1)) B dX8_start_48 (by decide) ?_
  refine z_cVq (As := [.ref (b + 13), .int w1, .int (-1), .int (-1)]) (rest := []) B cw_X8_141 cx_9 dX8_start_49 (ci_X8_open_730 l (σ := (ap b σ [] [] [])) (b := b) (lyA hK) w1 (rI_at 0 7 hI_0_7) (rI_at 37 2 hI_37_2) (rI_at 40 0 hI_40_0) (rR_at 0 2 hR_0_2) (rR_at 3 0 hR_3_0) (rR_at 37 0 hR_37_0) (rR_at 37 1 hR_37_1) (rR_at 40 1 hR_40_1) (rR_at 40 2 hR_40_2) (rR_at 41 0 hR_41_0) (rR_at 41 1 hR_41_1)) (lKA (hk_K hK 0 rfl rfl)) rfl (by decide) rfl (Nat.le_of_ble_eq_true rfl) (by decide) (fun r u hu => ?_)
  refine z_eqs (σ' := (ap b σ [(41, 19, 0), (41, 18, (-1)), (41, 16, (-1)), (41, 15, 0), (41, 14, 0), (41, 13, 0), (41, 12, 0), (41, 10, (-1)), (41, 9, (-1)), (41, 8, 0), (41, 7, 0), (41, 6, ((w1.toInt64).toInt32)), (41, 5, 0), (41, 4, 1), (44, 1, 0), (42, 1, 0), (37, 2, 1), (38, 0, 0), (40, 5, 0), (40, 4, (-1)), (0, 7, 1)] [(41, 17, 0), (41, 11, 0), (39, 0, (w1.toInt64))] [(41, 3, (some (b + 37))), (41, 2, (some (b + 13))), (40, 3, (some (b + 13)))])) (hu.2.trans ap_ap) ?_
  show zx p l e _ s m _ below meth c g 5 0 0 _ _ 52 [(3, .ref (b + 13)), (0, .ref (b + 0)), (1, .int 1), (2, .int w1)] _
  refine z_setr (y := (some (b + 40))) hu.1 ?_
  refine z_astore (lv' := [(4, .ref (b + 40)), (3, .ref (b + 13)), (0, .ref (b + 0)), (1, .int 1), (2, .int w1)]) B dX8_start_52 (by decide) rfl ?_
  refine z_aload B dX8_start_54 0 rfl ?_
  refine z_ifnonnull (r := (some (b + 40))) (tgt := 69) B dX8_start_56 (by decide) (fun _ _ => ?_) (fun h => nomatch h)
  refine z_aload_n B dX8_start_69 rfl 2 rfl ?_
  refine z_aload B dX8_start_70 0 rfl ?_
  refine z_cVv (As := [.ref (b + 40)]) (rest := []) B cw_X8_111 cx_9 dX8_start_72 (ci_X8_goOn_745 l (σ := (ap b σ [(41, 19, 0), (41, 18, (-1)), (41, 16, (-1)), (41, 15, 0), (41, 14, 0), (41, 13, 0), (41, 12, 0), (41, 10, (-1)), (41, 9, (-1)), (41, 8, 0), (41, 7, 0), (41, 6, ((w1.toInt64).toInt32)), (41, 5, 0), (41, 4, 1), (44, 1, 0), (42, 1, 0), (37, 2, 1), (38, 0, 0), (40, 5, 0), (40, 4, (-1)), (0, 7, 1)] [(41, 17, 0), (41, 11, 0), (39, 0, (w1.toInt64))] [(41, 3, (some (b + 37))), (41, 2, (some (b + 13))), (40, 3, (some (b + 13)))])) (b := b) (lyA hK) ((w1.toInt64).toInt32) (iv_l2i (iv_i2l q1_w1 q2_w1).1 (iv_i2l q1_w1 q2_w1).2 (by decide) (by decide)).1 (iv_l2i (iv_i2l q1_w1 q2_w1).1 (iv_i2l q1_w1 q2_w1).2 (by decide) (by decide)).2 (rI_at 5 1 hI_5_1) (rI_at 5 2 hI_5_2) (rI_at 7 1 hI_7_1) (rI_at 7 2 hI_7_2) (rI_at 14 0 hI_14_0) (rI_at 15 0 hI_15_0) (rI_at 16 0 hI_16_0) (rI_at 37 2 rfl) (rI_at 40 4 rfl) (rI_at 40 8 hI_40_8) (rI_at 41 4 rfl) (rI_at 41 5 rfl) (rI_at 41 6 rfl) (rI_at 41 7 rfl) (rI_at 41 8 rfl) (rI_at 41 14 rfl) (rI_at 41 15 rfl) (rI_at 41 16 rfl) (rI_at 41 18 rfl) (rI_at 41 19 rfl) (rR_at 0 4 hR_0_4) (rR_at 0 5 hR_0_5) (rR_at 5 0 hR_5_0) (rR_at 13 1 hR_13_1) (rR_at 13 2 hR_13_2) (rR_at 13 3 hR_13_3) (rR_at 37 0 hR_37_0) (rR_at 37 1 hR_37_1) (rR_at 40 1 hR_40_1) (rR_at 40 2 hR_40_2) (rR_at 40 7 hR_40_7) (rR_at 41 2 rfl) (rR_at 41 3 rfl)) (lKA (hk_K hK 0 rfl rfl)) rfl (by decide) rfl (Nat.le_of_ble_eq_true rfl) (by decide) (fun u hu => ?_)
  refine z_eqs (σ' := (ap b σ [(7, 2, 0), (7, 1, 0), (40, 8, 2), (5, 2, 0), (41, 19, 0), (41, 19, 0), (41, 15, 1), (41, 4, 2), (41, 16, (-1)), (37, 2, 2), (38, 1, 13), (41, 16, 13), (41, 7, 1), (41, 5, 1), (5, 2, 1), (41, 19, 0), (41, 18, (-1)), (41, 16, (-1)), (41, 15, 0), (41, 14, 0), (41, 13, 0), (41, 12, 0), (41, 10, (-1)), (41, 9, (-1)), (41, 8, 0), (41, 7, 0), (41, 6, ((w1.toInt64).toInt32)), (41, 5, 0), (41, 4, 1), (44, 1, 0), (42, 1, 0), (37, 2, 1), (38, 0, 0), (40, 5, 0), (40, 4, (-1)), (0, 7, 1)] [(39, 1, ((10 * (((w1.toInt64).toInt32).toInt64)) + 1)), (41, 17, ((10 * (((w1.toInt64).toInt32).toInt64)) + 1)), (41, 17, 0), (41, 11, 0), (39, 0, (w1.toInt64))] [(6, 0, (some (b + 40))), (41, 3, (some (b + 37))), (41, 2, (some (b + 13))), (40, 3, (some (b + 13)))])) (hu.trans ap_ap) ?_
  show zx p l e _ s m _ below meth c g 5 0 0 _ _ 75 [(4, .ref (b + 40)), (3, .ref (b + 13)), (0, .ref (b + 0)), (1, .int 1), (2, .int w1)] _
  refine z_aload B dX8_start_75 0 rfl ?_
  refine gf_X8_150 (x := 0) B (lKA (hk_K hK 40 rfl rfl)) (rI_at 40 0 hI_40_0) dX8_start_77 ?_
  exact z_iret B hr (by decide) (by decide) dX8_start_80 ⟨rfl, rfl⟩
set_option maxRecDepth 100000 in
set_option maxHeartbeats 4000000 in
theorem ci_L_start_747 (l : Launch) {g : gx_T} {σ : sx_T} {b : Nat} (hK : lay b σ) (w1 : Int32) (q1_w1 : (0 : Int) ≤ w1.toInt) (q2_w1 : w1.toInt ≤ (999 : Int)) (hI_0_7 : sx_I σ (b + 0) 7 = 0) (hI_5_1 : sx_I σ (b + 5) 1 = 0) (hI_5_2 : sx_I σ (b + 5) 2 = 0) (hI_7_1 : sx_I σ (b + 7) 1 = 0) (hI_7_2 : sx_I σ (b + 7) 2 = 0) (hI_14_0 : sx_I σ (b + 14) 0 = 0) (hI_15_0 : sx_I σ (b + 15) 0 = 0) (hI_16_0 : sx_I σ (b + 16) 0 = 0) (hI_37_2 : sx_I σ (b + 37) 2 = 0) (hI_40_0 : sx_I σ (b + 40) 0 = 0) (hI_40_8 : sx_I σ (b + 40) 8 = 0) (hR_0_0 : sx_R σ (b + 0) 0 = (some (b + 1))) (hR_0_2 : sx_R σ (b + 0) 2 = (some (b + 3))) (hR_0_4 : sx_R σ (b + 0) 4 = (some (b + 5))) (hR_0_5 : sx_R σ (b + 0) 5 = (some (b + 7))) (hR_1_1 : sx_R σ (b + 1) 1 = (some (b + 13))) (hR_3_0 : sx_R σ (b + 3) 0 = (some (b + 40))) (hR_5_0 : sx_R σ (b + 5) 0 = (some (b + 6))) (hR_13_1 : sx_R σ (b + 13) 1 = (some (b + 14))) (hR_13_2 : sx_R σ (b + 13) 2 = (some (b + 15))) (hR_13_3 : sx_R σ (b + 13) 3 = (some (b + 16))) (hR_37_0 : sx_R σ (b + 37) 0 = (some (b + 38))) (hR_37_1 : sx_R σ (b + 37) 1 = (some (b + 39))) (hR_40_1 : sx_R σ (b + 40) 1 = (some (b + 37))) (hR_40_2 : sx_R σ (b + 40) 2 = (some (b + 41))) (hR_40_7 : sx_R σ (b + 40) 7 = none) (hR_41_0 : sx_R σ (b + 41) 0 = (some (b + 42))) (hR_41_1 : sx_R σ (b + 41) 1 = (some (b + 44))) : Met l yL_start (.codeWith yL_start cL_start 5 (some .int) [(0, 10, 13, 13), (0, 10, 17, 15), (0, 10, 21, 24)] :: lw_g) { frames := 5, cells := 0, slots := 0, locals := 120 } (va_Pc [.ref (b + 0), .int 1, .int w1, .ref (b + 431)] (zx_w g σ)) (va_Qi (fun r u => r = 0 ∧ u = (ap b σ [(7, 2, 0), (7, 1, 0), (40, 8, 2), (5, 2, 0), (41, 19, 0), (41, 19, 0), (41, 15, 1), (41, 4, 2), (41, 16, (-1)), (37, 2, 2), (38, 1, 13), (41, 16, 13), (41, 7, 1), (41, 5, 1), (5, 2, 1), (41, 19, 0), (41, 18, (-1)), (41, 16, (-1)), (41, 15, 0), (41, 14, 0), (41, 13, 0), (41, 12, 0), (41, 10, (-1)), (41, 9, (-1)), (41, 8, 0), (41, 7, 0), (41, 6, ((w1.toInt64).toInt32)), (41, 5, 0), (41, 4, 1), (44, 1, 0), (42, 1, 0), (37, 2, 1), (38, 0, 0), (40, 5, 0), (40, 4, (-1)), (0, 7, 1)] [(431, 0, 0), (39, 1, ((10 * (((w1.toInt64).toInt32).toInt64)) + 1)), (41, 17, ((10 * (((w1.toInt64).toInt32).toInt64)) + 1)), (41, 17, 0), (41, 11, 0), (39, 0, (w1.toInt64))] [(6, 0, (some (b + 40))), (41, 3, (some (b + 37))), (41, 2, (some (b + 13))), (40, 3, (some (b + 13)))])) (zx_w g) (gx_Q g)) 0 0 (gx_Q g) := by
  refine z_metW (by decide) (Nat.le_of_ble_eq_true rfl) (fun p e s m below meth c B hr htab => ?_)
  refine z_eqs (σ' := (ap b σ [] [] [])) rfl ?_
  show zx p l e _ s m _ below meth c g 5 0 0 _ _ 0 [(0, .ref (b + 0)), (1, .int 1), (2, .int w1), (3, .ref (b + 431))] []
  refine z_aload_n B dL_start_0 rfl 3 rfl ?_
  refine z_iconst (v := 0) B dL_start_1 (by decide) ?_
  refine z_aload_n B dL_start_2 rfl 0 rfl ?_
  refine z_iload_n B dL_start_3 rfl 1 rfl ?_
  refine z_iload_n B dL_start_4 rfl 2 rfl ?_
  refine z_cVi (As := [.int 1, .int w1]) (rest := [.int 0, .ref (b + 431)]) B cw_L_20 cx_9 dL_start_5 (ci_X8_start_746 l (σ := (ap b σ [] [] [])) (b := b) (lyA hK) w1 q1_w1 q2_w1 (rI_at 0 7 hI_0_7) (rI_at 5 1 hI_5_1) (rI_at 5 2 hI_5_2) (rI_at 7 1 hI_7_1) (rI_at 7 2 hI_7_2) (rI_at 14 0 hI_14_0) (rI_at 15 0 hI_15_0) (rI_at 16 0 hI_16_0) (rI_at 37 2 hI_37_2) (rI_at 40 0 hI_40_0) (rI_at 40 8 hI_40_8) (rR_at 0 0 hR_0_0) (rR_at 0 2 hR_0_2) (rR_at 0 4 hR_0_4) (rR_at 0 5 hR_0_5) (rR_at 1 1 hR_1_1) (rR_at 3 0 hR_3_0) (rR_at 5 0 hR_5_0) (rR_at 13 1 hR_13_1) (rR_at 13 2 hR_13_2) (rR_at 13 3 hR_13_3) (rR_at 37 0 hR_37_0) (rR_at 37 1 hR_37_1) (rR_at 40 1 hR_40_1) (rR_at 40 2 hR_40_2) (rR_at 40 7 hR_40_7) (rR_at 41 0 hR_41_0) (rR_at 41 1 hR_41_1)) (lKA (hk_K hK 0 rfl rfl)) rfl (by decide) rfl (Nat.le_of_ble_eq_true rfl) (by decide) (fun r u hu => ?_)
  refine z_eqs (σ' := (ap b σ [(7, 2, 0), (7, 1, 0), (40, 8, 2), (5, 2, 0), (41, 19, 0), (41, 19, 0), (41, 15, 1), (41, 4, 2), (41, 16, (-1)), (37, 2, 2), (38, 1, 13), (41, 16, 13), (41, 7, 1), (41, 5, 1), (5, 2, 1), (41, 19, 0), (41, 18, (-1)), (41, 16, (-1)), (41, 15, 0), (41, 14, 0), (41, 13, 0), (41, 12, 0), (41, 10, (-1)), (41, 9, (-1)), (41, 8, 0), (41, 7, 0), (41, 6, ((w1.toInt64).toInt32)), (41, 5, 0), (41, 4, 1), (44, 1, 0), (42, 1, 0), (37, 2, 1), (38, 0, 0), (40, 5, 0), (40, 4, (-1)), (0, 7, 1)] [(39, 1, ((10 * (((w1.toInt64).toInt32).toInt64)) + 1)), (41, 17, ((10 * (((w1.toInt64).toInt32).toInt64)) + 1)), (41, 17, 0), (41, 11, 0), (39, 0, (w1.toInt64))] [(6, 0, (some (b + 40))), (41, 3, (some (b + 37))), (41, 2, (some (b + 13))), (40, 3, (some (b + 13)))])) (hu.2.trans ap_ap) ?_
  show zx p l e _ s m _ below meth c g 5 0 0 _ _ 8 [(0, .ref (b + 0)), (1, .int 1), (2, .int w1), (3, .ref (b + 431))] _
  refine z_seti (y := 0) hu.1 ?_
  refine z_i2l (v := 0) B dL_start_8 (by decide) ?_
  refine z_last (j := 0) (σ' := (ap b σ [(7, 2, 0), (7, 1, 0), (40, 8, 2), (5, 2, 0), (41, 19, 0), (41, 19, 0), (41, 15, 1), (41, 4, 2), (41, 16, (-1)), (37, 2, 2), (38, 1, 13), (41, 16, 13), (41, 7, 1), (41, 5, 1), (5, 2, 1), (41, 19, 0), (41, 18, (-1)), (41, 16, (-1)), (41, 15, 0), (41, 14, 0), (41, 13, 0), (41, 12, 0), (41, 10, (-1)), (41, 9, (-1)), (41, 8, 0), (41, 7, 0), (41, 6, ((w1.toInt64).toInt32)), (41, 5, 0), (41, 4, 1), (44, 1, 0), (42, 1, 0), (37, 2, 1), (38, 0, 0), (40, 5, 0), (40, 4, (-1)), (0, 7, 1)] [(431, 0, 0), (39, 1, ((10 * (((w1.toInt64).toInt32).toInt64)) + 1)), (41, 17, ((10 * (((w1.toInt64).toInt32).toInt64)) + 1)), (41, 17, 0), (41, 11, 0), (39, 0, (w1.toInt64))] [(6, 0, (some (b + 40))), (41, 3, (some (b + 37))), (41, 2, (some (b + 13))), (40, 3, (some (b + 13)))])) B (lKA (hk_K hK 431 rfl rfl)) (by decide) (in_of (lNA (hk_N hK 431 rfl rfl)) (show ¬ ((0 : Int32) < 0 ∨ 1 ≤ (0 : Int32).toNatClampNeg) by decide)) wJ_ap dL_start_9 ?_
  refine z_goto (tgt := 25) B dL_start_10 (by decide) ?_
  refine z_iconst (v := 0) B dL_start_25 (by decide) ?_
  exact z_iret B hr (by decide) (by decide) dL_start_26 ⟨rfl, rfl⟩
set_option maxRecDepth 100000 in
set_option maxHeartbeats 4000000 in
theorem ci_X9_start_748 (l : Launch) {g : gx_T} {σ : sx_T} {b : Nat} (hK : lay b σ) (w1 : Int32) (q1_w1 : (0 : Int) ≤ w1.toInt) (q2_w1 : w1.toInt ≤ (999 : Int)) (hI_405_6 : sx_I σ (b + 405) 6 = 0) (hI_405_16 : sx_I σ (b + 405) 16 = 0) (hI_406_20 : sx_I σ (b + 406) 20 = 0) (hI_407_20 : sx_I σ (b + 407) 20 = 0) (hI_412_0 : sx_I σ (b + 412) 0 = 0) (hI_413_0 : sx_I σ (b + 413) 0 = 0) (hR_405_3 : sx_R σ (b + 405) 3 = (some (b + 406))) (hR_405_4 : sx_R σ (b + 405) 4 = (some (b + 407))) (hR_405_7 : sx_R σ (b + 405) 7 = (some (b + 409))) (hR_405_8 : sx_R σ (b + 405) 8 = (some (b + 410))) (hR_405_9 : sx_R σ (b + 405) 9 = (some (b + 411))) (hR_405_10 : sx_R σ (b + 405) 10 = (some (b + 412))) (hR_405_11 : sx_R σ (b + 405) 11 = (some (b + 413))) (hR_405_12 : sx_R σ (b + 405) 12 = (some (b + 414))) (hR_405_13 : sx_R σ (b + 405) 13 = (some (b + 415))) (hR_405_14 : sx_R σ (b + 405) 14 = (some (b + 416))) (hR_405_15 : sx_R σ (b + 405) 15 = (some (b + 417))) (hR_405_42 : sx_R σ (b + 405) 42 = (some (b + 428))) : Met l yX9_start (.code yX9_start cX9_start 4 (some .int) :: lw_g) { frames := 6, cells := 0, slots := 0, locals := 154 } (va_Pc [.ref (b + 405), .int 1, .int w1] (zx_w g σ)) (va_Qi (fun r u => r = 0 ∧ u = (ap b σ [(412, 0, 1), (414, 0, 2), (405, 26, 1), (405, 37, 1), (405, 27, 2), (413, 0, 2), (416, 1, 13), (405, 28, 1), (405, 38, 1), (405, 48, (-1)), (405, 27, 1), (405, 29, ((w1.toInt64).toInt32)), (405, 26, 1), (405, 47, 1), (405, 39, 0), (405, 38, 0), (405, 37, 0), (405, 36, 0), (405, 35, 0), (405, 34, 0), (405, 32, 0), (405, 31, 0), (405, 30, 0), (405, 29, 0), (405, 28, 0), (405, 27, 0), (405, 26, 1), (428, 0, 0), (405, 45, 0), (405, 43, 0), (413, 0, 1), (416, 0, 0), (415, 0, (-1)), (411, 0, 0), (410, 0, (-1)), (409, 0, 1), (405, 6, 1), (405, 0, 0)] [(417, 1, ((10 * (((w1.toInt64).toInt32).toInt64)) + 1)), (417, 0, (w1.toInt64))] [])) (zx_w g) (gx_Q g)) 0 0 (gx_Q g) := by
  refine z_met (by decide) (Nat.le_of_ble_eq_true rfl) (fun p e s m below meth c B hr hin => ?_)
  refine z_eqs (σ' := (ap b σ [] [] [])) rfl ?_
  show zx p l e _ s m _ below meth c g 4 0 0 _ _ 0 [(0, .ref (b + 405)), (1, .int 1), (2, .int w1)] []
  refine z_aload_n B dX9_start_0 rfl 0 rfl ?_
  refine z_iload_n B dX9_start_1 rfl 1 rfl ?_
  refine z_iconst (v := 0) B dX9_start_2 (by decide) ?_
  refine z_iconst (v := 5) B dX9_start_3 (by decide) ?_
  refine z_cSi (As := [.int 1, .int 0, .int 5]) (rest := [.ref (b + 405)]) B cw_X9_96 dX9_start_4 (ci_X9_in_125 l (σ := (ap b σ [] [] [])) (b := b) (lyA hK) ) rfl (by decide) rfl (Nat.le_of_ble_eq_true rfl) (by decide) (fun r u hu => ?_)
  refine z_eqs (σ' := (ap b σ [] [] [])) hu.2 ?_
  show zx p l e _ s m _ below meth c g 4 0 0 _ _ 7 [(0, .ref (b + 405)), (1, .int 1), (2, .int w1)] _
  refine z_seti (y := 1) hu.1 ?_
  refine z_iload_n B dX9_start_7 rfl 2 rfl ?_
  refine z_sipush (v := (-999)) B dX9_start_8 (by decide) ?_
  refine z_sipush (v := 999) B dX9_start_11 (by decide) ?_
  refine z_cSi (As := [.int w1, .int (-999), .int 999]) (rest := [.int 1, .ref (b + 405)]) B cw_X9_96 dX9_start_14 (ci_X9_in_721 l (σ := (ap b σ [] [] [])) (b := b) (lyA hK) w1 q1_w1 q2_w1) rfl (by decide) rfl (Nat.le_of_ble_eq_true rfl) (by decide) (fun r u hu => ?_)
  refine z_eqs (σ' := (ap b σ [] [] [])) hu.2 ?_
  show zx p l e _ s m _ below meth c g 4 0 0 _ _ 17 [(0, .ref (b + 405)), (1, .int 1), (2, .int w1)] _
  refine z_seti (y := 1) hu.1 ?_
  refine z_aload_n B dX9_start_17 rfl 0 rfl ?_
  refine gf_X9_93 (x := 0) B (lKA (hk_K hK 405 rfl rfl)) (rI_at 405 6 hI_405_6) dX9_start_18 ?_
  refine z_bipush (v := 40) B dX9_start_21 (by decide) ?_
  refine z_icmp_ge (tgt := 30) B dX9_start_23 (by decide) (fun h => absurd h (by decide)) (fun _ => ?_)
  refine z_iconst (v := 1) B dX9_start_26 (by decide) ?_
  refine z_goto (tgt := 31) B dX9_start_27 (by decide) ?_
  refine z_cVi (As := [.int 1, .int 1, .int 1]) (rest := []) B cw_X9_259 cx_10 dX9_start_31 (ci_X9_needs___703 l (σ := (ap b σ [] [] [])) (b := b) (lyA hK) ) (lKA (hk_K hK 405 rfl rfl)) rfl (by decide) rfl (Nat.le_of_ble_eq_true rfl) (by decide) (fun r u hu => ?_)
  refine z_eqs (σ' := (ap b σ [(405, 0, 0)] [] [])) (hu.2.trans ap_ap) ?_
  show zx p l e _ s m _ below meth c g 4 0 0 _ _ 34 [(0, .ref (b + 405)), (1, .int 1), (2, .int w1)] _
  refine z_seti (y := 1) hu.1 ?_
  refine z_if_ne (tgt := 39) B dX9_start_34 (by decide) (fun _ => ?_) (fun h => absurd h (by decide))
  refine z_aload_n B dX9_start_39 rfl 0 rfl ?_
  refine z_iload_n B dX9_start_40 rfl 1 rfl ?_
  refine z_iload_n B dX9_start_41 rfl 2 rfl ?_
  refine z_iconst (v := (-1)) B dX9_start_42 (by decide) ?_
  refine z_iconst (v := (-1)) B dX9_start_43 (by decide) ?_
  refine z_cVi (As := [.int 1, .int w1, .int (-1), .int (-1)]) (rest := []) B cw_X9_168 cx_10 dX9_start_44 (ci_X9_begets_739 l (σ := (ap b σ [(405, 0, 0)] [] [])) (b := b) (lyA hK) w1 (rI_at 405 6 hI_405_6) (rI_at 413 0 hI_413_0) (rR_at 405 7 hR_405_7) (rR_at 405 8 hR_405_8) (rR_at 405 9 hR_405_9) (rR_at 405 11 hR_405_11) (rR_at 405 13 hR_405_13) (rR_at 405 14 hR_405_14) (rR_at 405 15 hR_405_15)) (lKA (hk_K hK 405 rfl rfl)) rfl (by decide) rfl (Nat.le_of_ble_eq_true rfl) (by decide) (fun r u hu => ?_)
  refine z_eqs (σ' := (ap b σ [(413, 0, 1), (416, 0, 0), (415, 0, (-1)), (411, 0, 0), (410, 0, (-1)), (409, 0, 1), (405, 6, 1), (405, 0, 0)] [(417, 0, (w1.toInt64))] [])) (hu.2.trans ap_ap) ?_
  show zx p l e _ s m _ below meth c g 4 0 0 _ _ 47 [(0, .ref (b + 405)), (1, .int 1), (2, .int w1)] _
  refine z_seti (y := 0) hu.1 ?_
  refine z_istore_n (lv' := [(3, .int 0), (0, .ref (b + 405)), (1, .int 1), (2, .int w1)]) B dX9_start_47 rfl (by decide) rfl ?_
  refine z_aload_n B dX9_start_48 rfl 1 rfl ?_
  refine z_iload_n B dX9_start_49 rfl 0 rfl ?_
  refine z_cVv (As := [.int 0]) (rest := []) B cw_X9_253 cx_10 dX9_start_50 (ci_X9_runs_743 l (σ := (ap b σ [(413, 0, 1), (416, 0, 0), (415, 0, (-1)), (411, 0, 0), (410, 0, (-1)), (409, 0, 1), (405, 6, 1), (405, 0, 0)] [(417, 0, (w1.toInt64))] [])) (b := b) (lyA hK) (w1.toInt64) (rI_at 405 16 hI_405_16) (rI_at 406 20 hI_406_20) (rI_at 407 20 hI_407_20) (rI_at 409 0 rfl) (rI_at 410 0 rfl) (rI_at 412 0 hI_412_0) (rI_at 413 0 rfl) (rI_at 416 0 rfl) (rJ_at 417 0 rfl) (rR_at 405 3 hR_405_3) (rR_at 405 4 hR_405_4) (rR_at 405 7 hR_405_7) (rR_at 405 8 hR_405_8) (rR_at 405 10 hR_405_10) (rR_at 405 11 hR_405_11) (rR_at 405 12 hR_405_12) (rR_at 405 14 hR_405_14) (rR_at 405 15 hR_405_15) (rR_at 405 42 hR_405_42)) (lKA (hk_K hK 405 rfl rfl)) rfl (by decide) rfl (Nat.le_of_ble_eq_true rfl) (by decide) (fun u hu => ?_)
  refine z_eqs (σ' := (ap b σ [(412, 0, 1), (414, 0, 2), (405, 26, 1), (405, 37, 1), (405, 27, 2), (413, 0, 2), (416, 1, 13), (405, 28, 1), (405, 38, 1), (405, 48, (-1)), (405, 27, 1), (405, 29, ((w1.toInt64).toInt32)), (405, 26, 1), (405, 47, 1), (405, 39, 0), (405, 38, 0), (405, 37, 0), (405, 36, 0), (405, 35, 0), (405, 34, 0), (405, 32, 0), (405, 31, 0), (405, 30, 0), (405, 29, 0), (405, 28, 0), (405, 27, 0), (405, 26, 1), (428, 0, 0), (405, 45, 0), (405, 43, 0), (413, 0, 1), (416, 0, 0), (415, 0, (-1)), (411, 0, 0), (410, 0, (-1)), (409, 0, 1), (405, 6, 1), (405, 0, 0)] [(417, 1, ((10 * (((w1.toInt64).toInt32).toInt64)) + 1)), (417, 0, (w1.toInt64))] [])) (hu.trans ap_ap) ?_
  show zx p l e _ s m _ below meth c g 4 0 0 _ _ 53 [(3, .int 0), (0, .ref (b + 405)), (1, .int 1), (2, .int w1)] _
  refine z_iload_n B dX9_start_53 rfl 0 rfl ?_
  exact z_iret B hr (by decide) (by decide) dX9_start_54 ⟨rfl, rfl⟩
set_option maxRecDepth 100000 in
set_option maxHeartbeats 4000000 in
theorem ci_X8_start_749 (l : Launch) (hlt : l.stackTraces = false) {g : gx_T} {σ : sx_T} {b : Nat} (hK : lay b σ) (w1 : Int32) (q1_w1 : (1000 : Int) ≤ w1.toInt) (q2_w1 : w1.toInt ≤ (2147483647 : Int)) (hR_0_0 : sx_R σ (b + 0) 0 = (some (b + 1))) (hR_1_1 : sx_R σ (b + 1) 1 = (some (b + 13))) : vx_Met l yX8_start (.code yX8_start cX8_start 5 (some .int) :: lw_g) { frames := 7, cells := 1, slots := 6, locals := 136 } (va_Pc [.ref (b + 0), .int 1, .int w1] (zx_w g σ)) (va_Qi (S := sx_T) (fun _ _ => False) (zx_w g) (gx_Q g)) (vx_X (fun u : sx_T => ∃ z, u = wx_Z σ z) (fun E u t => E = "java/lang/IllegalArgumentException" ∧ zx_h g u t.heap) (gx_Q g)) 1 6 (gx_Q g) := by
  refine z_metX (by decide) (Nat.le_of_ble_eq_true rfl) (fun p e s m below meth c B hr hin hout => ?_)
  refine z_eqs (σ' := (ap b σ [] [] [])) rfl ?_
  show zx p l e _ s m _ below meth c g 5 0 0 _ _ 0 [(0, .ref (b + 0)), (1, .int 1), (2, .int w1)] []
  refine z_aload_n B dX8_start_0 rfl 0 rfl ?_
  refine z_iload_n B dX8_start_1 rfl 1 rfl ?_
  refine z_cVq (As := [.int 1]) (rest := []) B cw_X8_64 cx_9 dX8_start_2 (ci_X8_programAt_122 l (σ := (ap b σ [] [] [])) (b := b) (lyA hK) (rR_at 0 0 hR_0_0) (rR_at 1 1 hR_1_1)) (lKA (hk_K hK 0 rfl rfl)) rfl (by decide) rfl (Nat.le_of_ble_eq_true rfl) (by decide) (fun r u hu => ?_)
  refine z_eqs (σ' := (ap b σ [] [] [])) hu.2 ?_
  show zx p l e _ s m _ below meth c g 5 0 0 _ _ 5 [(0, .ref (b + 0)), (1, .int 1), (2, .int w1)] _
  refine z_setr (y := (some (b + 13))) hu.1 ?_
  refine z_astore_n (lv' := [(3, .ref (b + 13)), (0, .ref (b + 0)), (1, .int 1), (2, .int w1)]) B dX8_start_5 rfl (by decide) rfl ?_
  refine z_aload_n B dX8_start_6 rfl 0 rfl ?_
  refine z_ifnonnull (r := (some (b + 13))) (tgt := 20) B dX8_start_7 (by decide) (fun _ _ => ?_) (fun h => nomatch h)
  refine z_iload_n B dX8_start_20 rfl 3 rfl ?_
  refine z_sipush (v := (-999)) B dX8_start_21 (by decide) ?_
  refine z_icmp_lt (tgt := 34) B dX8_start_24 (by decide) (fun h => absurd h (iv_nlt q1_w1 (by decide))) (fun _ => ?_)
  refine z_iload_n B dX8_start_27 rfl 3 rfl ?_
  refine z_sipush (v := 999) B dX8_start_28 (by decide) ?_
  refine z_icmp_le (tgt := 44) B dX8_start_31 (by decide) (fun h => absurd h (iv_nle q1_w1 (by decide))) (fun _ => ?_)
  exact z_throw B hlt hout (cls := "java/lang/IllegalArgumentException") (text := "input is out of range") tw_X8_83_139_87 dX8_start_34 dX8_start_37 dX8_start_38 dX8_start_40 dX8_start_43 (by decide) (by decide) (by decide) (by decide) (by decide) (by decide) (fun z => ⟨z, rfl⟩)
set_option maxRecDepth 100000 in
set_option maxHeartbeats 4000000 in
theorem ci_L_start_750 (l : Launch) (hlt : l.stackTraces = false) {g : gx_T} {σ : sx_T} {b : Nat} (hK : lay b σ) (w1 : Int32) (q1_w1 : (1000 : Int) ≤ w1.toInt) (q2_w1 : w1.toInt ≤ (2147483647 : Int)) (hR_0_0 : sx_R σ (b + 0) 0 = (some (b + 1))) (hR_1_1 : sx_R σ (b + 1) 1 = (some (b + 13))) : Met l yL_start (.codeWith yL_start cL_start 5 (some .int) [(0, 10, 13, 13), (0, 10, 17, 15), (0, 10, 21, 24)] :: lw_g) { frames := 8, cells := 1, slots := 6, locals := 160 } (va_Pc [.ref (b + 0), .int 1, .int w1, .ref (b + 431)] (zx_w g σ)) (va_Qi (fun r u => r = 2 ∧ ∃ z, u = (ap b (wx_Z σ z) [] [] [])) (zx_w g) (gx_Q g)) 1 6 (gx_Q g) := by
  refine z_metW (by decide) (Nat.le_of_ble_eq_true rfl) (fun p e s m below meth c B hr htab => ?_)
  refine z_eqs (σ' := (ap b σ [] [] [])) rfl ?_
  show zx p l e _ s m _ below meth c g 5 0 0 _ _ 0 [(0, .ref (b + 0)), (1, .int 1), (2, .int w1), (3, .ref (b + 431))] []
  refine z_aload_n B dL_start_0 rfl 3 rfl ?_
  refine z_iconst (v := 0) B dL_start_1 (by decide) ?_
  refine z_aload_n B dL_start_2 rfl 0 rfl ?_
  refine z_iload_n B dL_start_3 rfl 1 rfl ?_
  refine z_iload_n B dL_start_4 rfl 2 rfl ?_
  refine z_cXi (As := [.int 1, .int w1]) (rest := [.int 0, .ref (b + 431)]) B htab tc_start_5_IllegalArgumentException cw_L_20 cx_9 dL_start_5 (ci_X8_start_749 l hlt (σ := (ap b σ [] [] [])) (b := b) (lyA hK) w1 q1_w1 q2_w1 (rR_at 0 0 hR_0_0) (rR_at 1 1 hR_1_1)) (lKA (hk_K hK 0 rfl rfl)) rfl (by decide) rfl (Nat.le_of_ble_eq_true rfl) (by decide) (fun z q => ?_)
  refine z_eqs (σ' := (ap b (wx_Z σ z) [] [] [])) rfl ?_
  show zx p l e _ s m _ below meth c g 5 _ _ _ _ 17 [(0, .ref (b + 0)), (1, .int 1), (2, .int w1), (3, .ref (b + 431))] _
  refine z_astore (lv' := [(4, .ref q), (0, .ref (b + 0)), (1, .int 1), (2, .int w1), (3, .ref (b + 431))]) B dL_start_17 (by decide) rfl ?_
  refine z_iconst (v := 2) B dL_start_19 (by decide) ?_
  exact z_iret B hr (by decide) (by decide) dL_start_20 ⟨rfl, _, rfl⟩
set_option maxRecDepth 100000 in
set_option maxHeartbeats 4000000 in
theorem ci_X9_start_751 (l : Launch) {g : gx_T} {σ : sx_T} {b : Nat} (hK : lay b σ) (w1 : Int32) (q1_w1 : (1000 : Int) ≤ w1.toInt) (q2_w1 : w1.toInt ≤ (2147483647 : Int)) (hI_405_6 : sx_I σ (b + 405) 6 = 0) : Met l yX9_start (.code yX9_start cX9_start 4 (some .int) :: lw_g) { frames := 1, cells := 0, slots := 0, locals := 23 } (va_Pc [.ref (b + 405), .int 1, .int w1] (zx_w g σ)) (va_Qi (fun r u => r = 0 ∧ u = (ap b σ [(405, 0, 2)] [] [])) (zx_w g) (gx_Q g)) 0 0 (gx_Q g) := by
  refine z_met (by decide) (Nat.le_of_ble_eq_true rfl) (fun p e s m below meth c B hr hin => ?_)
  refine z_eqs (σ' := (ap b σ [] [] [])) rfl ?_
  show zx p l e _ s m _ below meth c g 4 0 0 _ _ 0 [(0, .ref (b + 405)), (1, .int 1), (2, .int w1)] []
  refine z_aload_n B dX9_start_0 rfl 0 rfl ?_
  refine z_iload_n B dX9_start_1 rfl 1 rfl ?_
  refine z_iconst (v := 0) B dX9_start_2 (by decide) ?_
  refine z_iconst (v := 5) B dX9_start_3 (by decide) ?_
  refine z_cSi (As := [.int 1, .int 0, .int 5]) (rest := [.ref (b + 405)]) B cw_X9_96 dX9_start_4 (ci_X9_in_125 l (σ := (ap b σ [] [] [])) (b := b) (lyA hK) ) rfl (by decide) rfl (Nat.le_of_ble_eq_true rfl) (by decide) (fun r u hu => ?_)
  refine z_eqs (σ' := (ap b σ [] [] [])) hu.2 ?_
  show zx p l e _ s m _ below meth c g 4 0 0 _ _ 7 [(0, .ref (b + 405)), (1, .int 1), (2, .int w1)] _
  refine z_seti (y := 1) hu.1 ?_
  refine z_iload_n B dX9_start_7 rfl 2 rfl ?_
  refine z_sipush (v := (-999)) B dX9_start_8 (by decide) ?_
  refine z_sipush (v := 999) B dX9_start_11 (by decide) ?_
  refine z_cSi (As := [.int w1, .int (-999), .int 999]) (rest := [.int 1, .ref (b + 405)]) B cw_X9_96 dX9_start_14 (ci_X9_in_657 l (σ := (ap b σ [] [] [])) (b := b) (lyA hK) w1 q1_w1 q2_w1) rfl (by decide) rfl (Nat.le_of_ble_eq_true rfl) (by decide) (fun r u hu => ?_)
  refine z_eqs (σ' := (ap b σ [] [] [])) hu.2 ?_
  show zx p l e _ s m _ below meth c g 4 0 0 _ _ 17 [(0, .ref (b + 405)), (1, .int 1), (2, .int w1)] _
  refine z_seti (y := 0) hu.1 ?_
  refine z_aload_n B dX9_start_17 rfl 0 rfl ?_
  refine gf_X9_93 (x := 0) B (lKA (hk_K hK 405 rfl rfl)) (rI_at 405 6 hI_405_6) dX9_start_18 ?_
  refine z_bipush (v := 40) B dX9_start_21 (by decide) ?_
  refine z_icmp_ge (tgt := 30) B dX9_start_23 (by decide) (fun h => absurd h (by decide)) (fun _ => ?_)
  refine z_iconst (v := 1) B dX9_start_26 (by decide) ?_
  refine z_goto (tgt := 31) B dX9_start_27 (by decide) ?_
  refine z_cVi (As := [.int 1, .int 0, .int 1]) (rest := []) B cw_X9_259 cx_10 dX9_start_31 (ci_X9_needs___661 l (σ := (ap b σ [] [] [])) (b := b) (lyA hK) ) (lKA (hk_K hK 405 rfl rfl)) rfl (by decide) rfl (Nat.le_of_ble_eq_true rfl) (by decide) (fun r u hu => ?_)
  refine z_eqs (σ' := (ap b σ [(405, 0, 2)] [] [])) (hu.2.trans ap_ap) ?_
  show zx p l e _ s m _ below meth c g 4 0 0 _ _ 34 [(0, .ref (b + 405)), (1, .int 1), (2, .int w1)] _
  refine z_seti (y := 0) hu.1 ?_
  refine z_if_ne (tgt := 39) B dX9_start_34 (by decide) (fun h => absurd (by decide) h) (fun _ => ?_)
  refine z_iconst (v := 0) B dX9_start_37 (by decide) ?_
  exact z_iret B hr (by decide) (by decide) dX9_start_38 ⟨rfl, rfl⟩
set_option maxRecDepth 100000 in
set_option maxHeartbeats 4000000 in
theorem ci_X8_start_752 (l : Launch) (hlt : l.stackTraces = false) {g : gx_T} {σ : sx_T} {b : Nat} (hK : lay b σ) (w1 : Int32) (q1_w1 : (-2147483648 : Int) ≤ w1.toInt) (q2_w1 : w1.toInt ≤ (-1000 : Int)) (hR_0_0 : sx_R σ (b + 0) 0 = (some (b + 1))) (hR_1_2 : sx_R σ (b + 1) 2 = (some (b + 17))) : vx_Met l yX8_start (.code yX8_start cX8_start 5 (some .int) :: lw_g) { frames := 7, cells := 1, slots := 6, locals := 136 } (va_Pc [.ref (b + 0), .int 2, .int w1] (zx_w g σ)) (va_Qi (S := sx_T) (fun _ _ => False) (zx_w g) (gx_Q g)) (vx_X (fun u : sx_T => ∃ z, u = wx_Z σ z) (fun E u t => E = "java/lang/IllegalArgumentException" ∧ zx_h g u t.heap) (gx_Q g)) 1 6 (gx_Q g) := by
  refine z_metX (by decide) (Nat.le_of_ble_eq_true rfl) (fun p e s m below meth c B hr hin hout => ?_)
  refine z_eqs (σ' := (ap b σ [] [] [])) rfl ?_
  show zx p l e _ s m _ below meth c g 5 0 0 _ _ 0 [(0, .ref (b + 0)), (1, .int 2), (2, .int w1)] []
  refine z_aload_n B dX8_start_0 rfl 0 rfl ?_
  refine z_iload_n B dX8_start_1 rfl 1 rfl ?_
  refine z_cVq (As := [.int 2]) (rest := []) B cw_X8_64 cx_9 dX8_start_2 (ci_X8_programAt_171 l (σ := (ap b σ [] [] [])) (b := b) (lyA hK) (rR_at 0 0 hR_0_0) (rR_at 1 2 hR_1_2)) (lKA (hk_K hK 0 rfl rfl)) rfl (by decide) rfl (Nat.le_of_ble_eq_true rfl) (by decide) (fun r u hu => ?_)
  refine z_eqs (σ' := (ap b σ [] [] [])) hu.2 ?_
  show zx p l e _ s m _ below meth c g 5 0 0 _ _ 5 [(0, .ref (b + 0)), (1, .int 2), (2, .int w1)] _
  refine z_setr (y := (some (b + 17))) hu.1 ?_
  refine z_astore_n (lv' := [(3, .ref (b + 17)), (0, .ref (b + 0)), (1, .int 2), (2, .int w1)]) B dX8_start_5 rfl (by decide) rfl ?_
  refine z_aload_n B dX8_start_6 rfl 0 rfl ?_
  refine z_ifnonnull (r := (some (b + 17))) (tgt := 20) B dX8_start_7 (by decide) (fun _ _ => ?_) (fun h => nomatch h)
  refine z_iload_n B dX8_start_20 rfl 3 rfl ?_
  refine z_sipush (v := (-999)) B dX8_start_21 (by decide) ?_
  refine z_icmp_lt (tgt := 34) B dX8_start_24 (by decide) (fun _ => ?_) (fun h => absurd (iv_lt q2_w1 (by decide)) h)
  exact z_throw B hlt hout (cls := "java/lang/IllegalArgumentException") (text := "input is out of range") tw_X8_83_139_87 dX8_start_34 dX8_start_37 dX8_start_38 dX8_start_40 dX8_start_43 (by decide) (by decide) (by decide) (by decide) (by decide) (by decide) (fun z => ⟨z, rfl⟩)
set_option maxRecDepth 100000 in
set_option maxHeartbeats 4000000 in
theorem ci_L_start_753 (l : Launch) (hlt : l.stackTraces = false) {g : gx_T} {σ : sx_T} {b : Nat} (hK : lay b σ) (w1 : Int32) (q1_w1 : (-2147483648 : Int) ≤ w1.toInt) (q2_w1 : w1.toInt ≤ (-1000 : Int)) (hR_0_0 : sx_R σ (b + 0) 0 = (some (b + 1))) (hR_1_2 : sx_R σ (b + 1) 2 = (some (b + 17))) : Met l yL_start (.codeWith yL_start cL_start 5 (some .int) [(0, 10, 13, 13), (0, 10, 17, 15), (0, 10, 21, 24)] :: lw_g) { frames := 8, cells := 1, slots := 6, locals := 160 } (va_Pc [.ref (b + 0), .int 2, .int w1, .ref (b + 431)] (zx_w g σ)) (va_Qi (fun r u => r = 2 ∧ ∃ z, u = (ap b (wx_Z σ z) [] [] [])) (zx_w g) (gx_Q g)) 1 6 (gx_Q g) := by
  refine z_metW (by decide) (Nat.le_of_ble_eq_true rfl) (fun p e s m below meth c B hr htab => ?_)
  refine z_eqs (σ' := (ap b σ [] [] [])) rfl ?_
  show zx p l e _ s m _ below meth c g 5 0 0 _ _ 0 [(0, .ref (b + 0)), (1, .int 2), (2, .int w1), (3, .ref (b + 431))] []
  refine z_aload_n B dL_start_0 rfl 3 rfl ?_
  refine z_iconst (v := 0) B dL_start_1 (by decide) ?_
  refine z_aload_n B dL_start_2 rfl 0 rfl ?_
  refine z_iload_n B dL_start_3 rfl 1 rfl ?_
  refine z_iload_n B dL_start_4 rfl 2 rfl ?_
  refine z_cXi (As := [.int 2, .int w1]) (rest := [.int 0, .ref (b + 431)]) B htab tc_start_5_IllegalArgumentException cw_L_20 cx_9 dL_start_5 (ci_X8_start_752 l hlt (σ := (ap b σ [] [] [])) (b := b) (lyA hK) w1 q1_w1 q2_w1 (rR_at 0 0 hR_0_0) (rR_at 1 2 hR_1_2)) (lKA (hk_K hK 0 rfl rfl)) rfl (by decide) rfl (Nat.le_of_ble_eq_true rfl) (by decide) (fun z q => ?_)
  refine z_eqs (σ' := (ap b (wx_Z σ z) [] [] [])) rfl ?_
  show zx p l e _ s m _ below meth c g 5 _ _ _ _ 17 [(0, .ref (b + 0)), (1, .int 2), (2, .int w1), (3, .ref (b + 431))] _
  refine z_astore (lv' := [(4, .ref q), (0, .ref (b + 0)), (1, .int 2), (2, .int w1), (3, .ref (b + 431))]) B dL_start_17 (by decide) rfl ?_
  refine z_iconst (v := 2) B dL_start_19 (by decide) ?_
  exact z_iret B hr (by decide) (by decide) dL_start_20 ⟨rfl, _, rfl⟩
set_option maxRecDepth 100000 in
set_option maxHeartbeats 4000000 in
theorem ci_X9_start_754 (l : Launch) {g : gx_T} {σ : sx_T} {b : Nat} (hK : lay b σ) (w1 : Int32) (q1_w1 : (-2147483648 : Int) ≤ w1.toInt) (q2_w1 : w1.toInt ≤ (-1000 : Int)) (hI_405_6 : sx_I σ (b + 405) 6 = 0) : Met l yX9_start (.code yX9_start cX9_start 4 (some .int) :: lw_g) { frames := 1, cells := 0, slots := 0, locals := 23 } (va_Pc [.ref (b + 405), .int 2, .int w1] (zx_w g σ)) (va_Qi (fun r u => r = 0 ∧ u = (ap b σ [(405, 0, 2)] [] [])) (zx_w g) (gx_Q g)) 0 0 (gx_Q g) := by
  refine z_met (by decide) (Nat.le_of_ble_eq_true rfl) (fun p e s m below meth c B hr hin => ?_)
  refine z_eqs (σ' := (ap b σ [] [] [])) rfl ?_
  show zx p l e _ s m _ below meth c g 4 0 0 _ _ 0 [(0, .ref (b + 405)), (1, .int 2), (2, .int w1)] []
  refine z_aload_n B dX9_start_0 rfl 0 rfl ?_
  refine z_iload_n B dX9_start_1 rfl 1 rfl ?_
  refine z_iconst (v := 0) B dX9_start_2 (by decide) ?_
  refine z_iconst (v := 5) B dX9_start_3 (by decide) ?_
  refine z_cSi (As := [.int 2, .int 0, .int 5]) (rest := [.ref (b + 405)]) B cw_X9_96 dX9_start_4 (ci_X9_in_174 l (σ := (ap b σ [] [] [])) (b := b) (lyA hK) ) rfl (by decide) rfl (Nat.le_of_ble_eq_true rfl) (by decide) (fun r u hu => ?_)
  refine z_eqs (σ' := (ap b σ [] [] [])) hu.2 ?_
  show zx p l e _ s m _ below meth c g 4 0 0 _ _ 7 [(0, .ref (b + 405)), (1, .int 2), (2, .int w1)] _
  refine z_seti (y := 1) hu.1 ?_
  refine z_iload_n B dX9_start_7 rfl 2 rfl ?_
  refine z_sipush (v := (-999)) B dX9_start_8 (by decide) ?_
  refine z_sipush (v := 999) B dX9_start_11 (by decide) ?_
  refine z_cSi (As := [.int w1, .int (-999), .int 999]) (rest := [.int 1, .ref (b + 405)]) B cw_X9_96 dX9_start_14 (ci_X9_in_651 l (σ := (ap b σ [] [] [])) (b := b) (lyA hK) w1 q1_w1 q2_w1) rfl (by decide) rfl (Nat.le_of_ble_eq_true rfl) (by decide) (fun r u hu => ?_)
  refine z_eqs (σ' := (ap b σ [] [] [])) hu.2 ?_
  show zx p l e _ s m _ below meth c g 4 0 0 _ _ 17 [(0, .ref (b + 405)), (1, .int 2), (2, .int w1)] _
  refine z_seti (y := 0) hu.1 ?_
  refine z_aload_n B dX9_start_17 rfl 0 rfl ?_
  refine gf_X9_93 (x := 0) B (lKA (hk_K hK 405 rfl rfl)) (rI_at 405 6 hI_405_6) dX9_start_18 ?_
  refine z_bipush (v := 40) B dX9_start_21 (by decide) ?_
  refine z_icmp_ge (tgt := 30) B dX9_start_23 (by decide) (fun h => absurd h (by decide)) (fun _ => ?_)
  refine z_iconst (v := 1) B dX9_start_26 (by decide) ?_
  refine z_goto (tgt := 31) B dX9_start_27 (by decide) ?_
  refine z_cVi (As := [.int 1, .int 0, .int 1]) (rest := []) B cw_X9_259 cx_10 dX9_start_31 (ci_X9_needs___661 l (σ := (ap b σ [] [] [])) (b := b) (lyA hK) ) (lKA (hk_K hK 405 rfl rfl)) rfl (by decide) rfl (Nat.le_of_ble_eq_true rfl) (by decide) (fun r u hu => ?_)
  refine z_eqs (σ' := (ap b σ [(405, 0, 2)] [] [])) (hu.2.trans ap_ap) ?_
  show zx p l e _ s m _ below meth c g 4 0 0 _ _ 34 [(0, .ref (b + 405)), (1, .int 2), (2, .int w1)] _
  refine z_seti (y := 0) hu.1 ?_
  refine z_if_ne (tgt := 39) B dX9_start_34 (by decide) (fun h => absurd (by decide) h) (fun _ => ?_)
  refine z_iconst (v := 0) B dX9_start_37 (by decide) ?_
  exact z_iret B hr (by decide) (by decide) dX9_start_38 ⟨rfl, rfl⟩
set_option maxRecDepth 100000 in
set_option maxHeartbeats 4000000 in
theorem ci_X5_begin_755 (l : Launch) {g : gx_T} {σ : sx_T} {b : Nat} (hK : lay b σ) (w1 : Int64)  (hI_37_2 : sx_I σ (b + 37) 2 = 1) (hJ_39_0 : sx_J σ (b + 39) 0 = w1) (hR_37_1 : sx_R σ (b + 37) 1 = (some (b + 39))) (hR_41_0 : sx_R σ (b + 41) 0 = (some (b + 42))) (hR_41_1 : sx_R σ (b + 41) 1 = (some (b + 44))) : Met l yX5_begin (.code yX5_begin cX5_begin 3 none :: lw_g) { frames := 1, cells := 0, slots := 0, locals := 21 } (va_Pc [.ref (b + 41), .ref (b + 17), .ref (b + 37)] (zx_w g σ)) (va_Qv (fun u => u = (ap b σ [(41, 19, 0), (41, 18, (-1)), (41, 16, (-1)), (41, 15, 0), (41, 14, 0), (41, 13, 0), (41, 12, 0), (41, 10, (-1)), (41, 9, (-1)), (41, 8, 0), (41, 7, 0), (41, 6, (w1.toInt32)), (41, 5, 0), (41, 4, 1), (44, 1, 0), (42, 1, 0)] [(41, 17, 0), (41, 11, 0)] [(41, 3, (some (b + 37))), (41, 2, (some (b + 17)))])) (zx_w g) (gx_Q g)) 0 0 (gx_Q g) := by
  refine z_met (by decide) (Nat.le_of_ble_eq_true rfl) (fun p e s m below meth c B hr hin => ?_)
  refine z_eqs (σ' := (ap b σ [] [] [])) rfl ?_
  show zx p l e _ s m _ below meth c g 3 0 0 _ _ 0 [(0, .ref (b + 41)), (1, .ref (b + 17)), (2, .ref (b + 37))] []
  refine z_aload_n B dX5_begin_0 rfl 0 rfl ?_
  refine z_aload_n B dX5_begin_1 rfl 1 rfl ?_
  refine pf_X5_25 (x := (some (b + 17))) (σ' := (ap b σ [] [] [(41, 2, (some (b + 17)))])) B (lKA (hk_K hK 41 rfl rfl)) wR_ap dX5_begin_2 ?_
  refine z_aload_n B dX5_begin_5 rfl 0 rfl ?_
  refine z_aload_n B dX5_begin_6 rfl 2 rfl ?_
  refine pf_X5_29 (x := (some (b + 37))) (σ' := (ap b σ [] [] [(41, 3, (some (b + 37))), (41, 2, (some (b + 17)))])) B (lKA (hk_K hK 41 rfl rfl)) wR_ap dX5_begin_7 ?_
  refine z_aload_n B dX5_begin_10 rfl 0 rfl ?_
  refine gf_X5_12 (x := (some (b + 42))) B (lKA (hk_K hK 41 rfl rfl)) (rR_at 41 0 hR_41_0) dX5_begin_11 ?_
  refine z_iconst (v := 0) B dX5_begin_14 (by decide) ?_
  refine pf_X5_33 (x := 0) (σ' := (ap b σ [(42, 1, 0)] [] [(41, 3, (some (b + 37))), (41, 2, (some (b + 17)))])) B (lKA (hk_K hK 42 rfl rfl)) wI_ap dX5_begin_15 ?_
  refine z_aload_n B dX5_begin_18 rfl 0 rfl ?_
  refine gf_X5_21 (x := (some (b + 44))) B (lKA (hk_K hK 41 rfl rfl)) (rR_at 41 1 hR_41_1) dX5_begin_19 ?_
  refine z_iconst (v := 0) B dX5_begin_22 (by decide) ?_
  refine pf_X5_37 (x := 0) (σ' := (ap b σ [(44, 1, 0), (42, 1, 0)] [] [(41, 3, (some (b + 37))), (41, 2, (some (b + 17)))])) B (lKA (hk_K hK 44 rfl rfl)) wI_ap dX5_begin_23 ?_
  refine z_aload_n B dX5_begin_26 rfl 0 rfl ?_
  refine z_iconst (v := 1) B dX5_begin_27 (by decide) ?_
  refine pf_X5_38 (x := 1) (σ' := (ap b σ [(41, 4, 1), (44, 1, 0), (42, 1, 0)] [] [(41, 3, (some (b + 37))), (41, 2, (some (b + 17)))])) B (lKA (hk_K hK 41 rfl rfl)) wI_ap dX5_begin_28 ?_
  refine z_aload_n B dX5_begin_31 rfl 0 rfl ?_
  refine z_iconst (v := 0) B dX5_begin_32 (by decide) ?_
  refine pf_X5_41 (x := 0) (σ' := (ap b σ [(41, 5, 0), (41, 4, 1), (44, 1, 0), (42, 1, 0)] [] [(41, 3, (some (b + 37))), (41, 2, (some (b + 17)))])) B (lKA (hk_K hK 41 rfl rfl)) wI_ap dX5_begin_33 ?_
  refine z_aload_n B dX5_begin_36 rfl 0 rfl ?_
  refine z_aload_n B dX5_begin_37 rfl 2 rfl ?_
  refine z_iconst (v := 0) B dX5_begin_38 (by decide) ?_
  refine z_cVl (As := [.int 0]) (rest := [.ref (b + 41)]) B cw_X5_44 cx_2 dX5_begin_39 (ci_X1_numberAt_664 l (σ := (ap b σ [(41, 5, 0), (41, 4, 1), (44, 1, 0), (42, 1, 0)] [] [(41, 3, (some (b + 37))), (41, 2, (some (b + 17)))])) (b := b) (lyA hK) w1 (rI_at 37 2 hI_37_2) (rJ_at 39 0 hJ_39_0) (rR_at 37 1 hR_37_1)) (lKA (hk_K hK 37 rfl rfl)) rfl (by decide) rfl (Nat.le_of_ble_eq_true rfl) (by decide) (fun r u hu => ?_)
  refine z_eqs (σ' := (ap b σ [(41, 5, 0), (41, 4, 1), (44, 1, 0), (42, 1, 0)] [] [(41, 3, (some (b + 37))), (41, 2, (some (b + 17)))])) hu.2 ?_
  show zx p l e _ s m _ below meth c g 3 0 0 _ _ 42 [(0, .ref (b + 41)), (1, .ref (b + 17)), (2, .ref (b + 37))] _
  refine z_setl (y := w1) hu.1 ?_
  refine z_l2i B dX5_begin_42 rfl ?_
  refine pf_X5_50 (x := (w1.toInt32)) (σ' := (ap b σ [(41, 6, (w1.toInt32)), (41, 5, 0), (41, 4, 1), (44, 1, 0), (42, 1, 0)] [] [(41, 3, (some (b + 37))), (41, 2, (some (b + 17)))])) B (lKA (hk_K hK 41 rfl rfl)) wI_ap dX5_begin_43 ?_
  refine z_aload_n B dX5_begin_46 rfl 0 rfl ?_
  refine z_iconst (v := 0) B dX5_begin_47 (by decide) ?_
  refine pf_X5_53 (x := 0) (σ' := (ap b σ [(41, 7, 0), (41, 6, (w1.toInt32)), (41, 5, 0), (41, 4, 1), (44, 1, 0), (42, 1, 0)] [] [(41, 3, (some (b + 37))), (41, 2, (some (b + 17)))])) B (lKA (hk_K hK 41 rfl rfl)) wI_ap dX5_begin_48 ?_
  refine z_aload_n B dX5_begin_51 rfl 0 rfl ?_
  refine z_iconst (v := 0) B dX5_begin_52 (by decide) ?_
  refine pf_X5_56 (x := 0) (σ' := (ap b σ [(41, 8, 0), (41, 7, 0), (41, 6, (w1.toInt32)), (41, 5, 0), (41, 4, 1), (44, 1, 0), (42, 1, 0)] [] [(41, 3, (some (b + 37))), (41, 2, (some (b + 17)))])) B (lKA (hk_K hK 41 rfl rfl)) wI_ap dX5_begin_53 ?_
  refine z_aload_n B dX5_begin_56 rfl 0 rfl ?_
  refine z_iconst (v := (-1)) B dX5_begin_57 (by decide) ?_
  refine pf_X5_59 (x := (-1)) (σ' := (ap b σ [(41, 9, (-1)), (41, 8, 0), (41, 7, 0), (41, 6, (w1.toInt32)), (41, 5, 0), (41, 4, 1), (44, 1, 0), (42, 1, 0)] [] [(41, 3, (some (b + 37))), (41, 2, (some (b + 17)))])) B (lKA (hk_K hK 41 rfl rfl)) wI_ap dX5_begin_58 ?_
  refine z_aload_n B dX5_begin_61 rfl 0 rfl ?_
  refine z_iconst (v := (-1)) B dX5_begin_62 (by decide) ?_
  refine pf_X5_62 (x := (-1)) (σ' := (ap b σ [(41, 10, (-1)), (41, 9, (-1)), (41, 8, 0), (41, 7, 0), (41, 6, (w1.toInt32)), (41, 5, 0), (41, 4, 1), (44, 1, 0), (42, 1, 0)] [] [(41, 3, (some (b + 37))), (41, 2, (some (b + 17)))])) B (lKA (hk_K hK 41 rfl rfl)) wI_ap dX5_begin_63 ?_
  refine z_aload_n B dX5_begin_66 rfl 0 rfl ?_
  refine z_lconst (v := 0) B dX5_begin_67 (by decide) ?_
  refine pf_X5_65 (x := 0) (σ' := (ap b σ [(41, 10, (-1)), (41, 9, (-1)), (41, 8, 0), (41, 7, 0), (41, 6, (w1.toInt32)), (41, 5, 0), (41, 4, 1), (44, 1, 0), (42, 1, 0)] [(41, 11, 0)] [(41, 3, (some (b + 37))), (41, 2, (some (b + 17)))])) B (lKA (hk_K hK 41 rfl rfl)) wJ_ap dX5_begin_68 ?_
  refine z_aload_n B dX5_begin_71 rfl 0 rfl ?_
  refine z_iconst (v := 0) B dX5_begin_72 (by decide) ?_
  refine pf_X5_69 (x := 0) (σ' := (ap b σ [(41, 12, 0), (41, 10, (-1)), (41, 9, (-1)), (41, 8, 0), (41, 7, 0), (41, 6, (w1.toInt32)), (41, 5, 0), (41, 4, 1), (44, 1, 0), (42, 1, 0)] [(41, 11, 0)] [(41, 3, (some (b + 37))), (41, 2, (some (b + 17)))])) B (by decide) (lKA (hk_K hK 41 rfl rfl)) wI_ap dX5_begin_73 ?_
  refine z_aload_n B dX5_begin_76 rfl 0 rfl ?_
  refine z_iconst (v := 0) B dX5_begin_77 (by decide) ?_
  refine pf_X5_73 (x := 0) (σ' := (ap b σ [(41, 13, 0), (41, 12, 0), (41, 10, (-1)), (41, 9, (-1)), (41, 8, 0), (41, 7, 0), (41, 6, (w1.toInt32)), (41, 5, 0), (41, 4, 1), (44, 1, 0), (42, 1, 0)] [(41, 11, 0)] [(41, 3, (some (b + 37))), (41, 2, (some (b + 17)))])) B (by decide) (lKA (hk_K hK 41 rfl rfl)) wI_ap dX5_begin_78 ?_
  refine z_aload_n B dX5_begin_81 rfl 0 rfl ?_
  refine z_iconst (v := 0) B dX5_begin_82 (by decide) ?_
  refine pf_X5_76 (x := 0) (σ' := (ap b σ [(41, 14, 0), (41, 13, 0), (41, 12, 0), (41, 10, (-1)), (41, 9, (-1)), (41, 8, 0), (41, 7, 0), (41, 6, (w1.toInt32)), (41, 5, 0), (41, 4, 1), (44, 1, 0), (42, 1, 0)] [(41, 11, 0)] [(41, 3, (some (b + 37))), (41, 2, (some (b + 17)))])) B (lKA (hk_K hK 41 rfl rfl)) wI_ap dX5_begin_83 ?_
  refine z_aload_n B dX5_begin_86 rfl 0 rfl ?_
  refine z_iconst (v := 0) B dX5_begin_87 (by decide) ?_
  refine pf_X5_79 (x := 0) (σ' := (ap b σ [(41, 15, 0), (41, 14, 0), (41, 13, 0), (41, 12, 0), (41, 10, (-1)), (41, 9, (-1)), (41, 8, 0), (41, 7, 0), (41, 6, (w1.toInt32)), (41, 5, 0), (41, 4, 1), (44, 1, 0), (42, 1, 0)] [(41, 11, 0)] [(41, 3, (some (b + 37))), (41, 2, (some (b + 17)))])) B (by decide) (lKA (hk_K hK 41 rfl rfl)) wI_ap dX5_begin_88 ?_
  refine z_aload_n B dX5_begin_91 rfl 0 rfl ?_
  refine z_iconst (v := (-1)) B dX5_begin_92 (by decide) ?_
  refine pf_X5_82 (x := (-1)) (σ' := (ap b σ [(41, 16, (-1)), (41, 15, 0), (41, 14, 0), (41, 13, 0), (41, 12, 0), (41, 10, (-1)), (41, 9, (-1)), (41, 8, 0), (41, 7, 0), (41, 6, (w1.toInt32)), (41, 5, 0), (41, 4, 1), (44, 1, 0), (42, 1, 0)] [(41, 11, 0)] [(41, 3, (some (b + 37))), (41, 2, (some (b + 17)))])) B (lKA (hk_K hK 41 rfl rfl)) wI_ap dX5_begin_93 ?_
  refine z_aload_n B dX5_begin_96 rfl 0 rfl ?_
  refine z_lconst (v := 0) B dX5_begin_97 (by decide) ?_
  refine pf_X5_85 (x := 0) (σ' := (ap b σ [(41, 16, (-1)), (41, 15, 0), (41, 14, 0), (41, 13, 0), (41, 12, 0), (41, 10, (-1)), (41, 9, (-1)), (41, 8, 0), (41, 7, 0), (41, 6, (w1.toInt32)), (41, 5, 0), (41, 4, 1), (44, 1, 0), (42, 1, 0)] [(41, 17, 0), (41, 11, 0)] [(41, 3, (some (b + 37))), (41, 2, (some (b + 17)))])) B (lKA (hk_K hK 41 rfl rfl)) wJ_ap dX5_begin_98 ?_
  refine z_aload_n B dX5_begin_101 rfl 0 rfl ?_
  refine z_iconst (v := (-1)) B dX5_begin_102 (by decide) ?_
  refine pf_X5_88 (x := (-1)) (σ' := (ap b σ [(41, 18, (-1)), (41, 16, (-1)), (41, 15, 0), (41, 14, 0), (41, 13, 0), (41, 12, 0), (41, 10, (-1)), (41, 9, (-1)), (41, 8, 0), (41, 7, 0), (41, 6, (w1.toInt32)), (41, 5, 0), (41, 4, 1), (44, 1, 0), (42, 1, 0)] [(41, 17, 0), (41, 11, 0)] [(41, 3, (some (b + 37))), (41, 2, (some (b + 17)))])) B (lKA (hk_K hK 41 rfl rfl)) wI_ap dX5_begin_103 ?_
  refine z_aload_n B dX5_begin_106 rfl 0 rfl ?_
  refine z_iconst (v := 0) B dX5_begin_107 (by decide) ?_
  refine pf_X5_91 (x := 0) (σ' := (ap b σ [(41, 19, 0), (41, 18, (-1)), (41, 16, (-1)), (41, 15, 0), (41, 14, 0), (41, 13, 0), (41, 12, 0), (41, 10, (-1)), (41, 9, (-1)), (41, 8, 0), (41, 7, 0), (41, 6, (w1.toInt32)), (41, 5, 0), (41, 4, 1), (44, 1, 0), (42, 1, 0)] [(41, 17, 0), (41, 11, 0)] [(41, 3, (some (b + 37))), (41, 2, (some (b + 17)))])) B (by decide) (lKA (hk_K hK 41 rfl rfl)) wI_ap dX5_begin_108 ?_
  exact z_vret B hr (by decide) (by decide) dX5_begin_111 rfl
set_option maxRecDepth 100000 in
set_option maxHeartbeats 4000000 in
theorem ci_X8_open_756 (l : Launch) {g : gx_T} {σ : sx_T} {b : Nat} (hK : lay b σ) (w1 : Int32)  (hI_0_7 : sx_I σ (b + 0) 7 = 0) (hI_37_2 : sx_I σ (b + 37) 2 = 0) (hI_40_0 : sx_I σ (b + 40) 0 = 0) (hR_0_2 : sx_R σ (b + 0) 2 = (some (b + 3))) (hR_3_0 : sx_R σ (b + 3) 0 = (some (b + 40))) (hR_37_0 : sx_R σ (b + 37) 0 = (some (b + 38))) (hR_37_1 : sx_R σ (b + 37) 1 = (some (b + 39))) (hR_40_1 : sx_R σ (b + 40) 1 = (some (b + 37))) (hR_40_2 : sx_R σ (b + 40) 2 = (some (b + 41))) (hR_41_0 : sx_R σ (b + 41) 0 = (some (b + 42))) (hR_41_1 : sx_R σ (b + 41) 1 = (some (b + 44))) : Met l yX8_open (.code yX8_open cX8_open 6 (some (.object "Loomkeeper$Flow")) :: lw_g) { frames := 2, cells := 0, slots := 0, locals := 43 } (va_Pc [.ref (b + 0), .ref (b + 17), .int w1, .int (-1), .int (-1)] (zx_w g σ)) (va_Qq (fun r u => r = (some (b + 40)) ∧ u = (ap b σ [(41, 19, 0), (41, 18, (-1)), (41, 16, (-1)), (41, 15, 0), (41, 14, 0), (41, 13, 0), (41, 12, 0), (41, 10, (-1)), (41, 9, (-1)), (41, 8, 0), (41, 7, 0), (41, 6, ((w1.toInt64).toInt32)), (41, 5, 0), (41, 4, 1), (44, 1, 0), (42, 1, 0), (37, 2, 1), (38, 0, 0), (40, 5, 0), (40, 4, (-1)), (0, 7, 1)] [(41, 17, 0), (41, 11, 0), (39, 0, (w1.toInt64))] [(41, 3, (some (b + 37))), (41, 2, (some (b + 17))), (40, 3, (some (b + 17)))])) (zx_w g) (gx_Q g)) 0 0 (gx_Q g) := by
  refine z_met (by decide) (Nat.le_of_ble_eq_true rfl) (fun p e s m below meth c B hr hin => ?_)
  refine z_eqs (σ' := (ap b σ [] [] [])) rfl ?_
  show zx p l e _ s m _ below meth c g 6 0 0 _ _ 0 [(0, .ref (b + 0)), (1, .ref (b + 17)), (2, .int w1), (3, .int (-1)), (4, .int (-1))] []
  refine z_aload_n B dX8_open_0 rfl 1 rfl ?_
  refine z_ifnull (r := (some (b + 17))) (tgt := 23) B dX8_open_1 (by decide) (fun h => nomatch h) (fun _ _ => ?_)
  refine z_aload_n B dX8_open_4 rfl 0 rfl ?_
  refine gf_X8_96 (x := 0) B (lKA (hk_K hK 0 rfl rfl)) (rI_at 0 7 hI_0_7) dX8_open_5 ?_
  refine z_if_lt (tgt := 23) B dX8_open_8 (by decide) (fun h => absurd h (by decide)) (fun _ => ?_)
  refine z_aload_n B dX8_open_11 rfl 0 rfl ?_
  refine gf_X8_96 (x := 0) B (lKA (hk_K hK 0 rfl rfl)) (rI_at 0 7 hI_0_7) dX8_open_12 ?_
  refine z_aload_n B dX8_open_15 rfl 0 rfl ?_
  refine gf_X8_21 (x := (some (b + 3))) B (lKA (hk_K hK 0 rfl rfl)) (rR_at 0 2 hR_0_2) dX8_open_16 ?_
  refine z_alen (kd := 15) (ti := 3) (v := 40) B (lKA (hk_K hK 3 rfl rfl)) (by decide) rfl (congrArg Int32.ofNat (lNA (hk_N hK 3 rfl rfl))) dX8_open_19 ?_
  refine z_icmp_lt (tgt := 25) B dX8_open_20 (by decide) (fun _ => ?_) (fun h => absurd (by decide) h)
  refine z_aload_n B dX8_open_25 rfl 0 rfl ?_
  refine gf_X8_21 (x := (some (b + 3))) B (lKA (hk_K hK 0 rfl rfl)) (rR_at 0 2 hR_0_2) dX8_open_26 ?_
  refine z_aload_n B dX8_open_29 rfl 0 rfl ?_
  refine gf_X8_96 (x := 0) B (lKA (hk_K hK 0 rfl rfl)) (rI_at 0 7 hI_0_7) dX8_open_30 ?_
  refine z_qald (j := 0) (kd := 15) (ti := 3) (r := (some (b + 40))) B (lKA (hk_K hK 3 rfl rfl)) (by decide) rfl (by decide) (in_of (lNA (hk_N hK 3 rfl rfl)) (show ¬ ((0 : Int32) < 0 ∨ 40 ≤ (0 : Int32).toNatClampNeg) by decide)) (rR_at 3 0 hR_3_0) dX8_open_33 ?_
  refine z_astore (lv' := [(5, .ref (b + 40)), (0, .ref (b + 0)), (1, .ref (b + 17)), (2, .int w1), (3, .int (-1)), (4, .int (-1))]) B dX8_open_34 (by decide) rfl ?_
  refine z_aload B dX8_open_36 0 rfl ?_
  refine z_ifnonnull (r := (some (b + 40))) (tgt := 43) B dX8_open_38 (by decide) (fun _ _ => ?_) (fun h => nomatch h)
  refine z_aload_n B dX8_open_43 rfl 1 rfl ?_
  refine z_dup B dX8_open_44 rfl ?_
  refine gf_X8_96 (x := 0) B (lKA (hk_K hK 0 rfl rfl)) (rI_at 0 7 hI_0_7) dX8_open_45 ?_
  refine z_iconst (v := 1) B dX8_open_48 (by decide) ?_
  refine z_iadd B dX8_open_49 ?_
  refine z_seti (y := 1) (by decide) ?_
  refine pf_X8_96 (x := 1) (σ' := (ap b σ [(0, 7, 1)] [] [])) B (lKA (hk_K hK 0 rfl rfl)) wI_ap dX8_open_50 ?_
  refine z_aload B dX8_open_53 0 rfl ?_
  refine z_aload_n B dX8_open_55 rfl 2 rfl ?_
  refine pf_X8_103 (x := (some (b + 17))) (σ' := (ap b σ [(0, 7, 1)] [] [(40, 3, (some (b + 17)))])) B (lKA (hk_K hK 40 rfl rfl)) wR_ap dX8_open_56 ?_
  refine z_aload B dX8_open_59 0 rfl ?_
  refine z_iload_n B dX8_open_61 rfl 4 rfl ?_
  refine pf_X8_259 (x := (-1)) (σ' := (ap b σ [(40, 4, (-1)), (0, 7, 1)] [] [(40, 3, (some (b + 17)))])) B (lKA (hk_K hK 40 rfl rfl)) wI_ap dX8_open_62 ?_
  refine z_aload B dX8_open_65 0 rfl ?_
  refine z_iload B dX8_open_67 5 rfl ?_
  refine z_iconst (v := (-1)) B dX8_open_69 (by decide) ?_
  refine z_icmp_ne (tgt := 81) B dX8_open_70 (by decide) (fun h => absurd (by decide) h) (fun _ => ?_)
  refine z_aload B dX8_open_73 0 rfl ?_
  refine gf_X8_150 (x := 0) B (lKA (hk_K hK 40 rfl rfl)) (rI_at 40 0 hI_40_0) dX8_open_75 ?_
  refine z_goto (tgt := 83) B dX8_open_78 (by decide) ?_
  refine pf_X8_406 (x := 0) (σ' := (ap b σ [(40, 5, 0), (40, 4, (-1)), (0, 7, 1)] [] [(40, 3, (some (b + 17)))])) B (lKA (hk_K hK 40 rfl rfl)) wI_ap dX8_open_83 ?_
  refine z_aload B dX8_open_86 0 rfl ?_
  refine gf_X8_179 (x := (some (b + 37))) B (lKA (hk_K hK 40 rfl rfl)) (rR_at 40 1 hR_40_1) dX8_open_88 ?_
  refine z_iconst (v := 0) B dX8_open_91 (by decide) ?_
  refine z_iload_n B dX8_open_92 rfl 3 rfl ?_
  refine z_i2l B dX8_open_93 rfl ?_
  refine z_cVv (As := [.int 0, .long (w1.toInt64)]) (rest := []) B cw_X8_333 cx_2 dX8_open_94 (ci_X1_add_663 l (σ := (ap b σ [(40, 5, 0), (40, 4, (-1)), (0, 7, 1)] [] [(40, 3, (some (b + 17)))])) (b := b) (lyA hK) (w1.toInt64) (rI_at 37 2 hI_37_2) (rR_at 37 0 hR_37_0) (rR_at 37 1 hR_37_1)) (lKA (hk_K hK 37 rfl rfl)) rfl (by decide) rfl (Nat.le_of_ble_eq_true rfl) (by decide) (fun u hu => ?_)
  refine z_eqs (σ' := (ap b σ [(37, 2, 1), (38, 0, 0), (40, 5, 0), (40, 4, (-1)), (0, 7, 1)] [(39, 0, (w1.toInt64))] [(40, 3, (some (b + 17)))])) (hu.trans ap_ap) ?_
  show zx p l e _ s m _ below meth c g 6 0 0 _ _ 97 [(5, .ref (b + 40)), (0, .ref (b + 0)), (1, .ref (b + 17)), (2, .int w1), (3, .int (-1)), (4, .int (-1))] _
  refine z_aload B dX8_open_97 0 rfl ?_
  refine gf_X8_249 (x := (some (b + 41))) B (lKA (hk_K hK 40 rfl rfl)) (rR_at 40 2 hR_40_2) dX8_open_99 ?_
  refine z_aload_n B dX8_open_102 rfl 2 rfl ?_
  refine z_aload B dX8_open_103 0 rfl ?_
  refine gf_X8_179 (x := (some (b + 37))) B (lKA (hk_K hK 40 rfl rfl)) (rR_at 40 1 hR_40_1) dX8_open_105 ?_
  refine z_cVv (As := [.ref (b + 17), .ref (b + 37)]) (rest := []) B cw_X8_286 cx_6 dX8_open_108 (ci_X5_begin_755 l (σ := (ap b σ [(37, 2, 1), (38, 0, 0), (40, 5, 0), (40, 4, (-1)), (0, 7, 1)] [(39, 0, (w1.toInt64))] [(40, 3, (some (b + 17)))])) (b := b) (lyA hK) (w1.toInt64) (rI_at 37 2 rfl) (rJ_at 39 0 rfl) (rR_at 37 1 hR_37_1) (rR_at 41 0 hR_41_0) (rR_at 41 1 hR_41_1)) (lKA (hk_K hK 41 rfl rfl)) rfl (by decide) rfl (Nat.le_of_ble_eq_true rfl) (by decide) (fun u hu => ?_)
  refine z_eqs (σ' := (ap b σ [(41, 19, 0), (41, 18, (-1)), (41, 16, (-1)), (41, 15, 0), (41, 14, 0), (41, 13, 0), (41, 12, 0), (41, 10, (-1)), (41, 9, (-1)), (41, 8, 0), (41, 7, 0), (41, 6, ((w1.toInt64).toInt32)), (41, 5, 0), (41, 4, 1), (44, 1, 0), (42, 1, 0), (37, 2, 1), (38, 0, 0), (40, 5, 0), (40, 4, (-1)), (0, 7, 1)] [(41, 17, 0), (41, 11, 0), (39, 0, (w1.toInt64))] [(41, 3, (some (b + 37))), (41, 2, (some (b + 17))), (40, 3, (some (b + 17)))])) (hu.trans ap_ap) ?_
  show zx p l e _ s m _ below meth c g 6 0 0 _ _ 111 [(5, .ref (b + 40)), (0, .ref (b + 0)), (1, .ref (b + 17)), (2, .int w1), (3, .int (-1)), (4, .int (-1))] _
  refine z_aload B dX8_open_111 0 rfl ?_
  exact z_qret (r := (some (b + 40))) B hr (by decide) (by decide) dX8_open_113 ⟨rfl, rfl⟩
set_option maxRecDepth 100000 in
set_option maxHeartbeats 4000000 in
theorem ci_X4_operation_757 (l : Launch) {g : gx_T} {σ : sx_T} {b : Nat} (hK : lay b σ)   (hI_18_0 : sx_I σ (b + 18) 0 = 0) (hR_17_1 : sx_R σ (b + 17) 1 = (some (b + 18))) : Met l yX4_operation (.code yX4_operation cX4_operation 2 (some .int) :: lw_g) { frames := 0, cells := 0, slots := 0, locals := 0 } (va_Pc [.ref (b + 17), .int 0] (zx_w g σ)) (va_Qi (fun r u => r = 0 ∧ u = σ) (zx_w g) (gx_Q g)) 0 0 (gx_Q g) := by
  refine z_met (by decide) (Nat.le_of_ble_eq_true rfl) (fun p e s m below meth c B hr hin => ?_)
  refine z_eqs (σ' := (ap b σ [] [] [])) rfl ?_
  show zx p l e _ s m _ below meth c g 2 0 0 _ _ 0 [(0, .ref (b + 17)), (1, .int 0)] []
  refine z_iload_n B dX4_operation_0 rfl 1 rfl ?_
  refine z_if_lt (tgt := 22) B dX4_operation_1 (by decide) (fun h => absurd h (by decide)) (fun _ => ?_)
  refine z_iload_n B dX4_operation_4 rfl 1 rfl ?_
  refine z_aload_n B dX4_operation_5 rfl 0 rfl ?_
  refine gf_X4_9 (x := (some (b + 18))) B (lKA (hk_K hK 17 rfl rfl)) (rR_at 17 1 hR_17_1) dX4_operation_6 ?_
  refine z_alen (kd := 13) (ti := 1) (v := 20) B (lKA (hk_K hK 18 rfl rfl)) (by decide) rfl (congrArg Int32.ofNat (lNA (hk_N hK 18 rfl rfl))) dX4_operation_9 ?_
  refine z_icmp_ge (tgt := 22) B dX4_operation_10 (by decide) (fun h => absurd h (by decide)) (fun _ => ?_)
  refine z_aload_n B dX4_operation_13 rfl 0 rfl ?_
  refine gf_X4_9 (x := (some (b + 18))) B (lKA (hk_K hK 17 rfl rfl)) (rR_at 17 1 hR_17_1) dX4_operation_14 ?_
  refine z_iload_n B dX4_operation_17 rfl 1 rfl ?_
  refine z_iald (j := 0) (x := 0) B (lKA (hk_K hK 18 rfl rfl)) (by decide) (in_of (lNA (hk_N hK 18 rfl rfl)) (show ¬ ((0 : Int32) < 0 ∨ 20 ≤ (0 : Int32).toNatClampNeg) by decide)) (rI_at 18 0 hI_18_0) dX4_operation_18 ?_
  refine z_goto (tgt := 23) B dX4_operation_19 (by decide) ?_
  exact z_iret B hr (by decide) (by decide) dX4_operation_23 ⟨rfl, rfl⟩
set_option maxRecDepth 100000 in
set_option maxHeartbeats 4000000 in
theorem ci_X4_first_758 (l : Launch) {g : gx_T} {σ : sx_T} {b : Nat} (hK : lay b σ)   (hI_19_0 : sx_I σ (b + 19) 0 = 0) (hR_17_2 : sx_R σ (b + 17) 2 = (some (b + 19))) : Met l yX4_first (.code yX4_first cX4_first 2 (some .int) :: lw_g) { frames := 0, cells := 0, slots := 0, locals := 0 } (va_Pc [.ref (b + 17), .int 0] (zx_w g σ)) (va_Qi (fun r u => r = 0 ∧ u = σ) (zx_w g) (gx_Q g)) 0 0 (gx_Q g) := by
  refine z_met (by decide) (Nat.le_of_ble_eq_true rfl) (fun p e s m below meth c B hr hin => ?_)
  refine z_eqs (σ' := (ap b σ [] [] [])) rfl ?_
  show zx p l e _ s m _ below meth c g 2 0 0 _ _ 0 [(0, .ref (b + 17)), (1, .int 0)] []
  refine z_iload_n B dX4_first_0 rfl 1 rfl ?_
  refine z_if_lt (tgt := 22) B dX4_first_1 (by decide) (fun h => absurd h (by decide)) (fun _ => ?_)
  refine z_iload_n B dX4_first_4 rfl 1 rfl ?_
  refine z_aload_n B dX4_first_5 rfl 0 rfl ?_
  refine gf_X4_15 (x := (some (b + 19))) B (lKA (hk_K hK 17 rfl rfl)) (rR_at 17 2 hR_17_2) dX4_first_6 ?_
  refine z_alen (kd := 13) (ti := 1) (v := 20) B (lKA (hk_K hK 19 rfl rfl)) (by decide) rfl (congrArg Int32.ofNat (lNA (hk_N hK 19 rfl rfl))) dX4_first_9 ?_
  refine z_icmp_ge (tgt := 22) B dX4_first_10 (by decide) (fun h => absurd h (by decide)) (fun _ => ?_)
  refine z_aload_n B dX4_first_13 rfl 0 rfl ?_
  refine gf_X4_15 (x := (some (b + 19))) B (lKA (hk_K hK 17 rfl rfl)) (rR_at 17 2 hR_17_2) dX4_first_14 ?_
  refine z_iload_n B dX4_first_17 rfl 1 rfl ?_
  refine z_iald (j := 0) (x := 0) B (lKA (hk_K hK 19 rfl rfl)) (by decide) (in_of (lNA (hk_N hK 19 rfl rfl)) (show ¬ ((0 : Int32) < 0 ∨ 20 ≤ (0 : Int32).toNatClampNeg) by decide)) (rI_at 19 0 hI_19_0) dX4_first_18 ?_
  refine z_goto (tgt := 23) B dX4_first_19 (by decide) ?_
  exact z_iret B hr (by decide) (by decide) dX4_first_23 ⟨rfl, rfl⟩
set_option maxRecDepth 100000 in
set_option maxHeartbeats 4000000 in
theorem ci_X4_second_759 (l : Launch) {g : gx_T} {σ : sx_T} {b : Nat} (hK : lay b σ)   (hI_20_0 : sx_I σ (b + 20) 0 = 0) (hR_17_3 : sx_R σ (b + 17) 3 = (some (b + 20))) : Met l yX4_second (.code yX4_second cX4_second 2 (some .int) :: lw_g) { frames := 0, cells := 0, slots := 0, locals := 0 } (va_Pc [.ref (b + 17), .int 0] (zx_w g σ)) (va_Qi (fun r u => r = 0 ∧ u = σ) (zx_w g) (gx_Q g)) 0 0 (gx_Q g) := by
  refine z_met (by decide) (Nat.le_of_ble_eq_true rfl) (fun p e s m below meth c B hr hin => ?_)
  refine z_eqs (σ' := (ap b σ [] [] [])) rfl ?_
  show zx p l e _ s m _ below meth c g 2 0 0 _ _ 0 [(0, .ref (b + 17)), (1, .int 0)] []
  refine z_iload_n B dX4_second_0 rfl 1 rfl ?_
  refine z_if_lt (tgt := 22) B dX4_second_1 (by decide) (fun h => absurd h (by decide)) (fun _ => ?_)
  refine z_iload_n B dX4_second_4 rfl 1 rfl ?_
  refine z_aload_n B dX4_second_5 rfl 0 rfl ?_
  refine gf_X4_18 (x := (some (b + 20))) B (lKA (hk_K hK 17 rfl rfl)) (rR_at 17 3 hR_17_3) dX4_second_6 ?_
  refine z_alen (kd := 13) (ti := 1) (v := 20) B (lKA (hk_K hK 20 rfl rfl)) (by decide) rfl (congrArg Int32.ofNat (lNA (hk_N hK 20 rfl rfl))) dX4_second_9 ?_
  refine z_icmp_ge (tgt := 22) B dX4_second_10 (by decide) (fun h => absurd h (by decide)) (fun _ => ?_)
  refine z_aload_n B dX4_second_13 rfl 0 rfl ?_
  refine gf_X4_18 (x := (some (b + 20))) B (lKA (hk_K hK 17 rfl rfl)) (rR_at 17 3 hR_17_3) dX4_second_14 ?_
  refine z_iload_n B dX4_second_17 rfl 1 rfl ?_
  refine z_iald (j := 0) (x := 0) B (lKA (hk_K hK 20 rfl rfl)) (by decide) (in_of (lNA (hk_N hK 20 rfl rfl)) (show ¬ ((0 : Int32) < 0 ∨ 20 ≤ (0 : Int32).toNatClampNeg) by decide)) (rI_at 20 0 hI_20_0) dX4_second_18 ?_
  refine z_goto (tgt := 23) B dX4_second_19 (by decide) ?_
  exact z_iret B hr (by decide) (by decide) dX4_second_23 ⟨rfl, rfl⟩
set_option maxRecDepth 100000 in
set_option maxHeartbeats 4000000 in
theorem ci_X5_step_760 (l : Launch) {g : gx_T} {σ : sx_T} {b : Nat} (hK : lay b σ) (w1 : Int32)  (hI_18_0 : sx_I σ (b + 18) 0 = 0) (hI_19_0 : sx_I σ (b + 19) 0 = 0) (hI_20_0 : sx_I σ (b + 20) 0 = 0) (hI_41_5 : sx_I σ (b + 41) 5 = 0) (hI_41_6 : sx_I σ (b + 41) 6 = w1) (hI_41_7 : sx_I σ (b + 41) 7 = 0) (hR_17_1 : sx_R σ (b + 17) 1 = (some (b + 18))) (hR_17_2 : sx_R σ (b + 17) 2 = (some (b + 19))) (hR_17_3 : sx_R σ (b + 17) 3 = (some (b + 20))) (hR_41_2 : sx_R σ (b + 41) 2 = (some (b + 17))) : Met l yX5_step (.code yX5_step cX5_step 4 none :: lw_g) { frames := 1, cells := 0, slots := 0, locals := 23 } (va_Pc [.ref (b + 41)] (zx_w g σ)) (va_Qv (fun u => u = (ap b σ [(41, 16, 13), (41, 7, 1), (41, 5, 1)] [(41, 17, ((10 * (w1.toInt64)) + 1))] [])) (zx_w g) (gx_Q g)) 0 0 (gx_Q g) := by
  refine z_met (by decide) (Nat.le_of_ble_eq_true rfl) (fun p e s m below meth c B hr hin => ?_)
  refine z_eqs (σ' := (ap b σ [] [] [])) rfl ?_
  show zx p l e _ s m _ below meth c g 4 0 0 _ _ 0 [(0, .ref (b + 41))] []
  refine z_aload_n B dX5_step_0 rfl 0 rfl ?_
  refine gf_X5_25 (x := (some (b + 17))) B (lKA (hk_K hK 41 rfl rfl)) (rR_at 41 2 hR_41_2) dX5_step_1 ?_
  refine z_aload_n B dX5_step_4 rfl 0 rfl ?_
  refine gf_X5_41 (x := 0) B (lKA (hk_K hK 41 rfl rfl)) (rI_at 41 5 hI_41_5) dX5_step_5 ?_
  refine z_cVi (As := [.int 0]) (rest := []) B cw_X5_155 cx_5 dX5_step_8 (ci_X4_operation_757 l (σ := (ap b σ [] [] [])) (b := b) (lyA hK) (rI_at 18 0 hI_18_0) (rR_at 17 1 hR_17_1)) (lKA (hk_K hK 17 rfl rfl)) rfl (by decide) rfl (Nat.le_of_ble_eq_true rfl) (by decide) (fun r u hu => ?_)
  refine z_eqs (σ' := (ap b σ [] [] [])) hu.2 ?_
  show zx p l e _ s m _ below meth c g 4 0 0 _ _ 11 [(0, .ref (b + 41))] _
  refine z_seti (y := 0) hu.1 ?_
  refine z_istore_n (lv' := [(1, .int 0), (0, .ref (b + 41))]) B dX5_step_11 rfl (by decide) rfl ?_
  refine z_aload_n B dX5_step_12 rfl 1 rfl ?_
  refine gf_X5_25 (x := (some (b + 17))) B (lKA (hk_K hK 41 rfl rfl)) (rR_at 41 2 hR_41_2) dX5_step_13 ?_
  refine z_aload_n B dX5_step_16 rfl 1 rfl ?_
  refine gf_X5_41 (x := 0) B (lKA (hk_K hK 41 rfl rfl)) (rI_at 41 5 hI_41_5) dX5_step_17 ?_
  refine z_cVi (As := [.int 0]) (rest := []) B cw_X5_160 cx_5 dX5_step_20 (ci_X4_first_758 l (σ := (ap b σ [] [] [])) (b := b) (lyA hK) (rI_at 19 0 hI_19_0) (rR_at 17 2 hR_17_2)) (lKA (hk_K hK 17 rfl rfl)) rfl (by decide) rfl (Nat.le_of_ble_eq_true rfl) (by decide) (fun r u hu => ?_)
  refine z_eqs (σ' := (ap b σ [] [] [])) hu.2 ?_
  show zx p l e _ s m _ below meth c g 4 0 0 _ _ 23 [(1, .int 0), (0, .ref (b + 41))] _
  refine z_seti (y := 0) hu.1 ?_
  refine z_istore_n (lv' := [(2, .int 0), (1, .int 0), (0, .ref (b + 41))]) B dX5_step_23 rfl (by decide) rfl ?_
  refine z_aload_n B dX5_step_24 rfl 2 rfl ?_
  refine gf_X5_25 (x := (some (b + 17))) B (lKA (hk_K hK 41 rfl rfl)) (rR_at 41 2 hR_41_2) dX5_step_25 ?_
  refine z_aload_n B dX5_step_28 rfl 2 rfl ?_
  refine gf_X5_41 (x := 0) B (lKA (hk_K hK 41 rfl rfl)) (rI_at 41 5 hI_41_5) dX5_step_29 ?_
  refine z_cVi (As := [.int 0]) (rest := []) B cw_X5_163 cx_5 dX5_step_32 (ci_X4_second_759 l (σ := (ap b σ [] [] [])) (b := b) (lyA hK) (rI_at 20 0 hI_20_0) (rR_at 17 3 hR_17_3)) (lKA (hk_K hK 17 rfl rfl)) rfl (by decide) rfl (Nat.le_of_ble_eq_true rfl) (by decide) (fun r u hu => ?_)
  refine z_eqs (σ' := (ap b σ [] [] [])) hu.2 ?_
  show zx p l e _ s m _ below meth c g 4 0 0 _ _ 35 [(2, .int 0), (1, .int 0), (0, .ref (b + 41))] _
  refine z_seti (y := 0) hu.1 ?_
  refine z_istore_n (lv' := [(3, .int 0), (2, .int 0), (1, .int 0), (0, .ref (b + 41))]) B dX5_step_35 rfl (by decide) rfl ?_
  refine z_aload_n B dX5_step_36 rfl 3 rfl ?_
  refine z_aload_n B dX5_step_37 rfl 3 rfl ?_
  refine gf_X5_41 (x := 0) B (lKA (hk_K hK 41 rfl rfl)) (rI_at 41 5 hI_41_5) dX5_step_38 ?_
  refine z_iconst (v := 1) B dX5_step_41 (by decide) ?_
  refine z_iadd B dX5_step_42 ?_
  refine z_seti (y := 1) (by decide) ?_
  refine z_bipush (v := 20) B dX5_step_43 (by decide) ?_
  refine z_irem B dX5_step_45 (by decide) ?_
  refine z_seti (y := 1) (by decide) ?_
  refine pf_X5_41 (x := 1) (σ' := (ap b σ [(41, 5, 1)] [] [])) B (lKA (hk_K hK 41 rfl rfl)) wI_ap dX5_step_46 ?_
  refine z_aload_n B dX5_step_49 rfl 3 rfl ?_
  refine z_dup B dX5_step_50 rfl ?_
  refine gf_X5_53 (x := 0) B (lKA (hk_K hK 41 rfl rfl)) (rI_at 41 7 hI_41_7) dX5_step_51 ?_
  refine z_iconst (v := 1) B dX5_step_54 (by decide) ?_
  refine z_iadd B dX5_step_55 ?_
  refine z_seti (y := 1) (by decide) ?_
  refine pf_X5_53 (x := 1) (σ' := (ap b σ [(41, 7, 1), (41, 5, 1)] [] [])) B (lKA (hk_K hK 41 rfl rfl)) wI_ap dX5_step_56 ?_
  refine z_aload_n B dX5_step_59 rfl 3 rfl ?_
  refine gf_X5_53 (x := 1) B (lKA (hk_K hK 41 rfl rfl)) (rI_at 41 7 rfl) dX5_step_60 ?_
  refine z_bipush (v := 60) B dX5_step_63 (by decide) ?_
  refine z_icmp_gt (tgt := 77) B dX5_step_65 (by decide) (fun h => absurd h (by decide)) (fun _ => ?_)
  refine z_aload_n B dX5_step_68 rfl 3 rfl ?_
  refine z_iload_n B dX5_step_69 rfl 2 rfl ?_
  refine z_iload_n B dX5_step_70 rfl 1 rfl ?_
  refine z_cVi (As := [.int 0, .int 0]) (rest := []) B cw_X5_166 cx_6 dX5_step_71 (ci_X5_isRefused_674 l (σ := (ap b σ [(41, 7, 1), (41, 5, 1)] [] [])) (b := b) (lyA hK) ) (lKA (hk_K hK 41 rfl rfl)) rfl (by decide) rfl (Nat.le_of_ble_eq_true rfl) (by decide) (fun r u hu => ?_)
  refine z_eqs (σ' := (ap b σ [(41, 7, 1), (41, 5, 1)] [] [])) hu.2 ?_
  show zx p l e _ s m _ below meth c g 4 0 0 _ _ 74 [(3, .int 0), (2, .int 0), (1, .int 0), (0, .ref (b + 41))] _
  refine z_seti (y := 0) hu.1 ?_
  refine z_if_eq (tgt := 82) B dX5_step_74 (by decide) (fun _ => ?_) (fun h => absurd (by decide) h)
  refine z_iload_n B dX5_step_82 rfl 2 rfl ?_
  refine z_tableIn (tgt := 276) B dX5_step_83 (by decide) (by decide) (show _ = some (193 : Int) by decide) (by decide) ?_
  refine z_aload_n B dX5_step_276 rfl 3 rfl ?_
  refine z_bipush (v := 13) B dX5_step_277 (by decide) ?_
  refine z_ldc2 (v := 10) B dX5_step_279 wg_370 ?_
  refine z_aload_n B dX5_step_282 rfl 3 rfl ?_
  refine gf_X5_50 (x := w1) B (lKA (hk_K hK 41 rfl rfl)) (rI_at 41 6 hI_41_6) dX5_step_283 ?_
  refine z_i2l B dX5_step_286 rfl ?_
  refine z_lmul B dX5_step_287 ?_
  refine z_lconst (v := 1) B dX5_step_288 (by decide) ?_
  refine z_ladd B dX5_step_289 ?_
  refine z_cVv (As := [.int 13, .long ((10 * (w1.toInt64)) + 1)]) (rest := []) B cw_X5_114 cx_6 dX5_step_290 (ci_X5_want_675 l (σ := (ap b σ [(41, 7, 1), (41, 5, 1)] [] [])) (b := b) (lyA hK) ((10 * (w1.toInt64)) + 1)) (lKA (hk_K hK 41 rfl rfl)) rfl (by decide) rfl (Nat.le_of_ble_eq_true rfl) (by decide) (fun u hu => ?_)
  refine z_eqs (σ' := (ap b σ [(41, 16, 13), (41, 7, 1), (41, 5, 1)] [(41, 17, ((10 * (w1.toInt64)) + 1))] [])) (hu.trans ap_ap) ?_
  show zx p l e _ s m _ below meth c g 4 0 0 _ _ 293 [(3, .int 0), (2, .int 0), (1, .int 0), (0, .ref (b + 41))] _
  refine z_goto (tgt := 302) B dX5_step_293 (by decide) ?_
  exact z_vret B hr (by decide) (by decide) dX5_step_302 rfl
set_option maxRecDepth 100000 in
set_option maxHeartbeats 4000000 in
theorem ci_X5_advance_761 (l : Launch) {g : gx_T} {σ : sx_T} {b : Nat} (hK : lay b σ) (w1 : Int32)  (hI_18_0 : sx_I σ (b + 18) 0 = 0) (hI_19_0 : sx_I σ (b + 19) 0 = 0) (hI_20_0 : sx_I σ (b + 20) 0 = 0) (hI_41_4 : sx_I σ (b + 41) 4 = 1) (hI_41_5 : sx_I σ (b + 41) 5 = 0) (hI_41_6 : sx_I σ (b + 41) 6 = w1) (hI_41_7 : sx_I σ (b + 41) 7 = 0) (hI_41_8 : sx_I σ (b + 41) 8 = 0) (hI_41_14 : sx_I σ (b + 41) 14 = 0) (hI_41_15 : sx_I σ (b + 41) 15 = 0) (hI_41_16 : sx_I σ (b + 41) 16 = (-1)) (hI_41_19 : sx_I σ (b + 41) 19 = 0) (hR_17_1 : sx_R σ (b + 17) 1 = (some (b + 18))) (hR_17_2 : sx_R σ (b + 17) 2 = (some (b + 19))) (hR_17_3 : sx_R σ (b + 17) 3 = (some (b + 20))) (hR_41_2 : sx_R σ (b + 41) 2 = (some (b + 17))) : Met l yX5_advance (.code yX5_advance cX5_advance 5 none :: lw_g) { frames := 2, cells := 0, slots := 0, locals := 46 } (va_Pc [.ref (b + 41), .int 1] (zx_w g σ)) (va_Qv (fun u => u = (ap b σ [(41, 16, 13), (41, 7, 1), (41, 5, 1)] [(41, 17, ((10 * (w1.toInt64)) + 1))] [])) (zx_w g) (gx_Q g)) 0 0 (gx_Q g) := by
  refine z_met (by decide) (Nat.le_of_ble_eq_true rfl) (fun p e s m below meth c B hr hin => ?_)
  refine z_eqs (σ' := (ap b σ [] [] [])) rfl ?_
  show zx p l e _ s m _ below meth c g 5 0 0 _ _ 0 [(0, .ref (b + 41)), (1, .int 1)] []
  refine z_iconst (v := 1) B dX5_advance_0 (by decide) ?_
  refine z_istore_n (lv' := [(2, .int 1), (0, .ref (b + 41)), (1, .int 1)]) B dX5_advance_1 rfl (by decide) rfl ?_
  refine z_iconst (v := 0) B dX5_advance_2 (by decide) ?_
  refine z_istore_n (lv' := [(3, .int 0), (2, .int 1), (0, .ref (b + 41)), (1, .int 1)]) B dX5_advance_3 rfl (by decide) rfl ?_
  refine z_iload_n B dX5_advance_4 rfl 0 rfl ?_
  refine z_ldc (v := 1000000) B dX5_advance_5 wg_355 ?_
  refine z_icmp_ge (tgt := 122) B dX5_advance_7 (by decide) (fun h => absurd h (by decide)) (fun _ => ?_)
  refine z_iload_n B dX5_advance_10 rfl 1 rfl ?_
  refine z_if_eq (tgt := 122) B dX5_advance_11 (by decide) (fun h => absurd h (by decide)) (fun _ => ?_)
  refine z_aload_n B dX5_advance_14 rfl 2 rfl ?_
  refine gf_X5_38 (x := 1) B (lKA (hk_K hK 41 rfl rfl)) (rI_at 41 4 hI_41_4) dX5_advance_15 ?_
  refine z_iload_n B dX5_advance_18 rfl 3 rfl ?_
  refine z_icmp_ge (tgt := 26) B dX5_advance_19 (by decide) (fun _ => ?_) (fun h => absurd (by decide) h)
  refine z_iconst (v := 0) B dX5_advance_26 (by decide) ?_
  refine z_istore (lv' := [(4, .int 0), (3, .int 0), (2, .int 1), (0, .ref (b + 41)), (1, .int 1)]) B dX5_advance_27 (by decide) rfl ?_
  refine z_aload_n B dX5_advance_29 rfl 3 rfl ?_
  refine gf_X5_91 (x := 0) B (lKA (hk_K hK 41 rfl rfl)) (rI_at 41 19 hI_41_19) dX5_advance_30 ?_
  refine z_if_eq (tgt := 41) B dX5_advance_33 (by decide) (fun _ => ?_) (fun h => absurd (by decide) h)
  refine z_aload_n B dX5_advance_41 rfl 3 rfl ?_
  refine gf_X5_82 (x := (-1)) B (lKA (hk_K hK 41 rfl rfl)) (rI_at 41 16 hI_41_16) dX5_advance_42 ?_
  refine z_iconst (v := (-1)) B dX5_advance_45 (by decide) ?_
  refine z_icmp_eq (tgt := 61) B dX5_advance_46 (by decide) (fun _ => ?_) (fun h => absurd (by decide) h)
  refine z_aload_n B dX5_advance_61 rfl 3 rfl ?_
  refine gf_X5_79 (x := 0) B (lKA (hk_K hK 41 rfl rfl)) (rI_at 41 15 hI_41_15) dX5_advance_62 ?_
  refine z_if_eq (tgt := 79) B dX5_advance_65 (by decide) (fun _ => ?_) (fun h => absurd (by decide) h)
  refine z_aload_n B dX5_advance_79 rfl 3 rfl ?_
  refine gf_X5_56 (x := 0) B (lKA (hk_K hK 41 rfl rfl)) (rI_at 41 8 hI_41_8) dX5_advance_80 ?_
  refine z_if_eq (tgt := 98) B dX5_advance_83 (by decide) (fun _ => ?_) (fun h => absurd (by decide) h)
  refine z_aload_n B dX5_advance_98 rfl 3 rfl ?_
  refine gf_X5_76 (x := 0) B (lKA (hk_K hK 41 rfl rfl)) (rI_at 41 14 hI_41_14) dX5_advance_99 ?_
  refine z_if_eq (tgt := 112) B dX5_advance_102 (by decide) (fun _ => ?_) (fun h => absurd (by decide) h)
  refine z_aload_n B dX5_advance_112 rfl 3 rfl ?_
  refine z_cVv (As := []) (rest := []) B cw_X5_105 cx_6 dX5_advance_113 (ci_X5_step_760 l (σ := (ap b σ [] [] [])) (b := b) (lyA hK) w1 (rI_at 18 0 hI_18_0) (rI_at 19 0 hI_19_0) (rI_at 20 0 hI_20_0) (rI_at 41 5 hI_41_5) (rI_at 41 6 hI_41_6) (rI_at 41 7 hI_41_7) (rR_at 17 1 hR_17_1) (rR_at 17 2 hR_17_2) (rR_at 17 3 hR_17_3) (rR_at 41 2 hR_41_2)) (lKA (hk_K hK 41 rfl rfl)) rfl (by decide) rfl (Nat.le_of_ble_eq_true rfl) (by decide) (fun u hu => ?_)
  refine z_eqs (σ' := (ap b σ [(41, 16, 13), (41, 7, 1), (41, 5, 1)] [(41, 17, ((10 * (w1.toInt64)) + 1))] [])) (hu.trans ap_ap) ?_
  show zx p l e _ s m _ below meth c g 5 0 0 _ _ 116 [(4, .int 0), (3, .int 0), (2, .int 1), (0, .ref (b + 41)), (1, .int 1)] _
  refine z_iinc (v := 1) (lv' := [(3, .int 1), (4, .int 0), (2, .int 1), (0, .ref (b + 41)), (1, .int 1)]) B dX5_advance_116 1 rfl (by decide) (by decide) rfl ?_
  refine z_goto (tgt := 4) B dX5_advance_119 (by decide) ?_
  refine z_iload_n B dX5_advance_4 rfl 0 rfl ?_
  refine z_ldc (v := 1000000) B dX5_advance_5 wg_355 ?_
  refine z_icmp_ge (tgt := 122) B dX5_advance_7 (by decide) (fun h => absurd h (by decide)) (fun _ => ?_)
  refine z_iload_n B dX5_advance_10 rfl 2 rfl ?_
  refine z_if_eq (tgt := 122) B dX5_advance_11 (by decide) (fun h => absurd h (by decide)) (fun _ => ?_)
  refine z_aload_n B dX5_advance_14 rfl 3 rfl ?_
  refine gf_X5_38 (x := 1) B (lKA (hk_K hK 41 rfl rfl)) (rI_at 41 4 hI_41_4) dX5_advance_15 ?_
  refine z_iload_n B dX5_advance_18 rfl 4 rfl ?_
  refine z_icmp_ge (tgt := 26) B dX5_advance_19 (by decide) (fun _ => ?_) (fun h => absurd (by decide) h)
  refine z_iconst (v := 0) B dX5_advance_26 (by decide) ?_
  refine z_istore (lv' := [(4, .int 0), (3, .int 1), (2, .int 1), (0, .ref (b + 41)), (1, .int 1)]) B dX5_advance_27 (by decide) rfl ?_
  refine z_aload_n B dX5_advance_29 rfl 3 rfl ?_
  refine gf_X5_91 (x := 0) B (lKA (hk_K hK 41 rfl rfl)) (rI_at 41 19 hI_41_19) dX5_advance_30 ?_
  refine z_if_eq (tgt := 41) B dX5_advance_33 (by decide) (fun _ => ?_) (fun h => absurd (by decide) h)
  refine z_aload_n B dX5_advance_41 rfl 3 rfl ?_
  refine gf_X5_82 (x := 13) B (lKA (hk_K hK 41 rfl rfl)) (rI_at 41 16 rfl) dX5_advance_42 ?_
  refine z_iconst (v := (-1)) B dX5_advance_45 (by decide) ?_
  refine z_icmp_eq (tgt := 61) B dX5_advance_46 (by decide) (fun h => absurd h (by decide)) (fun _ => ?_)
  refine z_iload B dX5_advance_49 0 rfl ?_
  refine z_istore_n (lv' := [(2, .int 0), (4, .int 0), (3, .int 1), (0, .ref (b + 41)), (1, .int 1)]) B dX5_advance_51 rfl (by decide) rfl ?_
  refine z_aload_n B dX5_advance_52 rfl 3 rfl ?_
  refine z_iload B dX5_advance_53 1 rfl ?_
  refine z_cVv (As := [.int 0]) (rest := []) B cw_X5_95 cx_6 dX5_advance_55 (ci_X5_takeWanted_677 l (σ := (ap b σ [(41, 16, 13), (41, 7, 1), (41, 5, 1)] [(41, 17, ((10 * (w1.toInt64)) + 1))] [])) (b := b) (lyA hK) ) (lKA (hk_K hK 41 rfl rfl)) rfl (by decide) rfl (Nat.le_of_ble_eq_true rfl) (by decide) (fun u hu => ?_)
  refine z_eqs (σ' := (ap b σ [(41, 16, 13), (41, 7, 1), (41, 5, 1)] [(41, 17, ((10 * (w1.toInt64)) + 1))] [])) hu ?_
  show zx p l e _ s m _ below meth c g 5 0 0 _ _ 58 [(2, .int 0), (4, .int 0), (3, .int 1), (0, .ref (b + 41)), (1, .int 1)] _
  refine z_goto (tgt := 116) B dX5_advance_58 (by decide) ?_
  refine z_iinc (v := 2) (lv' := [(3, .int 2), (2, .int 0), (4, .int 0), (0, .ref (b + 41)), (1, .int 1)]) B dX5_advance_116 2 rfl (by decide) (by decide) rfl ?_
  refine z_goto (tgt := 4) B dX5_advance_119 (by decide) ?_
  refine z_iload_n B dX5_advance_4 rfl 0 rfl ?_
  refine z_ldc (v := 1000000) B dX5_advance_5 wg_355 ?_
  refine z_icmp_ge (tgt := 122) B dX5_advance_7 (by decide) (fun h => absurd h (by decide)) (fun _ => ?_)
  refine z_iload_n B dX5_advance_10 rfl 1 rfl ?_
  refine z_if_eq (tgt := 122) B dX5_advance_11 (by decide) (fun _ => ?_) (fun h => absurd (by decide) h)
  exact z_vret B hr (by decide) (by decide) dX5_advance_122 rfl
set_option maxRecDepth 100000 in
set_option maxHeartbeats 4000000 in
theorem ci_X8_goOn_762 (l : Launch) {g : gx_T} {σ : sx_T} {b : Nat} (hK : lay b σ) (w1 : Int32) (q1_w1 : (-999 : Int) ≤ w1.toInt) (q2_w1 : w1.toInt ≤ (-1 : Int)) (hI_5_1 : sx_I σ (b + 5) 1 = 0) (hI_5_2 : sx_I σ (b + 5) 2 = 0) (hI_7_1 : sx_I σ (b + 7) 1 = 0) (hI_7_2 : sx_I σ (b + 7) 2 = 0) (hI_18_0 : sx_I σ (b + 18) 0 = 0) (hI_19_0 : sx_I σ (b + 19) 0 = 0) (hI_20_0 : sx_I σ (b + 20) 0 = 0) (hI_37_2 : sx_I σ (b + 37) 2 = 1) (hI_40_4 : sx_I σ (b + 40) 4 = (-1)) (hI_40_8 : sx_I σ (b + 40) 8 = 0) (hI_41_4 : sx_I σ (b + 41) 4 = 1) (hI_41_5 : sx_I σ (b + 41) 5 = 0) (hI_41_6 : sx_I σ (b + 41) 6 = w1) (hI_41_7 : sx_I σ (b + 41) 7 = 0) (hI_41_8 : sx_I σ (b + 41) 8 = 0) (hI_41_14 : sx_I σ (b + 41) 14 = 0) (hI_41_15 : sx_I σ (b + 41) 15 = 0) (hI_41_16 : sx_I σ (b + 41) 16 = (-1)) (hI_41_18 : sx_I σ (b + 41) 18 = (-1)) (hI_41_19 : sx_I σ (b + 41) 19 = 0) (hR_0_4 : sx_R σ (b + 0) 4 = (some (b + 5))) (hR_0_5 : sx_R σ (b + 0) 5 = (some (b + 7))) (hR_5_0 : sx_R σ (b + 5) 0 = (some (b + 6))) (hR_17_1 : sx_R σ (b + 17) 1 = (some (b + 18))) (hR_17_2 : sx_R σ (b + 17) 2 = (some (b + 19))) (hR_17_3 : sx_R σ (b + 17) 3 = (some (b + 20))) (hR_37_0 : sx_R σ (b + 37) 0 = (some (b + 38))) (hR_37_1 : sx_R σ (b + 37) 1 = (some (b + 39))) (hR_40_1 : sx_R σ (b + 40) 1 = (some (b + 37))) (hR_40_2 : sx_R σ (b + 40) 2 = (some (b + 41))) (hR_40_7 : sx_R σ (b + 40) 7 = none) (hR_41_2 : sx_R σ (b + 41) 2 = (some (b + 17))) (hR_41_3 : sx_R σ (b + 41) 3 = (some (b + 37))) : Met l yX8_goOn (.code yX8_goOn cX8_goOn 5 none :: lw_g) { frames := 3, cells := 0, slots := 0, locals := 72 } (va_Pc [.ref (b + 0), .ref (b + 40)] (zx_w g σ)) (va_Qv (fun u => u = (ap b σ [(7, 2, 0), (7, 1, 0), (40, 8, 2), (5, 2, 0), (41, 19, 0), (41, 19, 0), (41, 15, 1), (41, 4, 2), (41, 16, (-1)), (37, 2, 2), (38, 1, 13), (41, 16, 13), (41, 7, 1), (41, 5, 1), (5, 2, 1)] [(39, 1, ((10 * (w1.toInt64)) + 1)), (41, 17, ((10 * (w1.toInt64)) + 1))] [(6, 0, (some (b + 40)))])) (zx_w g) (gx_Q g)) 0 0 (gx_Q g) := by
  refine z_met (by decide) (Nat.le_of_ble_eq_true rfl) (fun p e s m below meth c B hr hin => ?_)
  refine z_eqs (σ' := (ap b σ [] [] [])) rfl ?_
  show zx p l e _ s m _ below meth c g 5 0 0 _ _ 0 [(0, .ref (b + 0)), (1, .ref (b + 40))] []
  refine z_aload_n B dX8_goOn_0 rfl 0 rfl ?_
  refine gf_X8_35 (x := (some (b + 5))) B (lKA (hk_K hK 0 rfl rfl)) (rR_at 0 4 hR_0_4) dX8_goOn_1 ?_
  refine z_aload_n B dX8_goOn_4 rfl 1 rfl ?_
  refine z_cVv (As := [.ref (b + 40)]) (rest := []) B cw_X8_337 cx_3 dX8_goOn_5 (ci_X2_addLast_667 l (σ := (ap b σ [] [] [])) (b := b) (lyA hK) (rI_at 5 2 hI_5_2) (rR_at 5 0 hR_5_0)) (lKA (hk_K hK 5 rfl rfl)) rfl (by decide) rfl (Nat.le_of_ble_eq_true rfl) (by decide) (fun u hu => ?_)
  refine z_eqs (σ' := (ap b σ [(5, 2, 1)] [] [(6, 0, (some (b + 40)))])) (hu.trans ap_ap) ?_
  show zx p l e _ s m _ below meth c g 5 0 0 _ _ 8 [(0, .ref (b + 0)), (1, .ref (b + 40))] _
  refine z_iconst (v := 0) B dX8_goOn_8 (by decide) ?_
  refine z_istore_n (lv' := [(2, .int 0), (0, .ref (b + 0)), (1, .ref (b + 40))]) B dX8_goOn_9 rfl (by decide) rfl ?_
  refine z_iload_n B dX8_goOn_10 rfl 0 rfl ?_
  refine z_ldcw (v := 1000000) B dX8_goOn_11 wg_515 ?_
  refine z_icmp_ge (tgt := 126) B dX8_goOn_14 (by decide) (fun h => absurd h (by decide)) (fun _ => ?_)
  refine z_aload_n B dX8_goOn_17 rfl 1 rfl ?_
  refine gf_X8_35 (x := (some (b + 5))) B (lKA (hk_K hK 0 rfl rfl)) (rR_at 0 4 hR_0_4) dX8_goOn_18 ?_
  refine z_cVi (As := []) (rest := []) B cw_X8_341 cx_3 dX8_goOn_21 (ci_X2_isEmpty_668 l (σ := (ap b σ [(5, 2, 1)] [] [(6, 0, (some (b + 40)))])) (b := b) (lyA hK) (rI_at 5 1 hI_5_1) (rI_at 5 2 rfl)) (lKA (hk_K hK 5 rfl rfl)) rfl (by decide) rfl (Nat.le_of_ble_eq_true rfl) (by decide) (fun r u hu => ?_)
  refine z_eqs (σ' := (ap b σ [(5, 2, 1)] [] [(6, 0, (some (b + 40)))])) hu.2 ?_
  show zx p l e _ s m _ below meth c g 5 0 0 _ _ 24 [(2, .int 0), (0, .ref (b + 0)), (1, .ref (b + 40))] _
  refine z_seti (y := 0) hu.1 ?_
  refine z_if_eq (tgt := 41) B dX8_goOn_24 (by decide) (fun _ => ?_) (fun h => absurd (by decide) h)
  refine z_aload_n B dX8_goOn_41 rfl 1 rfl ?_
  refine gf_X8_35 (x := (some (b + 5))) B (lKA (hk_K hK 0 rfl rfl)) (rR_at 0 4 hR_0_4) dX8_goOn_42 ?_
  refine z_cVq (As := []) (rest := []) B cw_X8_348 cx_3 dX8_goOn_45 (ci_X2_last_669 l (σ := (ap b σ [(5, 2, 1)] [] [(6, 0, (some (b + 40)))])) (b := b) (lyA hK) (rI_at 5 1 hI_5_1) (rI_at 5 2 rfl) (rR_at 5 0 hR_5_0) (rR_at 6 0 rfl)) (lKA (hk_K hK 5 rfl rfl)) rfl (by decide) rfl (Nat.le_of_ble_eq_true rfl) (by decide) (fun r u hu => ?_)
  refine z_eqs (σ' := (ap b σ [(5, 2, 1)] [] [(6, 0, (some (b + 40)))])) hu.2 ?_
  show zx p l e _ s m _ below meth c g 5 0 0 _ _ 48 [(2, .int 0), (0, .ref (b + 0)), (1, .ref (b + 40))] _
  refine z_setr (y := (some (b + 40))) hu.1 ?_
  refine z_astore_n (lv' := [(3, .ref (b + 40)), (2, .int 0), (0, .ref (b + 0)), (1, .ref (b + 40))]) B dX8_goOn_48 rfl (by decide) rfl ?_
  refine z_aload_n B dX8_goOn_49 rfl 0 rfl ?_
  refine z_ifnonnull (r := (some (b + 40))) (tgt := 54) B dX8_goOn_50 (by decide) (fun _ _ => ?_) (fun h => nomatch h)
  refine z_aload_n B dX8_goOn_54 rfl 0 rfl ?_
  refine gf_X8_249 (x := (some (b + 41))) B (lKA (hk_K hK 40 rfl rfl)) (rR_at 40 2 hR_40_2) dX8_goOn_55 ?_
  refine z_aload_n B dX8_goOn_58 rfl 0 rfl ?_
  refine gf_X8_179 (x := (some (b + 37))) B (lKA (hk_K hK 40 rfl rfl)) (rR_at 40 1 hR_40_1) dX8_goOn_59 ?_
  refine z_cVi (As := []) (rest := [.ref (b + 41)]) B cw_X8_183 cx_2 dX8_goOn_62 (ci_X1_size_670 l (σ := (ap b σ [(5, 2, 1)] [] [(6, 0, (some (b + 40)))])) (b := b) (lyA hK) (rI_at 37 2 hI_37_2)) (lKA (hk_K hK 37 rfl rfl)) rfl (by decide) rfl (Nat.le_of_ble_eq_true rfl) (by decide) (fun r u hu => ?_)
  refine z_eqs (σ' := (ap b σ [(5, 2, 1)] [] [(6, 0, (some (b + 40)))])) hu.2 ?_
  show zx p l e _ s m _ below meth c g 5 0 0 _ _ 65 [(3, .ref (b + 40)), (2, .int 0), (0, .ref (b + 0)), (1, .ref (b + 40))] _
  refine z_seti (y := 1) hu.1 ?_
  refine z_cVv (As := [.int 1]) (rest := []) B cw_X8_289 cx_6 dX8_goOn_65 (ci_X5_advance_761 l (σ := (ap b σ [(5, 2, 1)] [] [(6, 0, (some (b + 40)))])) (b := b) (lyA hK) w1 (rI_at 18 0 hI_18_0) (rI_at 19 0 hI_19_0) (rI_at 20 0 hI_20_0) (rI_at 41 4 hI_41_4) (rI_at 41 5 hI_41_5) (rI_at 41 6 hI_41_6) (rI_at 41 7 hI_41_7) (rI_at 41 8 hI_41_8) (rI_at 41 14 hI_41_14) (rI_at 41 15 hI_41_15) (rI_at 41 16 hI_41_16) (rI_at 41 19 hI_41_19) (rR_at 17 1 hR_17_1) (rR_at 17 2 hR_17_2) (rR_at 17 3 hR_17_3) (rR_at 41 2 hR_41_2)) (lKA (hk_K hK 41 rfl rfl)) rfl (by decide) rfl (Nat.le_of_ble_eq_true rfl) (by decide) (fun u hu => ?_)
  refine z_eqs (σ' := (ap b σ [(41, 16, 13), (41, 7, 1), (41, 5, 1), (5, 2, 1)] [(41, 17, ((10 * (w1.toInt64)) + 1))] [(6, 0, (some (b + 40)))])) (hu.trans ap_ap) ?_
  show zx p l e _ s m _ below meth c g 5 0 0 _ _ 68 [(3, .ref (b + 40)), (2, .int 0), (0, .ref (b + 0)), (1, .ref (b + 40))] _
  refine z_aload_n B dX8_goOn_68 rfl 0 rfl ?_
  refine z_cVv (As := []) (rest := []) B cw_X8_351 cx_1 dX8_goOn_69 (ci_X0_letGo_679 l (σ := (ap b σ [(41, 16, 13), (41, 7, 1), (41, 5, 1), (5, 2, 1)] [(41, 17, ((10 * (w1.toInt64)) + 1))] [(6, 0, (some (b + 40)))])) (b := b) (lyA hK) (rR_at 40 7 hR_40_7)) (lKA (hk_K hK 40 rfl rfl)) rfl (by decide) rfl (Nat.le_of_ble_eq_true rfl) (by decide) (fun u hu => ?_)
  refine z_eqs (σ' := (ap b σ [(41, 16, 13), (41, 7, 1), (41, 5, 1), (5, 2, 1)] [(41, 17, ((10 * (w1.toInt64)) + 1))] [(6, 0, (some (b + 40)))])) hu ?_
  show zx p l e _ s m _ below meth c g 5 0 0 _ _ 72 [(3, .ref (b + 40)), (2, .int 0), (0, .ref (b + 0)), (1, .ref (b + 40))] _
  refine z_aload_n B dX8_goOn_72 rfl 0 rfl ?_
  refine gf_X8_249 (x := (some (b + 41))) B (lKA (hk_K hK 40 rfl rfl)) (rR_at 40 2 hR_40_2) dX8_goOn_73 ?_
  refine z_cVi (As := []) (rest := []) B cw_X8_354 cx_6 dX8_goOn_76 (ci_X5_wantsEvent_680 l (σ := (ap b σ [(41, 16, 13), (41, 7, 1), (41, 5, 1), (5, 2, 1)] [(41, 17, ((10 * (w1.toInt64)) + 1))] [(6, 0, (some (b + 40)))])) (b := b) (lyA hK) (rI_at 41 16 rfl) (rI_at 41 19 hI_41_19)) (lKA (hk_K hK 41 rfl rfl)) rfl (by decide) rfl (Nat.le_of_ble_eq_true rfl) (by decide) (fun r u hu => ?_)
  refine z_eqs (σ' := (ap b σ [(41, 16, 13), (41, 7, 1), (41, 5, 1), (5, 2, 1)] [(41, 17, ((10 * (w1.toInt64)) + 1))] [(6, 0, (some (b + 40)))])) hu.2 ?_
  show zx p l e _ s m _ below meth c g 5 0 0 _ _ 79 [(3, .ref (b + 40)), (2, .int 0), (0, .ref (b + 0)), (1, .ref (b + 40))] _
  refine z_seti (y := 1) hu.1 ?_
  refine z_if_eq (tgt := 115) B dX8_goOn_79 (by decide) (fun h => absurd h (by decide)) (fun _ => ?_)
  refine z_aload_n B dX8_goOn_82 rfl 2 rfl ?_
  refine z_aload_n B dX8_goOn_83 rfl 0 rfl ?_
  refine z_cVq (As := [.ref (b + 40)]) (rest := []) B cw_X8_357 cx_9 dX8_goOn_84 (ci_X8_make_684 l (σ := (ap b σ [(41, 16, 13), (41, 7, 1), (41, 5, 1), (5, 2, 1)] [(41, 17, ((10 * (w1.toInt64)) + 1))] [(6, 0, (some (b + 40)))])) (b := b) (lyA hK) ((10 * (w1.toInt64)) + 1) (rI_at 37 2 hI_37_2) (rI_at 40 4 hI_40_4) (rI_at 41 16 rfl) (rJ_at 41 17 rfl) (rR_at 37 0 hR_37_0) (rR_at 37 1 hR_37_1) (rR_at 40 1 hR_40_1) (rR_at 40 2 hR_40_2)) (lKA (hk_K hK 0 rfl rfl)) rfl (by decide) rfl (Nat.le_of_ble_eq_true rfl) (by decide) (fun r u hu => ?_)
  refine z_eqs (σ' := (ap b σ [(37, 2, 2), (38, 1, 13), (41, 16, 13), (41, 7, 1), (41, 5, 1), (5, 2, 1)] [(39, 1, ((10 * (w1.toInt64)) + 1)), (41, 17, ((10 * (w1.toInt64)) + 1))] [(6, 0, (some (b + 40)))])) (hu.2.trans ap_ap) ?_
  show zx p l e _ s m _ below meth c g 5 0 0 _ _ 87 [(3, .ref (b + 40)), (2, .int 0), (0, .ref (b + 0)), (1, .ref (b + 40))] _
  refine z_setr (y := none) hu.1 ?_
  refine z_qstore (r := none) (lv' := [(4, .null), (3, .ref (b + 40)), (2, .int 0), (0, .ref (b + 0)), (1, .ref (b + 40))]) B dX8_goOn_87 (by decide) rfl ?_
  refine z_aload_n B dX8_goOn_89 rfl 1 rfl ?_
  refine gf_X8_249 (x := (some (b + 41))) B (lKA (hk_K hK 40 rfl rfl)) (rR_at 40 2 hR_40_2) dX8_goOn_90 ?_
  refine z_aload_n B dX8_goOn_93 rfl 1 rfl ?_
  refine gf_X8_179 (x := (some (b + 37))) B (lKA (hk_K hK 40 rfl rfl)) (rR_at 40 1 hR_40_1) dX8_goOn_94 ?_
  refine z_cVi (As := []) (rest := [.ref (b + 41)]) B cw_X8_183 cx_2 dX8_goOn_97 (ci_X1_size_685 l (σ := (ap b σ [(37, 2, 2), (38, 1, 13), (41, 16, 13), (41, 7, 1), (41, 5, 1), (5, 2, 1)] [(39, 1, ((10 * (w1.toInt64)) + 1)), (41, 17, ((10 * (w1.toInt64)) + 1))] [(6, 0, (some (b + 40)))])) (b := b) (lyA hK) (rI_at 37 2 rfl)) (lKA (hk_K hK 37 rfl rfl)) rfl (by decide) rfl (Nat.le_of_ble_eq_true rfl) (by decide) (fun r u hu => ?_)
  refine z_eqs (σ' := (ap b σ [(37, 2, 2), (38, 1, 13), (41, 16, 13), (41, 7, 1), (41, 5, 1), (5, 2, 1)] [(39, 1, ((10 * (w1.toInt64)) + 1)), (41, 17, ((10 * (w1.toInt64)) + 1))] [(6, 0, (some (b + 40)))])) hu.2 ?_
  show zx p l e _ s m _ below meth c g 5 0 0 _ _ 100 [(4, .null), (3, .ref (b + 40)), (2, .int 0), (0, .ref (b + 0)), (1, .ref (b + 40))] _
  refine z_seti (y := 2) hu.1 ?_
  refine z_cVv (As := [.int 2]) (rest := []) B cw_X8_289 cx_6 dX8_goOn_100 (ci_X5_advance_690 l (σ := (ap b σ [(37, 2, 2), (38, 1, 13), (41, 16, 13), (41, 7, 1), (41, 5, 1), (5, 2, 1)] [(39, 1, ((10 * (w1.toInt64)) + 1)), (41, 17, ((10 * (w1.toInt64)) + 1))] [(6, 0, (some (b + 40)))])) (b := b) (lyA hK) ((10 * (w1.toInt64)) + 1) (iv_ladd (c := 1) (n := 1) rfl (iv_lmul (c := 10) (n := 10) rfl (by decide) (iv_i2l q1_w1 q2_w1).1 (iv_i2l q1_w1 q2_w1).2 (by decide) (by decide)).1 (iv_lmul (c := 10) (n := 10) rfl (by decide) (iv_i2l q1_w1 q2_w1).1 (iv_i2l q1_w1 q2_w1).2 (by decide) (by decide)).2 (by decide) (by decide)).1 (iv_ladd (c := 1) (n := 1) rfl (iv_lmul (c := 10) (n := 10) rfl (by decide) (iv_i2l q1_w1 q2_w1).1 (iv_i2l q1_w1 q2_w1).2 (by decide) (by decide)).1 (iv_lmul (c := 10) (n := 10) rfl (by decide) (iv_i2l q1_w1 q2_w1).1 (iv_i2l q1_w1 q2_w1).2 (by decide) (by decide)).2 (by decide) (by decide)).2 (rI_at 37 2 rfl) (rI_at 38 1 rfl) (rI_at 41 4 hI_41_4) (rI_at 41 16 rfl) (rI_at 41 19 hI_41_19) (rJ_at 39 1 rfl) (rJ_at 41 17 rfl) (rR_at 37 0 hR_37_0) (rR_at 37 1 hR_37_1) (rR_at 41 3 hR_41_3)) (lKA (hk_K hK 41 rfl rfl)) rfl (by decide) rfl (Nat.le_of_ble_eq_true rfl) (by decide) (fun u hu => ?_)
  refine z_eqs (σ' := (ap b σ [(41, 19, 0), (41, 15, 1), (41, 4, 2), (41, 16, (-1)), (37, 2, 2), (38, 1, 13), (41, 16, 13), (41, 7, 1), (41, 5, 1), (5, 2, 1)] [(39, 1, ((10 * (w1.toInt64)) + 1)), (41, 17, ((10 * (w1.toInt64)) + 1))] [(6, 0, (some (b + 40)))])) (hu.trans ap_ap) ?_
  show zx p l e _ s m _ below meth c g 5 0 0 _ _ 103 [(4, .null), (3, .ref (b + 40)), (2, .int 0), (0, .ref (b + 0)), (1, .ref (b + 40))] _
  refine z_aload_n B dX8_goOn_103 rfl 3 rfl ?_
  refine gf_X8_35 (x := (some (b + 5))) B (lKA (hk_K hK 0 rfl rfl)) (rR_at 0 4 hR_0_4) dX8_goOn_104 ?_
  refine z_qload (r := none) B dX8_goOn_107 0 rfl ?_
  refine z_cVv (As := [.null]) (rest := []) B cw_X8_337 cx_3 dX8_goOn_109 (ci_X2_addLast_691 l (σ := (ap b σ [(41, 19, 0), (41, 15, 1), (41, 4, 2), (41, 16, (-1)), (37, 2, 2), (38, 1, 13), (41, 16, 13), (41, 7, 1), (41, 5, 1), (5, 2, 1)] [(39, 1, ((10 * (w1.toInt64)) + 1)), (41, 17, ((10 * (w1.toInt64)) + 1))] [(6, 0, (some (b + 40)))])) (b := b) (lyA hK) ) (lKA (hk_K hK 5 rfl rfl)) rfl (by decide) rfl (Nat.le_of_ble_eq_true rfl) (by decide) (fun u hu => ?_)
  refine z_eqs (σ' := (ap b σ [(41, 19, 0), (41, 15, 1), (41, 4, 2), (41, 16, (-1)), (37, 2, 2), (38, 1, 13), (41, 16, 13), (41, 7, 1), (41, 5, 1), (5, 2, 1)] [(39, 1, ((10 * (w1.toInt64)) + 1)), (41, 17, ((10 * (w1.toInt64)) + 1))] [(6, 0, (some (b + 40)))])) hu ?_
  show zx p l e _ s m _ below meth c g 5 0 0 _ _ 112 [(4, .null), (3, .ref (b + 40)), (2, .int 0), (0, .ref (b + 0)), (1, .ref (b + 40))] _
  refine z_goto (tgt := 120) B dX8_goOn_112 (by decide) ?_
  refine z_iinc (v := 1) (lv' := [(2, .int 1), (4, .null), (3, .ref (b + 40)), (0, .ref (b + 0)), (1, .ref (b + 40))]) B dX8_goOn_120 2 rfl (by decide) (by decide) rfl ?_
  refine z_goto (tgt := 10) B dX8_goOn_123 (by decide) ?_
  refine z_iload_n B dX8_goOn_10 rfl 0 rfl ?_
  refine z_ldcw (v := 1000000) B dX8_goOn_11 wg_515 ?_
  refine z_icmp_ge (tgt := 126) B dX8_goOn_14 (by decide) (fun h => absurd h (by decide)) (fun _ => ?_)
  refine z_aload_n B dX8_goOn_17 rfl 3 rfl ?_
  refine gf_X8_35 (x := (some (b + 5))) B (lKA (hk_K hK 0 rfl rfl)) (rR_at 0 4 hR_0_4) dX8_goOn_18 ?_
  refine z_cVi (As := []) (rest := []) B cw_X8_341 cx_3 dX8_goOn_21 (ci_X2_isEmpty_668 l (σ := (ap b σ [(41, 19, 0), (41, 15, 1), (41, 4, 2), (41, 16, (-1)), (37, 2, 2), (38, 1, 13), (41, 16, 13), (41, 7, 1), (41, 5, 1), (5, 2, 1)] [(39, 1, ((10 * (w1.toInt64)) + 1)), (41, 17, ((10 * (w1.toInt64)) + 1))] [(6, 0, (some (b + 40)))])) (b := b) (lyA hK) (rI_at 5 1 hI_5_1) (rI_at 5 2 rfl)) (lKA (hk_K hK 5 rfl rfl)) rfl (by decide) rfl (Nat.le_of_ble_eq_true rfl) (by decide) (fun r u hu => ?_)
  refine z_eqs (σ' := (ap b σ [(41, 19, 0), (41, 15, 1), (41, 4, 2), (41, 16, (-1)), (37, 2, 2), (38, 1, 13), (41, 16, 13), (41, 7, 1), (41, 5, 1), (5, 2, 1)] [(39, 1, ((10 * (w1.toInt64)) + 1)), (41, 17, ((10 * (w1.toInt64)) + 1))] [(6, 0, (some (b + 40)))])) hu.2 ?_
  show zx p l e _ s m _ below meth c g 5 0 0 _ _ 24 [(2, .int 1), (4, .null), (3, .ref (b + 40)), (0, .ref (b + 0)), (1, .ref (b + 40))] _
  refine z_seti (y := 0) hu.1 ?_
  refine z_if_eq (tgt := 41) B dX8_goOn_24 (by decide) (fun _ => ?_) (fun h => absurd (by decide) h)
  refine z_aload_n B dX8_goOn_41 rfl 3 rfl ?_
  refine gf_X8_35 (x := (some (b + 5))) B (lKA (hk_K hK 0 rfl rfl)) (rR_at 0 4 hR_0_4) dX8_goOn_42 ?_
  refine z_cVq (As := []) (rest := []) B cw_X8_348 cx_3 dX8_goOn_45 (ci_X2_last_669 l (σ := (ap b σ [(41, 19, 0), (41, 15, 1), (41, 4, 2), (41, 16, (-1)), (37, 2, 2), (38, 1, 13), (41, 16, 13), (41, 7, 1), (41, 5, 1), (5, 2, 1)] [(39, 1, ((10 * (w1.toInt64)) + 1)), (41, 17, ((10 * (w1.toInt64)) + 1))] [(6, 0, (some (b + 40)))])) (b := b) (lyA hK) (rI_at 5 1 hI_5_1) (rI_at 5 2 rfl) (rR_at 5 0 hR_5_0) (rR_at 6 0 rfl)) (lKA (hk_K hK 5 rfl rfl)) rfl (by decide) rfl (Nat.le_of_ble_eq_true rfl) (by decide) (fun r u hu => ?_)
  refine z_eqs (σ' := (ap b σ [(41, 19, 0), (41, 15, 1), (41, 4, 2), (41, 16, (-1)), (37, 2, 2), (38, 1, 13), (41, 16, 13), (41, 7, 1), (41, 5, 1), (5, 2, 1)] [(39, 1, ((10 * (w1.toInt64)) + 1)), (41, 17, ((10 * (w1.toInt64)) + 1))] [(6, 0, (some (b + 40)))])) hu.2 ?_
  show zx p l e _ s m _ below meth c g 5 0 0 _ _ 48 [(2, .int 1), (4, .null), (3, .ref (b + 40)), (0, .ref (b + 0)), (1, .ref (b + 40))] _
  refine z_setr (y := (some (b + 40))) hu.1 ?_
  refine z_astore_n (lv' := [(3, .ref (b + 40)), (2, .int 1), (4, .null), (0, .ref (b + 0)), (1, .ref (b + 40))]) B dX8_goOn_48 rfl (by decide) rfl ?_
  refine z_aload_n B dX8_goOn_49 rfl 0 rfl ?_
  refine z_ifnonnull (r := (some (b + 40))) (tgt := 54) B dX8_goOn_50 (by decide) (fun _ _ => ?_) (fun h => nomatch h)
  refine z_aload_n B dX8_goOn_54 rfl 0 rfl ?_
  refine gf_X8_249 (x := (some (b + 41))) B (lKA (hk_K hK 40 rfl rfl)) (rR_at 40 2 hR_40_2) dX8_goOn_55 ?_
  refine z_aload_n B dX8_goOn_58 rfl 0 rfl ?_
  refine gf_X8_179 (x := (some (b + 37))) B (lKA (hk_K hK 40 rfl rfl)) (rR_at 40 1 hR_40_1) dX8_goOn_59 ?_
  refine z_cVi (As := []) (rest := [.ref (b + 41)]) B cw_X8_183 cx_2 dX8_goOn_62 (ci_X1_size_685 l (σ := (ap b σ [(41, 19, 0), (41, 15, 1), (41, 4, 2), (41, 16, (-1)), (37, 2, 2), (38, 1, 13), (41, 16, 13), (41, 7, 1), (41, 5, 1), (5, 2, 1)] [(39, 1, ((10 * (w1.toInt64)) + 1)), (41, 17, ((10 * (w1.toInt64)) + 1))] [(6, 0, (some (b + 40)))])) (b := b) (lyA hK) (rI_at 37 2 rfl)) (lKA (hk_K hK 37 rfl rfl)) rfl (by decide) rfl (Nat.le_of_ble_eq_true rfl) (by decide) (fun r u hu => ?_)
  refine z_eqs (σ' := (ap b σ [(41, 19, 0), (41, 15, 1), (41, 4, 2), (41, 16, (-1)), (37, 2, 2), (38, 1, 13), (41, 16, 13), (41, 7, 1), (41, 5, 1), (5, 2, 1)] [(39, 1, ((10 * (w1.toInt64)) + 1)), (41, 17, ((10 * (w1.toInt64)) + 1))] [(6, 0, (some (b + 40)))])) hu.2 ?_
  show zx p l e _ s m _ below meth c g 5 0 0 _ _ 65 [(3, .ref (b + 40)), (2, .int 1), (4, .null), (0, .ref (b + 0)), (1, .ref (b + 40))] _
  refine z_seti (y := 2) hu.1 ?_
  refine z_cVv (As := [.int 2]) (rest := []) B cw_X8_289 cx_6 dX8_goOn_65 (ci_X5_advance_692 l (σ := (ap b σ [(41, 19, 0), (41, 15, 1), (41, 4, 2), (41, 16, (-1)), (37, 2, 2), (38, 1, 13), (41, 16, 13), (41, 7, 1), (41, 5, 1), (5, 2, 1)] [(39, 1, ((10 * (w1.toInt64)) + 1)), (41, 17, ((10 * (w1.toInt64)) + 1))] [(6, 0, (some (b + 40)))])) (b := b) (lyA hK) (rI_at 41 4 rfl) (rI_at 41 15 rfl) (rI_at 41 16 rfl) (rI_at 41 19 rfl)) (lKA (hk_K hK 41 rfl rfl)) rfl (by decide) rfl (Nat.le_of_ble_eq_true rfl) (by decide) (fun u hu => ?_)
  refine z_eqs (σ' := (ap b σ [(41, 19, 0), (41, 19, 0), (41, 15, 1), (41, 4, 2), (41, 16, (-1)), (37, 2, 2), (38, 1, 13), (41, 16, 13), (41, 7, 1), (41, 5, 1), (5, 2, 1)] [(39, 1, ((10 * (w1.toInt64)) + 1)), (41, 17, ((10 * (w1.toInt64)) + 1))] [(6, 0, (some (b + 40)))])) (hu.trans ap_ap) ?_
  show zx p l e _ s m _ below meth c g 5 0 0 _ _ 68 [(3, .ref (b + 40)), (2, .int 1), (4, .null), (0, .ref (b + 0)), (1, .ref (b + 40))] _
  refine z_aload_n B dX8_goOn_68 rfl 0 rfl ?_
  refine z_cVv (As := []) (rest := []) B cw_X8_351 cx_1 dX8_goOn_69 (ci_X0_letGo_679 l (σ := (ap b σ [(41, 19, 0), (41, 19, 0), (41, 15, 1), (41, 4, 2), (41, 16, (-1)), (37, 2, 2), (38, 1, 13), (41, 16, 13), (41, 7, 1), (41, 5, 1), (5, 2, 1)] [(39, 1, ((10 * (w1.toInt64)) + 1)), (41, 17, ((10 * (w1.toInt64)) + 1))] [(6, 0, (some (b + 40)))])) (b := b) (lyA hK) (rR_at 40 7 hR_40_7)) (lKA (hk_K hK 40 rfl rfl)) rfl (by decide) rfl (Nat.le_of_ble_eq_true rfl) (by decide) (fun u hu => ?_)
  refine z_eqs (σ' := (ap b σ [(41, 19, 0), (41, 19, 0), (41, 15, 1), (41, 4, 2), (41, 16, (-1)), (37, 2, 2), (38, 1, 13), (41, 16, 13), (41, 7, 1), (41, 5, 1), (5, 2, 1)] [(39, 1, ((10 * (w1.toInt64)) + 1)), (41, 17, ((10 * (w1.toInt64)) + 1))] [(6, 0, (some (b + 40)))])) hu ?_
  show zx p l e _ s m _ below meth c g 5 0 0 _ _ 72 [(3, .ref (b + 40)), (2, .int 1), (4, .null), (0, .ref (b + 0)), (1, .ref (b + 40))] _
  refine z_aload_n B dX8_goOn_72 rfl 0 rfl ?_
  refine gf_X8_249 (x := (some (b + 41))) B (lKA (hk_K hK 40 rfl rfl)) (rR_at 40 2 hR_40_2) dX8_goOn_73 ?_
  refine z_cVi (As := []) (rest := []) B cw_X8_354 cx_6 dX8_goOn_76 (ci_X5_wantsEvent_693 l (σ := (ap b σ [(41, 19, 0), (41, 19, 0), (41, 15, 1), (41, 4, 2), (41, 16, (-1)), (37, 2, 2), (38, 1, 13), (41, 16, 13), (41, 7, 1), (41, 5, 1), (5, 2, 1)] [(39, 1, ((10 * (w1.toInt64)) + 1)), (41, 17, ((10 * (w1.toInt64)) + 1))] [(6, 0, (some (b + 40)))])) (b := b) (lyA hK) (rI_at 41 16 rfl) (rI_at 41 19 rfl)) (lKA (hk_K hK 41 rfl rfl)) rfl (by decide) rfl (Nat.le_of_ble_eq_true rfl) (by decide) (fun r u hu => ?_)
  refine z_eqs (σ' := (ap b σ [(41, 19, 0), (41, 19, 0), (41, 15, 1), (41, 4, 2), (41, 16, (-1)), (37, 2, 2), (38, 1, 13), (41, 16, 13), (41, 7, 1), (41, 5, 1), (5, 2, 1)] [(39, 1, ((10 * (w1.toInt64)) + 1)), (41, 17, ((10 * (w1.toInt64)) + 1))] [(6, 0, (some (b + 40)))])) hu.2 ?_
  show zx p l e _ s m _ below meth c g 5 0 0 _ _ 79 [(3, .ref (b + 40)), (2, .int 1), (4, .null), (0, .ref (b + 0)), (1, .ref (b + 40))] _
  refine z_seti (y := 0) hu.1 ?_
  refine z_if_eq (tgt := 115) B dX8_goOn_79 (by decide) (fun _ => ?_) (fun h => absurd (by decide) h)
  refine z_aload_n B dX8_goOn_115 rfl 3 rfl ?_
  refine z_aload_n B dX8_goOn_116 rfl 0 rfl ?_
  refine z_cVv (As := [.ref (b + 40)]) (rest := []) B cw_X8_361 cx_9 dX8_goOn_117 (ci_X8_leave_695 l (σ := (ap b σ [(41, 19, 0), (41, 19, 0), (41, 15, 1), (41, 4, 2), (41, 16, (-1)), (37, 2, 2), (38, 1, 13), (41, 16, 13), (41, 7, 1), (41, 5, 1), (5, 2, 1)] [(39, 1, ((10 * (w1.toInt64)) + 1)), (41, 17, ((10 * (w1.toInt64)) + 1))] [(6, 0, (some (b + 40)))])) (b := b) (lyA hK) (rI_at 5 1 hI_5_1) (rI_at 5 2 rfl) (rI_at 37 2 rfl) (rI_at 40 8 hI_40_8) (rI_at 41 18 hI_41_18) (rI_at 41 19 rfl) (rR_at 0 4 hR_0_4) (rR_at 40 1 hR_40_1) (rR_at 40 2 hR_40_2)) (lKA (hk_K hK 0 rfl rfl)) rfl (by decide) rfl (Nat.le_of_ble_eq_true rfl) (by decide) (fun u hu => ?_)
  refine z_eqs (σ' := (ap b σ [(40, 8, 2), (5, 2, 0), (41, 19, 0), (41, 19, 0), (41, 15, 1), (41, 4, 2), (41, 16, (-1)), (37, 2, 2), (38, 1, 13), (41, 16, 13), (41, 7, 1), (41, 5, 1), (5, 2, 1)] [(39, 1, ((10 * (w1.toInt64)) + 1)), (41, 17, ((10 * (w1.toInt64)) + 1))] [(6, 0, (some (b + 40)))])) (hu.trans ap_ap) ?_
  show zx p l e _ s m _ below meth c g 5 0 0 _ _ 120 [(3, .ref (b + 40)), (2, .int 1), (4, .null), (0, .ref (b + 0)), (1, .ref (b + 40))] _
  refine z_iinc (v := 2) (lv' := [(2, .int 2), (3, .ref (b + 40)), (4, .null), (0, .ref (b + 0)), (1, .ref (b + 40))]) B dX8_goOn_120 1 rfl (by decide) (by decide) rfl ?_
  refine z_goto (tgt := 10) B dX8_goOn_123 (by decide) ?_
  refine z_iload_n B dX8_goOn_10 rfl 0 rfl ?_
  refine z_ldcw (v := 1000000) B dX8_goOn_11 wg_515 ?_
  refine z_icmp_ge (tgt := 126) B dX8_goOn_14 (by decide) (fun h => absurd h (by decide)) (fun _ => ?_)
  refine z_aload_n B dX8_goOn_17 rfl 3 rfl ?_
  refine gf_X8_35 (x := (some (b + 5))) B (lKA (hk_K hK 0 rfl rfl)) (rR_at 0 4 hR_0_4) dX8_goOn_18 ?_
  refine z_cVi (As := []) (rest := []) B cw_X8_341 cx_3 dX8_goOn_21 (ci_X2_isEmpty_696 l (σ := (ap b σ [(40, 8, 2), (5, 2, 0), (41, 19, 0), (41, 19, 0), (41, 15, 1), (41, 4, 2), (41, 16, (-1)), (37, 2, 2), (38, 1, 13), (41, 16, 13), (41, 7, 1), (41, 5, 1), (5, 2, 1)] [(39, 1, ((10 * (w1.toInt64)) + 1)), (41, 17, ((10 * (w1.toInt64)) + 1))] [(6, 0, (some (b + 40)))])) (b := b) (lyA hK) (rI_at 5 1 hI_5_1) (rI_at 5 2 rfl)) (lKA (hk_K hK 5 rfl rfl)) rfl (by decide) rfl (Nat.le_of_ble_eq_true rfl) (by decide) (fun r u hu => ?_)
  refine z_eqs (σ' := (ap b σ [(40, 8, 2), (5, 2, 0), (41, 19, 0), (41, 19, 0), (41, 15, 1), (41, 4, 2), (41, 16, (-1)), (37, 2, 2), (38, 1, 13), (41, 16, 13), (41, 7, 1), (41, 5, 1), (5, 2, 1)] [(39, 1, ((10 * (w1.toInt64)) + 1)), (41, 17, ((10 * (w1.toInt64)) + 1))] [(6, 0, (some (b + 40)))])) hu.2 ?_
  show zx p l e _ s m _ below meth c g 5 0 0 _ _ 24 [(2, .int 2), (3, .ref (b + 40)), (4, .null), (0, .ref (b + 0)), (1, .ref (b + 40))] _
  refine z_seti (y := 1) hu.1 ?_
  refine z_if_eq (tgt := 41) B dX8_goOn_24 (by decide) (fun h => absurd h (by decide)) (fun _ => ?_)
  refine z_aload_n B dX8_goOn_27 rfl 3 rfl ?_
  refine gf_X8_35 (x := (some (b + 5))) B (lKA (hk_K hK 0 rfl rfl)) (rR_at 0 4 hR_0_4) dX8_goOn_28 ?_
  refine z_aload_n B dX8_goOn_31 rfl 3 rfl ?_
  refine gf_X8_39 (x := (some (b + 7))) B (lKA (hk_K hK 0 rfl rfl)) (rR_at 0 5 hR_0_5) dX8_goOn_32 ?_
  refine z_cVq (As := []) (rest := [.ref (b + 5)]) B cw_X8_344 cx_3 dX8_goOn_35 (ci_X2_removeFirst_697 l (σ := (ap b σ [(40, 8, 2), (5, 2, 0), (41, 19, 0), (41, 19, 0), (41, 15, 1), (41, 4, 2), (41, 16, (-1)), (37, 2, 2), (38, 1, 13), (41, 16, 13), (41, 7, 1), (41, 5, 1), (5, 2, 1)] [(39, 1, ((10 * (w1.toInt64)) + 1)), (41, 17, ((10 * (w1.toInt64)) + 1))] [(6, 0, (some (b + 40)))])) (b := b) (lyA hK) (rI_at 7 1 hI_7_1) (rI_at 7 2 hI_7_2)) (lKA (hk_K hK 7 rfl rfl)) rfl (by decide) rfl (Nat.le_of_ble_eq_true rfl) (by decide) (fun r u hu => ?_)
  refine z_eqs (σ' := (ap b σ [(7, 2, 0), (7, 1, 0), (40, 8, 2), (5, 2, 0), (41, 19, 0), (41, 19, 0), (41, 15, 1), (41, 4, 2), (41, 16, (-1)), (37, 2, 2), (38, 1, 13), (41, 16, 13), (41, 7, 1), (41, 5, 1), (5, 2, 1)] [(39, 1, ((10 * (w1.toInt64)) + 1)), (41, 17, ((10 * (w1.toInt64)) + 1))] [(6, 0, (some (b + 40)))])) (hu.2.trans ap_ap) ?_
  show zx p l e _ s m _ below meth c g 5 0 0 _ _ 38 [(2, .int 2), (3, .ref (b + 40)), (4, .null), (0, .ref (b + 0)), (1, .ref (b + 40))] _
  refine z_setr (y := none) hu.1 ?_
  refine z_cVv (As := [.null]) (rest := []) B cw_X8_337 cx_3 dX8_goOn_38 (ci_X2_addLast_691 l (σ := (ap b σ [(7, 2, 0), (7, 1, 0), (40, 8, 2), (5, 2, 0), (41, 19, 0), (41, 19, 0), (41, 15, 1), (41, 4, 2), (41, 16, (-1)), (37, 2, 2), (38, 1, 13), (41, 16, 13), (41, 7, 1), (41, 5, 1), (5, 2, 1)] [(39, 1, ((10 * (w1.toInt64)) + 1)), (41, 17, ((10 * (w1.toInt64)) + 1))] [(6, 0, (some (b + 40)))])) (b := b) (lyA hK) ) (lKA (hk_K hK 5 rfl rfl)) rfl (by decide) rfl (Nat.le_of_ble_eq_true rfl) (by decide) (fun u hu => ?_)
  refine z_eqs (σ' := (ap b σ [(7, 2, 0), (7, 1, 0), (40, 8, 2), (5, 2, 0), (41, 19, 0), (41, 19, 0), (41, 15, 1), (41, 4, 2), (41, 16, (-1)), (37, 2, 2), (38, 1, 13), (41, 16, 13), (41, 7, 1), (41, 5, 1), (5, 2, 1)] [(39, 1, ((10 * (w1.toInt64)) + 1)), (41, 17, ((10 * (w1.toInt64)) + 1))] [(6, 0, (some (b + 40)))])) hu ?_
  show zx p l e _ s m _ below meth c g 5 0 0 _ _ 41 [(2, .int 2), (3, .ref (b + 40)), (4, .null), (0, .ref (b + 0)), (1, .ref (b + 40))] _
  refine z_aload_n B dX8_goOn_41 rfl 3 rfl ?_
  refine gf_X8_35 (x := (some (b + 5))) B (lKA (hk_K hK 0 rfl rfl)) (rR_at 0 4 hR_0_4) dX8_goOn_42 ?_
  refine z_cVq (As := []) (rest := []) B cw_X8_348 cx_3 dX8_goOn_45 (ci_X2_last_698 l (σ := (ap b σ [(7, 2, 0), (7, 1, 0), (40, 8, 2), (5, 2, 0), (41, 19, 0), (41, 19, 0), (41, 15, 1), (41, 4, 2), (41, 16, (-1)), (37, 2, 2), (38, 1, 13), (41, 16, 13), (41, 7, 1), (41, 5, 1), (5, 2, 1)] [(39, 1, ((10 * (w1.toInt64)) + 1)), (41, 17, ((10 * (w1.toInt64)) + 1))] [(6, 0, (some (b + 40)))])) (b := b) (lyA hK) (rI_at 5 1 hI_5_1) (rI_at 5 2 rfl)) (lKA (hk_K hK 5 rfl rfl)) rfl (by decide) rfl (Nat.le_of_ble_eq_true rfl) (by decide) (fun r u hu => ?_)
  refine z_eqs (σ' := (ap b σ [(7, 2, 0), (7, 1, 0), (40, 8, 2), (5, 2, 0), (41, 19, 0), (41, 19, 0), (41, 15, 1), (41, 4, 2), (41, 16, (-1)), (37, 2, 2), (38, 1, 13), (41, 16, 13), (41, 7, 1), (41, 5, 1), (5, 2, 1)] [(39, 1, ((10 * (w1.toInt64)) + 1)), (41, 17, ((10 * (w1.toInt64)) + 1))] [(6, 0, (some (b + 40)))])) hu.2 ?_
  show zx p l e _ s m _ below meth c g 5 0 0 _ _ 48 [(2, .int 2), (3, .ref (b + 40)), (4, .null), (0, .ref (b + 0)), (1, .ref (b + 40))] _
  refine z_setr (y := none) hu.1 ?_
  refine z_qstore_n (r := none) (lv' := [(3, .null), (2, .int 2), (4, .null), (0, .ref (b + 0)), (1, .ref (b + 40))]) B dX8_goOn_48 rfl (by decide) rfl ?_
  refine z_qload_n (r := none) B dX8_goOn_49 rfl 0 rfl ?_
  refine z_ifnonnull (r := none) (tgt := 54) B dX8_goOn_50 (by decide) (fun a h => nomatch h) (fun _ => ?_)
  exact z_vret B hr (by decide) (by decide) dX8_goOn_53 rfl
set_option maxRecDepth 100000 in
set_option maxHeartbeats 4000000 in
theorem ci_X8_start_763 (l : Launch) {g : gx_T} {σ : sx_T} {b : Nat} (hK : lay b σ) (w1 : Int32) (q1_w1 : (-999 : Int) ≤ w1.toInt) (q2_w1 : w1.toInt ≤ (-1 : Int)) (hI_0_7 : sx_I σ (b + 0) 7 = 0) (hI_5_1 : sx_I σ (b + 5) 1 = 0) (hI_5_2 : sx_I σ (b + 5) 2 = 0) (hI_7_1 : sx_I σ (b + 7) 1 = 0) (hI_7_2 : sx_I σ (b + 7) 2 = 0) (hI_18_0 : sx_I σ (b + 18) 0 = 0) (hI_19_0 : sx_I σ (b + 19) 0 = 0) (hI_20_0 : sx_I σ (b + 20) 0 = 0) (hI_37_2 : sx_I σ (b + 37) 2 = 0) (hI_40_0 : sx_I σ (b + 40) 0 = 0) (hI_40_8 : sx_I σ (b + 40) 8 = 0) (hR_0_0 : sx_R σ (b + 0) 0 = (some (b + 1))) (hR_0_2 : sx_R σ (b + 0) 2 = (some (b + 3))) (hR_0_4 : sx_R σ (b + 0) 4 = (some (b + 5))) (hR_0_5 : sx_R σ (b + 0) 5 = (some (b + 7))) (hR_1_2 : sx_R σ (b + 1) 2 = (some (b + 17))) (hR_3_0 : sx_R σ (b + 3) 0 = (some (b + 40))) (hR_5_0 : sx_R σ (b + 5) 0 = (some (b + 6))) (hR_17_1 : sx_R σ (b + 17) 1 = (some (b + 18))) (hR_17_2 : sx_R σ (b + 17) 2 = (some (b + 19))) (hR_17_3 : sx_R σ (b + 17) 3 = (some (b + 20))) (hR_37_0 : sx_R σ (b + 37) 0 = (some (b + 38))) (hR_37_1 : sx_R σ (b + 37) 1 = (some (b + 39))) (hR_40_1 : sx_R σ (b + 40) 1 = (some (b + 37))) (hR_40_2 : sx_R σ (b + 40) 2 = (some (b + 41))) (hR_40_7 : sx_R σ (b + 40) 7 = none) (hR_41_0 : sx_R σ (b + 41) 0 = (some (b + 42))) (hR_41_1 : sx_R σ (b + 41) 1 = (some (b + 44))) : Met l yX8_start (.code yX8_start cX8_start 5 (some .int) :: lw_g) { frames := 4, cells := 0, slots := 0, locals := 96 } (va_Pc [.ref (b + 0), .int 2, .int w1] (zx_w g σ)) (va_Qi (fun r u => r = 0 ∧ u = (ap b σ [(7, 2, 0), (7, 1, 0), (40, 8, 2), (5, 2, 0), (41, 19, 0), (41, 19, 0), (41, 15, 1), (41, 4, 2), (41, 16, (-1)), (37, 2, 2), (38, 1, 13), (41, 16, 13), (41, 7, 1), (41, 5, 1), (5, 2, 1), (41, 19, 0), (41, 18, (-1)), (41, 16, (-1)), (41, 15, 0), (41, 14, 0), (41, 13, 0), (41, 12, 0), (41, 10, (-1)), (41, 9, (-1)), (41, 8, 0), (41, 7, 0), (41, 6, ((w1.toInt64).toInt32)), (41, 5, 0), (41, 4, 1), (44, 1, 0), (42, 1, 0), (37, 2, 1), (38, 0, 0), (40, 5, 0), (40, 4, (-1)), (0, 7, 1)] [(39, 1, ((10 * (((w1.toInt64).toInt32).toInt64)) + 1)), (41, 17, ((10 * (((w1.toInt64).toInt32).toInt64)) + 1)), (41, 17, 0), (41, 11, 0), (39, 0, (w1.toInt64))] [(6, 0, (some (b + 40))), (41, 3, (some (b + 37))), (41, 2, (some (b + 17))), (40, 3, (some (b + 17)))])) (zx_w g) (gx_Q g)) 0 0 (gx_Q g) := by
  refine z_met (by decide) (Nat.le_of_ble_eq_true rfl) (fun p e s m below meth c B hr hin => ?_)
  refine z_eqs (σ' := (ap b σ [] [] [])) rfl ?_
  show zx p l e _ s m _ below meth c g 5 0 0 _ _ 0 [(0, .ref (b + 0)), (1, .int 2), (2, .int w1)] []
  refine z_aload_n B dX8_start_0 rfl 0 rfl ?_
  refine z_iload_n B dX8_start_1 rfl 1 rfl ?_
  refine z_cVq (As := [.int 2]) (rest := []) B cw_X8_64 cx_9 dX8_start_2 (ci_X8_programAt_171 l (σ := (ap b σ [] [] [])) (b := b) (lyA hK) (rR_at 0 0 hR_0_0) (rR_at 1 2 hR_1_2)) (lKA (hk_K hK 0 rfl rfl)) rfl (by decide) rfl (Nat.le_of_ble_eq_true rfl) (by decide) (fun r u hu => ?_)
  refine z_eqs (σ' := (ap b σ [] [] [])) hu.2 ?_
  show zx p l e _ s m _ below meth c g 5 0 0 _ _ 5 [(0, .ref (b + 0)), (1, .int 2), (2, .int w1)] _
  refine z_setr (y := (some (b + 17))) hu.1 ?_
  refine z_astore_n (lv' := [(3, .ref (b + 17)), (0, .ref (b + 0)), (1, .int 2), (2, .int w1)]) B dX8_start_5 rfl (by decide) rfl ?_
  refine z_aload_n B dX8_start_6 rfl 0 rfl ?_
  refine z_ifnonnull (r := (some (b + 17))) (tgt := 20) B dX8_start_7 (by decide) (fun _ _ => ?_) (fun h => nomatch h)
  refine z_iload_n B dX8_start_20 rfl 3 rfl ?_
  refine z_sipush (v := (-999)) B dX8_start_21 (by decide) ?_
  refine z_icmp_lt (tgt := 34) B dX8_start_24 (by decide) (fun h => absurd h (iv_nlt q1_w1 (by decide))) (fun _ => ?_)
  refine z_iload_n B dX8_start_27 rfl 3 rfl ?_
  refine z_sipush (v := 999) B dX8_start_28 (by decide) ?_
  refine z_icmp_le (tgt := 44) B dX8_start_31 (by decide) (fun _ => ?_) (fun h => absurd (iv_le q2_w1 (by decide)) h)
  refine z_aload_n B dX8_start_44 rfl 1 rfl ?_
  refine z_aload_n B dX8_start_45 rfl 0 rfl ?_
  refine z_iload_n B dX8_start_46 rfl 3 rfl ?_
  refine z_iconst (v := (-1)) B dX8_start_47 (by decide) ?_
  refine z_iconst (v := (-1)) B dX8_start_48 (by decide) ?_
  refine z_cVq (As := [.ref (b + 17), .int w1, .int (-1), .int (-1)]) (rest := []) B cw_X8_141 cx_9 dX8_start_49 (ci_X8_open_756 l (σ := (ap b σ [] [] [])) (b := b) (lyA hK) w1 (rI_at 0 7 hI_0_7) (rI_at 37 2 hI_37_2) (rI_at 40 0 hI_40_0) (rR_at 0 2 hR_0_2) (rR_at 3 0 hR_3_0) (rR_at 37 0 hR_37_0) (rR_at 37 1 hR_37_1) (rR_at 40 1 hR_40_1) (rR_at 40 2 hR_40_2) (rR_at 41 0 hR_41_0) (rR_at 41 1 hR_41_1)) (lKA (hk_K hK 0 rfl rfl)) rfl (by decide) rfl (Nat.le_of_ble_eq_true rfl) (by decide) (fun r u hu => ?_)
  refine z_eqs (σ' := (ap b σ [(41, 19, 0), (41, 18, (-1)), (41, 16, (-1)), (41, 15, 0), (41, 14, 0), (41, 13, 0), (41, 12, 0), (41, 10, (-1)), (41, 9, (-1)), (41, 8, 0), (41, 7, 0), (41, 6, ((w1.toInt64).toInt32)), (41, 5, 0), (41, 4, 1), (44, 1, 0), (42, 1, 0), (37, 2, 1), (38, 0, 0), (40, 5, 0), (40, 4, (-1)), (0, 7, 1)] [(41, 17, 0), (41, 11, 0), (39, 0, (w1.toInt64))] [(41, 3, (some (b + 37))), (41, 2, (some (b + 17))), (40, 3, (some (b + 17)))])) (hu.2.trans ap_ap) ?_
  show zx p l e _ s m _ below meth c g 5 0 0 _ _ 52 [(3, .ref (b + 17)), (0, .ref (b + 0)), (1, .int 2), (2, .int w1)] _
  refine z_setr (y := (some (b + 40))) hu.1 ?_
  refine z_astore (lv' := [(4, .ref (b + 40)), (3, .ref (b + 17)), (0, .ref (b + 0)), (1, .int 2), (2, .int w1)]) B dX8_start_52 (by decide) rfl ?_
  refine z_aload B dX8_start_54 0 rfl ?_
  refine z_ifnonnull (r := (some (b + 40))) (tgt := 69) B dX8_start_56 (by decide) (fun _ _ => ?_) (fun h => nomatch h)
  refine z_aload_n B dX8_start_69 rfl 2 rfl ?_
  refine z_aload B dX8_start_70 0 rfl ?_
  refine z_cVv (As := [.ref (b + 40)]) (rest := []) B cw_X8_111 cx_9 dX8_start_72 (ci_X8_goOn_762 l (σ := (ap b σ [(41, 19, 0), (41, 18, (-1)), (41, 16, (-1)), (41, 15, 0), (41, 14, 0), (41, 13, 0), (41, 12, 0), (41, 10, (-1)), (41, 9, (-1)), (41, 8, 0), (41, 7, 0), (41, 6, ((w1.toInt64).toInt32)), (41, 5, 0), (41, 4, 1), (44, 1, 0), (42, 1, 0), (37, 2, 1), (38, 0, 0), (40, 5, 0), (40, 4, (-1)), (0, 7, 1)] [(41, 17, 0), (41, 11, 0), (39, 0, (w1.toInt64))] [(41, 3, (some (b + 37))), (41, 2, (some (b + 17))), (40, 3, (some (b + 17)))])) (b := b) (lyA hK) ((w1.toInt64).toInt32) (iv_l2i (iv_i2l q1_w1 q2_w1).1 (iv_i2l q1_w1 q2_w1).2 (by decide) (by decide)).1 (iv_l2i (iv_i2l q1_w1 q2_w1).1 (iv_i2l q1_w1 q2_w1).2 (by decide) (by decide)).2 (rI_at 5 1 hI_5_1) (rI_at 5 2 hI_5_2) (rI_at 7 1 hI_7_1) (rI_at 7 2 hI_7_2) (rI_at 18 0 hI_18_0) (rI_at 19 0 hI_19_0) (rI_at 20 0 hI_20_0) (rI_at 37 2 rfl) (rI_at 40 4 rfl) (rI_at 40 8 hI_40_8) (rI_at 41 4 rfl) (rI_at 41 5 rfl) (rI_at 41 6 rfl) (rI_at 41 7 rfl) (rI_at 41 8 rfl) (rI_at 41 14 rfl) (rI_at 41 15 rfl) (rI_at 41 16 rfl) (rI_at 41 18 rfl) (rI_at 41 19 rfl) (rR_at 0 4 hR_0_4) (rR_at 0 5 hR_0_5) (rR_at 5 0 hR_5_0) (rR_at 17 1 hR_17_1) (rR_at 17 2 hR_17_2) (rR_at 17 3 hR_17_3) (rR_at 37 0 hR_37_0) (rR_at 37 1 hR_37_1) (rR_at 40 1 hR_40_1) (rR_at 40 2 hR_40_2) (rR_at 40 7 hR_40_7) (rR_at 41 2 rfl) (rR_at 41 3 rfl)) (lKA (hk_K hK 0 rfl rfl)) rfl (by decide) rfl (Nat.le_of_ble_eq_true rfl) (by decide) (fun u hu => ?_)
  refine z_eqs (σ' := (ap b σ [(7, 2, 0), (7, 1, 0), (40, 8, 2), (5, 2, 0), (41, 19, 0), (41, 19, 0), (41, 15, 1), (41, 4, 2), (41, 16, (-1)), (37, 2, 2), (38, 1, 13), (41, 16, 13), (41, 7, 1), (41, 5, 1), (5, 2, 1), (41, 19, 0), (41, 18, (-1)), (41, 16, (-1)), (41, 15, 0), (41, 14, 0), (41, 13, 0), (41, 12, 0), (41, 10, (-1)), (41, 9, (-1)), (41, 8, 0), (41, 7, 0), (41, 6, ((w1.toInt64).toInt32)), (41, 5, 0), (41, 4, 1), (44, 1, 0), (42, 1, 0), (37, 2, 1), (38, 0, 0), (40, 5, 0), (40, 4, (-1)), (0, 7, 1)] [(39, 1, ((10 * (((w1.toInt64).toInt32).toInt64)) + 1)), (41, 17, ((10 * (((w1.toInt64).toInt32).toInt64)) + 1)), (41, 17, 0), (41, 11, 0), (39, 0, (w1.toInt64))] [(6, 0, (some (b + 40))), (41, 3, (some (b + 37))), (41, 2, (some (b + 17))), (40, 3, (some (b + 17)))])) (hu.trans ap_ap) ?_
  show zx p l e _ s m _ below meth c g 5 0 0 _ _ 75 [(4, .ref (b + 40)), (3, .ref (b + 17)), (0, .ref (b + 0)), (1, .int 2), (2, .int w1)] _
  refine z_aload B dX8_start_75 0 rfl ?_
  refine gf_X8_150 (x := 0) B (lKA (hk_K hK 40 rfl rfl)) (rI_at 40 0 hI_40_0) dX8_start_77 ?_
  exact z_iret B hr (by decide) (by decide) dX8_start_80 ⟨rfl, rfl⟩
set_option maxRecDepth 100000 in
set_option maxHeartbeats 4000000 in
theorem ci_L_start_764 (l : Launch) {g : gx_T} {σ : sx_T} {b : Nat} (hK : lay b σ) (w1 : Int32) (q1_w1 : (-999 : Int) ≤ w1.toInt) (q2_w1 : w1.toInt ≤ (-1 : Int)) (hI_0_7 : sx_I σ (b + 0) 7 = 0) (hI_5_1 : sx_I σ (b + 5) 1 = 0) (hI_5_2 : sx_I σ (b + 5) 2 = 0) (hI_7_1 : sx_I σ (b + 7) 1 = 0) (hI_7_2 : sx_I σ (b + 7) 2 = 0) (hI_18_0 : sx_I σ (b + 18) 0 = 0) (hI_19_0 : sx_I σ (b + 19) 0 = 0) (hI_20_0 : sx_I σ (b + 20) 0 = 0) (hI_37_2 : sx_I σ (b + 37) 2 = 0) (hI_40_0 : sx_I σ (b + 40) 0 = 0) (hI_40_8 : sx_I σ (b + 40) 8 = 0) (hR_0_0 : sx_R σ (b + 0) 0 = (some (b + 1))) (hR_0_2 : sx_R σ (b + 0) 2 = (some (b + 3))) (hR_0_4 : sx_R σ (b + 0) 4 = (some (b + 5))) (hR_0_5 : sx_R σ (b + 0) 5 = (some (b + 7))) (hR_1_2 : sx_R σ (b + 1) 2 = (some (b + 17))) (hR_3_0 : sx_R σ (b + 3) 0 = (some (b + 40))) (hR_5_0 : sx_R σ (b + 5) 0 = (some (b + 6))) (hR_17_1 : sx_R σ (b + 17) 1 = (some (b + 18))) (hR_17_2 : sx_R σ (b + 17) 2 = (some (b + 19))) (hR_17_3 : sx_R σ (b + 17) 3 = (some (b + 20))) (hR_37_0 : sx_R σ (b + 37) 0 = (some (b + 38))) (hR_37_1 : sx_R σ (b + 37) 1 = (some (b + 39))) (hR_40_1 : sx_R σ (b + 40) 1 = (some (b + 37))) (hR_40_2 : sx_R σ (b + 40) 2 = (some (b + 41))) (hR_40_7 : sx_R σ (b + 40) 7 = none) (hR_41_0 : sx_R σ (b + 41) 0 = (some (b + 42))) (hR_41_1 : sx_R σ (b + 41) 1 = (some (b + 44))) : Met l yL_start (.codeWith yL_start cL_start 5 (some .int) [(0, 10, 13, 13), (0, 10, 17, 15), (0, 10, 21, 24)] :: lw_g) { frames := 5, cells := 0, slots := 0, locals := 120 } (va_Pc [.ref (b + 0), .int 2, .int w1, .ref (b + 431)] (zx_w g σ)) (va_Qi (fun r u => r = 0 ∧ u = (ap b σ [(7, 2, 0), (7, 1, 0), (40, 8, 2), (5, 2, 0), (41, 19, 0), (41, 19, 0), (41, 15, 1), (41, 4, 2), (41, 16, (-1)), (37, 2, 2), (38, 1, 13), (41, 16, 13), (41, 7, 1), (41, 5, 1), (5, 2, 1), (41, 19, 0), (41, 18, (-1)), (41, 16, (-1)), (41, 15, 0), (41, 14, 0), (41, 13, 0), (41, 12, 0), (41, 10, (-1)), (41, 9, (-1)), (41, 8, 0), (41, 7, 0), (41, 6, ((w1.toInt64).toInt32)), (41, 5, 0), (41, 4, 1), (44, 1, 0), (42, 1, 0), (37, 2, 1), (38, 0, 0), (40, 5, 0), (40, 4, (-1)), (0, 7, 1)] [(431, 0, 0), (39, 1, ((10 * (((w1.toInt64).toInt32).toInt64)) + 1)), (41, 17, ((10 * (((w1.toInt64).toInt32).toInt64)) + 1)), (41, 17, 0), (41, 11, 0), (39, 0, (w1.toInt64))] [(6, 0, (some (b + 40))), (41, 3, (some (b + 37))), (41, 2, (some (b + 17))), (40, 3, (some (b + 17)))])) (zx_w g) (gx_Q g)) 0 0 (gx_Q g) := by
  refine z_metW (by decide) (Nat.le_of_ble_eq_true rfl) (fun p e s m below meth c B hr htab => ?_)
  refine z_eqs (σ' := (ap b σ [] [] [])) rfl ?_
  show zx p l e _ s m _ below meth c g 5 0 0 _ _ 0 [(0, .ref (b + 0)), (1, .int 2), (2, .int w1), (3, .ref (b + 431))] []
  refine z_aload_n B dL_start_0 rfl 3 rfl ?_
  refine z_iconst (v := 0) B dL_start_1 (by decide) ?_
  refine z_aload_n B dL_start_2 rfl 0 rfl ?_
  refine z_iload_n B dL_start_3 rfl 1 rfl ?_
  refine z_iload_n B dL_start_4 rfl 2 rfl ?_
  refine z_cVi (As := [.int 2, .int w1]) (rest := [.int 0, .ref (b + 431)]) B cw_L_20 cx_9 dL_start_5 (ci_X8_start_763 l (σ := (ap b σ [] [] [])) (b := b) (lyA hK) w1 q1_w1 q2_w1 (rI_at 0 7 hI_0_7) (rI_at 5 1 hI_5_1) (rI_at 5 2 hI_5_2) (rI_at 7 1 hI_7_1) (rI_at 7 2 hI_7_2) (rI_at 18 0 hI_18_0) (rI_at 19 0 hI_19_0) (rI_at 20 0 hI_20_0) (rI_at 37 2 hI_37_2) (rI_at 40 0 hI_40_0) (rI_at 40 8 hI_40_8) (rR_at 0 0 hR_0_0) (rR_at 0 2 hR_0_2) (rR_at 0 4 hR_0_4) (rR_at 0 5 hR_0_5) (rR_at 1 2 hR_1_2) (rR_at 3 0 hR_3_0) (rR_at 5 0 hR_5_0) (rR_at 17 1 hR_17_1) (rR_at 17 2 hR_17_2) (rR_at 17 3 hR_17_3) (rR_at 37 0 hR_37_0) (rR_at 37 1 hR_37_1) (rR_at 40 1 hR_40_1) (rR_at 40 2 hR_40_2) (rR_at 40 7 hR_40_7) (rR_at 41 0 hR_41_0) (rR_at 41 1 hR_41_1)) (lKA (hk_K hK 0 rfl rfl)) rfl (by decide) rfl (Nat.le_of_ble_eq_true rfl) (by decide) (fun r u hu => ?_)
  refine z_eqs (σ' := (ap b σ [(7, 2, 0), (7, 1, 0), (40, 8, 2), (5, 2, 0), (41, 19, 0), (41, 19, 0), (41, 15, 1), (41, 4, 2), (41, 16, (-1)), (37, 2, 2), (38, 1, 13), (41, 16, 13), (41, 7, 1), (41, 5, 1), (5, 2, 1), (41, 19, 0), (41, 18, (-1)), (41, 16, (-1)), (41, 15, 0), (41, 14, 0), (41, 13, 0), (41, 12, 0), (41, 10, (-1)), (41, 9, (-1)), (41, 8, 0), (41, 7, 0), (41, 6, ((w1.toInt64).toInt32)), (41, 5, 0), (41, 4, 1), (44, 1, 0), (42, 1, 0), (37, 2, 1), (38, 0, 0), (40, 5, 0), (40, 4, (-1)), (0, 7, 1)] [(39, 1, ((10 * (((w1.toInt64).toInt32).toInt64)) + 1)), (41, 17, ((10 * (((w1.toInt64).toInt32).toInt64)) + 1)), (41, 17, 0), (41, 11, 0), (39, 0, (w1.toInt64))] [(6, 0, (some (b + 40))), (41, 3, (some (b + 37))), (41, 2, (some (b + 17))), (40, 3, (some (b + 17)))])) (hu.2.trans ap_ap) ?_
  show zx p l e _ s m _ below meth c g 5 0 0 _ _ 8 [(0, .ref (b + 0)), (1, .int 2), (2, .int w1), (3, .ref (b + 431))] _
  refine z_seti (y := 0) hu.1 ?_
  refine z_i2l (v := 0) B dL_start_8 (by decide) ?_
  refine z_last (j := 0) (σ' := (ap b σ [(7, 2, 0), (7, 1, 0), (40, 8, 2), (5, 2, 0), (41, 19, 0), (41, 19, 0), (41, 15, 1), (41, 4, 2), (41, 16, (-1)), (37, 2, 2), (38, 1, 13), (41, 16, 13), (41, 7, 1), (41, 5, 1), (5, 2, 1), (41, 19, 0), (41, 18, (-1)), (41, 16, (-1)), (41, 15, 0), (41, 14, 0), (41, 13, 0), (41, 12, 0), (41, 10, (-1)), (41, 9, (-1)), (41, 8, 0), (41, 7, 0), (41, 6, ((w1.toInt64).toInt32)), (41, 5, 0), (41, 4, 1), (44, 1, 0), (42, 1, 0), (37, 2, 1), (38, 0, 0), (40, 5, 0), (40, 4, (-1)), (0, 7, 1)] [(431, 0, 0), (39, 1, ((10 * (((w1.toInt64).toInt32).toInt64)) + 1)), (41, 17, ((10 * (((w1.toInt64).toInt32).toInt64)) + 1)), (41, 17, 0), (41, 11, 0), (39, 0, (w1.toInt64))] [(6, 0, (some (b + 40))), (41, 3, (some (b + 37))), (41, 2, (some (b + 17))), (40, 3, (some (b + 17)))])) B (lKA (hk_K hK 431 rfl rfl)) (by decide) (in_of (lNA (hk_N hK 431 rfl rfl)) (show ¬ ((0 : Int32) < 0 ∨ 1 ≤ (0 : Int32).toNatClampNeg) by decide)) wJ_ap dL_start_9 ?_
  refine z_goto (tgt := 25) B dL_start_10 (by decide) ?_
  refine z_iconst (v := 0) B dL_start_25 (by decide) ?_
  exact z_iret B hr (by decide) (by decide) dL_start_26 ⟨rfl, rfl⟩
set_option maxRecDepth 100000 in
set_option maxHeartbeats 4000000 in
theorem ci_X9_begets_765 (l : Launch) {g : gx_T} {σ : sx_T} {b : Nat} (hK : lay b σ) (w1 : Int32)  (hI_405_6 : sx_I σ (b + 405) 6 = 0) (hI_413_0 : sx_I σ (b + 413) 0 = 0) (hR_405_7 : sx_R σ (b + 405) 7 = (some (b + 409))) (hR_405_8 : sx_R σ (b + 405) 8 = (some (b + 410))) (hR_405_9 : sx_R σ (b + 405) 9 = (some (b + 411))) (hR_405_11 : sx_R σ (b + 405) 11 = (some (b + 413))) (hR_405_13 : sx_R σ (b + 405) 13 = (some (b + 415))) (hR_405_14 : sx_R σ (b + 405) 14 = (some (b + 416))) (hR_405_15 : sx_R σ (b + 405) 15 = (some (b + 417))) : Met l yX9_begets (.code yX9_begets cX9_begets 6 (some .int) :: lw_g) { frames := 1, cells := 0, slots := 0, locals := 24 } (va_Pc [.ref (b + 405), .int 2, .int w1, .int (-1), .int (-1)] (zx_w g σ)) (va_Qi (fun r u => r = 0 ∧ u = (ap b σ [(413, 0, 1), (416, 0, 0), (415, 0, (-1)), (411, 0, 0), (410, 0, (-1)), (409, 0, 2), (405, 6, 1)] [(417, 0, (w1.toInt64))] [])) (zx_w g) (gx_Q g)) 0 0 (gx_Q g) := by
  refine z_met (by decide) (Nat.le_of_ble_eq_true rfl) (fun p e s m below meth c B hr hin => ?_)
  refine z_eqs (σ' := (ap b σ [] [] [])) rfl ?_
  show zx p l e _ s m _ below meth c g 6 0 0 _ _ 0 [(0, .ref (b + 405)), (1, .int 2), (2, .int w1), (3, .int (-1)), (4, .int (-1))] []
  refine z_aload_n B dX9_begets_0 rfl 0 rfl ?_
  refine gf_X9_93 (x := 0) B (lKA (hk_K hK 405 rfl rfl)) (rI_at 405 6 hI_405_6) dX9_begets_1 ?_
  refine z_bipush (v := 40) B dX9_begets_4 (by decide) ?_
  refine z_icmp_ne (tgt := 11) B dX9_begets_6 (by decide) (fun _ => ?_) (fun h => absurd h (by decide))
  refine z_aload_n B dX9_begets_11 rfl 0 rfl ?_
  refine gf_X9_93 (x := 0) B (lKA (hk_K hK 405 rfl rfl)) (rI_at 405 6 hI_405_6) dX9_begets_12 ?_
  refine z_istore (lv' := [(5, .int 0), (0, .ref (b + 405)), (1, .int 2), (2, .int w1), (3, .int (-1)), (4, .int (-1))]) B dX9_begets_15 (by decide) rfl ?_
  refine z_aload_n B dX9_begets_17 rfl 1 rfl ?_
  refine z_dup B dX9_begets_18 rfl ?_
  refine gf_X9_93 (x := 0) B (lKA (hk_K hK 405 rfl rfl)) (rI_at 405 6 hI_405_6) dX9_begets_19 ?_
  refine z_iconst (v := 1) B dX9_begets_22 (by decide) ?_
  refine z_iadd B dX9_begets_23 ?_
  refine z_seti (y := 1) (by decide) ?_
  refine pf_X9_93 (x := 1) (σ' := (ap b σ [(405, 6, 1)] [] [])) B (lKA (hk_K hK 405 rfl rfl)) wI_ap dX9_begets_24 ?_
  refine z_aload_n B dX9_begets_27 rfl 1 rfl ?_
  refine gf_X9_23 (x := (some (b + 409))) B (lKA (hk_K hK 405 rfl rfl)) (rR_at 405 7 hR_405_7) dX9_begets_28 ?_
  refine z_iload B dX9_begets_31 0 rfl ?_
  refine z_iload_n B dX9_begets_33 rfl 2 rfl ?_
  refine z_iast (j := 0) (σ' := (ap b σ [(409, 0, 2), (405, 6, 1)] [] [])) B (lKA (hk_K hK 409 rfl rfl)) (by decide) (in_of (lNA (hk_N hK 409 rfl rfl)) (show ¬ ((0 : Int32) < 0 ∨ 41 ≤ (0 : Int32).toNatClampNeg) by decide)) wI_ap dX9_begets_34 ?_
  refine z_aload_n B dX9_begets_35 rfl 1 rfl ?_
  refine gf_X9_26 (x := (some (b + 410))) B (lKA (hk_K hK 405 rfl rfl)) (rR_at 405 8 hR_405_8) dX9_begets_36 ?_
  refine z_iload B dX9_begets_39 0 rfl ?_
  refine z_iload_n B dX9_begets_41 rfl 4 rfl ?_
  refine z_iast (j := 0) (σ' := (ap b σ [(410, 0, (-1)), (409, 0, 2), (405, 6, 1)] [] [])) B (lKA (hk_K hK 410 rfl rfl)) (by decide) (in_of (lNA (hk_N hK 410 rfl rfl)) (show ¬ ((0 : Int32) < 0 ∨ 41 ≤ (0 : Int32).toNatClampNeg) by decide)) wI_ap dX9_begets_42 ?_
  refine z_aload_n B dX9_begets_43 rfl 1 rfl ?_
  refine gf_X9_29 (x := (some (b + 411))) B (lKA (hk_K hK 405 rfl rfl)) (rR_at 405 9 hR_405_9) dX9_begets_44 ?_
  refine z_iload B dX9_begets_47 0 rfl ?_
  refine z_iload B dX9_begets_49 5 rfl ?_
  refine z_iconst (v := (-1)) B dX9_begets_51 (by decide) ?_
  refine z_icmp_ne (tgt := 60) B dX9_begets_52 (by decide) (fun h => absurd (by decide) h) (fun _ => ?_)
  refine z_iload B dX9_begets_55 0 rfl ?_
  refine z_goto (tgt := 62) B dX9_begets_57 (by decide) ?_
  refine z_iast (j := 0) (σ' := (ap b σ [(411, 0, 0), (410, 0, (-1)), (409, 0, 2), (405, 6, 1)] [] [])) B (lKA (hk_K hK 411 rfl rfl)) (by decide) (in_of (lNA (hk_N hK 411 rfl rfl)) (show ¬ ((0 : Int32) < 0 ∨ 41 ≤ (0 : Int32).toNatClampNeg) by decide)) wI_ap dX9_begets_62 ?_
  refine z_aload_n B dX9_begets_63 rfl 1 rfl ?_
  refine gf_X9_41 (x := (some (b + 415))) B (lKA (hk_K hK 405 rfl rfl)) (rR_at 405 13 hR_405_13) dX9_begets_64 ?_
  refine z_iload B dX9_begets_67 0 rfl ?_
  refine z_iconst (v := (-1)) B dX9_begets_69 (by decide) ?_
  refine z_iast (j := 0) (σ' := (ap b σ [(415, 0, (-1)), (411, 0, 0), (410, 0, (-1)), (409, 0, 2), (405, 6, 1)] [] [])) B (lKA (hk_K hK 415 rfl rfl)) (by decide) (in_of (lNA (hk_N hK 415 rfl rfl)) (show ¬ ((0 : Int32) < 0 ∨ 41 ≤ (0 : Int32).toNatClampNeg) by decide)) wI_ap dX9_begets_70 ?_
  refine z_aload_n B dX9_begets_71 rfl 1 rfl ?_
  refine z_iload B dX9_begets_72 0 rfl ?_
  refine z_iconst (v := 0) B dX9_begets_74 (by decide) ?_
  refine z_iload_n B dX9_begets_75 rfl 3 rfl ?_
  refine z_i2l B dX9_begets_76 rfl ?_
  refine z_cVv (As := [.int 0, .int 0, .long (w1.toInt64)]) (rest := []) B cw_X9_143 cx_10 dX9_begets_77 (ci_X9_adds_704 l (σ := (ap b σ [(415, 0, (-1)), (411, 0, 0), (410, 0, (-1)), (409, 0, 2), (405, 6, 1)] [] [])) (b := b) (lyA hK) (w1.toInt64) (rI_at 413 0 hI_413_0) (rR_at 405 11 hR_405_11) (rR_at 405 14 hR_405_14) (rR_at 405 15 hR_405_15)) (lKA (hk_K hK 405 rfl rfl)) rfl (by decide) rfl (Nat.le_of_ble_eq_true rfl) (by decide) (fun u hu => ?_)
  refine z_eqs (σ' := (ap b σ [(413, 0, 1), (416, 0, 0), (415, 0, (-1)), (411, 0, 0), (410, 0, (-1)), (409, 0, 2), (405, 6, 1)] [(417, 0, (w1.toInt64))] [])) (hu.trans ap_ap) ?_
  show zx p l e _ s m _ below meth c g 6 0 0 _ _ 80 [(5, .int 0), (0, .ref (b + 405)), (1, .int 2), (2, .int w1), (3, .int (-1)), (4, .int (-1))] _
  refine z_iload B dX9_begets_80 0 rfl ?_
  exact z_iret B hr (by decide) (by decide) dX9_begets_82 ⟨rfl, rfl⟩
set_option maxRecDepth 100000 in
set_option maxHeartbeats 4000000 in
theorem ci_X9_steps_766 (l : Launch) {g : gx_T} {σ : sx_T} {b : Nat} (hK : lay b σ) (w1 : Int32)  (hI_405_27 : sx_I σ (b + 405) 27 = 1) (hI_405_28 : sx_I σ (b + 405) 28 = 0) (hI_405_29 : sx_I σ (b + 405) 29 = w1) (hI_405_38 : sx_I σ (b + 405) 38 = 0) (hI_406_40 : sx_I σ (b + 406) 40 = 0) (hI_407_40 : sx_I σ (b + 407) 40 = 0) (hI_409_0 : sx_I σ (b + 409) 0 = 2) (hI_413_0 : sx_I σ (b + 413) 0 = 1) (hR_405_3 : sx_R σ (b + 405) 3 = (some (b + 406))) (hR_405_4 : sx_R σ (b + 405) 4 = (some (b + 407))) (hR_405_7 : sx_R σ (b + 405) 7 = (some (b + 409))) (hR_405_11 : sx_R σ (b + 405) 11 = (some (b + 413))) (hR_405_14 : sx_R σ (b + 405) 14 = (some (b + 416))) (hR_405_15 : sx_R σ (b + 405) 15 = (some (b + 417))) : Met l yX9_steps (.code yX9_steps cX9_steps 12 (some .boolean) :: lw_g) { frames := 2, cells := 0, slots := 0, locals := 51 } (va_Pc [.ref (b + 405), .int 0, .int 1, .int 1] (zx_w g σ)) (va_Qi (fun r u => r = 1 ∧ u = (ap b σ [(405, 37, 1), (405, 27, 2), (413, 0, 2), (416, 1, 13), (405, 28, 1), (405, 38, 1)] [(417, 1, ((10 * (w1.toInt64)) + 1))] [])) (zx_w g) (gx_Q g)) 0 0 (gx_Q g) := by
  refine z_met (by decide) (Nat.le_of_ble_eq_true rfl) (fun p e s m below meth c B hr hin => ?_)
  refine z_eqs (σ' := (ap b σ [] [] [])) rfl ?_
  show zx p l e _ s m _ below meth c g 12 0 0 _ _ 0 [(0, .ref (b + 405)), (1, .int 0), (2, .int 1), (3, .int 1)] []
  refine z_aload_n B dX9_steps_0 rfl 0 rfl ?_
  refine gf_X9_137 (x := 0) B (lKA (hk_K hK 405 rfl rfl)) (rI_at 405 38 hI_405_38) dX9_steps_1 ?_
  refine z_bipush (v := 60) B dX9_steps_4 (by decide) ?_
  refine z_icmp_ne (tgt := 16) B dX9_steps_6 (by decide) (fun _ => ?_) (fun h => absurd h (by decide))
  refine z_bipush (v := 20) B dX9_steps_16 (by decide) ?_
  refine z_aload_n B dX9_steps_18 rfl 0 rfl ?_
  refine gf_X9_23 (x := (some (b + 409))) B (lKA (hk_K hK 405 rfl rfl)) (rR_at 405 7 hR_405_7) dX9_steps_19 ?_
  refine z_iload_n B dX9_steps_22 rfl 1 rfl ?_
  refine z_iald (j := 0) (x := 2) B (lKA (hk_K hK 409 rfl rfl)) (by decide) (in_of (lNA (hk_N hK 409 rfl rfl)) (show ¬ ((0 : Int32) < 0 ∨ 41 ≤ (0 : Int32).toNatClampNeg) by decide)) (rI_at 409 0 hI_409_0) dX9_steps_23 ?_
  refine z_imul B dX9_steps_24 ?_
  refine z_seti (y := 40) (by decide) ?_
  refine z_aload_n B dX9_steps_25 rfl 0 rfl ?_
  refine gf_X9_110 (x := 0) B (lKA (hk_K hK 405 rfl rfl)) (rI_at 405 28 hI_405_28) dX9_steps_26 ?_
  refine z_iadd B dX9_steps_29 ?_
  refine z_seti (y := 40) (by decide) ?_
  refine z_istore (lv' := [(4, .int 40), (0, .ref (b + 405)), (1, .int 0), (2, .int 1), (3, .int 1)]) B dX9_steps_30 (by decide) rfl ?_
  refine z_aload_n B dX9_steps_32 rfl 1 rfl ?_
  refine gf_X9_13 (x := (some (b + 406))) B (lKA (hk_K hK 405 rfl rfl)) (rR_at 405 3 hR_405_3) dX9_steps_33 ?_
  refine z_iload B dX9_steps_36 0 rfl ?_
  refine z_iald (j := 40) (x := 0) B (lKA (hk_K hK 406 rfl rfl)) (by decide) (in_of (lNA (hk_N hK 406 rfl rfl)) (show ¬ ((40 : Int32) < 0 ∨ 120 ≤ (40 : Int32).toNatClampNeg) by decide)) (rI_at 406 40 hI_406_40) dX9_steps_38 ?_
  refine z_istore (lv' := [(5, .int 0), (4, .int 40), (0, .ref (b + 405)), (1, .int 0), (2, .int 1), (3, .int 1)]) B dX9_steps_39 (by decide) rfl ?_
  refine z_aload_n B dX9_steps_41 rfl 2 rfl ?_
  refine gf_X9_17 (x := (some (b + 407))) B (lKA (hk_K hK 405 rfl rfl)) (rR_at 405 4 hR_405_4) dX9_steps_42 ?_
  refine z_iload B dX9_steps_45 1 rfl ?_
  refine z_iald (j := 40) (x := 0) B (lKA (hk_K hK 407 rfl rfl)) (by decide) (in_of (lNA (hk_N hK 407 rfl rfl)) (show ¬ ((40 : Int32) < 0 ∨ 120 ≤ (40 : Int32).toNatClampNeg) by decide)) (rI_at 407 40 hI_407_40) dX9_steps_47 ?_
  refine z_istore (lv' := [(6, .int 0), (5, .int 0), (4, .int 40), (0, .ref (b + 405)), (1, .int 0), (2, .int 1), (3, .int 1)]) B dX9_steps_48 (by decide) rfl ?_
  refine z_aload_n B dX9_steps_50 rfl 3 rfl ?_
  refine gf_X9_107 (x := 1) B (lKA (hk_K hK 405 rfl rfl)) (rI_at 405 27 hI_405_27) dX9_steps_51 ?_
  refine z_iload_n B dX9_steps_54 rfl 5 rfl ?_
  refine z_icmp_lt (tgt := 62) B dX9_steps_55 (by decide) (fun h => absurd h (by decide)) (fun _ => ?_)
  refine z_iconst (v := 1) B dX9_steps_58 (by decide) ?_
  refine z_goto (tgt := 63) B dX9_steps_59 (by decide) ?_
  refine z_istore (lv' := [(7, .int 1), (6, .int 0), (5, .int 0), (4, .int 40), (0, .ref (b + 405)), (1, .int 0), (2, .int 1), (3, .int 1)]) B dX9_steps_63 (by decide) rfl ?_
  refine z_aload_n B dX9_steps_65 rfl 4 rfl ?_
  refine gf_X9_110 (x := 0) B (lKA (hk_K hK 405 rfl rfl)) (rI_at 405 28 hI_405_28) dX9_steps_66 ?_
  refine z_istore (lv' := [(8, .int 0), (7, .int 1), (6, .int 0), (5, .int 0), (4, .int 40), (0, .ref (b + 405)), (1, .int 0), (2, .int 1), (3, .int 1)]) B dX9_steps_69 (by decide) rfl ?_
  refine z_aload_n B dX9_steps_71 rfl 5 rfl ?_
  refine z_dup B dX9_steps_72 rfl ?_
  refine gf_X9_137 (x := 0) B (lKA (hk_K hK 405 rfl rfl)) (rI_at 405 38 hI_405_38) dX9_steps_73 ?_
  refine z_iconst (v := 1) B dX9_steps_76 (by decide) ?_
  refine z_iadd B dX9_steps_77 ?_
  refine z_seti (y := 1) (by decide) ?_
  refine pf_X9_137 (x := 1) (σ' := (ap b σ [(405, 38, 1)] [] [])) B (lKA (hk_K hK 405 rfl rfl)) wI_ap dX9_steps_78 ?_
  refine z_aload_n B dX9_steps_81 rfl 5 rfl ?_
  refine z_aload_n B dX9_steps_82 rfl 5 rfl ?_
  refine gf_X9_110 (x := 0) B (lKA (hk_K hK 405 rfl rfl)) (rI_at 405 28 hI_405_28) dX9_steps_83 ?_
  refine z_iconst (v := 1) B dX9_steps_86 (by decide) ?_
  refine z_iadd B dX9_steps_87 ?_
  refine z_seti (y := 1) (by decide) ?_
  refine z_bipush (v := 20) B dX9_steps_88 (by decide) ?_
  refine z_irem B dX9_steps_90 (by decide) ?_
  refine z_seti (y := 1) (by decide) ?_
  refine pf_X9_110 (x := 1) (σ' := (ap b σ [(405, 28, 1), (405, 38, 1)] [] [])) B (lKA (hk_K hK 405 rfl rfl)) wI_ap dX9_steps_91 ?_
  refine z_iload B dX9_steps_94 3 rfl ?_
  refine z_iconst (v := 3) B dX9_steps_96 (by decide) ?_
  refine z_icmp_eq (tgt := 106) B dX9_steps_97 (by decide) (fun h => absurd h (by decide)) (fun _ => ?_)
  refine z_iload B dX9_steps_100 3 rfl ?_
  refine z_iconst (v := 4) B dX9_steps_102 (by decide) ?_
  refine z_icmp_ne (tgt := 115) B dX9_steps_103 (by decide) (fun _ => ?_) (fun h => absurd h (by decide))
  refine z_iconst (v := (-1)) B dX9_steps_115 (by decide) ?_
  refine z_istore (lv' := [(9, .int (-1)), (8, .int 0), (7, .int 1), (6, .int 0), (5, .int 0), (4, .int 40), (0, .ref (b + 405)), (1, .int 0), (2, .int 1), (3, .int 1)]) B dX9_steps_116 (by decide) rfl ?_
  refine z_iload B dX9_steps_118 4 rfl ?_
  refine z_cSi (As := [.int 0]) (rest := []) B cw_X9_193 dX9_steps_120 (ci_X9_isBounded_707 l (σ := (ap b σ [(405, 28, 1), (405, 38, 1)] [] [])) (b := b) (lyA hK) ) rfl (by decide) rfl (Nat.le_of_ble_eq_true rfl) (by decide) (fun r u hu => ?_)
  refine z_eqs (σ' := (ap b σ [(405, 28, 1), (405, 38, 1)] [] [])) hu.2 ?_
  show zx p l e _ s m _ below meth c g 12 0 0 _ _ 123 [(9, .int (-1)), (8, .int 0), (7, .int 1), (6, .int 0), (5, .int 0), (4, .int 40), (0, .ref (b + 405)), (1, .int 0), (2, .int 1), (3, .int 1)] _
  refine z_seti (y := 0) hu.1 ?_
  refine z_if_eq (tgt := 141) B dX9_steps_123 (by decide) (fun _ => ?_) (fun h => absurd (by decide) h)
  refine z_iload B dX9_steps_141 4 rfl ?_
  refine z_bipush (v := 12) B dX9_steps_143 (by decide) ?_
  refine z_icmp_ne (tgt := 164) B dX9_steps_145 (by decide) (fun _ => ?_) (fun h => absurd h (by decide))
  refine z_iconst (v := 1) B dX9_steps_164 (by decide) ?_
  refine z_istore (lv' := [(10, .int 1), (9, .int (-1)), (8, .int 0), (7, .int 1), (6, .int 0), (5, .int 0), (4, .int 40), (0, .ref (b + 405)), (1, .int 0), (2, .int 1), (3, .int 1)]) B dX9_steps_165 (by decide) rfl ?_
  refine z_iload B dX9_steps_167 5 rfl ?_
  refine z_tableIn (tgt := 252) B dX9_steps_169 (by decide) (by decide) (show _ = some (83 : Int) by decide) (by decide) ?_
  refine z_aload_n B dX9_steps_252 rfl 7 rfl ?_
  refine z_iload_n B dX9_steps_253 rfl 8 rfl ?_
  refine z_iload_n B dX9_steps_254 rfl 9 rfl ?_
  refine z_iload_n B dX9_steps_255 rfl 10 rfl ?_
  refine z_bipush (v := 13) B dX9_steps_256 (by decide) ?_
  refine z_ldc2 (v := 10) B dX9_steps_258 wg_1247 ?_
  refine z_aload_n B dX9_steps_261 rfl 7 rfl ?_
  refine gf_X9_113 (x := w1) B (lKA (hk_K hK 405 rfl rfl)) (rI_at 405 29 hI_405_29) dX9_steps_262 ?_
  refine z_i2l B dX9_steps_265 rfl ?_
  refine z_lmul B dX9_steps_266 ?_
  refine z_lconst (v := 1) B dX9_steps_267 (by decide) ?_
  refine z_ladd B dX9_steps_268 ?_
  refine z_iconst (v := 0) B dX9_steps_269 (by decide) ?_
  refine z_cVi (As := [.int 0, .int 1, .int 1, .int 13, .long ((10 * (w1.toInt64)) + 1), .int 0]) (rest := []) B cw_X9_164 cx_10 dX9_steps_270 (ci_X9_meets_709 l (σ := (ap b σ [(405, 28, 1), (405, 38, 1)] [] [])) (b := b) (lyA hK) ((10 * (w1.toInt64)) + 1) (rI_at 405 27 hI_405_27) (rI_at 413 0 hI_413_0) (rR_at 405 11 hR_405_11) (rR_at 405 14 hR_405_14) (rR_at 405 15 hR_405_15)) (lKA (hk_K hK 405 rfl rfl)) rfl (by decide) rfl (Nat.le_of_ble_eq_true rfl) (by decide) (fun r u hu => ?_)
  refine z_eqs (σ' := (ap b σ [(405, 27, 2), (413, 0, 2), (416, 1, 13), (405, 28, 1), (405, 38, 1)] [(417, 1, ((10 * (w1.toInt64)) + 1))] [])) (hu.2.trans ap_ap) ?_
  show zx p l e _ s m _ below meth c g 12 0 0 _ _ 273 [(10, .int 1), (9, .int (-1)), (8, .int 0), (7, .int 1), (6, .int 0), (5, .int 0), (4, .int 40), (0, .ref (b + 405)), (1, .int 0), (2, .int 1), (3, .int 1)] _
  refine z_seti (y := 1) hu.1 ?_
  refine z_istore (lv' := [(10, .int 1), (9, .int (-1)), (8, .int 0), (7, .int 1), (6, .int 0), (5, .int 0), (4, .int 40), (0, .ref (b + 405)), (1, .int 0), (2, .int 1), (3, .int 1)]) B dX9_steps_273 (by decide) rfl ?_
  refine z_aload_n B dX9_steps_275 rfl 7 rfl ?_
  refine z_iload B dX9_steps_276 0 rfl ?_
  refine z_if_eq (tgt := 285) B dX9_steps_278 (by decide) (fun h => absurd h (by decide)) (fun _ => ?_)
  refine z_iconst (v := 1) B dX9_steps_281 (by decide) ?_
  refine z_goto (tgt := 286) B dX9_steps_282 (by decide) ?_
  refine pf_X9_134 (x := 1) (σ' := (ap b σ [(405, 37, 1), (405, 27, 2), (413, 0, 2), (416, 1, 13), (405, 28, 1), (405, 38, 1)] [(417, 1, ((10 * (w1.toInt64)) + 1))] [])) B (lKA (hk_K hK 405 rfl rfl)) wI_ap dX9_steps_286 ?_
  refine z_goto (tgt := 1085) B dX9_steps_289 (by decide) ?_
  refine z_iload B dX9_steps_1085 0 rfl ?_
  refine z_if_ne (tgt := 1113) B dX9_steps_1087 (by decide) (fun _ => ?_) (fun h => absurd h (by decide))
  refine z_iload B dX9_steps_1113 0 rfl ?_
  exact z_zret B hr (by decide) (by decide) (by decide) dX9_steps_1115 ⟨rfl, rfl⟩
set_option maxRecDepth 100000 in
set_option maxHeartbeats 4000000 in
theorem ci_X9_replays_767 (l : Launch) {g : gx_T} {σ : sx_T} {b : Nat} (hK : lay b σ) (w1 : Int64)  (hI_406_40 : sx_I σ (b + 406) 40 = 0) (hI_407_40 : sx_I σ (b + 407) 40 = 0) (hI_409_0 : sx_I σ (b + 409) 0 = 2) (hI_413_0 : sx_I σ (b + 413) 0 = 1) (hI_416_0 : sx_I σ (b + 416) 0 = 0) (hJ_417_0 : sx_J σ (b + 417) 0 = w1) (hR_405_3 : sx_R σ (b + 405) 3 = (some (b + 406))) (hR_405_4 : sx_R σ (b + 405) 4 = (some (b + 407))) (hR_405_7 : sx_R σ (b + 405) 7 = (some (b + 409))) (hR_405_11 : sx_R σ (b + 405) 11 = (some (b + 413))) (hR_405_14 : sx_R σ (b + 405) 14 = (some (b + 416))) (hR_405_15 : sx_R σ (b + 405) 15 = (some (b + 417))) : Met l yX9_replays (.code yX9_replays cX9_replays 5 (some .int) :: lw_g) { frames := 3, cells := 0, slots := 0, locals := 82 } (va_Pc [.ref (b + 405), .int 0, .int 1, .int 1] (zx_w g σ)) (va_Qi (fun r u => r = (-1) ∧ u = (ap b σ [(405, 26, 1), (405, 37, 1), (405, 27, 2), (413, 0, 2), (416, 1, 13), (405, 28, 1), (405, 38, 1), (405, 48, (-1)), (405, 27, 1), (405, 29, (w1.toInt32)), (405, 26, 1), (405, 47, 1), (405, 39, 0), (405, 38, 0), (405, 37, 0), (405, 36, 0), (405, 35, 0), (405, 34, 0), (405, 32, 0), (405, 31, 0), (405, 30, 0), (405, 29, 0), (405, 28, 0), (405, 27, 0), (405, 26, 1)] [(417, 1, ((10 * ((w1.toInt32).toInt64)) + 1))] [])) (zx_w g) (gx_Q g)) 0 0 (gx_Q g) := by
  refine z_met (by decide) (Nat.le_of_ble_eq_true rfl) (fun p e s m below meth c B hr hin => ?_)
  refine z_eqs (σ' := (ap b σ [] [] [])) rfl ?_
  show zx p l e _ s m _ below meth c g 5 0 0 _ _ 0 [(0, .ref (b + 405)), (1, .int 0), (2, .int 1), (3, .int 1)] []
  refine z_aload_n B dX9_replays_0 rfl 0 rfl ?_
  refine z_cVv (As := []) (rest := []) B cw_X9_175 cx_10 dX9_replays_1 (ci_X9_begins_706 l (σ := (ap b σ [] [] [])) (b := b) (lyA hK) ) (lKA (hk_K hK 405 rfl rfl)) rfl (by decide) rfl (Nat.le_of_ble_eq_true rfl) (by decide) (fun u hu => ?_)
  refine z_eqs (σ' := (ap b σ [(405, 39, 0), (405, 38, 0), (405, 37, 0), (405, 36, 0), (405, 35, 0), (405, 34, 0), (405, 32, 0), (405, 31, 0), (405, 30, 0), (405, 29, 0), (405, 28, 0), (405, 27, 0), (405, 26, 1)] [] [])) (hu.trans ap_ap) ?_
  show zx p l e _ s m _ below meth c g 5 0 0 _ _ 4 [(0, .ref (b + 405)), (1, .int 0), (2, .int 1), (3, .int 1)] _
  refine z_aload_n B dX9_replays_4 rfl 0 rfl ?_
  refine z_iload_n B dX9_replays_5 rfl 3 rfl ?_
  refine pf_X9_156 (x := 1) (σ' := (ap b σ [(405, 47, 1), (405, 39, 0), (405, 38, 0), (405, 37, 0), (405, 36, 0), (405, 35, 0), (405, 34, 0), (405, 32, 0), (405, 31, 0), (405, 30, 0), (405, 29, 0), (405, 28, 0), (405, 27, 0), (405, 26, 1)] [] [])) B (by decide) (lKA (hk_K hK 405 rfl rfl)) wI_ap dX9_replays_6 ?_
  refine z_aload_n B dX9_replays_9 rfl 0 rfl ?_
  refine z_aload_n B dX9_replays_10 rfl 0 rfl ?_
  refine gf_X9_44 (x := (some (b + 416))) B (lKA (hk_K hK 405 rfl rfl)) (rR_at 405 14 hR_405_14) dX9_replays_11 ?_
  refine z_sipush (v := 160) B dX9_replays_14 (by decide) ?_
  refine z_iload_n B dX9_replays_17 rfl 1 rfl ?_
  refine z_imul B dX9_replays_18 ?_
  refine z_seti (y := 0) (by decide) ?_
  refine z_iald (j := 0) (x := 0) B (lKA (hk_K hK 416 rfl rfl)) (by decide) (in_of (lNA (hk_N hK 416 rfl rfl)) (show ¬ ((0 : Int32) < 0 ∨ 6560 ≤ (0 : Int32).toNatClampNeg) by decide)) (rI_at 416 0 hI_416_0) dX9_replays_19 ?_
  refine z_if_ne (tgt := 27) B dX9_replays_20 (by decide) (fun h => absurd (by decide) h) (fun _ => ?_)
  refine z_iconst (v := 1) B dX9_replays_23 (by decide) ?_
  refine z_goto (tgt := 28) B dX9_replays_24 (by decide) ?_
  refine pf_X9_103 (x := 1) (σ' := (ap b σ [(405, 26, 1), (405, 47, 1), (405, 39, 0), (405, 38, 0), (405, 37, 0), (405, 36, 0), (405, 35, 0), (405, 34, 0), (405, 32, 0), (405, 31, 0), (405, 30, 0), (405, 29, 0), (405, 28, 0), (405, 27, 0), (405, 26, 1)] [] [])) B (by decide) (lKA (hk_K hK 405 rfl rfl)) wI_ap dX9_replays_28 ?_
  refine z_aload_n B dX9_replays_31 rfl 0 rfl ?_
  refine z_aload_n B dX9_replays_32 rfl 0 rfl ?_
  refine gf_X9_47 (x := (some (b + 417))) B (lKA (hk_K hK 405 rfl rfl)) (rR_at 405 15 hR_405_15) dX9_replays_33 ?_
  refine z_sipush (v := 160) B dX9_replays_36 (by decide) ?_
  refine z_iload_n B dX9_replays_39 rfl 1 rfl ?_
  refine z_imul B dX9_replays_40 ?_
  refine z_seti (y := 0) (by decide) ?_
  refine z_lald (j := 0) (x := w1) B (lKA (hk_K hK 417 rfl rfl)) (by decide) (in_of (lNA (hk_N hK 417 rfl rfl)) (show ¬ ((0 : Int32) < 0 ∨ 6560 ≤ (0 : Int32).toNatClampNeg) by decide)) (rJ_at 417 0 hJ_417_0) dX9_replays_41 ?_
  refine z_l2i B dX9_replays_42 rfl ?_
  refine pf_X9_113 (x := (w1.toInt32)) (σ' := (ap b σ [(405, 29, (w1.toInt32)), (405, 26, 1), (405, 47, 1), (405, 39, 0), (405, 38, 0), (405, 37, 0), (405, 36, 0), (405, 35, 0), (405, 34, 0), (405, 32, 0), (405, 31, 0), (405, 30, 0), (405, 29, 0), (405, 28, 0), (405, 27, 0), (405, 26, 1)] [] [])) B (lKA (hk_K hK 405 rfl rfl)) wI_ap dX9_replays_43 ?_
  refine z_aload_n B dX9_replays_46 rfl 0 rfl ?_
  refine z_iconst (v := 1) B dX9_replays_47 (by decide) ?_
  refine pf_X9_107 (x := 1) (σ' := (ap b σ [(405, 27, 1), (405, 29, (w1.toInt32)), (405, 26, 1), (405, 47, 1), (405, 39, 0), (405, 38, 0), (405, 37, 0), (405, 36, 0), (405, 35, 0), (405, 34, 0), (405, 32, 0), (405, 31, 0), (405, 30, 0), (405, 29, 0), (405, 28, 0), (405, 27, 0), (405, 26, 1)] [] [])) B (lKA (hk_K hK 405 rfl rfl)) wI_ap dX9_replays_48 ?_
  refine z_aload_n B dX9_replays_51 rfl 0 rfl ?_
  refine z_iconst (v := (-1)) B dX9_replays_52 (by decide) ?_
  refine pf_X9_172 (x := (-1)) (σ' := (ap b σ [(405, 48, (-1)), (405, 27, 1), (405, 29, (w1.toInt32)), (405, 26, 1), (405, 47, 1), (405, 39, 0), (405, 38, 0), (405, 37, 0), (405, 36, 0), (405, 35, 0), (405, 34, 0), (405, 32, 0), (405, 31, 0), (405, 30, 0), (405, 29, 0), (405, 28, 0), (405, 27, 0), (405, 26, 1)] [] [])) B (lKA (hk_K hK 405 rfl rfl)) wI_ap dX9_replays_53 ?_
  refine z_aload_n B dX9_replays_56 rfl 0 rfl ?_
  refine gf_X9_103 (x := 1) B (lKA (hk_K hK 405 rfl rfl)) (rI_at 405 26 rfl) dX9_replays_57 ?_
  refine z_istore (lv' := [(4, .int 1), (0, .ref (b + 405)), (1, .int 0), (2, .int 1), (3, .int 1)]) B dX9_replays_60 (by decide) rfl ?_
  refine z_iload B dX9_replays_62 0 rfl ?_
  refine z_if_eq (tgt := 180) B dX9_replays_64 (by decide) (fun h => absurd h (by decide)) (fun _ => ?_)
  refine z_aload_n B dX9_replays_67 rfl 1 rfl ?_
  refine gf_X9_103 (x := 1) B (lKA (hk_K hK 405 rfl rfl)) (rI_at 405 26 rfl) dX9_replays_68 ?_
  refine z_if_eq (tgt := 180) B dX9_replays_71 (by decide) (fun h => absurd h (by decide)) (fun _ => ?_)
  refine z_aload_n B dX9_replays_74 rfl 1 rfl ?_
  refine gf_X9_134 (x := 0) B (lKA (hk_K hK 405 rfl rfl)) (rI_at 405 37 rfl) dX9_replays_75 ?_
  refine z_if_le (tgt := 104) B dX9_replays_78 (by decide) (fun _ => ?_) (fun h => absurd (by decide) h)
  refine z_aload_n B dX9_replays_104 rfl 1 rfl ?_
  refine gf_X9_116 (x := 0) B (lKA (hk_K hK 405 rfl rfl)) (rI_at 405 30 rfl) dX9_replays_105 ?_
  refine z_if_eq (tgt := 139) B dX9_replays_108 (by decide) (fun _ => ?_) (fun h => absurd (by decide) h)
  refine z_aload_n B dX9_replays_139 rfl 1 rfl ?_
  refine gf_X9_131 (x := 0) B (lKA (hk_K hK 405 rfl rfl)) (rI_at 405 36 rfl) dX9_replays_140 ?_
  refine z_if_le (tgt := 158) B dX9_replays_143 (by decide) (fun _ => ?_) (fun h => absurd (by decide) h)
  refine z_aload_n B dX9_replays_158 rfl 1 rfl ?_
  refine z_iload_n B dX9_replays_159 rfl 2 rfl ?_
  refine z_iload_n B dX9_replays_160 rfl 3 rfl ?_
  refine z_iload_n B dX9_replays_161 rfl 4 rfl ?_
  refine z_cVi (As := [.int 0, .int 1, .int 1]) (rest := []) B cw_X9_186 cx_10 dX9_replays_162 (ci_X9_steps_766 l (σ := (ap b σ [(405, 48, (-1)), (405, 27, 1), (405, 29, (w1.toInt32)), (405, 26, 1), (405, 47, 1), (405, 39, 0), (405, 38, 0), (405, 37, 0), (405, 36, 0), (405, 35, 0), (405, 34, 0), (405, 32, 0), (405, 31, 0), (405, 30, 0), (405, 29, 0), (405, 28, 0), (405, 27, 0), (405, 26, 1)] [] [])) (b := b) (lyA hK) (w1.toInt32) (rI_at 405 27 rfl) (rI_at 405 28 rfl) (rI_at 405 29 rfl) (rI_at 405 38 rfl) (rI_at 406 40 hI_406_40) (rI_at 407 40 hI_407_40) (rI_at 409 0 hI_409_0) (rI_at 413 0 hI_413_0) (rR_at 405 3 hR_405_3) (rR_at 405 4 hR_405_4) (rR_at 405 7 hR_405_7) (rR_at 405 11 hR_405_11) (rR_at 405 14 hR_405_14) (rR_at 405 15 hR_405_15)) (lKA (hk_K hK 405 rfl rfl)) rfl (by decide) rfl (Nat.le_of_ble_eq_true rfl) (by decide) (fun r u hu => ?_)
  refine z_eqs (σ' := (ap b σ [(405, 37, 1), (405, 27, 2), (413, 0, 2), (416, 1, 13), (405, 28, 1), (405, 38, 1), (405, 48, (-1)), (405, 27, 1), (405, 29, (w1.toInt32)), (405, 26, 1), (405, 47, 1), (405, 39, 0), (405, 38, 0), (405, 37, 0), (405, 36, 0), (405, 35, 0), (405, 34, 0), (405, 32, 0), (405, 31, 0), (405, 30, 0), (405, 29, 0), (405, 28, 0), (405, 27, 0), (405, 26, 1)] [(417, 1, ((10 * ((w1.toInt32).toInt64)) + 1))] [])) (hu.2.trans ap_ap) ?_
  show zx p l e _ s m _ below meth c g 5 0 0 _ _ 165 [(4, .int 1), (0, .ref (b + 405)), (1, .int 0), (2, .int 1), (3, .int 1)] _
  refine z_seti (y := 1) hu.1 ?_
  refine z_istore (lv' := [(4, .int 1), (0, .ref (b + 405)), (1, .int 0), (2, .int 1), (3, .int 1)]) B dX9_replays_165 (by decide) rfl ?_
  refine z_aload_n B dX9_replays_167 rfl 1 rfl ?_
  refine gf_X9_172 (x := (-1)) B (lKA (hk_K hK 405 rfl rfl)) (rI_at 405 48 rfl) dX9_replays_168 ?_
  refine z_iconst (v := (-1)) B dX9_replays_171 (by decide) ?_
  refine z_icmp_eq (tgt := 62) B dX9_replays_172 (by decide) (fun _ => ?_) (fun h => absurd (by decide) h)
  refine z_iload B dX9_replays_62 0 rfl ?_
  refine z_if_eq (tgt := 180) B dX9_replays_64 (by decide) (fun h => absurd h (by decide)) (fun _ => ?_)
  refine z_aload_n B dX9_replays_67 rfl 1 rfl ?_
  refine gf_X9_103 (x := 1) B (lKA (hk_K hK 405 rfl rfl)) (rI_at 405 26 rfl) dX9_replays_68 ?_
  refine z_if_eq (tgt := 180) B dX9_replays_71 (by decide) (fun h => absurd h (by decide)) (fun _ => ?_)
  refine z_aload_n B dX9_replays_74 rfl 1 rfl ?_
  refine gf_X9_134 (x := 1) B (lKA (hk_K hK 405 rfl rfl)) (rI_at 405 37 rfl) dX9_replays_75 ?_
  refine z_if_le (tgt := 104) B dX9_replays_78 (by decide) (fun h => absurd h (by decide)) (fun _ => ?_)
  refine z_aload_n B dX9_replays_81 rfl 1 rfl ?_
  refine z_aload_n B dX9_replays_82 rfl 1 rfl ?_
  refine gf_X9_107 (x := 2) B (lKA (hk_K hK 405 rfl rfl)) (rI_at 405 27 rfl) dX9_replays_83 ?_
  refine z_iload_n B dX9_replays_86 rfl 3 rfl ?_
  refine z_icmp_lt (tgt := 94) B dX9_replays_87 (by decide) (fun h => absurd h (by decide)) (fun _ => ?_)
  refine z_iconst (v := 1) B dX9_replays_90 (by decide) ?_
  refine z_goto (tgt := 95) B dX9_replays_91 (by decide) ?_
  refine pf_X9_103 (x := 1) (σ' := (ap b σ [(405, 26, 1), (405, 37, 1), (405, 27, 2), (413, 0, 2), (416, 1, 13), (405, 28, 1), (405, 38, 1), (405, 48, (-1)), (405, 27, 1), (405, 29, (w1.toInt32)), (405, 26, 1), (405, 47, 1), (405, 39, 0), (405, 38, 0), (405, 37, 0), (405, 36, 0), (405, 35, 0), (405, 34, 0), (405, 32, 0), (405, 31, 0), (405, 30, 0), (405, 29, 0), (405, 28, 0), (405, 27, 0), (405, 26, 1)] [(417, 1, ((10 * ((w1.toInt32).toInt64)) + 1))] [])) B (by decide) (lKA (hk_K hK 405 rfl rfl)) wI_ap dX9_replays_95 ?_
  refine z_iconst (v := 0) B dX9_replays_98 (by decide) ?_
  refine z_istore (lv' := [(4, .int 0), (0, .ref (b + 405)), (1, .int 0), (2, .int 1), (3, .int 1)]) B dX9_replays_99 (by decide) rfl ?_
  refine z_goto (tgt := 62) B dX9_replays_101 (by decide) ?_
  refine z_iload B dX9_replays_62 0 rfl ?_
  refine z_if_eq (tgt := 180) B dX9_replays_64 (by decide) (fun _ => ?_) (fun h => absurd (by decide) h)
  refine z_iconst (v := (-1)) B dX9_replays_180 (by decide) ?_
  exact z_iret B hr (by decide) (by decide) dX9_replays_181 ⟨rfl, rfl⟩
set_option maxRecDepth 100000 in
set_option maxHeartbeats 4000000 in
theorem ci_X9_goesOn_768 (l : Launch) {g : gx_T} {σ : sx_T} {b : Nat} (hK : lay b σ) (w1 : Int64)  (hI_405_16 : sx_I σ (b + 405) 16 = 0) (hI_406_40 : sx_I σ (b + 406) 40 = 0) (hI_407_40 : sx_I σ (b + 407) 40 = 0) (hI_409_0 : sx_I σ (b + 409) 0 = 2) (hI_410_0 : sx_I σ (b + 410) 0 = (-1)) (hI_412_0 : sx_I σ (b + 412) 0 = 0) (hI_413_0 : sx_I σ (b + 413) 0 = 1) (hI_416_0 : sx_I σ (b + 416) 0 = 0) (hJ_417_0 : sx_J σ (b + 417) 0 = w1) (hR_405_3 : sx_R σ (b + 405) 3 = (some (b + 406))) (hR_405_4 : sx_R σ (b + 405) 4 = (some (b + 407))) (hR_405_7 : sx_R σ (b + 405) 7 = (some (b + 409))) (hR_405_8 : sx_R σ (b + 405) 8 = (some (b + 410))) (hR_405_10 : sx_R σ (b + 405) 10 = (some (b + 412))) (hR_405_11 : sx_R σ (b + 405) 11 = (some (b + 413))) (hR_405_12 : sx_R σ (b + 405) 12 = (some (b + 414))) (hR_405_14 : sx_R σ (b + 405) 14 = (some (b + 416))) (hR_405_15 : sx_R σ (b + 405) 15 = (some (b + 417))) (hR_405_42 : sx_R σ (b + 405) 42 = (some (b + 428))) : Met l yX9_goesOn (.code yX9_goesOn cX9_goesOn 5 none :: lw_g) { frames := 4, cells := 0, slots := 0, locals := 106 } (va_Pc [.ref (b + 405), .int 0] (zx_w g σ)) (va_Qv (fun u => u = (ap b σ [(412, 0, 1), (414, 0, 2), (405, 26, 1), (405, 37, 1), (405, 27, 2), (413, 0, 2), (416, 1, 13), (405, 28, 1), (405, 38, 1), (405, 48, (-1)), (405, 27, 1), (405, 29, (w1.toInt32)), (405, 26, 1), (405, 47, 1), (405, 39, 0), (405, 38, 0), (405, 37, 0), (405, 36, 0), (405, 35, 0), (405, 34, 0), (405, 32, 0), (405, 31, 0), (405, 30, 0), (405, 29, 0), (405, 28, 0), (405, 27, 0), (405, 26, 1), (428, 0, 0)] [(417, 1, ((10 * ((w1.toInt32).toInt64)) + 1))] [])) (zx_w g) (gx_Q g)) 0 0 (gx_Q g) := by
  refine z_met (by decide) (Nat.le_of_ble_eq_true rfl) (fun p e s m below meth c B hr hin => ?_)
  refine z_eqs (σ' := (ap b σ [] [] [])) rfl ?_
  show zx p l e _ s m _ below meth c g 5 0 0 _ _ 0 [(0, .ref (b + 405)), (1, .int 0)] []
  refine z_iconst (v := 1) B dX9_goesOn_0 (by decide) ?_
  refine z_istore_n (lv' := [(2, .int 1), (0, .ref (b + 405)), (1, .int 0)]) B dX9_goesOn_1 rfl (by decide) rfl ?_
  refine z_aload_n B dX9_goesOn_2 rfl 1 rfl ?_
  refine gf_X9_81 (x := (some (b + 428))) B (lKA (hk_K hK 405 rfl rfl)) (rR_at 405 42 hR_405_42) dX9_goesOn_3 ?_
  refine z_iconst (v := 0) B dX9_goesOn_6 (by decide) ?_
  refine z_iload_n B dX9_goesOn_7 rfl 2 rfl ?_
  refine z_iast (j := 0) (σ' := (ap b σ [(428, 0, 0)] [] [])) B (lKA (hk_K hK 428 rfl rfl)) (by decide) (in_of (lNA (hk_N hK 428 rfl rfl)) (show ¬ ((0 : Int32) < 0 ∨ 50 ≤ (0 : Int32).toNatClampNeg) by decide)) wI_ap dX9_goesOn_8 ?_
  refine z_iload_n B dX9_goesOn_9 rfl 0 rfl ?_
  refine z_if_le (tgt := 106) B dX9_goesOn_10 (by decide) (fun h => absurd h (by decide)) (fun _ => ?_)
  refine z_aload_n B dX9_goesOn_13 rfl 1 rfl ?_
  refine gf_X9_81 (x := (some (b + 428))) B (lKA (hk_K hK 405 rfl rfl)) (rR_at 405 42 hR_405_42) dX9_goesOn_14 ?_
  refine z_iload_n B dX9_goesOn_17 rfl 0 rfl ?_
  refine z_iconst (v := 1) B dX9_goesOn_18 (by decide) ?_
  refine z_isub B dX9_goesOn_19 ?_
  refine z_seti (y := 0) (by decide) ?_
  refine z_iald (j := 0) (x := 0) B (lKA (hk_K hK 428 rfl rfl)) (by decide) (in_of (lNA (hk_N hK 428 rfl rfl)) (show ¬ ((0 : Int32) < 0 ∨ 50 ≤ (0 : Int32).toNatClampNeg) by decide)) (rI_at 428 0 rfl) dX9_goesOn_20 ?_
  refine z_istore_n (lv' := [(3, .int 0), (2, .int 1), (0, .ref (b + 405)), (1, .int 0)]) B dX9_goesOn_21 rfl (by decide) rfl ?_
  refine z_aload_n B dX9_goesOn_22 rfl 2 rfl ?_
  refine gf_X9_32 (x := (some (b + 412))) B (lKA (hk_K hK 405 rfl rfl)) (rR_at 405 10 hR_405_10) dX9_goesOn_23 ?_
  refine z_iload_n B dX9_goesOn_26 rfl 0 rfl ?_
  refine z_iald (j := 0) (x := 0) B (lKA (hk_K hK 412 rfl rfl)) (by decide) (in_of (lNA (hk_N hK 412 rfl rfl)) (show ¬ ((0 : Int32) < 0 ∨ 41 ≤ (0 : Int32).toNatClampNeg) by decide)) (rI_at 412 0 hI_412_0) dX9_goesOn_27 ?_
  refine z_if_le (tgt := 35) B dX9_goesOn_28 (by decide) (fun _ => ?_) (fun h => absurd (by decide) h)
  refine z_aload_n B dX9_goesOn_35 rfl 2 rfl ?_
  refine z_iload_n B dX9_goesOn_36 rfl 0 rfl ?_
  refine z_aload_n B dX9_goesOn_37 rfl 2 rfl ?_
  refine gf_X9_35 (x := (some (b + 413))) B (lKA (hk_K hK 405 rfl rfl)) (rR_at 405 11 hR_405_11) dX9_goesOn_38 ?_
  refine z_iload_n B dX9_goesOn_41 rfl 0 rfl ?_
  refine z_iald (j := 0) (x := 1) B (lKA (hk_K hK 413 rfl rfl)) (by decide) (in_of (lNA (hk_N hK 413 rfl rfl)) (show ¬ ((0 : Int32) < 0 ∨ 41 ≤ (0 : Int32).toNatClampNeg) by decide)) (rI_at 413 0 hI_413_0) dX9_goesOn_42 ?_
  refine z_iconst (v := 1) B dX9_goesOn_43 (by decide) ?_
  refine z_cVi (As := [.int 0, .int 1, .int 1]) (rest := []) B cw_X9_216 cx_10 dX9_goesOn_44 (ci_X9_replays_767 l (σ := (ap b σ [(428, 0, 0)] [] [])) (b := b) (lyA hK) w1 (rI_at 406 40 hI_406_40) (rI_at 407 40 hI_407_40) (rI_at 409 0 hI_409_0) (rI_at 413 0 hI_413_0) (rI_at 416 0 hI_416_0) (rJ_at 417 0 hJ_417_0) (rR_at 405 3 hR_405_3) (rR_at 405 4 hR_405_4) (rR_at 405 7 hR_405_7) (rR_at 405 11 hR_405_11) (rR_at 405 14 hR_405_14) (rR_at 405 15 hR_405_15)) (lKA (hk_K hK 405 rfl rfl)) rfl (by decide) rfl (Nat.le_of_ble_eq_true rfl) (by decide) (fun r u hu => ?_)
  refine z_eqs (σ' := (ap b σ [(405, 26, 1), (405, 37, 1), (405, 27, 2), (413, 0, 2), (416, 1, 13), (405, 28, 1), (405, 38, 1), (405, 48, (-1)), (405, 27, 1), (405, 29, (w1.toInt32)), (405, 26, 1), (405, 47, 1), (405, 39, 0), (405, 38, 0), (405, 37, 0), (405, 36, 0), (405, 35, 0), (405, 34, 0), (405, 32, 0), (405, 31, 0), (405, 30, 0), (405, 29, 0), (405, 28, 0), (405, 27, 0), (405, 26, 1), (428, 0, 0)] [(417, 1, ((10 * ((w1.toInt32).toInt64)) + 1))] [])) (hu.2.trans ap_ap) ?_
  show zx p l e _ s m _ below meth c g 5 0 0 _ _ 47 [(3, .int 0), (2, .int 1), (0, .ref (b + 405)), (1, .int 0)] _
  refine z_seti (y := (-1)) hu.1 ?_
  refine z_istore (lv' := [(4, .int (-1)), (3, .int 0), (2, .int 1), (0, .ref (b + 405)), (1, .int 0)]) B dX9_goesOn_47 (by decide) rfl ?_
  refine z_iload B dX9_goesOn_49 0 rfl ?_
  refine z_iconst (v := (-1)) B dX9_goesOn_51 (by decide) ?_
  refine z_icmp_eq (tgt := 69) B dX9_goesOn_52 (by decide) (fun _ => ?_) (fun h => absurd (by decide) h)
  refine z_iinc (v := 0) (lv' := [(2, .int 0), (4, .int (-1)), (3, .int 0), (0, .ref (b + 405)), (1, .int 0)]) B dX9_goesOn_69 2 rfl (by decide) (by decide) rfl ?_
  refine z_aload_n B dX9_goesOn_72 rfl 3 rfl ?_
  refine gf_X9_32 (x := (some (b + 412))) B (lKA (hk_K hK 405 rfl rfl)) (rR_at 405 10 hR_405_10) dX9_goesOn_73 ?_
  refine z_iload_n B dX9_goesOn_76 rfl 2 rfl ?_
  refine z_iald (j := 0) (x := 0) B (lKA (hk_K hK 412 rfl rfl)) (by decide) (in_of (lNA (hk_N hK 412 rfl rfl)) (show ¬ ((0 : Int32) < 0 ∨ 41 ≤ (0 : Int32).toNatClampNeg) by decide)) (rI_at 412 0 hI_412_0) dX9_goesOn_77 ?_
  refine z_if_ne (tgt := 103) B dX9_goesOn_78 (by decide) (fun h => absurd (by decide) h) (fun _ => ?_)
  refine z_aload_n B dX9_goesOn_81 rfl 3 rfl ?_
  refine gf_X9_103 (x := 1) B (lKA (hk_K hK 405 rfl rfl)) (rI_at 405 26 rfl) dX9_goesOn_82 ?_
  refine z_if_eq (tgt := 103) B dX9_goesOn_85 (by decide) (fun h => absurd h (by decide)) (fun _ => ?_)
  refine z_aload_n B dX9_goesOn_88 rfl 3 rfl ?_
  refine gf_X9_38 (x := (some (b + 414))) B (lKA (hk_K hK 405 rfl rfl)) (rR_at 405 12 hR_405_12) dX9_goesOn_89 ?_
  refine z_iload_n B dX9_goesOn_92 rfl 2 rfl ?_
  refine z_aload_n B dX9_goesOn_93 rfl 3 rfl ?_
  refine gf_X9_107 (x := 2) B (lKA (hk_K hK 405 rfl rfl)) (rI_at 405 27 rfl) dX9_goesOn_94 ?_
  refine z_iast (j := 0) (σ' := (ap b σ [(414, 0, 2), (405, 26, 1), (405, 37, 1), (405, 27, 2), (413, 0, 2), (416, 1, 13), (405, 28, 1), (405, 38, 1), (405, 48, (-1)), (405, 27, 1), (405, 29, (w1.toInt32)), (405, 26, 1), (405, 47, 1), (405, 39, 0), (405, 38, 0), (405, 37, 0), (405, 36, 0), (405, 35, 0), (405, 34, 0), (405, 32, 0), (405, 31, 0), (405, 30, 0), (405, 29, 0), (405, 28, 0), (405, 27, 0), (405, 26, 1), (428, 0, 0)] [(417, 1, ((10 * ((w1.toInt32).toInt64)) + 1))] [])) B (lKA (hk_K hK 414 rfl rfl)) (by decide) (in_of (lNA (hk_N hK 414 rfl rfl)) (show ¬ ((0 : Int32) < 0 ∨ 41 ≤ (0 : Int32).toNatClampNeg) by decide)) wI_ap dX9_goesOn_97 ?_
  refine z_aload_n B dX9_goesOn_98 rfl 3 rfl ?_
  refine z_iload_n B dX9_goesOn_99 rfl 2 rfl ?_
  refine z_cVv (As := [.int 0]) (rest := []) B cw_X9_220 cx_10 dX9_goesOn_100 (ci_X9_rests_712 l (σ := (ap b σ [(414, 0, 2), (405, 26, 1), (405, 37, 1), (405, 27, 2), (413, 0, 2), (416, 1, 13), (405, 28, 1), (405, 38, 1), (405, 48, (-1)), (405, 27, 1), (405, 29, (w1.toInt32)), (405, 26, 1), (405, 47, 1), (405, 39, 0), (405, 38, 0), (405, 37, 0), (405, 36, 0), (405, 35, 0), (405, 34, 0), (405, 32, 0), (405, 31, 0), (405, 30, 0), (405, 29, 0), (405, 28, 0), (405, 27, 0), (405, 26, 1), (428, 0, 0)] [(417, 1, ((10 * ((w1.toInt32).toInt64)) + 1))] [])) (b := b) (lyA hK) (w1.toInt32) (rI_at 405 16 hI_405_16) (rI_at 405 29 rfl) (rI_at 405 30 rfl) (rI_at 405 37 rfl) (rI_at 410 0 hI_410_0) (rR_at 405 8 hR_405_8) (rR_at 405 10 hR_405_10)) (lKA (hk_K hK 405 rfl rfl)) rfl (by decide) rfl (Nat.le_of_ble_eq_true rfl) (by decide) (fun u hu => ?_)
  refine z_eqs (σ' := (ap b σ [(412, 0, 1), (414, 0, 2), (405, 26, 1), (405, 37, 1), (405, 27, 2), (413, 0, 2), (416, 1, 13), (405, 28, 1), (405, 38, 1), (405, 48, (-1)), (405, 27, 1), (405, 29, (w1.toInt32)), (405, 26, 1), (405, 47, 1), (405, 39, 0), (405, 38, 0), (405, 37, 0), (405, 36, 0), (405, 35, 0), (405, 34, 0), (405, 32, 0), (405, 31, 0), (405, 30, 0), (405, 29, 0), (405, 28, 0), (405, 27, 0), (405, 26, 1), (428, 0, 0)] [(417, 1, ((10 * ((w1.toInt32).toInt64)) + 1))] [])) (hu.trans ap_ap) ?_
  show zx p l e _ s m _ below meth c g 5 0 0 _ _ 103 [(2, .int 0), (4, .int (-1)), (3, .int 0), (0, .ref (b + 405)), (1, .int 0)] _
  refine z_goto (tgt := 9) B dX9_goesOn_103 (by decide) ?_
  refine z_iload_n B dX9_goesOn_9 rfl 0 rfl ?_
  refine z_if_le (tgt := 106) B dX9_goesOn_10 (by decide) (fun _ => ?_) (fun h => absurd (by decide) h)
  exact z_vret B hr (by decide) (by decide) dX9_goesOn_106 rfl
set_option maxRecDepth 100000 in
set_option maxHeartbeats 4000000 in
theorem ci_X9_runs_769 (l : Launch) {g : gx_T} {σ : sx_T} {b : Nat} (hK : lay b σ) (w1 : Int64)  (hI_405_16 : sx_I σ (b + 405) 16 = 0) (hI_406_40 : sx_I σ (b + 406) 40 = 0) (hI_407_40 : sx_I σ (b + 407) 40 = 0) (hI_409_0 : sx_I σ (b + 409) 0 = 2) (hI_410_0 : sx_I σ (b + 410) 0 = (-1)) (hI_412_0 : sx_I σ (b + 412) 0 = 0) (hI_413_0 : sx_I σ (b + 413) 0 = 1) (hI_416_0 : sx_I σ (b + 416) 0 = 0) (hJ_417_0 : sx_J σ (b + 417) 0 = w1) (hR_405_3 : sx_R σ (b + 405) 3 = (some (b + 406))) (hR_405_4 : sx_R σ (b + 405) 4 = (some (b + 407))) (hR_405_7 : sx_R σ (b + 405) 7 = (some (b + 409))) (hR_405_8 : sx_R σ (b + 405) 8 = (some (b + 410))) (hR_405_10 : sx_R σ (b + 405) 10 = (some (b + 412))) (hR_405_11 : sx_R σ (b + 405) 11 = (some (b + 413))) (hR_405_12 : sx_R σ (b + 405) 12 = (some (b + 414))) (hR_405_14 : sx_R σ (b + 405) 14 = (some (b + 416))) (hR_405_15 : sx_R σ (b + 405) 15 = (some (b + 417))) (hR_405_42 : sx_R σ (b + 405) 42 = (some (b + 428))) : Met l yX9_runs (.code yX9_runs cX9_runs 5 none :: lw_g) { frames := 5, cells := 0, slots := 0, locals := 130 } (va_Pc [.ref (b + 405), .int 0] (zx_w g σ)) (va_Qv (fun u => u = (ap b σ [(412, 0, 1), (414, 0, 2), (405, 26, 1), (405, 37, 1), (405, 27, 2), (413, 0, 2), (416, 1, 13), (405, 28, 1), (405, 38, 1), (405, 48, (-1)), (405, 27, 1), (405, 29, (w1.toInt32)), (405, 26, 1), (405, 47, 1), (405, 39, 0), (405, 38, 0), (405, 37, 0), (405, 36, 0), (405, 35, 0), (405, 34, 0), (405, 32, 0), (405, 31, 0), (405, 30, 0), (405, 29, 0), (405, 28, 0), (405, 27, 0), (405, 26, 1), (428, 0, 0), (405, 45, 0), (405, 43, 0)] [(417, 1, ((10 * ((w1.toInt32).toInt64)) + 1))] [])) (zx_w g) (gx_Q g)) 0 0 (gx_Q g) := by
  refine z_met (by decide) (Nat.le_of_ble_eq_true rfl) (fun p e s m below meth c B hr hin => ?_)
  refine z_eqs (σ' := (ap b σ [] [] [])) rfl ?_
  show zx p l e _ s m _ below meth c g 5 0 0 _ _ 0 [(0, .ref (b + 405)), (1, .int 0)] []
  refine z_aload_n B dX9_runs_0 rfl 0 rfl ?_
  refine z_iconst (v := 0) B dX9_runs_1 (by decide) ?_
  refine pf_X9_226 (x := 0) (σ' := (ap b σ [(405, 43, 0)] [] [])) B (lKA (hk_K hK 405 rfl rfl)) wI_ap dX9_runs_2 ?_
  refine z_aload_n B dX9_runs_5 rfl 0 rfl ?_
  refine z_iconst (v := 0) B dX9_runs_6 (by decide) ?_
  refine pf_X9_159 (x := 0) (σ' := (ap b σ [(405, 45, 0), (405, 43, 0)] [] [])) B (lKA (hk_K hK 405 rfl rfl)) wI_ap dX9_runs_7 ?_
  refine z_aload_n B dX9_runs_10 rfl 0 rfl ?_
  refine z_iload_n B dX9_runs_11 rfl 1 rfl ?_
  refine z_cVv (As := [.int 0]) (rest := []) B cw_X9_229 cx_10 dX9_runs_12 (ci_X9_goesOn_768 l (σ := (ap b σ [(405, 45, 0), (405, 43, 0)] [] [])) (b := b) (lyA hK) w1 (rI_at 405 16 hI_405_16) (rI_at 406 40 hI_406_40) (rI_at 407 40 hI_407_40) (rI_at 409 0 hI_409_0) (rI_at 410 0 hI_410_0) (rI_at 412 0 hI_412_0) (rI_at 413 0 hI_413_0) (rI_at 416 0 hI_416_0) (rJ_at 417 0 hJ_417_0) (rR_at 405 3 hR_405_3) (rR_at 405 4 hR_405_4) (rR_at 405 7 hR_405_7) (rR_at 405 8 hR_405_8) (rR_at 405 10 hR_405_10) (rR_at 405 11 hR_405_11) (rR_at 405 12 hR_405_12) (rR_at 405 14 hR_405_14) (rR_at 405 15 hR_405_15) (rR_at 405 42 hR_405_42)) (lKA (hk_K hK 405 rfl rfl)) rfl (by decide) rfl (Nat.le_of_ble_eq_true rfl) (by decide) (fun u hu => ?_)
  refine z_eqs (σ' := (ap b σ [(412, 0, 1), (414, 0, 2), (405, 26, 1), (405, 37, 1), (405, 27, 2), (413, 0, 2), (416, 1, 13), (405, 28, 1), (405, 38, 1), (405, 48, (-1)), (405, 27, 1), (405, 29, (w1.toInt32)), (405, 26, 1), (405, 47, 1), (405, 39, 0), (405, 38, 0), (405, 37, 0), (405, 36, 0), (405, 35, 0), (405, 34, 0), (405, 32, 0), (405, 31, 0), (405, 30, 0), (405, 29, 0), (405, 28, 0), (405, 27, 0), (405, 26, 1), (428, 0, 0), (405, 45, 0), (405, 43, 0)] [(417, 1, ((10 * ((w1.toInt32).toInt64)) + 1))] [])) (hu.trans ap_ap) ?_
  show zx p l e _ s m _ below meth c g 5 0 0 _ _ 15 [(0, .ref (b + 405)), (1, .int 0)] _
  refine z_iconst (v := 0) B dX9_runs_15 (by decide) ?_
  refine z_istore_n (lv' := [(2, .int 0), (0, .ref (b + 405)), (1, .int 0)]) B dX9_runs_16 rfl (by decide) rfl ?_
  refine z_iconst (v := 0) B dX9_runs_17 (by decide) ?_
  refine z_istore_n (lv' := [(3, .int 0), (2, .int 0), (0, .ref (b + 405)), (1, .int 0)]) B dX9_runs_18 rfl (by decide) rfl ?_
  refine z_iload_n B dX9_runs_19 rfl 1 rfl ?_
  refine z_aload_n B dX9_runs_20 rfl 2 rfl ?_
  refine gf_X9_226 (x := 0) B (lKA (hk_K hK 405 rfl rfl)) (rI_at 405 43 rfl) dX9_runs_21 ?_
  refine z_icmp_lt (tgt := 35) B dX9_runs_24 (by decide) (fun h => absurd h (by decide)) (fun _ => ?_)
  refine z_iload_n B dX9_runs_27 rfl 0 rfl ?_
  refine z_aload_n B dX9_runs_28 rfl 2 rfl ?_
  refine gf_X9_159 (x := 0) B (lKA (hk_K hK 405 rfl rfl)) (rI_at 405 45 rfl) dX9_runs_29 ?_
  refine z_icmp_ge (tgt := 90) B dX9_runs_32 (by decide) (fun _ => ?_) (fun h => absurd (by decide) h)
  exact z_vret B hr (by decide) (by decide) dX9_runs_90 rfl
set_option maxRecDepth 100000 in
set_option maxHeartbeats 4000000 in
theorem ci_X9_start_770 (l : Launch) {g : gx_T} {σ : sx_T} {b : Nat} (hK : lay b σ) (w1 : Int32) (q1_w1 : (-999 : Int) ≤ w1.toInt) (q2_w1 : w1.toInt ≤ (-1 : Int)) (hI_405_6 : sx_I σ (b + 405) 6 = 0) (hI_405_16 : sx_I σ (b + 405) 16 = 0) (hI_406_40 : sx_I σ (b + 406) 40 = 0) (hI_407_40 : sx_I σ (b + 407) 40 = 0) (hI_412_0 : sx_I σ (b + 412) 0 = 0) (hI_413_0 : sx_I σ (b + 413) 0 = 0) (hR_405_3 : sx_R σ (b + 405) 3 = (some (b + 406))) (hR_405_4 : sx_R σ (b + 405) 4 = (some (b + 407))) (hR_405_7 : sx_R σ (b + 405) 7 = (some (b + 409))) (hR_405_8 : sx_R σ (b + 405) 8 = (some (b + 410))) (hR_405_9 : sx_R σ (b + 405) 9 = (some (b + 411))) (hR_405_10 : sx_R σ (b + 405) 10 = (some (b + 412))) (hR_405_11 : sx_R σ (b + 405) 11 = (some (b + 413))) (hR_405_12 : sx_R σ (b + 405) 12 = (some (b + 414))) (hR_405_13 : sx_R σ (b + 405) 13 = (some (b + 415))) (hR_405_14 : sx_R σ (b + 405) 14 = (some (b + 416))) (hR_405_15 : sx_R σ (b + 405) 15 = (some (b + 417))) (hR_405_42 : sx_R σ (b + 405) 42 = (some (b + 428))) : Met l yX9_start (.code yX9_start cX9_start 4 (some .int) :: lw_g) { frames := 6, cells := 0, slots := 0, locals := 154 } (va_Pc [.ref (b + 405), .int 2, .int w1] (zx_w g σ)) (va_Qi (fun r u => r = 0 ∧ u = (ap b σ [(412, 0, 1), (414, 0, 2), (405, 26, 1), (405, 37, 1), (405, 27, 2), (413, 0, 2), (416, 1, 13), (405, 28, 1), (405, 38, 1), (405, 48, (-1)), (405, 27, 1), (405, 29, ((w1.toInt64).toInt32)), (405, 26, 1), (405, 47, 1), (405, 39, 0), (405, 38, 0), (405, 37, 0), (405, 36, 0), (405, 35, 0), (405, 34, 0), (405, 32, 0), (405, 31, 0), (405, 30, 0), (405, 29, 0), (405, 28, 0), (405, 27, 0), (405, 26, 1), (428, 0, 0), (405, 45, 0), (405, 43, 0), (413, 0, 1), (416, 0, 0), (415, 0, (-1)), (411, 0, 0), (410, 0, (-1)), (409, 0, 2), (405, 6, 1), (405, 0, 0)] [(417, 1, ((10 * (((w1.toInt64).toInt32).toInt64)) + 1)), (417, 0, (w1.toInt64))] [])) (zx_w g) (gx_Q g)) 0 0 (gx_Q g) := by
  refine z_met (by decide) (Nat.le_of_ble_eq_true rfl) (fun p e s m below meth c B hr hin => ?_)
  refine z_eqs (σ' := (ap b σ [] [] [])) rfl ?_
  show zx p l e _ s m _ below meth c g 4 0 0 _ _ 0 [(0, .ref (b + 405)), (1, .int 2), (2, .int w1)] []
  refine z_aload_n B dX9_start_0 rfl 0 rfl ?_
  refine z_iload_n B dX9_start_1 rfl 1 rfl ?_
  refine z_iconst (v := 0) B dX9_start_2 (by decide) ?_
  refine z_iconst (v := 5) B dX9_start_3 (by decide) ?_
  refine z_cSi (As := [.int 2, .int 0, .int 5]) (rest := [.ref (b + 405)]) B cw_X9_96 dX9_start_4 (ci_X9_in_174 l (σ := (ap b σ [] [] [])) (b := b) (lyA hK) ) rfl (by decide) rfl (Nat.le_of_ble_eq_true rfl) (by decide) (fun r u hu => ?_)
  refine z_eqs (σ' := (ap b σ [] [] [])) hu.2 ?_
  show zx p l e _ s m _ below meth c g 4 0 0 _ _ 7 [(0, .ref (b + 405)), (1, .int 2), (2, .int w1)] _
  refine z_seti (y := 1) hu.1 ?_
  refine z_iload_n B dX9_start_7 rfl 2 rfl ?_
  refine z_sipush (v := (-999)) B dX9_start_8 (by decide) ?_
  refine z_sipush (v := 999) B dX9_start_11 (by decide) ?_
  refine z_cSi (As := [.int w1, .int (-999), .int 999]) (rest := [.int 1, .ref (b + 405)]) B cw_X9_96 dX9_start_14 (ci_X9_in_702 l (σ := (ap b σ [] [] [])) (b := b) (lyA hK) w1 q1_w1 q2_w1) rfl (by decide) rfl (Nat.le_of_ble_eq_true rfl) (by decide) (fun r u hu => ?_)
  refine z_eqs (σ' := (ap b σ [] [] [])) hu.2 ?_
  show zx p l e _ s m _ below meth c g 4 0 0 _ _ 17 [(0, .ref (b + 405)), (1, .int 2), (2, .int w1)] _
  refine z_seti (y := 1) hu.1 ?_
  refine z_aload_n B dX9_start_17 rfl 0 rfl ?_
  refine gf_X9_93 (x := 0) B (lKA (hk_K hK 405 rfl rfl)) (rI_at 405 6 hI_405_6) dX9_start_18 ?_
  refine z_bipush (v := 40) B dX9_start_21 (by decide) ?_
  refine z_icmp_ge (tgt := 30) B dX9_start_23 (by decide) (fun h => absurd h (by decide)) (fun _ => ?_)
  refine z_iconst (v := 1) B dX9_start_26 (by decide) ?_
  refine z_goto (tgt := 31) B dX9_start_27 (by decide) ?_
  refine z_cVi (As := [.int 1, .int 1, .int 1]) (rest := []) B cw_X9_259 cx_10 dX9_start_31 (ci_X9_needs___703 l (σ := (ap b σ [] [] [])) (b := b) (lyA hK) ) (lKA (hk_K hK 405 rfl rfl)) rfl (by decide) rfl (Nat.le_of_ble_eq_true rfl) (by decide) (fun r u hu => ?_)
  refine z_eqs (σ' := (ap b σ [(405, 0, 0)] [] [])) (hu.2.trans ap_ap) ?_
  show zx p l e _ s m _ below meth c g 4 0 0 _ _ 34 [(0, .ref (b + 405)), (1, .int 2), (2, .int w1)] _
  refine z_seti (y := 1) hu.1 ?_
  refine z_if_ne (tgt := 39) B dX9_start_34 (by decide) (fun _ => ?_) (fun h => absurd h (by decide))
  refine z_aload_n B dX9_start_39 rfl 0 rfl ?_
  refine z_iload_n B dX9_start_40 rfl 1 rfl ?_
  refine z_iload_n B dX9_start_41 rfl 2 rfl ?_
  refine z_iconst (v := (-1)) B dX9_start_42 (by decide) ?_
  refine z_iconst (v := (-1)) B dX9_start_43 (by decide) ?_
  refine z_cVi (As := [.int 2, .int w1, .int (-1), .int (-1)]) (rest := []) B cw_X9_168 cx_10 dX9_start_44 (ci_X9_begets_765 l (σ := (ap b σ [(405, 0, 0)] [] [])) (b := b) (lyA hK) w1 (rI_at 405 6 hI_405_6) (rI_at 413 0 hI_413_0) (rR_at 405 7 hR_405_7) (rR_at 405 8 hR_405_8) (rR_at 405 9 hR_405_9) (rR_at 405 11 hR_405_11) (rR_at 405 13 hR_405_13) (rR_at 405 14 hR_405_14) (rR_at 405 15 hR_405_15)) (lKA (hk_K hK 405 rfl rfl)) rfl (by decide) rfl (Nat.le_of_ble_eq_true rfl) (by decide) (fun r u hu => ?_)
  refine z_eqs (σ' := (ap b σ [(413, 0, 1), (416, 0, 0), (415, 0, (-1)), (411, 0, 0), (410, 0, (-1)), (409, 0, 2), (405, 6, 1), (405, 0, 0)] [(417, 0, (w1.toInt64))] [])) (hu.2.trans ap_ap) ?_
  show zx p l e _ s m _ below meth c g 4 0 0 _ _ 47 [(0, .ref (b + 405)), (1, .int 2), (2, .int w1)] _
  refine z_seti (y := 0) hu.1 ?_
  refine z_istore_n (lv' := [(3, .int 0), (0, .ref (b + 405)), (1, .int 2), (2, .int w1)]) B dX9_start_47 rfl (by decide) rfl ?_
  refine z_aload_n B dX9_start_48 rfl 1 rfl ?_
  refine z_iload_n B dX9_start_49 rfl 0 rfl ?_
  refine z_cVv (As := [.int 0]) (rest := []) B cw_X9_253 cx_10 dX9_start_50 (ci_X9_runs_769 l (σ := (ap b σ [(413, 0, 1), (416, 0, 0), (415, 0, (-1)), (411, 0, 0), (410, 0, (-1)), (409, 0, 2), (405, 6, 1), (405, 0, 0)] [(417, 0, (w1.toInt64))] [])) (b := b) (lyA hK) (w1.toInt64) (rI_at 405 16 hI_405_16) (rI_at 406 40 hI_406_40) (rI_at 407 40 hI_407_40) (rI_at 409 0 rfl) (rI_at 410 0 rfl) (rI_at 412 0 hI_412_0) (rI_at 413 0 rfl) (rI_at 416 0 rfl) (rJ_at 417 0 rfl) (rR_at 405 3 hR_405_3) (rR_at 405 4 hR_405_4) (rR_at 405 7 hR_405_7) (rR_at 405 8 hR_405_8) (rR_at 405 10 hR_405_10) (rR_at 405 11 hR_405_11) (rR_at 405 12 hR_405_12) (rR_at 405 14 hR_405_14) (rR_at 405 15 hR_405_15) (rR_at 405 42 hR_405_42)) (lKA (hk_K hK 405 rfl rfl)) rfl (by decide) rfl (Nat.le_of_ble_eq_true rfl) (by decide) (fun u hu => ?_)
  refine z_eqs (σ' := (ap b σ [(412, 0, 1), (414, 0, 2), (405, 26, 1), (405, 37, 1), (405, 27, 2), (413, 0, 2), (416, 1, 13), (405, 28, 1), (405, 38, 1), (405, 48, (-1)), (405, 27, 1), (405, 29, ((w1.toInt64).toInt32)), (405, 26, 1), (405, 47, 1), (405, 39, 0), (405, 38, 0), (405, 37, 0), (405, 36, 0), (405, 35, 0), (405, 34, 0), (405, 32, 0), (405, 31, 0), (405, 30, 0), (405, 29, 0), (405, 28, 0), (405, 27, 0), (405, 26, 1), (428, 0, 0), (405, 45, 0), (405, 43, 0), (413, 0, 1), (416, 0, 0), (415, 0, (-1)), (411, 0, 0), (410, 0, (-1)), (409, 0, 2), (405, 6, 1), (405, 0, 0)] [(417, 1, ((10 * (((w1.toInt64).toInt32).toInt64)) + 1)), (417, 0, (w1.toInt64))] [])) (hu.trans ap_ap) ?_
  show zx p l e _ s m _ below meth c g 4 0 0 _ _ 53 [(3, .int 0), (0, .ref (b + 405)), (1, .int 2), (2, .int w1)] _
  refine z_iload_n B dX9_start_53 rfl 0 rfl ?_
  exact z_iret B hr (by decide) (by decide) dX9_start_54 ⟨rfl, rfl⟩
set_option maxRecDepth 100000 in
set_option maxHeartbeats 4000000 in
theorem ci_X8_goOn_771 (l : Launch) {g : gx_T} {σ : sx_T} {b : Nat} (hK : lay b σ) (w1 : Int32) (q1_w1 : (0 : Int) ≤ w1.toInt) (q2_w1 : w1.toInt ≤ (999 : Int)) (hI_5_1 : sx_I σ (b + 5) 1 = 0) (hI_5_2 : sx_I σ (b + 5) 2 = 0) (hI_7_1 : sx_I σ (b + 7) 1 = 0) (hI_7_2 : sx_I σ (b + 7) 2 = 0) (hI_18_0 : sx_I σ (b + 18) 0 = 0) (hI_19_0 : sx_I σ (b + 19) 0 = 0) (hI_20_0 : sx_I σ (b + 20) 0 = 0) (hI_37_2 : sx_I σ (b + 37) 2 = 1) (hI_40_4 : sx_I σ (b + 40) 4 = (-1)) (hI_40_8 : sx_I σ (b + 40) 8 = 0) (hI_41_4 : sx_I σ (b + 41) 4 = 1) (hI_41_5 : sx_I σ (b + 41) 5 = 0) (hI_41_6 : sx_I σ (b + 41) 6 = w1) (hI_41_7 : sx_I σ (b + 41) 7 = 0) (hI_41_8 : sx_I σ (b + 41) 8 = 0) (hI_41_14 : sx_I σ (b + 41) 14 = 0) (hI_41_15 : sx_I σ (b + 41) 15 = 0) (hI_41_16 : sx_I σ (b + 41) 16 = (-1)) (hI_41_18 : sx_I σ (b + 41) 18 = (-1)) (hI_41_19 : sx_I σ (b + 41) 19 = 0) (hR_0_4 : sx_R σ (b + 0) 4 = (some (b + 5))) (hR_0_5 : sx_R σ (b + 0) 5 = (some (b + 7))) (hR_5_0 : sx_R σ (b + 5) 0 = (some (b + 6))) (hR_17_1 : sx_R σ (b + 17) 1 = (some (b + 18))) (hR_17_2 : sx_R σ (b + 17) 2 = (some (b + 19))) (hR_17_3 : sx_R σ (b + 17) 3 = (some (b + 20))) (hR_37_0 : sx_R σ (b + 37) 0 = (some (b + 38))) (hR_37_1 : sx_R σ (b + 37) 1 = (some (b + 39))) (hR_40_1 : sx_R σ (b + 40) 1 = (some (b + 37))) (hR_40_2 : sx_R σ (b + 40) 2 = (some (b + 41))) (hR_40_7 : sx_R σ (b + 40) 7 = none) (hR_41_2 : sx_R σ (b + 41) 2 = (some (b + 17))) (hR_41_3 : sx_R σ (b + 41) 3 = (some (b + 37))) : Met l yX8_goOn (.code yX8_goOn cX8_goOn 5 none :: lw_g) { frames := 3, cells := 0, slots := 0, locals := 72 } (va_Pc [.ref (b + 0), .ref (b + 40)] (zx_w g σ)) (va_Qv (fun u => u = (ap b σ [(7, 2, 0), (7, 1, 0), (40, 8, 2), (5, 2, 0), (41, 19, 0), (41, 19, 0), (41, 15, 1), (41, 4, 2), (41, 16, (-1)), (37, 2, 2), (38, 1, 13), (41, 16, 13), (41, 7, 1), (41, 5, 1), (5, 2, 1)] [(39, 1, ((10 * (w1.toInt64)) + 1)), (41, 17, ((10 * (w1.toInt64)) + 1))] [(6, 0, (some (b + 40)))])) (zx_w g) (gx_Q g)) 0 0 (gx_Q g) := by
  refine z_met (by decide) (Nat.le_of_ble_eq_true rfl) (fun p e s m below meth c B hr hin => ?_)
  refine z_eqs (σ' := (ap b σ [] [] [])) rfl ?_
  show zx p l e _ s m _ below meth c g 5 0 0 _ _ 0 [(0, .ref (b + 0)), (1, .ref (b + 40))] []
  refine z_aload_n B dX8_goOn_0 rfl 0 rfl ?_
  refine gf_X8_35 (x := (some (b + 5))) B (lKA (hk_K hK 0 rfl rfl)) (rR_at 0 4 hR_0_4) dX8_goOn_1 ?_
  refine z_aload_n B dX8_goOn_4 rfl 1 rfl ?_
  refine z_cVv (As := [.ref (b + 40)]) (rest := []) B cw_X8_337 cx_3 dX8_goOn_5 (ci_X2_addLast_667 l (σ := (ap b σ [] [] [])) (b := b) (lyA hK) (rI_at 5 2 hI_5_2) (rR_at 5 0 hR_5_0)) (lKA (hk_K hK 5 rfl rfl)) rfl (by decide) rfl (Nat.le_of_ble_eq_true rfl) (by decide) (fun u hu => ?_)
  refine z_eqs (σ' := (ap b σ [(5, 2, 1)] [] [(6, 0, (some (b + 40)))])) (hu.trans ap_ap) ?_
  show zx p l e _ s m _ below meth c g 5 0 0 _ _ 8 [(0, .ref (b + 0)), (1, .ref (b + 40))] _
  refine z_iconst (v := 0) B dX8_goOn_8 (by decide) ?_
  refine z_istore_n (lv' := [(2, .int 0), (0, .ref (b + 0)), (1, .ref (b + 40))]) B dX8_goOn_9 rfl (by decide) rfl ?_
  refine z_iload_n B dX8_goOn_10 rfl 0 rfl ?_
  refine z_ldcw (v := 1000000) B dX8_goOn_11 wg_515 ?_
  refine z_icmp_ge (tgt := 126) B dX8_goOn_14 (by decide) (fun h => absurd h (by decide)) (fun _ => ?_)
  refine z_aload_n B dX8_goOn_17 rfl 1 rfl ?_
  refine gf_X8_35 (x := (some (b + 5))) B (lKA (hk_K hK 0 rfl rfl)) (rR_at 0 4 hR_0_4) dX8_goOn_18 ?_
  refine z_cVi (As := []) (rest := []) B cw_X8_341 cx_3 dX8_goOn_21 (ci_X2_isEmpty_668 l (σ := (ap b σ [(5, 2, 1)] [] [(6, 0, (some (b + 40)))])) (b := b) (lyA hK) (rI_at 5 1 hI_5_1) (rI_at 5 2 rfl)) (lKA (hk_K hK 5 rfl rfl)) rfl (by decide) rfl (Nat.le_of_ble_eq_true rfl) (by decide) (fun r u hu => ?_)
  refine z_eqs (σ' := (ap b σ [(5, 2, 1)] [] [(6, 0, (some (b + 40)))])) hu.2 ?_
  show zx p l e _ s m _ below meth c g 5 0 0 _ _ 24 [(2, .int 0), (0, .ref (b + 0)), (1, .ref (b + 40))] _
  refine z_seti (y := 0) hu.1 ?_
  refine z_if_eq (tgt := 41) B dX8_goOn_24 (by decide) (fun _ => ?_) (fun h => absurd (by decide) h)
  refine z_aload_n B dX8_goOn_41 rfl 1 rfl ?_
  refine gf_X8_35 (x := (some (b + 5))) B (lKA (hk_K hK 0 rfl rfl)) (rR_at 0 4 hR_0_4) dX8_goOn_42 ?_
  refine z_cVq (As := []) (rest := []) B cw_X8_348 cx_3 dX8_goOn_45 (ci_X2_last_669 l (σ := (ap b σ [(5, 2, 1)] [] [(6, 0, (some (b + 40)))])) (b := b) (lyA hK) (rI_at 5 1 hI_5_1) (rI_at 5 2 rfl) (rR_at 5 0 hR_5_0) (rR_at 6 0 rfl)) (lKA (hk_K hK 5 rfl rfl)) rfl (by decide) rfl (Nat.le_of_ble_eq_true rfl) (by decide) (fun r u hu => ?_)
  refine z_eqs (σ' := (ap b σ [(5, 2, 1)] [] [(6, 0, (some (b + 40)))])) hu.2 ?_
  show zx p l e _ s m _ below meth c g 5 0 0 _ _ 48 [(2, .int 0), (0, .ref (b + 0)), (1, .ref (b + 40))] _
  refine z_setr (y := (some (b + 40))) hu.1 ?_
  refine z_astore_n (lv' := [(3, .ref (b + 40)), (2, .int 0), (0, .ref (b + 0)), (1, .ref (b + 40))]) B dX8_goOn_48 rfl (by decide) rfl ?_
  refine z_aload_n B dX8_goOn_49 rfl 0 rfl ?_
  refine z_ifnonnull (r := (some (b + 40))) (tgt := 54) B dX8_goOn_50 (by decide) (fun _ _ => ?_) (fun h => nomatch h)
  refine z_aload_n B dX8_goOn_54 rfl 0 rfl ?_
  refine gf_X8_249 (x := (some (b + 41))) B (lKA (hk_K hK 40 rfl rfl)) (rR_at 40 2 hR_40_2) dX8_goOn_55 ?_
  refine z_aload_n B dX8_goOn_58 rfl 0 rfl ?_
  refine gf_X8_179 (x := (some (b + 37))) B (lKA (hk_K hK 40 rfl rfl)) (rR_at 40 1 hR_40_1) dX8_goOn_59 ?_
  refine z_cVi (As := []) (rest := [.ref (b + 41)]) B cw_X8_183 cx_2 dX8_goOn_62 (ci_X1_size_670 l (σ := (ap b σ [(5, 2, 1)] [] [(6, 0, (some (b + 40)))])) (b := b) (lyA hK) (rI_at 37 2 hI_37_2)) (lKA (hk_K hK 37 rfl rfl)) rfl (by decide) rfl (Nat.le_of_ble_eq_true rfl) (by decide) (fun r u hu => ?_)
  refine z_eqs (σ' := (ap b σ [(5, 2, 1)] [] [(6, 0, (some (b + 40)))])) hu.2 ?_
  show zx p l e _ s m _ below meth c g 5 0 0 _ _ 65 [(3, .ref (b + 40)), (2, .int 0), (0, .ref (b + 0)), (1, .ref (b + 40))] _
  refine z_seti (y := 1) hu.1 ?_
  refine z_cVv (As := [.int 1]) (rest := []) B cw_X8_289 cx_6 dX8_goOn_65 (ci_X5_advance_761 l (σ := (ap b σ [(5, 2, 1)] [] [(6, 0, (some (b + 40)))])) (b := b) (lyA hK) w1 (rI_at 18 0 hI_18_0) (rI_at 19 0 hI_19_0) (rI_at 20 0 hI_20_0) (rI_at 41 4 hI_41_4) (rI_at 41 5 hI_41_5) (rI_at 41 6 hI_41_6) (rI_at 41 7 hI_41_7) (rI_at 41 8 hI_41_8) (rI_at 41 14 hI_41_14) (rI_at 41 15 hI_41_15) (rI_at 41 16 hI_41_16) (rI_at 41 19 hI_41_19) (rR_at 17 1 hR_17_1) (rR_at 17 2 hR_17_2) (rR_at 17 3 hR_17_3) (rR_at 41 2 hR_41_2)) (lKA (hk_K hK 41 rfl rfl)) rfl (by decide) rfl (Nat.le_of_ble_eq_true rfl) (by decide) (fun u hu => ?_)
  refine z_eqs (σ' := (ap b σ [(41, 16, 13), (41, 7, 1), (41, 5, 1), (5, 2, 1)] [(41, 17, ((10 * (w1.toInt64)) + 1))] [(6, 0, (some (b + 40)))])) (hu.trans ap_ap) ?_
  show zx p l e _ s m _ below meth c g 5 0 0 _ _ 68 [(3, .ref (b + 40)), (2, .int 0), (0, .ref (b + 0)), (1, .ref (b + 40))] _
  refine z_aload_n B dX8_goOn_68 rfl 0 rfl ?_
  refine z_cVv (As := []) (rest := []) B cw_X8_351 cx_1 dX8_goOn_69 (ci_X0_letGo_679 l (σ := (ap b σ [(41, 16, 13), (41, 7, 1), (41, 5, 1), (5, 2, 1)] [(41, 17, ((10 * (w1.toInt64)) + 1))] [(6, 0, (some (b + 40)))])) (b := b) (lyA hK) (rR_at 40 7 hR_40_7)) (lKA (hk_K hK 40 rfl rfl)) rfl (by decide) rfl (Nat.le_of_ble_eq_true rfl) (by decide) (fun u hu => ?_)
  refine z_eqs (σ' := (ap b σ [(41, 16, 13), (41, 7, 1), (41, 5, 1), (5, 2, 1)] [(41, 17, ((10 * (w1.toInt64)) + 1))] [(6, 0, (some (b + 40)))])) hu ?_
  show zx p l e _ s m _ below meth c g 5 0 0 _ _ 72 [(3, .ref (b + 40)), (2, .int 0), (0, .ref (b + 0)), (1, .ref (b + 40))] _
  refine z_aload_n B dX8_goOn_72 rfl 0 rfl ?_
  refine gf_X8_249 (x := (some (b + 41))) B (lKA (hk_K hK 40 rfl rfl)) (rR_at 40 2 hR_40_2) dX8_goOn_73 ?_
  refine z_cVi (As := []) (rest := []) B cw_X8_354 cx_6 dX8_goOn_76 (ci_X5_wantsEvent_680 l (σ := (ap b σ [(41, 16, 13), (41, 7, 1), (41, 5, 1), (5, 2, 1)] [(41, 17, ((10 * (w1.toInt64)) + 1))] [(6, 0, (some (b + 40)))])) (b := b) (lyA hK) (rI_at 41 16 rfl) (rI_at 41 19 hI_41_19)) (lKA (hk_K hK 41 rfl rfl)) rfl (by decide) rfl (Nat.le_of_ble_eq_true rfl) (by decide) (fun r u hu => ?_)
  refine z_eqs (σ' := (ap b σ [(41, 16, 13), (41, 7, 1), (41, 5, 1), (5, 2, 1)] [(41, 17, ((10 * (w1.toInt64)) + 1))] [(6, 0, (some (b + 40)))])) hu.2 ?_
  show zx p l e _ s m _ below meth c g 5 0 0 _ _ 79 [(3, .ref (b + 40)), (2, .int 0), (0, .ref (b + 0)), (1, .ref (b + 40))] _
  refine z_seti (y := 1) hu.1 ?_
  refine z_if_eq (tgt := 115) B dX8_goOn_79 (by decide) (fun h => absurd h (by decide)) (fun _ => ?_)
  refine z_aload_n B dX8_goOn_82 rfl 2 rfl ?_
  refine z_aload_n B dX8_goOn_83 rfl 0 rfl ?_
  refine z_cVq (As := [.ref (b + 40)]) (rest := []) B cw_X8_357 cx_9 dX8_goOn_84 (ci_X8_make_684 l (σ := (ap b σ [(41, 16, 13), (41, 7, 1), (41, 5, 1), (5, 2, 1)] [(41, 17, ((10 * (w1.toInt64)) + 1))] [(6, 0, (some (b + 40)))])) (b := b) (lyA hK) ((10 * (w1.toInt64)) + 1) (rI_at 37 2 hI_37_2) (rI_at 40 4 hI_40_4) (rI_at 41 16 rfl) (rJ_at 41 17 rfl) (rR_at 37 0 hR_37_0) (rR_at 37 1 hR_37_1) (rR_at 40 1 hR_40_1) (rR_at 40 2 hR_40_2)) (lKA (hk_K hK 0 rfl rfl)) rfl (by decide) rfl (Nat.le_of_ble_eq_true rfl) (by decide) (fun r u hu => ?_)
  refine z_eqs (σ' := (ap b σ [(37, 2, 2), (38, 1, 13), (41, 16, 13), (41, 7, 1), (41, 5, 1), (5, 2, 1)] [(39, 1, ((10 * (w1.toInt64)) + 1)), (41, 17, ((10 * (w1.toInt64)) + 1))] [(6, 0, (some (b + 40)))])) (hu.2.trans ap_ap) ?_
  show zx p l e _ s m _ below meth c g 5 0 0 _ _ 87 [(3, .ref (b + 40)), (2, .int 0), (0, .ref (b + 0)), (1, .ref (b + 40))] _
  refine z_setr (y := none) hu.1 ?_
  refine z_qstore (r := none) (lv' := [(4, .null), (3, .ref (b + 40)), (2, .int 0), (0, .ref (b + 0)), (1, .ref (b + 40))]) B dX8_goOn_87 (by decide) rfl ?_
  refine z_aload_n B dX8_goOn_89 rfl 1 rfl ?_
  refine gf_X8_249 (x := (some (b + 41))) B (lKA (hk_K hK 40 rfl rfl)) (rR_at 40 2 hR_40_2) dX8_goOn_90 ?_
  refine z_aload_n B dX8_goOn_93 rfl 1 rfl ?_
  refine gf_X8_179 (x := (some (b + 37))) B (lKA (hk_K hK 40 rfl rfl)) (rR_at 40 1 hR_40_1) dX8_goOn_94 ?_
  refine z_cVi (As := []) (rest := [.ref (b + 41)]) B cw_X8_183 cx_2 dX8_goOn_97 (ci_X1_size_685 l (σ := (ap b σ [(37, 2, 2), (38, 1, 13), (41, 16, 13), (41, 7, 1), (41, 5, 1), (5, 2, 1)] [(39, 1, ((10 * (w1.toInt64)) + 1)), (41, 17, ((10 * (w1.toInt64)) + 1))] [(6, 0, (some (b + 40)))])) (b := b) (lyA hK) (rI_at 37 2 rfl)) (lKA (hk_K hK 37 rfl rfl)) rfl (by decide) rfl (Nat.le_of_ble_eq_true rfl) (by decide) (fun r u hu => ?_)
  refine z_eqs (σ' := (ap b σ [(37, 2, 2), (38, 1, 13), (41, 16, 13), (41, 7, 1), (41, 5, 1), (5, 2, 1)] [(39, 1, ((10 * (w1.toInt64)) + 1)), (41, 17, ((10 * (w1.toInt64)) + 1))] [(6, 0, (some (b + 40)))])) hu.2 ?_
  show zx p l e _ s m _ below meth c g 5 0 0 _ _ 100 [(4, .null), (3, .ref (b + 40)), (2, .int 0), (0, .ref (b + 0)), (1, .ref (b + 40))] _
  refine z_seti (y := 2) hu.1 ?_
  refine z_cVv (As := [.int 2]) (rest := []) B cw_X8_289 cx_6 dX8_goOn_100 (ci_X5_advance_717 l (σ := (ap b σ [(37, 2, 2), (38, 1, 13), (41, 16, 13), (41, 7, 1), (41, 5, 1), (5, 2, 1)] [(39, 1, ((10 * (w1.toInt64)) + 1)), (41, 17, ((10 * (w1.toInt64)) + 1))] [(6, 0, (some (b + 40)))])) (b := b) (lyA hK) ((10 * (w1.toInt64)) + 1) (iv_ladd (c := 1) (n := 1) rfl (iv_lmul (c := 10) (n := 10) rfl (by decide) (iv_i2l q1_w1 q2_w1).1 (iv_i2l q1_w1 q2_w1).2 (by decide) (by decide)).1 (iv_lmul (c := 10) (n := 10) rfl (by decide) (iv_i2l q1_w1 q2_w1).1 (iv_i2l q1_w1 q2_w1).2 (by decide) (by decide)).2 (by decide) (by decide)).1 (iv_ladd (c := 1) (n := 1) rfl (iv_lmul (c := 10) (n := 10) rfl (by decide) (iv_i2l q1_w1 q2_w1).1 (iv_i2l q1_w1 q2_w1).2 (by decide) (by decide)).1 (iv_lmul (c := 10) (n := 10) rfl (by decide) (iv_i2l q1_w1 q2_w1).1 (iv_i2l q1_w1 q2_w1).2 (by decide) (by decide)).2 (by decide) (by decide)).2 (rI_at 37 2 rfl) (rI_at 38 1 rfl) (rI_at 41 4 hI_41_4) (rI_at 41 16 rfl) (rI_at 41 19 hI_41_19) (rJ_at 39 1 rfl) (rJ_at 41 17 rfl) (rR_at 37 0 hR_37_0) (rR_at 37 1 hR_37_1) (rR_at 41 3 hR_41_3)) (lKA (hk_K hK 41 rfl rfl)) rfl (by decide) rfl (Nat.le_of_ble_eq_true rfl) (by decide) (fun u hu => ?_)
  refine z_eqs (σ' := (ap b σ [(41, 19, 0), (41, 15, 1), (41, 4, 2), (41, 16, (-1)), (37, 2, 2), (38, 1, 13), (41, 16, 13), (41, 7, 1), (41, 5, 1), (5, 2, 1)] [(39, 1, ((10 * (w1.toInt64)) + 1)), (41, 17, ((10 * (w1.toInt64)) + 1))] [(6, 0, (some (b + 40)))])) (hu.trans ap_ap) ?_
  show zx p l e _ s m _ below meth c g 5 0 0 _ _ 103 [(4, .null), (3, .ref (b + 40)), (2, .int 0), (0, .ref (b + 0)), (1, .ref (b + 40))] _
  refine z_aload_n B dX8_goOn_103 rfl 3 rfl ?_
  refine gf_X8_35 (x := (some (b + 5))) B (lKA (hk_K hK 0 rfl rfl)) (rR_at 0 4 hR_0_4) dX8_goOn_104 ?_
  refine z_qload (r := none) B dX8_goOn_107 0 rfl ?_
  refine z_cVv (As := [.null]) (rest := []) B cw_X8_337 cx_3 dX8_goOn_109 (ci_X2_addLast_691 l (σ := (ap b σ [(41, 19, 0), (41, 15, 1), (41, 4, 2), (41, 16, (-1)), (37, 2, 2), (38, 1, 13), (41, 16, 13), (41, 7, 1), (41, 5, 1), (5, 2, 1)] [(39, 1, ((10 * (w1.toInt64)) + 1)), (41, 17, ((10 * (w1.toInt64)) + 1))] [(6, 0, (some (b + 40)))])) (b := b) (lyA hK) ) (lKA (hk_K hK 5 rfl rfl)) rfl (by decide) rfl (Nat.le_of_ble_eq_true rfl) (by decide) (fun u hu => ?_)
  refine z_eqs (σ' := (ap b σ [(41, 19, 0), (41, 15, 1), (41, 4, 2), (41, 16, (-1)), (37, 2, 2), (38, 1, 13), (41, 16, 13), (41, 7, 1), (41, 5, 1), (5, 2, 1)] [(39, 1, ((10 * (w1.toInt64)) + 1)), (41, 17, ((10 * (w1.toInt64)) + 1))] [(6, 0, (some (b + 40)))])) hu ?_
  show zx p l e _ s m _ below meth c g 5 0 0 _ _ 112 [(4, .null), (3, .ref (b + 40)), (2, .int 0), (0, .ref (b + 0)), (1, .ref (b + 40))] _
  refine z_goto (tgt := 120) B dX8_goOn_112 (by decide) ?_
  refine z_iinc (v := 1) (lv' := [(2, .int 1), (4, .null), (3, .ref (b + 40)), (0, .ref (b + 0)), (1, .ref (b + 40))]) B dX8_goOn_120 2 rfl (by decide) (by decide) rfl ?_
  refine z_goto (tgt := 10) B dX8_goOn_123 (by decide) ?_
  refine z_iload_n B dX8_goOn_10 rfl 0 rfl ?_
  refine z_ldcw (v := 1000000) B dX8_goOn_11 wg_515 ?_
  refine z_icmp_ge (tgt := 126) B dX8_goOn_14 (by decide) (fun h => absurd h (by decide)) (fun _ => ?_)
  refine z_aload_n B dX8_goOn_17 rfl 3 rfl ?_
  refine gf_X8_35 (x := (some (b + 5))) B (lKA (hk_K hK 0 rfl rfl)) (rR_at 0 4 hR_0_4) dX8_goOn_18 ?_
  refine z_cVi (As := []) (rest := []) B cw_X8_341 cx_3 dX8_goOn_21 (ci_X2_isEmpty_668 l (σ := (ap b σ [(41, 19, 0), (41, 15, 1), (41, 4, 2), (41, 16, (-1)), (37, 2, 2), (38, 1, 13), (41, 16, 13), (41, 7, 1), (41, 5, 1), (5, 2, 1)] [(39, 1, ((10 * (w1.toInt64)) + 1)), (41, 17, ((10 * (w1.toInt64)) + 1))] [(6, 0, (some (b + 40)))])) (b := b) (lyA hK) (rI_at 5 1 hI_5_1) (rI_at 5 2 rfl)) (lKA (hk_K hK 5 rfl rfl)) rfl (by decide) rfl (Nat.le_of_ble_eq_true rfl) (by decide) (fun r u hu => ?_)
  refine z_eqs (σ' := (ap b σ [(41, 19, 0), (41, 15, 1), (41, 4, 2), (41, 16, (-1)), (37, 2, 2), (38, 1, 13), (41, 16, 13), (41, 7, 1), (41, 5, 1), (5, 2, 1)] [(39, 1, ((10 * (w1.toInt64)) + 1)), (41, 17, ((10 * (w1.toInt64)) + 1))] [(6, 0, (some (b + 40)))])) hu.2 ?_
  show zx p l e _ s m _ below meth c g 5 0 0 _ _ 24 [(2, .int 1), (4, .null), (3, .ref (b + 40)), (0, .ref (b + 0)), (1, .ref (b + 40))] _
  refine z_seti (y := 0) hu.1 ?_
  refine z_if_eq (tgt := 41) B dX8_goOn_24 (by decide) (fun _ => ?_) (fun h => absurd (by decide) h)
  refine z_aload_n B dX8_goOn_41 rfl 3 rfl ?_
  refine gf_X8_35 (x := (some (b + 5))) B (lKA (hk_K hK 0 rfl rfl)) (rR_at 0 4 hR_0_4) dX8_goOn_42 ?_
  refine z_cVq (As := []) (rest := []) B cw_X8_348 cx_3 dX8_goOn_45 (ci_X2_last_669 l (σ := (ap b σ [(41, 19, 0), (41, 15, 1), (41, 4, 2), (41, 16, (-1)), (37, 2, 2), (38, 1, 13), (41, 16, 13), (41, 7, 1), (41, 5, 1), (5, 2, 1)] [(39, 1, ((10 * (w1.toInt64)) + 1)), (41, 17, ((10 * (w1.toInt64)) + 1))] [(6, 0, (some (b + 40)))])) (b := b) (lyA hK) (rI_at 5 1 hI_5_1) (rI_at 5 2 rfl) (rR_at 5 0 hR_5_0) (rR_at 6 0 rfl)) (lKA (hk_K hK 5 rfl rfl)) rfl (by decide) rfl (Nat.le_of_ble_eq_true rfl) (by decide) (fun r u hu => ?_)
  refine z_eqs (σ' := (ap b σ [(41, 19, 0), (41, 15, 1), (41, 4, 2), (41, 16, (-1)), (37, 2, 2), (38, 1, 13), (41, 16, 13), (41, 7, 1), (41, 5, 1), (5, 2, 1)] [(39, 1, ((10 * (w1.toInt64)) + 1)), (41, 17, ((10 * (w1.toInt64)) + 1))] [(6, 0, (some (b + 40)))])) hu.2 ?_
  show zx p l e _ s m _ below meth c g 5 0 0 _ _ 48 [(2, .int 1), (4, .null), (3, .ref (b + 40)), (0, .ref (b + 0)), (1, .ref (b + 40))] _
  refine z_setr (y := (some (b + 40))) hu.1 ?_
  refine z_astore_n (lv' := [(3, .ref (b + 40)), (2, .int 1), (4, .null), (0, .ref (b + 0)), (1, .ref (b + 40))]) B dX8_goOn_48 rfl (by decide) rfl ?_
  refine z_aload_n B dX8_goOn_49 rfl 0 rfl ?_
  refine z_ifnonnull (r := (some (b + 40))) (tgt := 54) B dX8_goOn_50 (by decide) (fun _ _ => ?_) (fun h => nomatch h)
  refine z_aload_n B dX8_goOn_54 rfl 0 rfl ?_
  refine gf_X8_249 (x := (some (b + 41))) B (lKA (hk_K hK 40 rfl rfl)) (rR_at 40 2 hR_40_2) dX8_goOn_55 ?_
  refine z_aload_n B dX8_goOn_58 rfl 0 rfl ?_
  refine gf_X8_179 (x := (some (b + 37))) B (lKA (hk_K hK 40 rfl rfl)) (rR_at 40 1 hR_40_1) dX8_goOn_59 ?_
  refine z_cVi (As := []) (rest := [.ref (b + 41)]) B cw_X8_183 cx_2 dX8_goOn_62 (ci_X1_size_685 l (σ := (ap b σ [(41, 19, 0), (41, 15, 1), (41, 4, 2), (41, 16, (-1)), (37, 2, 2), (38, 1, 13), (41, 16, 13), (41, 7, 1), (41, 5, 1), (5, 2, 1)] [(39, 1, ((10 * (w1.toInt64)) + 1)), (41, 17, ((10 * (w1.toInt64)) + 1))] [(6, 0, (some (b + 40)))])) (b := b) (lyA hK) (rI_at 37 2 rfl)) (lKA (hk_K hK 37 rfl rfl)) rfl (by decide) rfl (Nat.le_of_ble_eq_true rfl) (by decide) (fun r u hu => ?_)
  refine z_eqs (σ' := (ap b σ [(41, 19, 0), (41, 15, 1), (41, 4, 2), (41, 16, (-1)), (37, 2, 2), (38, 1, 13), (41, 16, 13), (41, 7, 1), (41, 5, 1), (5, 2, 1)] [(39, 1, ((10 * (w1.toInt64)) + 1)), (41, 17, ((10 * (w1.toInt64)) + 1))] [(6, 0, (some (b + 40)))])) hu.2 ?_
  show zx p l e _ s m _ below meth c g 5 0 0 _ _ 65 [(3, .ref (b + 40)), (2, .int 1), (4, .null), (0, .ref (b + 0)), (1, .ref (b + 40))] _
  refine z_seti (y := 2) hu.1 ?_
  refine z_cVv (As := [.int 2]) (rest := []) B cw_X8_289 cx_6 dX8_goOn_65 (ci_X5_advance_692 l (σ := (ap b σ [(41, 19, 0), (41, 15, 1), (41, 4, 2), (41, 16, (-1)), (37, 2, 2), (38, 1, 13), (41, 16, 13), (41, 7, 1), (41, 5, 1), (5, 2, 1)] [(39, 1, ((10 * (w1.toInt64)) + 1)), (41, 17, ((10 * (w1.toInt64)) + 1))] [(6, 0, (some (b + 40)))])) (b := b) (lyA hK) (rI_at 41 4 rfl) (rI_at 41 15 rfl) (rI_at 41 16 rfl) (rI_at 41 19 rfl)) (lKA (hk_K hK 41 rfl rfl)) rfl (by decide) rfl (Nat.le_of_ble_eq_true rfl) (by decide) (fun u hu => ?_)
  refine z_eqs (σ' := (ap b σ [(41, 19, 0), (41, 19, 0), (41, 15, 1), (41, 4, 2), (41, 16, (-1)), (37, 2, 2), (38, 1, 13), (41, 16, 13), (41, 7, 1), (41, 5, 1), (5, 2, 1)] [(39, 1, ((10 * (w1.toInt64)) + 1)), (41, 17, ((10 * (w1.toInt64)) + 1))] [(6, 0, (some (b + 40)))])) (hu.trans ap_ap) ?_
  show zx p l e _ s m _ below meth c g 5 0 0 _ _ 68 [(3, .ref (b + 40)), (2, .int 1), (4, .null), (0, .ref (b + 0)), (1, .ref (b + 40))] _
  refine z_aload_n B dX8_goOn_68 rfl 0 rfl ?_
  refine z_cVv (As := []) (rest := []) B cw_X8_351 cx_1 dX8_goOn_69 (ci_X0_letGo_679 l (σ := (ap b σ [(41, 19, 0), (41, 19, 0), (41, 15, 1), (41, 4, 2), (41, 16, (-1)), (37, 2, 2), (38, 1, 13), (41, 16, 13), (41, 7, 1), (41, 5, 1), (5, 2, 1)] [(39, 1, ((10 * (w1.toInt64)) + 1)), (41, 17, ((10 * (w1.toInt64)) + 1))] [(6, 0, (some (b + 40)))])) (b := b) (lyA hK) (rR_at 40 7 hR_40_7)) (lKA (hk_K hK 40 rfl rfl)) rfl (by decide) rfl (Nat.le_of_ble_eq_true rfl) (by decide) (fun u hu => ?_)
  refine z_eqs (σ' := (ap b σ [(41, 19, 0), (41, 19, 0), (41, 15, 1), (41, 4, 2), (41, 16, (-1)), (37, 2, 2), (38, 1, 13), (41, 16, 13), (41, 7, 1), (41, 5, 1), (5, 2, 1)] [(39, 1, ((10 * (w1.toInt64)) + 1)), (41, 17, ((10 * (w1.toInt64)) + 1))] [(6, 0, (some (b + 40)))])) hu ?_
  show zx p l e _ s m _ below meth c g 5 0 0 _ _ 72 [(3, .ref (b + 40)), (2, .int 1), (4, .null), (0, .ref (b + 0)), (1, .ref (b + 40))] _
  refine z_aload_n B dX8_goOn_72 rfl 0 rfl ?_
  refine gf_X8_249 (x := (some (b + 41))) B (lKA (hk_K hK 40 rfl rfl)) (rR_at 40 2 hR_40_2) dX8_goOn_73 ?_
  refine z_cVi (As := []) (rest := []) B cw_X8_354 cx_6 dX8_goOn_76 (ci_X5_wantsEvent_693 l (σ := (ap b σ [(41, 19, 0), (41, 19, 0), (41, 15, 1), (41, 4, 2), (41, 16, (-1)), (37, 2, 2), (38, 1, 13), (41, 16, 13), (41, 7, 1), (41, 5, 1), (5, 2, 1)] [(39, 1, ((10 * (w1.toInt64)) + 1)), (41, 17, ((10 * (w1.toInt64)) + 1))] [(6, 0, (some (b + 40)))])) (b := b) (lyA hK) (rI_at 41 16 rfl) (rI_at 41 19 rfl)) (lKA (hk_K hK 41 rfl rfl)) rfl (by decide) rfl (Nat.le_of_ble_eq_true rfl) (by decide) (fun r u hu => ?_)
  refine z_eqs (σ' := (ap b σ [(41, 19, 0), (41, 19, 0), (41, 15, 1), (41, 4, 2), (41, 16, (-1)), (37, 2, 2), (38, 1, 13), (41, 16, 13), (41, 7, 1), (41, 5, 1), (5, 2, 1)] [(39, 1, ((10 * (w1.toInt64)) + 1)), (41, 17, ((10 * (w1.toInt64)) + 1))] [(6, 0, (some (b + 40)))])) hu.2 ?_
  show zx p l e _ s m _ below meth c g 5 0 0 _ _ 79 [(3, .ref (b + 40)), (2, .int 1), (4, .null), (0, .ref (b + 0)), (1, .ref (b + 40))] _
  refine z_seti (y := 0) hu.1 ?_
  refine z_if_eq (tgt := 115) B dX8_goOn_79 (by decide) (fun _ => ?_) (fun h => absurd (by decide) h)
  refine z_aload_n B dX8_goOn_115 rfl 3 rfl ?_
  refine z_aload_n B dX8_goOn_116 rfl 0 rfl ?_
  refine z_cVv (As := [.ref (b + 40)]) (rest := []) B cw_X8_361 cx_9 dX8_goOn_117 (ci_X8_leave_695 l (σ := (ap b σ [(41, 19, 0), (41, 19, 0), (41, 15, 1), (41, 4, 2), (41, 16, (-1)), (37, 2, 2), (38, 1, 13), (41, 16, 13), (41, 7, 1), (41, 5, 1), (5, 2, 1)] [(39, 1, ((10 * (w1.toInt64)) + 1)), (41, 17, ((10 * (w1.toInt64)) + 1))] [(6, 0, (some (b + 40)))])) (b := b) (lyA hK) (rI_at 5 1 hI_5_1) (rI_at 5 2 rfl) (rI_at 37 2 rfl) (rI_at 40 8 hI_40_8) (rI_at 41 18 hI_41_18) (rI_at 41 19 rfl) (rR_at 0 4 hR_0_4) (rR_at 40 1 hR_40_1) (rR_at 40 2 hR_40_2)) (lKA (hk_K hK 0 rfl rfl)) rfl (by decide) rfl (Nat.le_of_ble_eq_true rfl) (by decide) (fun u hu => ?_)
  refine z_eqs (σ' := (ap b σ [(40, 8, 2), (5, 2, 0), (41, 19, 0), (41, 19, 0), (41, 15, 1), (41, 4, 2), (41, 16, (-1)), (37, 2, 2), (38, 1, 13), (41, 16, 13), (41, 7, 1), (41, 5, 1), (5, 2, 1)] [(39, 1, ((10 * (w1.toInt64)) + 1)), (41, 17, ((10 * (w1.toInt64)) + 1))] [(6, 0, (some (b + 40)))])) (hu.trans ap_ap) ?_
  show zx p l e _ s m _ below meth c g 5 0 0 _ _ 120 [(3, .ref (b + 40)), (2, .int 1), (4, .null), (0, .ref (b + 0)), (1, .ref (b + 40))] _
  refine z_iinc (v := 2) (lv' := [(2, .int 2), (3, .ref (b + 40)), (4, .null), (0, .ref (b + 0)), (1, .ref (b + 40))]) B dX8_goOn_120 1 rfl (by decide) (by decide) rfl ?_
  refine z_goto (tgt := 10) B dX8_goOn_123 (by decide) ?_
  refine z_iload_n B dX8_goOn_10 rfl 0 rfl ?_
  refine z_ldcw (v := 1000000) B dX8_goOn_11 wg_515 ?_
  refine z_icmp_ge (tgt := 126) B dX8_goOn_14 (by decide) (fun h => absurd h (by decide)) (fun _ => ?_)
  refine z_aload_n B dX8_goOn_17 rfl 3 rfl ?_
  refine gf_X8_35 (x := (some (b + 5))) B (lKA (hk_K hK 0 rfl rfl)) (rR_at 0 4 hR_0_4) dX8_goOn_18 ?_
  refine z_cVi (As := []) (rest := []) B cw_X8_341 cx_3 dX8_goOn_21 (ci_X2_isEmpty_696 l (σ := (ap b σ [(40, 8, 2), (5, 2, 0), (41, 19, 0), (41, 19, 0), (41, 15, 1), (41, 4, 2), (41, 16, (-1)), (37, 2, 2), (38, 1, 13), (41, 16, 13), (41, 7, 1), (41, 5, 1), (5, 2, 1)] [(39, 1, ((10 * (w1.toInt64)) + 1)), (41, 17, ((10 * (w1.toInt64)) + 1))] [(6, 0, (some (b + 40)))])) (b := b) (lyA hK) (rI_at 5 1 hI_5_1) (rI_at 5 2 rfl)) (lKA (hk_K hK 5 rfl rfl)) rfl (by decide) rfl (Nat.le_of_ble_eq_true rfl) (by decide) (fun r u hu => ?_)
  refine z_eqs (σ' := (ap b σ [(40, 8, 2), (5, 2, 0), (41, 19, 0), (41, 19, 0), (41, 15, 1), (41, 4, 2), (41, 16, (-1)), (37, 2, 2), (38, 1, 13), (41, 16, 13), (41, 7, 1), (41, 5, 1), (5, 2, 1)] [(39, 1, ((10 * (w1.toInt64)) + 1)), (41, 17, ((10 * (w1.toInt64)) + 1))] [(6, 0, (some (b + 40)))])) hu.2 ?_
  show zx p l e _ s m _ below meth c g 5 0 0 _ _ 24 [(2, .int 2), (3, .ref (b + 40)), (4, .null), (0, .ref (b + 0)), (1, .ref (b + 40))] _
  refine z_seti (y := 1) hu.1 ?_
  refine z_if_eq (tgt := 41) B dX8_goOn_24 (by decide) (fun h => absurd h (by decide)) (fun _ => ?_)
  refine z_aload_n B dX8_goOn_27 rfl 3 rfl ?_
  refine gf_X8_35 (x := (some (b + 5))) B (lKA (hk_K hK 0 rfl rfl)) (rR_at 0 4 hR_0_4) dX8_goOn_28 ?_
  refine z_aload_n B dX8_goOn_31 rfl 3 rfl ?_
  refine gf_X8_39 (x := (some (b + 7))) B (lKA (hk_K hK 0 rfl rfl)) (rR_at 0 5 hR_0_5) dX8_goOn_32 ?_
  refine z_cVq (As := []) (rest := [.ref (b + 5)]) B cw_X8_344 cx_3 dX8_goOn_35 (ci_X2_removeFirst_697 l (σ := (ap b σ [(40, 8, 2), (5, 2, 0), (41, 19, 0), (41, 19, 0), (41, 15, 1), (41, 4, 2), (41, 16, (-1)), (37, 2, 2), (38, 1, 13), (41, 16, 13), (41, 7, 1), (41, 5, 1), (5, 2, 1)] [(39, 1, ((10 * (w1.toInt64)) + 1)), (41, 17, ((10 * (w1.toInt64)) + 1))] [(6, 0, (some (b + 40)))])) (b := b) (lyA hK) (rI_at 7 1 hI_7_1) (rI_at 7 2 hI_7_2)) (lKA (hk_K hK 7 rfl rfl)) rfl (by decide) rfl (Nat.le_of_ble_eq_true rfl) (by decide) (fun r u hu => ?_)
  refine z_eqs (σ' := (ap b σ [(7, 2, 0), (7, 1, 0), (40, 8, 2), (5, 2, 0), (41, 19, 0), (41, 19, 0), (41, 15, 1), (41, 4, 2), (41, 16, (-1)), (37, 2, 2), (38, 1, 13), (41, 16, 13), (41, 7, 1), (41, 5, 1), (5, 2, 1)] [(39, 1, ((10 * (w1.toInt64)) + 1)), (41, 17, ((10 * (w1.toInt64)) + 1))] [(6, 0, (some (b + 40)))])) (hu.2.trans ap_ap) ?_
  show zx p l e _ s m _ below meth c g 5 0 0 _ _ 38 [(2, .int 2), (3, .ref (b + 40)), (4, .null), (0, .ref (b + 0)), (1, .ref (b + 40))] _
  refine z_setr (y := none) hu.1 ?_
  refine z_cVv (As := [.null]) (rest := []) B cw_X8_337 cx_3 dX8_goOn_38 (ci_X2_addLast_691 l (σ := (ap b σ [(7, 2, 0), (7, 1, 0), (40, 8, 2), (5, 2, 0), (41, 19, 0), (41, 19, 0), (41, 15, 1), (41, 4, 2), (41, 16, (-1)), (37, 2, 2), (38, 1, 13), (41, 16, 13), (41, 7, 1), (41, 5, 1), (5, 2, 1)] [(39, 1, ((10 * (w1.toInt64)) + 1)), (41, 17, ((10 * (w1.toInt64)) + 1))] [(6, 0, (some (b + 40)))])) (b := b) (lyA hK) ) (lKA (hk_K hK 5 rfl rfl)) rfl (by decide) rfl (Nat.le_of_ble_eq_true rfl) (by decide) (fun u hu => ?_)
  refine z_eqs (σ' := (ap b σ [(7, 2, 0), (7, 1, 0), (40, 8, 2), (5, 2, 0), (41, 19, 0), (41, 19, 0), (41, 15, 1), (41, 4, 2), (41, 16, (-1)), (37, 2, 2), (38, 1, 13), (41, 16, 13), (41, 7, 1), (41, 5, 1), (5, 2, 1)] [(39, 1, ((10 * (w1.toInt64)) + 1)), (41, 17, ((10 * (w1.toInt64)) + 1))] [(6, 0, (some (b + 40)))])) hu ?_
  show zx p l e _ s m _ below meth c g 5 0 0 _ _ 41 [(2, .int 2), (3, .ref (b + 40)), (4, .null), (0, .ref (b + 0)), (1, .ref (b + 40))] _
  refine z_aload_n B dX8_goOn_41 rfl 3 rfl ?_
  refine gf_X8_35 (x := (some (b + 5))) B (lKA (hk_K hK 0 rfl rfl)) (rR_at 0 4 hR_0_4) dX8_goOn_42 ?_
  refine z_cVq (As := []) (rest := []) B cw_X8_348 cx_3 dX8_goOn_45 (ci_X2_last_698 l (σ := (ap b σ [(7, 2, 0), (7, 1, 0), (40, 8, 2), (5, 2, 0), (41, 19, 0), (41, 19, 0), (41, 15, 1), (41, 4, 2), (41, 16, (-1)), (37, 2, 2), (38, 1, 13), (41, 16, 13), (41, 7, 1), (41, 5, 1), (5, 2, 1)] [(39, 1, ((10 * (w1.toInt64)) + 1)), (41, 17, ((10 * (w1.toInt64)) + 1))] [(6, 0, (some (b + 40)))])) (b := b) (lyA hK) (rI_at 5 1 hI_5_1) (rI_at 5 2 rfl)) (lKA (hk_K hK 5 rfl rfl)) rfl (by decide) rfl (Nat.le_of_ble_eq_true rfl) (by decide) (fun r u hu => ?_)
  refine z_eqs (σ' := (ap b σ [(7, 2, 0), (7, 1, 0), (40, 8, 2), (5, 2, 0), (41, 19, 0), (41, 19, 0), (41, 15, 1), (41, 4, 2), (41, 16, (-1)), (37, 2, 2), (38, 1, 13), (41, 16, 13), (41, 7, 1), (41, 5, 1), (5, 2, 1)] [(39, 1, ((10 * (w1.toInt64)) + 1)), (41, 17, ((10 * (w1.toInt64)) + 1))] [(6, 0, (some (b + 40)))])) hu.2 ?_
  show zx p l e _ s m _ below meth c g 5 0 0 _ _ 48 [(2, .int 2), (3, .ref (b + 40)), (4, .null), (0, .ref (b + 0)), (1, .ref (b + 40))] _
  refine z_setr (y := none) hu.1 ?_
  refine z_qstore_n (r := none) (lv' := [(3, .null), (2, .int 2), (4, .null), (0, .ref (b + 0)), (1, .ref (b + 40))]) B dX8_goOn_48 rfl (by decide) rfl ?_
  refine z_qload_n (r := none) B dX8_goOn_49 rfl 0 rfl ?_
  refine z_ifnonnull (r := none) (tgt := 54) B dX8_goOn_50 (by decide) (fun a h => nomatch h) (fun _ => ?_)
  exact z_vret B hr (by decide) (by decide) dX8_goOn_53 rfl
set_option maxRecDepth 100000 in
set_option maxHeartbeats 4000000 in
theorem ci_X8_start_772 (l : Launch) {g : gx_T} {σ : sx_T} {b : Nat} (hK : lay b σ) (w1 : Int32) (q1_w1 : (0 : Int) ≤ w1.toInt) (q2_w1 : w1.toInt ≤ (999 : Int)) (hI_0_7 : sx_I σ (b + 0) 7 = 0) (hI_5_1 : sx_I σ (b + 5) 1 = 0) (hI_5_2 : sx_I σ (b + 5) 2 = 0) (hI_7_1 : sx_I σ (b + 7) 1 = 0) (hI_7_2 : sx_I σ (b + 7) 2 = 0) (hI_18_0 : sx_I σ (b + 18) 0 = 0) (hI_19_0 : sx_I σ (b + 19) 0 = 0) (hI_20_0 : sx_I σ (b + 20) 0 = 0) (hI_37_2 : sx_I σ (b + 37) 2 = 0) (hI_40_0 : sx_I σ (b + 40) 0 = 0) (hI_40_8 : sx_I σ (b + 40) 8 = 0) (hR_0_0 : sx_R σ (b + 0) 0 = (some (b + 1))) (hR_0_2 : sx_R σ (b + 0) 2 = (some (b + 3))) (hR_0_4 : sx_R σ (b + 0) 4 = (some (b + 5))) (hR_0_5 : sx_R σ (b + 0) 5 = (some (b + 7))) (hR_1_2 : sx_R σ (b + 1) 2 = (some (b + 17))) (hR_3_0 : sx_R σ (b + 3) 0 = (some (b + 40))) (hR_5_0 : sx_R σ (b + 5) 0 = (some (b + 6))) (hR_17_1 : sx_R σ (b + 17) 1 = (some (b + 18))) (hR_17_2 : sx_R σ (b + 17) 2 = (some (b + 19))) (hR_17_3 : sx_R σ (b + 17) 3 = (some (b + 20))) (hR_37_0 : sx_R σ (b + 37) 0 = (some (b + 38))) (hR_37_1 : sx_R σ (b + 37) 1 = (some (b + 39))) (hR_40_1 : sx_R σ (b + 40) 1 = (some (b + 37))) (hR_40_2 : sx_R σ (b + 40) 2 = (some (b + 41))) (hR_40_7 : sx_R σ (b + 40) 7 = none) (hR_41_0 : sx_R σ (b + 41) 0 = (some (b + 42))) (hR_41_1 : sx_R σ (b + 41) 1 = (some (b + 44))) : Met l yX8_start (.code yX8_start cX8_start 5 (some .int) :: lw_g) { frames := 4, cells := 0, slots := 0, locals := 96 } (va_Pc [.ref (b + 0), .int 2, .int w1] (zx_w g σ)) (va_Qi (fun r u => r = 0 ∧ u = (ap b σ [(7, 2, 0), (7, 1, 0), (40, 8, 2), (5, 2, 0), (41, 19, 0), (41, 19, 0), (41, 15, 1), (41, 4, 2), (41, 16, (-1)), (37, 2, 2), (38, 1, 13), (41, 16, 13), (41, 7, 1), (41, 5, 1), (5, 2, 1), (41, 19, 0), (41, 18, (-1)), (41, 16, (-1)), (41, 15, 0), (41, 14, 0), (41, 13, 0), (41, 12, 0), (41, 10, (-1)), (41, 9, (-1)), (41, 8, 0), (41, 7, 0), (41, 6, ((w1.toInt64).toInt32)), (41, 5, 0), (41, 4, 1), (44, 1, 0), (42, 1, 0), (37, 2, 1), (38, 0, 0), (40, 5, 0), (40, 4, (-1)), (0, 7, 1)] [(39, 1, ((10 * (((w1.toInt64).toInt32).toInt64)) + 1)), (41, 17, ((10 * (((w1.toInt64).toInt32).toInt64)) + 1)), (41, 17, 0), (41, 11, 0), (39, 0, (w1.toInt64))] [(6, 0, (some (b + 40))), (41, 3, (some (b + 37))), (41, 2, (some (b + 17))), (40, 3, (some (b + 17)))])) (zx_w g) (gx_Q g)) 0 0 (gx_Q g) := by
  refine z_met (by decide) (Nat.le_of_ble_eq_true rfl) (fun p e s m below meth c B hr hin => ?_)
  refine z_eqs (σ' := (ap b σ [] [] [])) rfl ?_
  show zx p l e _ s m _ below meth c g 5 0 0 _ _ 0 [(0, .ref (b + 0)), (1, .int 2), (2, .int w1)] []
  refine z_aload_n B dX8_start_0 rfl 0 rfl ?_
  refine z_iload_n B dX8_start_1 rfl 1 rfl ?_
  refine z_cVq (As := [.int 2]) (rest := []) B cw_X8_64 cx_9 dX8_start_2 (ci_X8_programAt_171 l (σ := (ap b σ [] [] [])) (b := b) (lyA hK) (rR_at 0 0 hR_0_0) (rR_at 1 2 hR_1_2)) (lKA (hk_K hK 0 rfl rfl)) rfl (by decide) rfl (Nat.le_of_ble_eq_true rfl) (by decide) (fun r u hu => ?_)
  refine z_eqs (σ' := (ap b σ [] [] [])) hu.2 ?_
  show zx p l e _ s m _ below meth c g 5 0 0 _ _ 5 [(0, .ref (b + 0)), (1, .int 2), (2, .int w1)] _
  refine z_setr (y := (some (b + 17))) hu.1 ?_
  refine z_astore_n (lv' := [(3, .ref (b + 17)), (0, .ref (b + 0)), (1, .int 2), (2, .int w1)]) B dX8_start_5 rfl (by decide) rfl ?_
  refine z_aload_n B dX8_start_6 rfl 0 rfl ?_
  refine z_ifnonnull (r := (some (b + 17))) (tgt := 20) B dX8_start_7 (by decide) (fun _ _ => ?_) (fun h => nomatch h)
  refine z_iload_n B dX8_start_20 rfl 3 rfl ?_
  refine z_sipush (v := (-999)) B dX8_start_21 (by decide) ?_
  refine z_icmp_lt (tgt := 34) B dX8_start_24 (by decide) (fun h => absurd h (iv_nlt q1_w1 (by decide))) (fun _ => ?_)
  refine z_iload_n B dX8_start_27 rfl 3 rfl ?_
  refine z_sipush (v := 999) B dX8_start_28 (by decide) ?_
  refine z_icmp_le (tgt := 44) B dX8_start_31 (by decide) (fun _ => ?_) (fun h => absurd (iv_le q2_w1 (by decide)) h)
  refine z_aload_n B dX8_start_44 rfl 1 rfl ?_
  refine z_aload_n B dX8_start_45 rfl 0 rfl ?_
  refine z_iload_n B dX8_start_46 rfl 3 rfl ?_
  refine z_iconst (v := (-1)) B dX8_start_47 (by decide) ?_
  refine z_iconst (v := (-1)) B dX8_start_48 (by decide) ?_
  refine z_cVq (As := [.ref (b + 17), .int w1, .int (-1), .int (-1)]) (rest := []) B cw_X8_141 cx_9 dX8_start_49 (ci_X8_open_756 l (σ := (ap b σ [] [] [])) (b := b) (lyA hK) w1 (rI_at 0 7 hI_0_7) (rI_at 37 2 hI_37_2) (rI_at 40 0 hI_40_0) (rR_at 0 2 hR_0_2) (rR_at 3 0 hR_3_0) (rR_at 37 0 hR_37_0) (rR_at 37 1 hR_37_1) (rR_at 40 1 hR_40_1) (rR_at 40 2 hR_40_2) (rR_at 41 0 hR_41_0) (rR_at 41 1 hR_41_1)) (lKA (hk_K hK 0 rfl rfl)) rfl (by decide) rfl (Nat.le_of_ble_eq_true rfl) (by decide) (fun r u hu => ?_)
  refine z_eqs (σ' := (ap b σ [(41, 19, 0), (41, 18, (-1)), (41, 16, (-1)), (41, 15, 0), (41, 14, 0), (41, 13, 0), (41, 12, 0), (41, 10, (-1)), (41, 9, (-1)), (41, 8, 0), (41, 7, 0), (41, 6, ((w1.toInt64).toInt32)), (41, 5, 0), (41, 4, 1), (44, 1, 0), (42, 1, 0), (37, 2, 1), (38, 0, 0), (40, 5, 0), (40, 4, (-1)), (0, 7, 1)] [(41, 17, 0), (41, 11, 0), (39, 0, (w1.toInt64))] [(41, 3, (some (b + 37))), (41, 2, (some (b + 17))), (40, 3, (some (b + 17)))])) (hu.2.trans ap_ap) ?_
  show zx p l e _ s m _ below meth c g 5 0 0 _ _ 52 [(3, .ref (b + 17)), (0, .ref (b + 0)), (1, .int 2), (2, .int w1)] _
  refine z_setr (y := (some (b + 40))) hu.1 ?_
  refine z_astore (lv' := [(4, .ref (b + 40)), (3, .ref (b + 17)), (0, .ref (b + 0)), (1, .int 2), (2, .int w1)]) B dX8_start_52 (by decide) rfl ?_
  refine z_aload B dX8_start_54 0 rfl ?_
  refine z_ifnonnull (r := (some (b + 40))) (tgt := 69) B dX8_start_56 (by decide) (fun _ _ => ?_) (fun h => nomatch h)
  refine z_aload_n B dX8_start_69 rfl 2 rfl ?_
  refine z_aload B dX8_start_70 0 rfl ?_
  refine z_cVv (As := [.ref (b + 40)]) (rest := []) B cw_X8_111 cx_9 dX8_start_72 (ci_X8_goOn_771 l (σ := (ap b σ [(41, 19, 0), (41, 18, (-1)), (41, 16, (-1)), (41, 15, 0), (41, 14, 0), (41, 13, 0), (41, 12, 0), (41, 10, (-1)), (41, 9, (-1)), (41, 8, 0), (41, 7, 0), (41, 6, ((w1.toInt64).toInt32)), (41, 5, 0), (41, 4, 1), (44, 1, 0), (42, 1, 0), (37, 2, 1), (38, 0, 0), (40, 5, 0), (40, 4, (-1)), (0, 7, 1)] [(41, 17, 0), (41, 11, 0), (39, 0, (w1.toInt64))] [(41, 3, (some (b + 37))), (41, 2, (some (b + 17))), (40, 3, (some (b + 17)))])) (b := b) (lyA hK) ((w1.toInt64).toInt32) (iv_l2i (iv_i2l q1_w1 q2_w1).1 (iv_i2l q1_w1 q2_w1).2 (by decide) (by decide)).1 (iv_l2i (iv_i2l q1_w1 q2_w1).1 (iv_i2l q1_w1 q2_w1).2 (by decide) (by decide)).2 (rI_at 5 1 hI_5_1) (rI_at 5 2 hI_5_2) (rI_at 7 1 hI_7_1) (rI_at 7 2 hI_7_2) (rI_at 18 0 hI_18_0) (rI_at 19 0 hI_19_0) (rI_at 20 0 hI_20_0) (rI_at 37 2 rfl) (rI_at 40 4 rfl) (rI_at 40 8 hI_40_8) (rI_at 41 4 rfl) (rI_at 41 5 rfl) (rI_at 41 6 rfl) (rI_at 41 7 rfl) (rI_at 41 8 rfl) (rI_at 41 14 rfl) (rI_at 41 15 rfl) (rI_at 41 16 rfl) (rI_at 41 18 rfl) (rI_at 41 19 rfl) (rR_at 0 4 hR_0_4) (rR_at 0 5 hR_0_5) (rR_at 5 0 hR_5_0) (rR_at 17 1 hR_17_1) (rR_at 17 2 hR_17_2) (rR_at 17 3 hR_17_3) (rR_at 37 0 hR_37_0) (rR_at 37 1 hR_37_1) (rR_at 40 1 hR_40_1) (rR_at 40 2 hR_40_2) (rR_at 40 7 hR_40_7) (rR_at 41 2 rfl) (rR_at 41 3 rfl)) (lKA (hk_K hK 0 rfl rfl)) rfl (by decide) rfl (Nat.le_of_ble_eq_true rfl) (by decide) (fun u hu => ?_)
  refine z_eqs (σ' := (ap b σ [(7, 2, 0), (7, 1, 0), (40, 8, 2), (5, 2, 0), (41, 19, 0), (41, 19, 0), (41, 15, 1), (41, 4, 2), (41, 16, (-1)), (37, 2, 2), (38, 1, 13), (41, 16, 13), (41, 7, 1), (41, 5, 1), (5, 2, 1), (41, 19, 0), (41, 18, (-1)), (41, 16, (-1)), (41, 15, 0), (41, 14, 0), (41, 13, 0), (41, 12, 0), (41, 10, (-1)), (41, 9, (-1)), (41, 8, 0), (41, 7, 0), (41, 6, ((w1.toInt64).toInt32)), (41, 5, 0), (41, 4, 1), (44, 1, 0), (42, 1, 0), (37, 2, 1), (38, 0, 0), (40, 5, 0), (40, 4, (-1)), (0, 7, 1)] [(39, 1, ((10 * (((w1.toInt64).toInt32).toInt64)) + 1)), (41, 17, ((10 * (((w1.toInt64).toInt32).toInt64)) + 1)), (41, 17, 0), (41, 11, 0), (39, 0, (w1.toInt64))] [(6, 0, (some (b + 40))), (41, 3, (some (b + 37))), (41, 2, (some (b + 17))), (40, 3, (some (b + 17)))])) (hu.trans ap_ap) ?_
  show zx p l e _ s m _ below meth c g 5 0 0 _ _ 75 [(4, .ref (b + 40)), (3, .ref (b + 17)), (0, .ref (b + 0)), (1, .int 2), (2, .int w1)] _
  refine z_aload B dX8_start_75 0 rfl ?_
  refine gf_X8_150 (x := 0) B (lKA (hk_K hK 40 rfl rfl)) (rI_at 40 0 hI_40_0) dX8_start_77 ?_
  exact z_iret B hr (by decide) (by decide) dX8_start_80 ⟨rfl, rfl⟩
set_option maxRecDepth 100000 in
set_option maxHeartbeats 4000000 in
theorem ci_L_start_773 (l : Launch) {g : gx_T} {σ : sx_T} {b : Nat} (hK : lay b σ) (w1 : Int32) (q1_w1 : (0 : Int) ≤ w1.toInt) (q2_w1 : w1.toInt ≤ (999 : Int)) (hI_0_7 : sx_I σ (b + 0) 7 = 0) (hI_5_1 : sx_I σ (b + 5) 1 = 0) (hI_5_2 : sx_I σ (b + 5) 2 = 0) (hI_7_1 : sx_I σ (b + 7) 1 = 0) (hI_7_2 : sx_I σ (b + 7) 2 = 0) (hI_18_0 : sx_I σ (b + 18) 0 = 0) (hI_19_0 : sx_I σ (b + 19) 0 = 0) (hI_20_0 : sx_I σ (b + 20) 0 = 0) (hI_37_2 : sx_I σ (b + 37) 2 = 0) (hI_40_0 : sx_I σ (b + 40) 0 = 0) (hI_40_8 : sx_I σ (b + 40) 8 = 0) (hR_0_0 : sx_R σ (b + 0) 0 = (some (b + 1))) (hR_0_2 : sx_R σ (b + 0) 2 = (some (b + 3))) (hR_0_4 : sx_R σ (b + 0) 4 = (some (b + 5))) (hR_0_5 : sx_R σ (b + 0) 5 = (some (b + 7))) (hR_1_2 : sx_R σ (b + 1) 2 = (some (b + 17))) (hR_3_0 : sx_R σ (b + 3) 0 = (some (b + 40))) (hR_5_0 : sx_R σ (b + 5) 0 = (some (b + 6))) (hR_17_1 : sx_R σ (b + 17) 1 = (some (b + 18))) (hR_17_2 : sx_R σ (b + 17) 2 = (some (b + 19))) (hR_17_3 : sx_R σ (b + 17) 3 = (some (b + 20))) (hR_37_0 : sx_R σ (b + 37) 0 = (some (b + 38))) (hR_37_1 : sx_R σ (b + 37) 1 = (some (b + 39))) (hR_40_1 : sx_R σ (b + 40) 1 = (some (b + 37))) (hR_40_2 : sx_R σ (b + 40) 2 = (some (b + 41))) (hR_40_7 : sx_R σ (b + 40) 7 = none) (hR_41_0 : sx_R σ (b + 41) 0 = (some (b + 42))) (hR_41_1 : sx_R σ (b + 41) 1 = (some (b + 44))) : Met l yL_start (.codeWith yL_start cL_start 5 (some .int) [(0, 10, 13, 13), (0, 10, 17, 15), (0, 10, 21, 24)] :: lw_g) { frames := 5, cells := 0, slots := 0, locals := 120 } (va_Pc [.ref (b + 0), .int 2, .int w1, .ref (b + 431)] (zx_w g σ)) (va_Qi (fun r u => r = 0 ∧ u = (ap b σ [(7, 2, 0), (7, 1, 0), (40, 8, 2), (5, 2, 0), (41, 19, 0), (41, 19, 0), (41, 15, 1), (41, 4, 2), (41, 16, (-1)), (37, 2, 2), (38, 1, 13), (41, 16, 13), (41, 7, 1), (41, 5, 1), (5, 2, 1), (41, 19, 0), (41, 18, (-1)), (41, 16, (-1)), (41, 15, 0), (41, 14, 0), (41, 13, 0), (41, 12, 0), (41, 10, (-1)), (41, 9, (-1)), (41, 8, 0), (41, 7, 0), (41, 6, ((w1.toInt64).toInt32)), (41, 5, 0), (41, 4, 1), (44, 1, 0), (42, 1, 0), (37, 2, 1), (38, 0, 0), (40, 5, 0), (40, 4, (-1)), (0, 7, 1)] [(431, 0, 0), (39, 1, ((10 * (((w1.toInt64).toInt32).toInt64)) + 1)), (41, 17, ((10 * (((w1.toInt64).toInt32).toInt64)) + 1)), (41, 17, 0), (41, 11, 0), (39, 0, (w1.toInt64))] [(6, 0, (some (b + 40))), (41, 3, (some (b + 37))), (41, 2, (some (b + 17))), (40, 3, (some (b + 17)))])) (zx_w g) (gx_Q g)) 0 0 (gx_Q g) := by
  refine z_metW (by decide) (Nat.le_of_ble_eq_true rfl) (fun p e s m below meth c B hr htab => ?_)
  refine z_eqs (σ' := (ap b σ [] [] [])) rfl ?_
  show zx p l e _ s m _ below meth c g 5 0 0 _ _ 0 [(0, .ref (b + 0)), (1, .int 2), (2, .int w1), (3, .ref (b + 431))] []
  refine z_aload_n B dL_start_0 rfl 3 rfl ?_
  refine z_iconst (v := 0) B dL_start_1 (by decide) ?_
  refine z_aload_n B dL_start_2 rfl 0 rfl ?_
  refine z_iload_n B dL_start_3 rfl 1 rfl ?_
  refine z_iload_n B dL_start_4 rfl 2 rfl ?_
  refine z_cVi (As := [.int 2, .int w1]) (rest := [.int 0, .ref (b + 431)]) B cw_L_20 cx_9 dL_start_5 (ci_X8_start_772 l (σ := (ap b σ [] [] [])) (b := b) (lyA hK) w1 q1_w1 q2_w1 (rI_at 0 7 hI_0_7) (rI_at 5 1 hI_5_1) (rI_at 5 2 hI_5_2) (rI_at 7 1 hI_7_1) (rI_at 7 2 hI_7_2) (rI_at 18 0 hI_18_0) (rI_at 19 0 hI_19_0) (rI_at 20 0 hI_20_0) (rI_at 37 2 hI_37_2) (rI_at 40 0 hI_40_0) (rI_at 40 8 hI_40_8) (rR_at 0 0 hR_0_0) (rR_at 0 2 hR_0_2) (rR_at 0 4 hR_0_4) (rR_at 0 5 hR_0_5) (rR_at 1 2 hR_1_2) (rR_at 3 0 hR_3_0) (rR_at 5 0 hR_5_0) (rR_at 17 1 hR_17_1) (rR_at 17 2 hR_17_2) (rR_at 17 3 hR_17_3) (rR_at 37 0 hR_37_0) (rR_at 37 1 hR_37_1) (rR_at 40 1 hR_40_1) (rR_at 40 2 hR_40_2) (rR_at 40 7 hR_40_7) (rR_at 41 0 hR_41_0) (rR_at 41 1 hR_41_1)) (lKA (hk_K hK 0 rfl rfl)) rfl (by decide) rfl (Nat.le_of_ble_eq_true rfl) (by decide) (fun r u hu => ?_)
  refine z_eqs (σ' := (ap b σ [(7, 2, 0), (7, 1, 0), (40, 8, 2), (5, 2, 0), (41, 19, 0), (41, 19, 0), (41, 15, 1), (41, 4, 2), (41, 16, (-1)), (37, 2, 2), (38, 1, 13), (41, 16, 13), (41, 7, 1), (41, 5, 1), (5, 2, 1), (41, 19, 0), (41, 18, (-1)), (41, 16, (-1)), (41, 15, 0), (41, 14, 0), (41, 13, 0), (41, 12, 0), (41, 10, (-1)), (41, 9, (-1)), (41, 8, 0), (41, 7, 0), (41, 6, ((w1.toInt64).toInt32)), (41, 5, 0), (41, 4, 1), (44, 1, 0), (42, 1, 0), (37, 2, 1), (38, 0, 0), (40, 5, 0), (40, 4, (-1)), (0, 7, 1)] [(39, 1, ((10 * (((w1.toInt64).toInt32).toInt64)) + 1)), (41, 17, ((10 * (((w1.toInt64).toInt32).toInt64)) + 1)), (41, 17, 0), (41, 11, 0), (39, 0, (w1.toInt64))] [(6, 0, (some (b + 40))), (41, 3, (some (b + 37))), (41, 2, (some (b + 17))), (40, 3, (some (b + 17)))])) (hu.2.trans ap_ap) ?_
  show zx p l e _ s m _ below meth c g 5 0 0 _ _ 8 [(0, .ref (b + 0)), (1, .int 2), (2, .int w1), (3, .ref (b + 431))] _
  refine z_seti (y := 0) hu.1 ?_
  refine z_i2l (v := 0) B dL_start_8 (by decide) ?_
  refine z_last (j := 0) (σ' := (ap b σ [(7, 2, 0), (7, 1, 0), (40, 8, 2), (5, 2, 0), (41, 19, 0), (41, 19, 0), (41, 15, 1), (41, 4, 2), (41, 16, (-1)), (37, 2, 2), (38, 1, 13), (41, 16, 13), (41, 7, 1), (41, 5, 1), (5, 2, 1), (41, 19, 0), (41, 18, (-1)), (41, 16, (-1)), (41, 15, 0), (41, 14, 0), (41, 13, 0), (41, 12, 0), (41, 10, (-1)), (41, 9, (-1)), (41, 8, 0), (41, 7, 0), (41, 6, ((w1.toInt64).toInt32)), (41, 5, 0), (41, 4, 1), (44, 1, 0), (42, 1, 0), (37, 2, 1), (38, 0, 0), (40, 5, 0), (40, 4, (-1)), (0, 7, 1)] [(431, 0, 0), (39, 1, ((10 * (((w1.toInt64).toInt32).toInt64)) + 1)), (41, 17, ((10 * (((w1.toInt64).toInt32).toInt64)) + 1)), (41, 17, 0), (41, 11, 0), (39, 0, (w1.toInt64))] [(6, 0, (some (b + 40))), (41, 3, (some (b + 37))), (41, 2, (some (b + 17))), (40, 3, (some (b + 17)))])) B (lKA (hk_K hK 431 rfl rfl)) (by decide) (in_of (lNA (hk_N hK 431 rfl rfl)) (show ¬ ((0 : Int32) < 0 ∨ 1 ≤ (0 : Int32).toNatClampNeg) by decide)) wJ_ap dL_start_9 ?_
  refine z_goto (tgt := 25) B dL_start_10 (by decide) ?_
  refine z_iconst (v := 0) B dL_start_25 (by decide) ?_
  exact z_iret B hr (by decide) (by decide) dL_start_26 ⟨rfl, rfl⟩
set_option maxRecDepth 100000 in
set_option maxHeartbeats 4000000 in
theorem ci_X9_start_774 (l : Launch) {g : gx_T} {σ : sx_T} {b : Nat} (hK : lay b σ) (w1 : Int32) (q1_w1 : (0 : Int) ≤ w1.toInt) (q2_w1 : w1.toInt ≤ (999 : Int)) (hI_405_6 : sx_I σ (b + 405) 6 = 0) (hI_405_16 : sx_I σ (b + 405) 16 = 0) (hI_406_40 : sx_I σ (b + 406) 40 = 0) (hI_407_40 : sx_I σ (b + 407) 40 = 0) (hI_412_0 : sx_I σ (b + 412) 0 = 0) (hI_413_0 : sx_I σ (b + 413) 0 = 0) (hR_405_3 : sx_R σ (b + 405) 3 = (some (b + 406))) (hR_405_4 : sx_R σ (b + 405) 4 = (some (b + 407))) (hR_405_7 : sx_R σ (b + 405) 7 = (some (b + 409))) (hR_405_8 : sx_R σ (b + 405) 8 = (some (b + 410))) (hR_405_9 : sx_R σ (b + 405) 9 = (some (b + 411))) (hR_405_10 : sx_R σ (b + 405) 10 = (some (b + 412))) (hR_405_11 : sx_R σ (b + 405) 11 = (some (b + 413))) (hR_405_12 : sx_R σ (b + 405) 12 = (some (b + 414))) (hR_405_13 : sx_R σ (b + 405) 13 = (some (b + 415))) (hR_405_14 : sx_R σ (b + 405) 14 = (some (b + 416))) (hR_405_15 : sx_R σ (b + 405) 15 = (some (b + 417))) (hR_405_42 : sx_R σ (b + 405) 42 = (some (b + 428))) : Met l yX9_start (.code yX9_start cX9_start 4 (some .int) :: lw_g) { frames := 6, cells := 0, slots := 0, locals := 154 } (va_Pc [.ref (b + 405), .int 2, .int w1] (zx_w g σ)) (va_Qi (fun r u => r = 0 ∧ u = (ap b σ [(412, 0, 1), (414, 0, 2), (405, 26, 1), (405, 37, 1), (405, 27, 2), (413, 0, 2), (416, 1, 13), (405, 28, 1), (405, 38, 1), (405, 48, (-1)), (405, 27, 1), (405, 29, ((w1.toInt64).toInt32)), (405, 26, 1), (405, 47, 1), (405, 39, 0), (405, 38, 0), (405, 37, 0), (405, 36, 0), (405, 35, 0), (405, 34, 0), (405, 32, 0), (405, 31, 0), (405, 30, 0), (405, 29, 0), (405, 28, 0), (405, 27, 0), (405, 26, 1), (428, 0, 0), (405, 45, 0), (405, 43, 0), (413, 0, 1), (416, 0, 0), (415, 0, (-1)), (411, 0, 0), (410, 0, (-1)), (409, 0, 2), (405, 6, 1), (405, 0, 0)] [(417, 1, ((10 * (((w1.toInt64).toInt32).toInt64)) + 1)), (417, 0, (w1.toInt64))] [])) (zx_w g) (gx_Q g)) 0 0 (gx_Q g) := by
  refine z_met (by decide) (Nat.le_of_ble_eq_true rfl) (fun p e s m below meth c B hr hin => ?_)
  refine z_eqs (σ' := (ap b σ [] [] [])) rfl ?_
  show zx p l e _ s m _ below meth c g 4 0 0 _ _ 0 [(0, .ref (b + 405)), (1, .int 2), (2, .int w1)] []
  refine z_aload_n B dX9_start_0 rfl 0 rfl ?_
  refine z_iload_n B dX9_start_1 rfl 1 rfl ?_
  refine z_iconst (v := 0) B dX9_start_2 (by decide) ?_
  refine z_iconst (v := 5) B dX9_start_3 (by decide) ?_
  refine z_cSi (As := [.int 2, .int 0, .int 5]) (rest := [.ref (b + 405)]) B cw_X9_96 dX9_start_4 (ci_X9_in_174 l (σ := (ap b σ [] [] [])) (b := b) (lyA hK) ) rfl (by decide) rfl (Nat.le_of_ble_eq_true rfl) (by decide) (fun r u hu => ?_)
  refine z_eqs (σ' := (ap b σ [] [] [])) hu.2 ?_
  show zx p l e _ s m _ below meth c g 4 0 0 _ _ 7 [(0, .ref (b + 405)), (1, .int 2), (2, .int w1)] _
  refine z_seti (y := 1) hu.1 ?_
  refine z_iload_n B dX9_start_7 rfl 2 rfl ?_
  refine z_sipush (v := (-999)) B dX9_start_8 (by decide) ?_
  refine z_sipush (v := 999) B dX9_start_11 (by decide) ?_
  refine z_cSi (As := [.int w1, .int (-999), .int 999]) (rest := [.int 1, .ref (b + 405)]) B cw_X9_96 dX9_start_14 (ci_X9_in_721 l (σ := (ap b σ [] [] [])) (b := b) (lyA hK) w1 q1_w1 q2_w1) rfl (by decide) rfl (Nat.le_of_ble_eq_true rfl) (by decide) (fun r u hu => ?_)
  refine z_eqs (σ' := (ap b σ [] [] [])) hu.2 ?_
  show zx p l e _ s m _ below meth c g 4 0 0 _ _ 17 [(0, .ref (b + 405)), (1, .int 2), (2, .int w1)] _
  refine z_seti (y := 1) hu.1 ?_
  refine z_aload_n B dX9_start_17 rfl 0 rfl ?_
  refine gf_X9_93 (x := 0) B (lKA (hk_K hK 405 rfl rfl)) (rI_at 405 6 hI_405_6) dX9_start_18 ?_
  refine z_bipush (v := 40) B dX9_start_21 (by decide) ?_
  refine z_icmp_ge (tgt := 30) B dX9_start_23 (by decide) (fun h => absurd h (by decide)) (fun _ => ?_)
  refine z_iconst (v := 1) B dX9_start_26 (by decide) ?_
  refine z_goto (tgt := 31) B dX9_start_27 (by decide) ?_
  refine z_cVi (As := [.int 1, .int 1, .int 1]) (rest := []) B cw_X9_259 cx_10 dX9_start_31 (ci_X9_needs___703 l (σ := (ap b σ [] [] [])) (b := b) (lyA hK) ) (lKA (hk_K hK 405 rfl rfl)) rfl (by decide) rfl (Nat.le_of_ble_eq_true rfl) (by decide) (fun r u hu => ?_)
  refine z_eqs (σ' := (ap b σ [(405, 0, 0)] [] [])) (hu.2.trans ap_ap) ?_
  show zx p l e _ s m _ below meth c g 4 0 0 _ _ 34 [(0, .ref (b + 405)), (1, .int 2), (2, .int w1)] _
  refine z_seti (y := 1) hu.1 ?_
  refine z_if_ne (tgt := 39) B dX9_start_34 (by decide) (fun _ => ?_) (fun h => absurd h (by decide))
  refine z_aload_n B dX9_start_39 rfl 0 rfl ?_
  refine z_iload_n B dX9_start_40 rfl 1 rfl ?_
  refine z_iload_n B dX9_start_41 rfl 2 rfl ?_
  refine z_iconst (v := (-1)) B dX9_start_42 (by decide) ?_
  refine z_iconst (v := (-1)) B dX9_start_43 (by decide) ?_
  refine z_cVi (As := [.int 2, .int w1, .int (-1), .int (-1)]) (rest := []) B cw_X9_168 cx_10 dX9_start_44 (ci_X9_begets_765 l (σ := (ap b σ [(405, 0, 0)] [] [])) (b := b) (lyA hK) w1 (rI_at 405 6 hI_405_6) (rI_at 413 0 hI_413_0) (rR_at 405 7 hR_405_7) (rR_at 405 8 hR_405_8) (rR_at 405 9 hR_405_9) (rR_at 405 11 hR_405_11) (rR_at 405 13 hR_405_13) (rR_at 405 14 hR_405_14) (rR_at 405 15 hR_405_15)) (lKA (hk_K hK 405 rfl rfl)) rfl (by decide) rfl (Nat.le_of_ble_eq_true rfl) (by decide) (fun r u hu => ?_)
  refine z_eqs (σ' := (ap b σ [(413, 0, 1), (416, 0, 0), (415, 0, (-1)), (411, 0, 0), (410, 0, (-1)), (409, 0, 2), (405, 6, 1), (405, 0, 0)] [(417, 0, (w1.toInt64))] [])) (hu.2.trans ap_ap) ?_
  show zx p l e _ s m _ below meth c g 4 0 0 _ _ 47 [(0, .ref (b + 405)), (1, .int 2), (2, .int w1)] _
  refine z_seti (y := 0) hu.1 ?_
  refine z_istore_n (lv' := [(3, .int 0), (0, .ref (b + 405)), (1, .int 2), (2, .int w1)]) B dX9_start_47 rfl (by decide) rfl ?_
  refine z_aload_n B dX9_start_48 rfl 1 rfl ?_
  refine z_iload_n B dX9_start_49 rfl 0 rfl ?_
  refine z_cVv (As := [.int 0]) (rest := []) B cw_X9_253 cx_10 dX9_start_50 (ci_X9_runs_769 l (σ := (ap b σ [(413, 0, 1), (416, 0, 0), (415, 0, (-1)), (411, 0, 0), (410, 0, (-1)), (409, 0, 2), (405, 6, 1), (405, 0, 0)] [(417, 0, (w1.toInt64))] [])) (b := b) (lyA hK) (w1.toInt64) (rI_at 405 16 hI_405_16) (rI_at 406 40 hI_406_40) (rI_at 407 40 hI_407_40) (rI_at 409 0 rfl) (rI_at 410 0 rfl) (rI_at 412 0 hI_412_0) (rI_at 413 0 rfl) (rI_at 416 0 rfl) (rJ_at 417 0 rfl) (rR_at 405 3 hR_405_3) (rR_at 405 4 hR_405_4) (rR_at 405 7 hR_405_7) (rR_at 405 8 hR_405_8) (rR_at 405 10 hR_405_10) (rR_at 405 11 hR_405_11) (rR_at 405 12 hR_405_12) (rR_at 405 14 hR_405_14) (rR_at 405 15 hR_405_15) (rR_at 405 42 hR_405_42)) (lKA (hk_K hK 405 rfl rfl)) rfl (by decide) rfl (Nat.le_of_ble_eq_true rfl) (by decide) (fun u hu => ?_)
  refine z_eqs (σ' := (ap b σ [(412, 0, 1), (414, 0, 2), (405, 26, 1), (405, 37, 1), (405, 27, 2), (413, 0, 2), (416, 1, 13), (405, 28, 1), (405, 38, 1), (405, 48, (-1)), (405, 27, 1), (405, 29, ((w1.toInt64).toInt32)), (405, 26, 1), (405, 47, 1), (405, 39, 0), (405, 38, 0), (405, 37, 0), (405, 36, 0), (405, 35, 0), (405, 34, 0), (405, 32, 0), (405, 31, 0), (405, 30, 0), (405, 29, 0), (405, 28, 0), (405, 27, 0), (405, 26, 1), (428, 0, 0), (405, 45, 0), (405, 43, 0), (413, 0, 1), (416, 0, 0), (415, 0, (-1)), (411, 0, 0), (410, 0, (-1)), (409, 0, 2), (405, 6, 1), (405, 0, 0)] [(417, 1, ((10 * (((w1.toInt64).toInt32).toInt64)) + 1)), (417, 0, (w1.toInt64))] [])) (hu.trans ap_ap) ?_
  show zx p l e _ s m _ below meth c g 4 0 0 _ _ 53 [(3, .int 0), (0, .ref (b + 405)), (1, .int 2), (2, .int w1)] _
  refine z_iload_n B dX9_start_53 rfl 0 rfl ?_
  exact z_iret B hr (by decide) (by decide) dX9_start_54 ⟨rfl, rfl⟩
set_option maxRecDepth 100000 in
set_option maxHeartbeats 4000000 in
theorem ci_X8_start_775 (l : Launch) (hlt : l.stackTraces = false) {g : gx_T} {σ : sx_T} {b : Nat} (hK : lay b σ) (w1 : Int32) (q1_w1 : (1000 : Int) ≤ w1.toInt) (q2_w1 : w1.toInt ≤ (2147483647 : Int)) (hR_0_0 : sx_R σ (b + 0) 0 = (some (b + 1))) (hR_1_2 : sx_R σ (b + 1) 2 = (some (b + 17))) : vx_Met l yX8_start (.code yX8_start cX8_start 5 (some .int) :: lw_g) { frames := 7, cells := 1, slots := 6, locals := 136 } (va_Pc [.ref (b + 0), .int 2, .int w1] (zx_w g σ)) (va_Qi (S := sx_T) (fun _ _ => False) (zx_w g) (gx_Q g)) (vx_X (fun u : sx_T => ∃ z, u = wx_Z σ z) (fun E u t => E = "java/lang/IllegalArgumentException" ∧ zx_h g u t.heap) (gx_Q g)) 1 6 (gx_Q g) := by
  refine z_metX (by decide) (Nat.le_of_ble_eq_true rfl) (fun p e s m below meth c B hr hin hout => ?_)
  refine z_eqs (σ' := (ap b σ [] [] [])) rfl ?_
  show zx p l e _ s m _ below meth c g 5 0 0 _ _ 0 [(0, .ref (b + 0)), (1, .int 2), (2, .int w1)] []
  refine z_aload_n B dX8_start_0 rfl 0 rfl ?_
  refine z_iload_n B dX8_start_1 rfl 1 rfl ?_
  refine z_cVq (As := [.int 2]) (rest := []) B cw_X8_64 cx_9 dX8_start_2 (ci_X8_programAt_171 l (σ := (ap b σ [] [] [])) (b := b) (lyA hK) (rR_at 0 0 hR_0_0) (rR_at 1 2 hR_1_2)) (lKA (hk_K hK 0 rfl rfl)) rfl (by decide) rfl (Nat.le_of_ble_eq_true rfl) (by decide) (fun r u hu => ?_)
  refine z_eqs (σ' := (ap b σ [] [] [])) hu.2 ?_
  show zx p l e _ s m _ below meth c g 5 0 0 _ _ 5 [(0, .ref (b + 0)), (1, .int 2), (2, .int w1)] _
  refine z_setr (y := (some (b + 17))) hu.1 ?_
  refine z_astore_n (lv' := [(3, .ref (b + 17)), (0, .ref (b + 0)), (1, .int 2), (2, .int w1)]) B dX8_start_5 rfl (by decide) rfl ?_
  refine z_aload_n B dX8_start_6 rfl 0 rfl ?_
  refine z_ifnonnull (r := (some (b + 17))) (tgt := 20) B dX8_start_7 (by decide) (fun _ _ => ?_) (fun h => nomatch h)
  refine z_iload_n B dX8_start_20 rfl 3 rfl ?_
  refine z_sipush (v := (-999)) B dX8_start_21 (by decide) ?_
  refine z_icmp_lt (tgt := 34) B dX8_start_24 (by decide) (fun h => absurd h (iv_nlt q1_w1 (by decide))) (fun _ => ?_)
  refine z_iload_n B dX8_start_27 rfl 3 rfl ?_
  refine z_sipush (v := 999) B dX8_start_28 (by decide) ?_
  refine z_icmp_le (tgt := 44) B dX8_start_31 (by decide) (fun h => absurd h (iv_nle q1_w1 (by decide))) (fun _ => ?_)
  exact z_throw B hlt hout (cls := "java/lang/IllegalArgumentException") (text := "input is out of range") tw_X8_83_139_87 dX8_start_34 dX8_start_37 dX8_start_38 dX8_start_40 dX8_start_43 (by decide) (by decide) (by decide) (by decide) (by decide) (by decide) (fun z => ⟨z, rfl⟩)
set_option maxRecDepth 100000 in
set_option maxHeartbeats 4000000 in
theorem ci_L_start_776 (l : Launch) (hlt : l.stackTraces = false) {g : gx_T} {σ : sx_T} {b : Nat} (hK : lay b σ) (w1 : Int32) (q1_w1 : (1000 : Int) ≤ w1.toInt) (q2_w1 : w1.toInt ≤ (2147483647 : Int)) (hR_0_0 : sx_R σ (b + 0) 0 = (some (b + 1))) (hR_1_2 : sx_R σ (b + 1) 2 = (some (b + 17))) : Met l yL_start (.codeWith yL_start cL_start 5 (some .int) [(0, 10, 13, 13), (0, 10, 17, 15), (0, 10, 21, 24)] :: lw_g) { frames := 8, cells := 1, slots := 6, locals := 160 } (va_Pc [.ref (b + 0), .int 2, .int w1, .ref (b + 431)] (zx_w g σ)) (va_Qi (fun r u => r = 2 ∧ ∃ z, u = (ap b (wx_Z σ z) [] [] [])) (zx_w g) (gx_Q g)) 1 6 (gx_Q g) := by
  refine z_metW (by decide) (Nat.le_of_ble_eq_true rfl) (fun p e s m below meth c B hr htab => ?_)
  refine z_eqs (σ' := (ap b σ [] [] [])) rfl ?_
  show zx p l e _ s m _ below meth c g 5 0 0 _ _ 0 [(0, .ref (b + 0)), (1, .int 2), (2, .int w1), (3, .ref (b + 431))] []
  refine z_aload_n B dL_start_0 rfl 3 rfl ?_
  refine z_iconst (v := 0) B dL_start_1 (by decide) ?_
  refine z_aload_n B dL_start_2 rfl 0 rfl ?_
  refine z_iload_n B dL_start_3 rfl 1 rfl ?_
  refine z_iload_n B dL_start_4 rfl 2 rfl ?_
  refine z_cXi (As := [.int 2, .int w1]) (rest := [.int 0, .ref (b + 431)]) B htab tc_start_5_IllegalArgumentException cw_L_20 cx_9 dL_start_5 (ci_X8_start_775 l hlt (σ := (ap b σ [] [] [])) (b := b) (lyA hK) w1 q1_w1 q2_w1 (rR_at 0 0 hR_0_0) (rR_at 1 2 hR_1_2)) (lKA (hk_K hK 0 rfl rfl)) rfl (by decide) rfl (Nat.le_of_ble_eq_true rfl) (by decide) (fun z q => ?_)
  refine z_eqs (σ' := (ap b (wx_Z σ z) [] [] [])) rfl ?_
  show zx p l e _ s m _ below meth c g 5 _ _ _ _ 17 [(0, .ref (b + 0)), (1, .int 2), (2, .int w1), (3, .ref (b + 431))] _
  refine z_astore (lv' := [(4, .ref q), (0, .ref (b + 0)), (1, .int 2), (2, .int w1), (3, .ref (b + 431))]) B dL_start_17 (by decide) rfl ?_
  refine z_iconst (v := 2) B dL_start_19 (by decide) ?_
  exact z_iret B hr (by decide) (by decide) dL_start_20 ⟨rfl, _, rfl⟩
set_option maxRecDepth 100000 in
set_option maxHeartbeats 4000000 in
theorem ci_X9_start_777 (l : Launch) {g : gx_T} {σ : sx_T} {b : Nat} (hK : lay b σ) (w1 : Int32) (q1_w1 : (1000 : Int) ≤ w1.toInt) (q2_w1 : w1.toInt ≤ (2147483647 : Int)) (hI_405_6 : sx_I σ (b + 405) 6 = 0) : Met l yX9_start (.code yX9_start cX9_start 4 (some .int) :: lw_g) { frames := 1, cells := 0, slots := 0, locals := 23 } (va_Pc [.ref (b + 405), .int 2, .int w1] (zx_w g σ)) (va_Qi (fun r u => r = 0 ∧ u = (ap b σ [(405, 0, 2)] [] [])) (zx_w g) (gx_Q g)) 0 0 (gx_Q g) := by
  refine z_met (by decide) (Nat.le_of_ble_eq_true rfl) (fun p e s m below meth c B hr hin => ?_)
  refine z_eqs (σ' := (ap b σ [] [] [])) rfl ?_
  show zx p l e _ s m _ below meth c g 4 0 0 _ _ 0 [(0, .ref (b + 405)), (1, .int 2), (2, .int w1)] []
  refine z_aload_n B dX9_start_0 rfl 0 rfl ?_
  refine z_iload_n B dX9_start_1 rfl 1 rfl ?_
  refine z_iconst (v := 0) B dX9_start_2 (by decide) ?_
  refine z_iconst (v := 5) B dX9_start_3 (by decide) ?_
  refine z_cSi (As := [.int 2, .int 0, .int 5]) (rest := [.ref (b + 405)]) B cw_X9_96 dX9_start_4 (ci_X9_in_174 l (σ := (ap b σ [] [] [])) (b := b) (lyA hK) ) rfl (by decide) rfl (Nat.le_of_ble_eq_true rfl) (by decide) (fun r u hu => ?_)
  refine z_eqs (σ' := (ap b σ [] [] [])) hu.2 ?_
  show zx p l e _ s m _ below meth c g 4 0 0 _ _ 7 [(0, .ref (b + 405)), (1, .int 2), (2, .int w1)] _
  refine z_seti (y := 1) hu.1 ?_
  refine z_iload_n B dX9_start_7 rfl 2 rfl ?_
  refine z_sipush (v := (-999)) B dX9_start_8 (by decide) ?_
  refine z_sipush (v := 999) B dX9_start_11 (by decide) ?_
  refine z_cSi (As := [.int w1, .int (-999), .int 999]) (rest := [.int 1, .ref (b + 405)]) B cw_X9_96 dX9_start_14 (ci_X9_in_657 l (σ := (ap b σ [] [] [])) (b := b) (lyA hK) w1 q1_w1 q2_w1) rfl (by decide) rfl (Nat.le_of_ble_eq_true rfl) (by decide) (fun r u hu => ?_)
  refine z_eqs (σ' := (ap b σ [] [] [])) hu.2 ?_
  show zx p l e _ s m _ below meth c g 4 0 0 _ _ 17 [(0, .ref (b + 405)), (1, .int 2), (2, .int w1)] _
  refine z_seti (y := 0) hu.1 ?_
  refine z_aload_n B dX9_start_17 rfl 0 rfl ?_
  refine gf_X9_93 (x := 0) B (lKA (hk_K hK 405 rfl rfl)) (rI_at 405 6 hI_405_6) dX9_start_18 ?_
  refine z_bipush (v := 40) B dX9_start_21 (by decide) ?_
  refine z_icmp_ge (tgt := 30) B dX9_start_23 (by decide) (fun h => absurd h (by decide)) (fun _ => ?_)
  refine z_iconst (v := 1) B dX9_start_26 (by decide) ?_
  refine z_goto (tgt := 31) B dX9_start_27 (by decide) ?_
  refine z_cVi (As := [.int 1, .int 0, .int 1]) (rest := []) B cw_X9_259 cx_10 dX9_start_31 (ci_X9_needs___661 l (σ := (ap b σ [] [] [])) (b := b) (lyA hK) ) (lKA (hk_K hK 405 rfl rfl)) rfl (by decide) rfl (Nat.le_of_ble_eq_true rfl) (by decide) (fun r u hu => ?_)
  refine z_eqs (σ' := (ap b σ [(405, 0, 2)] [] [])) (hu.2.trans ap_ap) ?_
  show zx p l e _ s m _ below meth c g 4 0 0 _ _ 34 [(0, .ref (b + 405)), (1, .int 2), (2, .int w1)] _
  refine z_seti (y := 0) hu.1 ?_
  refine z_if_ne (tgt := 39) B dX9_start_34 (by decide) (fun h => absurd (by decide) h) (fun _ => ?_)
  refine z_iconst (v := 0) B dX9_start_37 (by decide) ?_
  exact z_iret B hr (by decide) (by decide) dX9_start_38 ⟨rfl, rfl⟩
set_option maxRecDepth 100000 in
set_option maxHeartbeats 4000000 in
theorem ci_X8_start_778 (l : Launch) (hlt : l.stackTraces = false) {g : gx_T} {σ : sx_T} {b : Nat} (hK : lay b σ) (w1 : Int32) (q1_w1 : (-2147483648 : Int) ≤ w1.toInt) (q2_w1 : w1.toInt ≤ (-1000 : Int)) (hR_0_0 : sx_R σ (b + 0) 0 = (some (b + 1))) (hR_1_3 : sx_R σ (b + 1) 3 = (some (b + 21))) : vx_Met l yX8_start (.code yX8_start cX8_start 5 (some .int) :: lw_g) { frames := 7, cells := 1, slots := 6, locals := 136 } (va_Pc [.ref (b + 0), .int 3, .int w1] (zx_w g σ)) (va_Qi (S := sx_T) (fun _ _ => False) (zx_w g) (gx_Q g)) (vx_X (fun u : sx_T => ∃ z, u = wx_Z σ z) (fun E u t => E = "java/lang/IllegalArgumentException" ∧ zx_h g u t.heap) (gx_Q g)) 1 6 (gx_Q g) := by
  refine z_metX (by decide) (Nat.le_of_ble_eq_true rfl) (fun p e s m below meth c B hr hin hout => ?_)
  refine z_eqs (σ' := (ap b σ [] [] [])) rfl ?_
  show zx p l e _ s m _ below meth c g 5 0 0 _ _ 0 [(0, .ref (b + 0)), (1, .int 3), (2, .int w1)] []
  refine z_aload_n B dX8_start_0 rfl 0 rfl ?_
  refine z_iload_n B dX8_start_1 rfl 1 rfl ?_
  refine z_cVq (As := [.int 3]) (rest := []) B cw_X8_64 cx_9 dX8_start_2 (ci_X8_programAt_220 l (σ := (ap b σ [] [] [])) (b := b) (lyA hK) (rR_at 0 0 hR_0_0) (rR_at 1 3 hR_1_3)) (lKA (hk_K hK 0 rfl rfl)) rfl (by decide) rfl (Nat.le_of_ble_eq_true rfl) (by decide) (fun r u hu => ?_)
  refine z_eqs (σ' := (ap b σ [] [] [])) hu.2 ?_
  show zx p l e _ s m _ below meth c g 5 0 0 _ _ 5 [(0, .ref (b + 0)), (1, .int 3), (2, .int w1)] _
  refine z_setr (y := (some (b + 21))) hu.1 ?_
  refine z_astore_n (lv' := [(3, .ref (b + 21)), (0, .ref (b + 0)), (1, .int 3), (2, .int w1)]) B dX8_start_5 rfl (by decide) rfl ?_
  refine z_aload_n B dX8_start_6 rfl 0 rfl ?_
  refine z_ifnonnull (r := (some (b + 21))) (tgt := 20) B dX8_start_7 (by decide) (fun _ _ => ?_) (fun h => nomatch h)
  refine z_iload_n B dX8_start_20 rfl 3 rfl ?_
  refine z_sipush (v := (-999)) B dX8_start_21 (by decide) ?_
  refine z_icmp_lt (tgt := 34) B dX8_start_24 (by decide) (fun _ => ?_) (fun h => absurd (iv_lt q2_w1 (by decide)) h)
  exact z_throw B hlt hout (cls := "java/lang/IllegalArgumentException") (text := "input is out of range") tw_X8_83_139_87 dX8_start_34 dX8_start_37 dX8_start_38 dX8_start_40 dX8_start_43 (by decide) (by decide) (by decide) (by decide) (by decide) (by decide) (fun z => ⟨z, rfl⟩)
set_option maxRecDepth 100000 in
set_option maxHeartbeats 4000000 in
theorem ci_L_start_779 (l : Launch) (hlt : l.stackTraces = false) {g : gx_T} {σ : sx_T} {b : Nat} (hK : lay b σ) (w1 : Int32) (q1_w1 : (-2147483648 : Int) ≤ w1.toInt) (q2_w1 : w1.toInt ≤ (-1000 : Int)) (hR_0_0 : sx_R σ (b + 0) 0 = (some (b + 1))) (hR_1_3 : sx_R σ (b + 1) 3 = (some (b + 21))) : Met l yL_start (.codeWith yL_start cL_start 5 (some .int) [(0, 10, 13, 13), (0, 10, 17, 15), (0, 10, 21, 24)] :: lw_g) { frames := 8, cells := 1, slots := 6, locals := 160 } (va_Pc [.ref (b + 0), .int 3, .int w1, .ref (b + 431)] (zx_w g σ)) (va_Qi (fun r u => r = 2 ∧ ∃ z, u = (ap b (wx_Z σ z) [] [] [])) (zx_w g) (gx_Q g)) 1 6 (gx_Q g) := by
  refine z_metW (by decide) (Nat.le_of_ble_eq_true rfl) (fun p e s m below meth c B hr htab => ?_)
  refine z_eqs (σ' := (ap b σ [] [] [])) rfl ?_
  show zx p l e _ s m _ below meth c g 5 0 0 _ _ 0 [(0, .ref (b + 0)), (1, .int 3), (2, .int w1), (3, .ref (b + 431))] []
  refine z_aload_n B dL_start_0 rfl 3 rfl ?_
  refine z_iconst (v := 0) B dL_start_1 (by decide) ?_
  refine z_aload_n B dL_start_2 rfl 0 rfl ?_
  refine z_iload_n B dL_start_3 rfl 1 rfl ?_
  refine z_iload_n B dL_start_4 rfl 2 rfl ?_
  refine z_cXi (As := [.int 3, .int w1]) (rest := [.int 0, .ref (b + 431)]) B htab tc_start_5_IllegalArgumentException cw_L_20 cx_9 dL_start_5 (ci_X8_start_778 l hlt (σ := (ap b σ [] [] [])) (b := b) (lyA hK) w1 q1_w1 q2_w1 (rR_at 0 0 hR_0_0) (rR_at 1 3 hR_1_3)) (lKA (hk_K hK 0 rfl rfl)) rfl (by decide) rfl (Nat.le_of_ble_eq_true rfl) (by decide) (fun z q => ?_)
  refine z_eqs (σ' := (ap b (wx_Z σ z) [] [] [])) rfl ?_
  show zx p l e _ s m _ below meth c g 5 _ _ _ _ 17 [(0, .ref (b + 0)), (1, .int 3), (2, .int w1), (3, .ref (b + 431))] _
  refine z_astore (lv' := [(4, .ref q), (0, .ref (b + 0)), (1, .int 3), (2, .int w1), (3, .ref (b + 431))]) B dL_start_17 (by decide) rfl ?_
  refine z_iconst (v := 2) B dL_start_19 (by decide) ?_
  exact z_iret B hr (by decide) (by decide) dL_start_20 ⟨rfl, _, rfl⟩
set_option maxRecDepth 100000 in
set_option maxHeartbeats 4000000 in
theorem ci_X9_start_780 (l : Launch) {g : gx_T} {σ : sx_T} {b : Nat} (hK : lay b σ) (w1 : Int32) (q1_w1 : (-2147483648 : Int) ≤ w1.toInt) (q2_w1 : w1.toInt ≤ (-1000 : Int)) (hI_405_6 : sx_I σ (b + 405) 6 = 0) : Met l yX9_start (.code yX9_start cX9_start 4 (some .int) :: lw_g) { frames := 1, cells := 0, slots := 0, locals := 23 } (va_Pc [.ref (b + 405), .int 3, .int w1] (zx_w g σ)) (va_Qi (fun r u => r = 0 ∧ u = (ap b σ [(405, 0, 2)] [] [])) (zx_w g) (gx_Q g)) 0 0 (gx_Q g) := by
  refine z_met (by decide) (Nat.le_of_ble_eq_true rfl) (fun p e s m below meth c B hr hin => ?_)
  refine z_eqs (σ' := (ap b σ [] [] [])) rfl ?_
  show zx p l e _ s m _ below meth c g 4 0 0 _ _ 0 [(0, .ref (b + 405)), (1, .int 3), (2, .int w1)] []
  refine z_aload_n B dX9_start_0 rfl 0 rfl ?_
  refine z_iload_n B dX9_start_1 rfl 1 rfl ?_
  refine z_iconst (v := 0) B dX9_start_2 (by decide) ?_
  refine z_iconst (v := 5) B dX9_start_3 (by decide) ?_
  refine z_cSi (As := [.int 3, .int 0, .int 5]) (rest := [.ref (b + 405)]) B cw_X9_96 dX9_start_4 (ci_X9_in_223 l (σ := (ap b σ [] [] [])) (b := b) (lyA hK) ) rfl (by decide) rfl (Nat.le_of_ble_eq_true rfl) (by decide) (fun r u hu => ?_)
  refine z_eqs (σ' := (ap b σ [] [] [])) hu.2 ?_
  show zx p l e _ s m _ below meth c g 4 0 0 _ _ 7 [(0, .ref (b + 405)), (1, .int 3), (2, .int w1)] _
  refine z_seti (y := 1) hu.1 ?_
  refine z_iload_n B dX9_start_7 rfl 2 rfl ?_
  refine z_sipush (v := (-999)) B dX9_start_8 (by decide) ?_
  refine z_sipush (v := 999) B dX9_start_11 (by decide) ?_
  refine z_cSi (As := [.int w1, .int (-999), .int 999]) (rest := [.int 1, .ref (b + 405)]) B cw_X9_96 dX9_start_14 (ci_X9_in_651 l (σ := (ap b σ [] [] [])) (b := b) (lyA hK) w1 q1_w1 q2_w1) rfl (by decide) rfl (Nat.le_of_ble_eq_true rfl) (by decide) (fun r u hu => ?_)
  refine z_eqs (σ' := (ap b σ [] [] [])) hu.2 ?_
  show zx p l e _ s m _ below meth c g 4 0 0 _ _ 17 [(0, .ref (b + 405)), (1, .int 3), (2, .int w1)] _
  refine z_seti (y := 0) hu.1 ?_
  refine z_aload_n B dX9_start_17 rfl 0 rfl ?_
  refine gf_X9_93 (x := 0) B (lKA (hk_K hK 405 rfl rfl)) (rI_at 405 6 hI_405_6) dX9_start_18 ?_
  refine z_bipush (v := 40) B dX9_start_21 (by decide) ?_
  refine z_icmp_ge (tgt := 30) B dX9_start_23 (by decide) (fun h => absurd h (by decide)) (fun _ => ?_)
  refine z_iconst (v := 1) B dX9_start_26 (by decide) ?_
  refine z_goto (tgt := 31) B dX9_start_27 (by decide) ?_
  refine z_cVi (As := [.int 1, .int 0, .int 1]) (rest := []) B cw_X9_259 cx_10 dX9_start_31 (ci_X9_needs___661 l (σ := (ap b σ [] [] [])) (b := b) (lyA hK) ) (lKA (hk_K hK 405 rfl rfl)) rfl (by decide) rfl (Nat.le_of_ble_eq_true rfl) (by decide) (fun r u hu => ?_)
  refine z_eqs (σ' := (ap b σ [(405, 0, 2)] [] [])) (hu.2.trans ap_ap) ?_
  show zx p l e _ s m _ below meth c g 4 0 0 _ _ 34 [(0, .ref (b + 405)), (1, .int 3), (2, .int w1)] _
  refine z_seti (y := 0) hu.1 ?_
  refine z_if_ne (tgt := 39) B dX9_start_34 (by decide) (fun h => absurd (by decide) h) (fun _ => ?_)
  refine z_iconst (v := 0) B dX9_start_37 (by decide) ?_
  exact z_iret B hr (by decide) (by decide) dX9_start_38 ⟨rfl, rfl⟩
set_option maxRecDepth 100000 in
set_option maxHeartbeats 4000000 in
theorem ci_X5_begin_781 (l : Launch) {g : gx_T} {σ : sx_T} {b : Nat} (hK : lay b σ) (w1 : Int64)  (hI_37_2 : sx_I σ (b + 37) 2 = 1) (hJ_39_0 : sx_J σ (b + 39) 0 = w1) (hR_37_1 : sx_R σ (b + 37) 1 = (some (b + 39))) (hR_41_0 : sx_R σ (b + 41) 0 = (some (b + 42))) (hR_41_1 : sx_R σ (b + 41) 1 = (some (b + 44))) : Met l yX5_begin (.code yX5_begin cX5_begin 3 none :: lw_g) { frames := 1, cells := 0, slots := 0, locals := 21 } (va_Pc [.ref (b + 41), .ref (b + 21), .ref (b + 37)] (zx_w g σ)) (va_Qv (fun u => u = (ap b σ [(41, 19, 0), (41, 18, (-1)), (41, 16, (-1)), (41, 15, 0), (41, 14, 0), (41, 13, 0), (41, 12, 0), (41, 10, (-1)), (41, 9, (-1)), (41, 8, 0), (41, 7, 0), (41, 6, (w1.toInt32)), (41, 5, 0), (41, 4, 1), (44, 1, 0), (42, 1, 0)] [(41, 17, 0), (41, 11, 0)] [(41, 3, (some (b + 37))), (41, 2, (some (b + 21)))])) (zx_w g) (gx_Q g)) 0 0 (gx_Q g) := by
  refine z_met (by decide) (Nat.le_of_ble_eq_true rfl) (fun p e s m below meth c B hr hin => ?_)
  refine z_eqs (σ' := (ap b σ [] [] [])) rfl ?_
  show zx p l e _ s m _ below meth c g 3 0 0 _ _ 0 [(0, .ref (b + 41)), (1, .ref (b + 21)), (2, .ref (b + 37))] []
  refine z_aload_n B dX5_begin_0 rfl 0 rfl ?_
  refine z_aload_n B dX5_begin_1 rfl 1 rfl ?_
  refine pf_X5_25 (x := (some (b + 21))) (σ' := (ap b σ [] [] [(41, 2, (some (b + 21)))])) B (lKA (hk_K hK 41 rfl rfl)) wR_ap dX5_begin_2 ?_
  refine z_aload_n B dX5_begin_5 rfl 0 rfl ?_
  refine z_aload_n B dX5_begin_6 rfl 2 rfl ?_
  refine pf_X5_29 (x := (some (b + 37))) (σ' := (ap b σ [] [] [(41, 3, (some (b + 37))), (41, 2, (some (b + 21)))])) B (lKA (hk_K hK 41 rfl rfl)) wR_ap dX5_begin_7 ?_
  refine z_aload_n B dX5_begin_10 rfl 0 rfl ?_
  refine gf_X5_12 (x := (some (b + 42))) B (lKA (hk_K hK 41 rfl rfl)) (rR_at 41 0 hR_41_0) dX5_begin_11 ?_
  refine z_iconst (v := 0) B dX5_begin_14 (by decide) ?_
  refine pf_X5_33 (x := 0) (σ' := (ap b σ [(42, 1, 0)] [] [(41, 3, (some (b + 37))), (41, 2, (some (b + 21)))])) B (lKA (hk_K hK 42 rfl rfl)) wI_ap dX5_begin_15 ?_
  refine z_aload_n B dX5_begin_18 rfl 0 rfl ?_
  refine gf_X5_21 (x := (some (b + 44))) B (lKA (hk_K hK 41 rfl rfl)) (rR_at 41 1 hR_41_1) dX5_begin_19 ?_
  refine z_iconst (v := 0) B dX5_begin_22 (by decide) ?_
  refine pf_X5_37 (x := 0) (σ' := (ap b σ [(44, 1, 0), (42, 1, 0)] [] [(41, 3, (some (b + 37))), (41, 2, (some (b + 21)))])) B (lKA (hk_K hK 44 rfl rfl)) wI_ap dX5_begin_23 ?_
  refine z_aload_n B dX5_begin_26 rfl 0 rfl ?_
  refine z_iconst (v := 1) B dX5_begin_27 (by decide) ?_
  refine pf_X5_38 (x := 1) (σ' := (ap b σ [(41, 4, 1), (44, 1, 0), (42, 1, 0)] [] [(41, 3, (some (b + 37))), (41, 2, (some (b + 21)))])) B (lKA (hk_K hK 41 rfl rfl)) wI_ap dX5_begin_28 ?_
  refine z_aload_n B dX5_begin_31 rfl 0 rfl ?_
  refine z_iconst (v := 0) B dX5_begin_32 (by decide) ?_
  refine pf_X5_41 (x := 0) (σ' := (ap b σ [(41, 5, 0), (41, 4, 1), (44, 1, 0), (42, 1, 0)] [] [(41, 3, (some (b + 37))), (41, 2, (some (b + 21)))])) B (lKA (hk_K hK 41 rfl rfl)) wI_ap dX5_begin_33 ?_
  refine z_aload_n B dX5_begin_36 rfl 0 rfl ?_
  refine z_aload_n B dX5_begin_37 rfl 2 rfl ?_
  refine z_iconst (v := 0) B dX5_begin_38 (by decide) ?_
  refine z_cVl (As := [.int 0]) (rest := [.ref (b + 41)]) B cw_X5_44 cx_2 dX5_begin_39 (ci_X1_numberAt_664 l (σ := (ap b σ [(41, 5, 0), (41, 4, 1), (44, 1, 0), (42, 1, 0)] [] [(41, 3, (some (b + 37))), (41, 2, (some (b + 21)))])) (b := b) (lyA hK) w1 (rI_at 37 2 hI_37_2) (rJ_at 39 0 hJ_39_0) (rR_at 37 1 hR_37_1)) (lKA (hk_K hK 37 rfl rfl)) rfl (by decide) rfl (Nat.le_of_ble_eq_true rfl) (by decide) (fun r u hu => ?_)
  refine z_eqs (σ' := (ap b σ [(41, 5, 0), (41, 4, 1), (44, 1, 0), (42, 1, 0)] [] [(41, 3, (some (b + 37))), (41, 2, (some (b + 21)))])) hu.2 ?_
  show zx p l e _ s m _ below meth c g 3 0 0 _ _ 42 [(0, .ref (b + 41)), (1, .ref (b + 21)), (2, .ref (b + 37))] _
  refine z_setl (y := w1) hu.1 ?_
  refine z_l2i B dX5_begin_42 rfl ?_
  refine pf_X5_50 (x := (w1.toInt32)) (σ' := (ap b σ [(41, 6, (w1.toInt32)), (41, 5, 0), (41, 4, 1), (44, 1, 0), (42, 1, 0)] [] [(41, 3, (some (b + 37))), (41, 2, (some (b + 21)))])) B (lKA (hk_K hK 41 rfl rfl)) wI_ap dX5_begin_43 ?_
  refine z_aload_n B dX5_begin_46 rfl 0 rfl ?_
  refine z_iconst (v := 0) B dX5_begin_47 (by decide) ?_
  refine pf_X5_53 (x := 0) (σ' := (ap b σ [(41, 7, 0), (41, 6, (w1.toInt32)), (41, 5, 0), (41, 4, 1), (44, 1, 0), (42, 1, 0)] [] [(41, 3, (some (b + 37))), (41, 2, (some (b + 21)))])) B (lKA (hk_K hK 41 rfl rfl)) wI_ap dX5_begin_48 ?_
  refine z_aload_n B dX5_begin_51 rfl 0 rfl ?_
  refine z_iconst (v := 0) B dX5_begin_52 (by decide) ?_
  refine pf_X5_56 (x := 0) (σ' := (ap b σ [(41, 8, 0), (41, 7, 0), (41, 6, (w1.toInt32)), (41, 5, 0), (41, 4, 1), (44, 1, 0), (42, 1, 0)] [] [(41, 3, (some (b + 37))), (41, 2, (some (b + 21)))])) B (lKA (hk_K hK 41 rfl rfl)) wI_ap dX5_begin_53 ?_
  refine z_aload_n B dX5_begin_56 rfl 0 rfl ?_
  refine z_iconst (v := (-1)) B dX5_begin_57 (by decide) ?_
  refine pf_X5_59 (x := (-1)) (σ' := (ap b σ [(41, 9, (-1)), (41, 8, 0), (41, 7, 0), (41, 6, (w1.toInt32)), (41, 5, 0), (41, 4, 1), (44, 1, 0), (42, 1, 0)] [] [(41, 3, (some (b + 37))), (41, 2, (some (b + 21)))])) B (lKA (hk_K hK 41 rfl rfl)) wI_ap dX5_begin_58 ?_
  refine z_aload_n B dX5_begin_61 rfl 0 rfl ?_
  refine z_iconst (v := (-1)) B dX5_begin_62 (by decide) ?_
  refine pf_X5_62 (x := (-1)) (σ' := (ap b σ [(41, 10, (-1)), (41, 9, (-1)), (41, 8, 0), (41, 7, 0), (41, 6, (w1.toInt32)), (41, 5, 0), (41, 4, 1), (44, 1, 0), (42, 1, 0)] [] [(41, 3, (some (b + 37))), (41, 2, (some (b + 21)))])) B (lKA (hk_K hK 41 rfl rfl)) wI_ap dX5_begin_63 ?_
  refine z_aload_n B dX5_begin_66 rfl 0 rfl ?_
  refine z_lconst (v := 0) B dX5_begin_67 (by decide) ?_
  refine pf_X5_65 (x := 0) (σ' := (ap b σ [(41, 10, (-1)), (41, 9, (-1)), (41, 8, 0), (41, 7, 0), (41, 6, (w1.toInt32)), (41, 5, 0), (41, 4, 1), (44, 1, 0), (42, 1, 0)] [(41, 11, 0)] [(41, 3, (some (b + 37))), (41, 2, (some (b + 21)))])) B (lKA (hk_K hK 41 rfl rfl)) wJ_ap dX5_begin_68 ?_
  refine z_aload_n B dX5_begin_71 rfl 0 rfl ?_
  refine z_iconst (v := 0) B dX5_begin_72 (by decide) ?_
  refine pf_X5_69 (x := 0) (σ' := (ap b σ [(41, 12, 0), (41, 10, (-1)), (41, 9, (-1)), (41, 8, 0), (41, 7, 0), (41, 6, (w1.toInt32)), (41, 5, 0), (41, 4, 1), (44, 1, 0), (42, 1, 0)] [(41, 11, 0)] [(41, 3, (some (b + 37))), (41, 2, (some (b + 21)))])) B (by decide) (lKA (hk_K hK 41 rfl rfl)) wI_ap dX5_begin_73 ?_
  refine z_aload_n B dX5_begin_76 rfl 0 rfl ?_
  refine z_iconst (v := 0) B dX5_begin_77 (by decide) ?_
  refine pf_X5_73 (x := 0) (σ' := (ap b σ [(41, 13, 0), (41, 12, 0), (41, 10, (-1)), (41, 9, (-1)), (41, 8, 0), (41, 7, 0), (41, 6, (w1.toInt32)), (41, 5, 0), (41, 4, 1), (44, 1, 0), (42, 1, 0)] [(41, 11, 0)] [(41, 3, (some (b + 37))), (41, 2, (some (b + 21)))])) B (by decide) (lKA (hk_K hK 41 rfl rfl)) wI_ap dX5_begin_78 ?_
  refine z_aload_n B dX5_begin_81 rfl 0 rfl ?_
  refine z_iconst (v := 0) B dX5_begin_82 (by decide) ?_
  refine pf_X5_76 (x := 0) (σ' := (ap b σ [(41, 14, 0), (41, 13, 0), (41, 12, 0), (41, 10, (-1)), (41, 9, (-1)), (41, 8, 0), (41, 7, 0), (41, 6, (w1.toInt32)), (41, 5, 0), (41, 4, 1), (44, 1, 0), (42, 1, 0)] [(41, 11, 0)] [(41, 3, (some (b + 37))), (41, 2, (some (b + 21)))])) B (lKA (hk_K hK 41 rfl rfl)) wI_ap dX5_begin_83 ?_
  refine z_aload_n B dX5_begin_86 rfl 0 rfl ?_
  refine z_iconst (v := 0) B dX5_begin_87 (by decide) ?_
  refine pf_X5_79 (x := 0) (σ' := (ap b σ [(41, 15, 0), (41, 14, 0), (41, 13, 0), (41, 12, 0), (41, 10, (-1)), (41, 9, (-1)), (41, 8, 0), (41, 7, 0), (41, 6, (w1.toInt32)), (41, 5, 0), (41, 4, 1), (44, 1, 0), (42, 1, 0)] [(41, 11, 0)] [(41, 3, (some (b + 37))), (41, 2, (some (b + 21)))])) B (by decide) (lKA (hk_K hK 41 rfl rfl)) wI_ap dX5_begin_88 ?_
  refine z_aload_n B dX5_begin_91 rfl 0 rfl ?_
  refine z_iconst (v := (-1)) B dX5_begin_92 (by decide) ?_
  refine pf_X5_82 (x := (-1)) (σ' := (ap b σ [(41, 16, (-1)), (41, 15, 0), (41, 14, 0), (41, 13, 0), (41, 12, 0), (41, 10, (-1)), (41, 9, (-1)), (41, 8, 0), (41, 7, 0), (41, 6, (w1.toInt32)), (41, 5, 0), (41, 4, 1), (44, 1, 0), (42, 1, 0)] [(41, 11, 0)] [(41, 3, (some (b + 37))), (41, 2, (some (b + 21)))])) B (lKA (hk_K hK 41 rfl rfl)) wI_ap dX5_begin_93 ?_
  refine z_aload_n B dX5_begin_96 rfl 0 rfl ?_
  refine z_lconst (v := 0) B dX5_begin_97 (by decide) ?_
  refine pf_X5_85 (x := 0) (σ' := (ap b σ [(41, 16, (-1)), (41, 15, 0), (41, 14, 0), (41, 13, 0), (41, 12, 0), (41, 10, (-1)), (41, 9, (-1)), (41, 8, 0), (41, 7, 0), (41, 6, (w1.toInt32)), (41, 5, 0), (41, 4, 1), (44, 1, 0), (42, 1, 0)] [(41, 17, 0), (41, 11, 0)] [(41, 3, (some (b + 37))), (41, 2, (some (b + 21)))])) B (lKA (hk_K hK 41 rfl rfl)) wJ_ap dX5_begin_98 ?_
  refine z_aload_n B dX5_begin_101 rfl 0 rfl ?_
  refine z_iconst (v := (-1)) B dX5_begin_102 (by decide) ?_
  refine pf_X5_88 (x := (-1)) (σ' := (ap b σ [(41, 18, (-1)), (41, 16, (-1)), (41, 15, 0), (41, 14, 0), (41, 13, 0), (41, 12, 0), (41, 10, (-1)), (41, 9, (-1)), (41, 8, 0), (41, 7, 0), (41, 6, (w1.toInt32)), (41, 5, 0), (41, 4, 1), (44, 1, 0), (42, 1, 0)] [(41, 17, 0), (41, 11, 0)] [(41, 3, (some (b + 37))), (41, 2, (some (b + 21)))])) B (lKA (hk_K hK 41 rfl rfl)) wI_ap dX5_begin_103 ?_
  refine z_aload_n B dX5_begin_106 rfl 0 rfl ?_
  refine z_iconst (v := 0) B dX5_begin_107 (by decide) ?_
  refine pf_X5_91 (x := 0) (σ' := (ap b σ [(41, 19, 0), (41, 18, (-1)), (41, 16, (-1)), (41, 15, 0), (41, 14, 0), (41, 13, 0), (41, 12, 0), (41, 10, (-1)), (41, 9, (-1)), (41, 8, 0), (41, 7, 0), (41, 6, (w1.toInt32)), (41, 5, 0), (41, 4, 1), (44, 1, 0), (42, 1, 0)] [(41, 17, 0), (41, 11, 0)] [(41, 3, (some (b + 37))), (41, 2, (some (b + 21)))])) B (by decide) (lKA (hk_K hK 41 rfl rfl)) wI_ap dX5_begin_108 ?_
  exact z_vret B hr (by decide) (by decide) dX5_begin_111 rfl
set_option maxRecDepth 100000 in
set_option maxHeartbeats 4000000 in
theorem ci_X8_open_782 (l : Launch) {g : gx_T} {σ : sx_T} {b : Nat} (hK : lay b σ) (w1 : Int32)  (hI_0_7 : sx_I σ (b + 0) 7 = 0) (hI_37_2 : sx_I σ (b + 37) 2 = 0) (hI_40_0 : sx_I σ (b + 40) 0 = 0) (hR_0_2 : sx_R σ (b + 0) 2 = (some (b + 3))) (hR_3_0 : sx_R σ (b + 3) 0 = (some (b + 40))) (hR_37_0 : sx_R σ (b + 37) 0 = (some (b + 38))) (hR_37_1 : sx_R σ (b + 37) 1 = (some (b + 39))) (hR_40_1 : sx_R σ (b + 40) 1 = (some (b + 37))) (hR_40_2 : sx_R σ (b + 40) 2 = (some (b + 41))) (hR_41_0 : sx_R σ (b + 41) 0 = (some (b + 42))) (hR_41_1 : sx_R σ (b + 41) 1 = (some (b + 44))) : Met l yX8_open (.code yX8_open cX8_open 6 (some (.object "Loomkeeper$Flow")) :: lw_g) { frames := 2, cells := 0, slots := 0, locals := 43 } (va_Pc [.ref (b + 0), .ref (b + 21), .int w1, .int (-1), .int (-1)] (zx_w g σ)) (va_Qq (fun r u => r = (some (b + 40)) ∧ u = (ap b σ [(41, 19, 0), (41, 18, (-1)), (41, 16, (-1)), (41, 15, 0), (41, 14, 0), (41, 13, 0), (41, 12, 0), (41, 10, (-1)), (41, 9, (-1)), (41, 8, 0), (41, 7, 0), (41, 6, ((w1.toInt64).toInt32)), (41, 5, 0), (41, 4, 1), (44, 1, 0), (42, 1, 0), (37, 2, 1), (38, 0, 0), (40, 5, 0), (40, 4, (-1)), (0, 7, 1)] [(41, 17, 0), (41, 11, 0), (39, 0, (w1.toInt64))] [(41, 3, (some (b + 37))), (41, 2, (some (b + 21))), (40, 3, (some (b + 21)))])) (zx_w g) (gx_Q g)) 0 0 (gx_Q g) := by
  refine z_met (by decide) (Nat.le_of_ble_eq_true rfl) (fun p e s m below meth c B hr hin => ?_)
  refine z_eqs (σ' := (ap b σ [] [] [])) rfl ?_
  show zx p l e _ s m _ below meth c g 6 0 0 _ _ 0 [(0, .ref (b + 0)), (1, .ref (b + 21)), (2, .int w1), (3, .int (-1)), (4, .int (-1))] []
  refine z_aload_n B dX8_open_0 rfl 1 rfl ?_
  refine z_ifnull (r := (some (b + 21))) (tgt := 23) B dX8_open_1 (by decide) (fun h => nomatch h) (fun _ _ => ?_)
  refine z_aload_n B dX8_open_4 rfl 0 rfl ?_
  refine gf_X8_96 (x := 0) B (lKA (hk_K hK 0 rfl rfl)) (rI_at 0 7 hI_0_7) dX8_open_5 ?_
  refine z_if_lt (tgt := 23) B dX8_open_8 (by decide) (fun h => absurd h (by decide)) (fun _ => ?_)
  refine z_aload_n B dX8_open_11 rfl 0 rfl ?_
  refine gf_X8_96 (x := 0) B (lKA (hk_K hK 0 rfl rfl)) (rI_at 0 7 hI_0_7) dX8_open_12 ?_
  refine z_aload_n B dX8_open_15 rfl 0 rfl ?_
  refine gf_X8_21 (x := (some (b + 3))) B (lKA (hk_K hK 0 rfl rfl)) (rR_at 0 2 hR_0_2) dX8_open_16 ?_
  refine z_alen (kd := 15) (ti := 3) (v := 40) B (lKA (hk_K hK 3 rfl rfl)) (by decide) rfl (congrArg Int32.ofNat (lNA (hk_N hK 3 rfl rfl))) dX8_open_19 ?_
  refine z_icmp_lt (tgt := 25) B dX8_open_20 (by decide) (fun _ => ?_) (fun h => absurd (by decide) h)
  refine z_aload_n B dX8_open_25 rfl 0 rfl ?_
  refine gf_X8_21 (x := (some (b + 3))) B (lKA (hk_K hK 0 rfl rfl)) (rR_at 0 2 hR_0_2) dX8_open_26 ?_
  refine z_aload_n B dX8_open_29 rfl 0 rfl ?_
  refine gf_X8_96 (x := 0) B (lKA (hk_K hK 0 rfl rfl)) (rI_at 0 7 hI_0_7) dX8_open_30 ?_
  refine z_qald (j := 0) (kd := 15) (ti := 3) (r := (some (b + 40))) B (lKA (hk_K hK 3 rfl rfl)) (by decide) rfl (by decide) (in_of (lNA (hk_N hK 3 rfl rfl)) (show ¬ ((0 : Int32) < 0 ∨ 40 ≤ (0 : Int32).toNatClampNeg) by decide)) (rR_at 3 0 hR_3_0) dX8_open_33 ?_
  refine z_astore (lv' := [(5, .ref (b + 40)), (0, .ref (b + 0)), (1, .ref (b + 21)), (2, .int w1), (3, .int (-1)), (4, .int (-1))]) B dX8_open_34 (by decide) rfl ?_
  refine z_aload B dX8_open_36 0 rfl ?_
  refine z_ifnonnull (r := (some (b + 40))) (tgt := 43) B dX8_open_38 (by decide) (fun _ _ => ?_) (fun h => nomatch h)
  refine z_aload_n B dX8_open_43 rfl 1 rfl ?_
  refine z_dup B dX8_open_44 rfl ?_
  refine gf_X8_96 (x := 0) B (lKA (hk_K hK 0 rfl rfl)) (rI_at 0 7 hI_0_7) dX8_open_45 ?_
  refine z_iconst (v := 1) B dX8_open_48 (by decide) ?_
  refine z_iadd B dX8_open_49 ?_
  refine z_seti (y := 1) (by decide) ?_
  refine pf_X8_96 (x := 1) (σ' := (ap b σ [(0, 7, 1)] [] [])) B (lKA (hk_K hK 0 rfl rfl)) wI_ap dX8_open_50 ?_
  refine z_aload B dX8_open_53 0 rfl ?_
  refine z_aload_n B dX8_open_55 rfl 2 rfl ?_
  refine pf_X8_103 (x := (some (b + 21))) (σ' := (ap b σ [(0, 7, 1)] [] [(40, 3, (some (b + 21)))])) B (lKA (hk_K hK 40 rfl rfl)) wR_ap dX8_open_56 ?_
  refine z_aload B dX8_open_59 0 rfl ?_
  refine z_iload_n B dX8_open_61 rfl 4 rfl ?_
  refine pf_X8_259 (x := (-1)) (σ' := (ap b σ [(40, 4, (-1)), (0, 7, 1)] [] [(40, 3, (some (b + 21)))])) B (lKA (hk_K hK 40 rfl rfl)) wI_ap dX8_open_62 ?_
  refine z_aload B dX8_open_65 0 rfl ?_
  refine z_iload B dX8_open_67 5 rfl ?_
  refine z_iconst (v := (-1)) B dX8_open_69 (by decide) ?_
  refine z_icmp_ne (tgt := 81) B dX8_open_70 (by decide) (fun h => absurd (by decide) h) (fun _ => ?_)
  refine z_aload B dX8_open_73 0 rfl ?_
  refine gf_X8_150 (x := 0) B (lKA (hk_K hK 40 rfl rfl)) (rI_at 40 0 hI_40_0) dX8_open_75 ?_
  refine z_goto (tgt := 83) B dX8_open_78 (by decide) ?_
  refine pf_X8_406 (x := 0) (σ' := (ap b σ [(40, 5, 0), (40, 4, (-1)), (0, 7, 1)] [] [(40, 3, (some (b + 21)))])) B (lKA (hk_K hK 40 rfl rfl)) wI_ap dX8_open_83 ?_
  refine z_aload B dX8_open_86 0 rfl ?_
  refine gf_X8_179 (x := (some (b + 37))) B (lKA (hk_K hK 40 rfl rfl)) (rR_at 40 1 hR_40_1) dX8_open_88 ?_
  refine z_iconst (v := 0) B dX8_open_91 (by decide) ?_
  refine z_iload_n B dX8_open_92 rfl 3 rfl ?_
  refine z_i2l B dX8_open_93 rfl ?_
  refine z_cVv (As := [.int 0, .long (w1.toInt64)]) (rest := []) B cw_X8_333 cx_2 dX8_open_94 (ci_X1_add_663 l (σ := (ap b σ [(40, 5, 0), (40, 4, (-1)), (0, 7, 1)] [] [(40, 3, (some (b + 21)))])) (b := b) (lyA hK) (w1.toInt64) (rI_at 37 2 hI_37_2) (rR_at 37 0 hR_37_0) (rR_at 37 1 hR_37_1)) (lKA (hk_K hK 37 rfl rfl)) rfl (by decide) rfl (Nat.le_of_ble_eq_true rfl) (by decide) (fun u hu => ?_)
  refine z_eqs (σ' := (ap b σ [(37, 2, 1), (38, 0, 0), (40, 5, 0), (40, 4, (-1)), (0, 7, 1)] [(39, 0, (w1.toInt64))] [(40, 3, (some (b + 21)))])) (hu.trans ap_ap) ?_
  show zx p l e _ s m _ below meth c g 6 0 0 _ _ 97 [(5, .ref (b + 40)), (0, .ref (b + 0)), (1, .ref (b + 21)), (2, .int w1), (3, .int (-1)), (4, .int (-1))] _
  refine z_aload B dX8_open_97 0 rfl ?_
  refine gf_X8_249 (x := (some (b + 41))) B (lKA (hk_K hK 40 rfl rfl)) (rR_at 40 2 hR_40_2) dX8_open_99 ?_
  refine z_aload_n B dX8_open_102 rfl 2 rfl ?_
  refine z_aload B dX8_open_103 0 rfl ?_
  refine gf_X8_179 (x := (some (b + 37))) B (lKA (hk_K hK 40 rfl rfl)) (rR_at 40 1 hR_40_1) dX8_open_105 ?_
  refine z_cVv (As := [.ref (b + 21), .ref (b + 37)]) (rest := []) B cw_X8_286 cx_6 dX8_open_108 (ci_X5_begin_781 l (σ := (ap b σ [(37, 2, 1), (38, 0, 0), (40, 5, 0), (40, 4, (-1)), (0, 7, 1)] [(39, 0, (w1.toInt64))] [(40, 3, (some (b + 21)))])) (b := b) (lyA hK) (w1.toInt64) (rI_at 37 2 rfl) (rJ_at 39 0 rfl) (rR_at 37 1 hR_37_1) (rR_at 41 0 hR_41_0) (rR_at 41 1 hR_41_1)) (lKA (hk_K hK 41 rfl rfl)) rfl (by decide) rfl (Nat.le_of_ble_eq_true rfl) (by decide) (fun u hu => ?_)
  refine z_eqs (σ' := (ap b σ [(41, 19, 0), (41, 18, (-1)), (41, 16, (-1)), (41, 15, 0), (41, 14, 0), (41, 13, 0), (41, 12, 0), (41, 10, (-1)), (41, 9, (-1)), (41, 8, 0), (41, 7, 0), (41, 6, ((w1.toInt64).toInt32)), (41, 5, 0), (41, 4, 1), (44, 1, 0), (42, 1, 0), (37, 2, 1), (38, 0, 0), (40, 5, 0), (40, 4, (-1)), (0, 7, 1)] [(41, 17, 0), (41, 11, 0), (39, 0, (w1.toInt64))] [(41, 3, (some (b + 37))), (41, 2, (some (b + 21))), (40, 3, (some (b + 21)))])) (hu.trans ap_ap) ?_
  show zx p l e _ s m _ below meth c g 6 0 0 _ _ 111 [(5, .ref (b + 40)), (0, .ref (b + 0)), (1, .ref (b + 21)), (2, .int w1), (3, .int (-1)), (4, .int (-1))] _
  refine z_aload B dX8_open_111 0 rfl ?_
  exact z_qret (r := (some (b + 40))) B hr (by decide) (by decide) dX8_open_113 ⟨rfl, rfl⟩
set_option maxRecDepth 100000 in
set_option maxHeartbeats 4000000 in
theorem ci_X4_operation_783 (l : Launch) {g : gx_T} {σ : sx_T} {b : Nat} (hK : lay b σ)   (hI_22_0 : sx_I σ (b + 22) 0 = 0) (hR_21_1 : sx_R σ (b + 21) 1 = (some (b + 22))) : Met l yX4_operation (.code yX4_operation cX4_operation 2 (some .int) :: lw_g) { frames := 0, cells := 0, slots := 0, locals := 0 } (va_Pc [.ref (b + 21), .int 0] (zx_w g σ)) (va_Qi (fun r u => r = 0 ∧ u = σ) (zx_w g) (gx_Q g)) 0 0 (gx_Q g) := by
  refine z_met (by decide) (Nat.le_of_ble_eq_true rfl) (fun p e s m below meth c B hr hin => ?_)
  refine z_eqs (σ' := (ap b σ [] [] [])) rfl ?_
  show zx p l e _ s m _ below meth c g 2 0 0 _ _ 0 [(0, .ref (b + 21)), (1, .int 0)] []
  refine z_iload_n B dX4_operation_0 rfl 1 rfl ?_
  refine z_if_lt (tgt := 22) B dX4_operation_1 (by decide) (fun h => absurd h (by decide)) (fun _ => ?_)
  refine z_iload_n B dX4_operation_4 rfl 1 rfl ?_
  refine z_aload_n B dX4_operation_5 rfl 0 rfl ?_
  refine gf_X4_9 (x := (some (b + 22))) B (lKA (hk_K hK 21 rfl rfl)) (rR_at 21 1 hR_21_1) dX4_operation_6 ?_
  refine z_alen (kd := 13) (ti := 1) (v := 20) B (lKA (hk_K hK 22 rfl rfl)) (by decide) rfl (congrArg Int32.ofNat (lNA (hk_N hK 22 rfl rfl))) dX4_operation_9 ?_
  refine z_icmp_ge (tgt := 22) B dX4_operation_10 (by decide) (fun h => absurd h (by decide)) (fun _ => ?_)
  refine z_aload_n B dX4_operation_13 rfl 0 rfl ?_
  refine gf_X4_9 (x := (some (b + 22))) B (lKA (hk_K hK 21 rfl rfl)) (rR_at 21 1 hR_21_1) dX4_operation_14 ?_
  refine z_iload_n B dX4_operation_17 rfl 1 rfl ?_
  refine z_iald (j := 0) (x := 0) B (lKA (hk_K hK 22 rfl rfl)) (by decide) (in_of (lNA (hk_N hK 22 rfl rfl)) (show ¬ ((0 : Int32) < 0 ∨ 20 ≤ (0 : Int32).toNatClampNeg) by decide)) (rI_at 22 0 hI_22_0) dX4_operation_18 ?_
  refine z_goto (tgt := 23) B dX4_operation_19 (by decide) ?_
  exact z_iret B hr (by decide) (by decide) dX4_operation_23 ⟨rfl, rfl⟩
set_option maxRecDepth 100000 in
set_option maxHeartbeats 4000000 in
theorem ci_X4_first_784 (l : Launch) {g : gx_T} {σ : sx_T} {b : Nat} (hK : lay b σ)   (hI_23_0 : sx_I σ (b + 23) 0 = 0) (hR_21_2 : sx_R σ (b + 21) 2 = (some (b + 23))) : Met l yX4_first (.code yX4_first cX4_first 2 (some .int) :: lw_g) { frames := 0, cells := 0, slots := 0, locals := 0 } (va_Pc [.ref (b + 21), .int 0] (zx_w g σ)) (va_Qi (fun r u => r = 0 ∧ u = σ) (zx_w g) (gx_Q g)) 0 0 (gx_Q g) := by
  refine z_met (by decide) (Nat.le_of_ble_eq_true rfl) (fun p e s m below meth c B hr hin => ?_)
  refine z_eqs (σ' := (ap b σ [] [] [])) rfl ?_
  show zx p l e _ s m _ below meth c g 2 0 0 _ _ 0 [(0, .ref (b + 21)), (1, .int 0)] []
  refine z_iload_n B dX4_first_0 rfl 1 rfl ?_
  refine z_if_lt (tgt := 22) B dX4_first_1 (by decide) (fun h => absurd h (by decide)) (fun _ => ?_)
  refine z_iload_n B dX4_first_4 rfl 1 rfl ?_
  refine z_aload_n B dX4_first_5 rfl 0 rfl ?_
  refine gf_X4_15 (x := (some (b + 23))) B (lKA (hk_K hK 21 rfl rfl)) (rR_at 21 2 hR_21_2) dX4_first_6 ?_
  refine z_alen (kd := 13) (ti := 1) (v := 20) B (lKA (hk_K hK 23 rfl rfl)) (by decide) rfl (congrArg Int32.ofNat (lNA (hk_N hK 23 rfl rfl))) dX4_first_9 ?_
  refine z_icmp_ge (tgt := 22) B dX4_first_10 (by decide) (fun h => absurd h (by decide)) (fun _ => ?_)
  refine z_aload_n B dX4_first_13 rfl 0 rfl ?_
  refine gf_X4_15 (x := (some (b + 23))) B (lKA (hk_K hK 21 rfl rfl)) (rR_at 21 2 hR_21_2) dX4_first_14 ?_
  refine z_iload_n B dX4_first_17 rfl 1 rfl ?_
  refine z_iald (j := 0) (x := 0) B (lKA (hk_K hK 23 rfl rfl)) (by decide) (in_of (lNA (hk_N hK 23 rfl rfl)) (show ¬ ((0 : Int32) < 0 ∨ 20 ≤ (0 : Int32).toNatClampNeg) by decide)) (rI_at 23 0 hI_23_0) dX4_first_18 ?_
  refine z_goto (tgt := 23) B dX4_first_19 (by decide) ?_
  exact z_iret B hr (by decide) (by decide) dX4_first_23 ⟨rfl, rfl⟩
set_option maxRecDepth 100000 in
set_option maxHeartbeats 4000000 in
theorem ci_X4_second_785 (l : Launch) {g : gx_T} {σ : sx_T} {b : Nat} (hK : lay b σ)   (hI_24_0 : sx_I σ (b + 24) 0 = 0) (hR_21_3 : sx_R σ (b + 21) 3 = (some (b + 24))) : Met l yX4_second (.code yX4_second cX4_second 2 (some .int) :: lw_g) { frames := 0, cells := 0, slots := 0, locals := 0 } (va_Pc [.ref (b + 21), .int 0] (zx_w g σ)) (va_Qi (fun r u => r = 0 ∧ u = σ) (zx_w g) (gx_Q g)) 0 0 (gx_Q g) := by
  refine z_met (by decide) (Nat.le_of_ble_eq_true rfl) (fun p e s m below meth c B hr hin => ?_)
  refine z_eqs (σ' := (ap b σ [] [] [])) rfl ?_
  show zx p l e _ s m _ below meth c g 2 0 0 _ _ 0 [(0, .ref (b + 21)), (1, .int 0)] []
  refine z_iload_n B dX4_second_0 rfl 1 rfl ?_
  refine z_if_lt (tgt := 22) B dX4_second_1 (by decide) (fun h => absurd h (by decide)) (fun _ => ?_)
  refine z_iload_n B dX4_second_4 rfl 1 rfl ?_
  refine z_aload_n B dX4_second_5 rfl 0 rfl ?_
  refine gf_X4_18 (x := (some (b + 24))) B (lKA (hk_K hK 21 rfl rfl)) (rR_at 21 3 hR_21_3) dX4_second_6 ?_
  refine z_alen (kd := 13) (ti := 1) (v := 20) B (lKA (hk_K hK 24 rfl rfl)) (by decide) rfl (congrArg Int32.ofNat (lNA (hk_N hK 24 rfl rfl))) dX4_second_9 ?_
  refine z_icmp_ge (tgt := 22) B dX4_second_10 (by decide) (fun h => absurd h (by decide)) (fun _ => ?_)
  refine z_aload_n B dX4_second_13 rfl 0 rfl ?_
  refine gf_X4_18 (x := (some (b + 24))) B (lKA (hk_K hK 21 rfl rfl)) (rR_at 21 3 hR_21_3) dX4_second_14 ?_
  refine z_iload_n B dX4_second_17 rfl 1 rfl ?_
  refine z_iald (j := 0) (x := 0) B (lKA (hk_K hK 24 rfl rfl)) (by decide) (in_of (lNA (hk_N hK 24 rfl rfl)) (show ¬ ((0 : Int32) < 0 ∨ 20 ≤ (0 : Int32).toNatClampNeg) by decide)) (rI_at 24 0 hI_24_0) dX4_second_18 ?_
  refine z_goto (tgt := 23) B dX4_second_19 (by decide) ?_
  exact z_iret B hr (by decide) (by decide) dX4_second_23 ⟨rfl, rfl⟩
set_option maxRecDepth 100000 in
set_option maxHeartbeats 4000000 in
theorem ci_X5_step_786 (l : Launch) {g : gx_T} {σ : sx_T} {b : Nat} (hK : lay b σ) (w1 : Int32)  (hI_22_0 : sx_I σ (b + 22) 0 = 0) (hI_23_0 : sx_I σ (b + 23) 0 = 0) (hI_24_0 : sx_I σ (b + 24) 0 = 0) (hI_41_5 : sx_I σ (b + 41) 5 = 0) (hI_41_6 : sx_I σ (b + 41) 6 = w1) (hI_41_7 : sx_I σ (b + 41) 7 = 0) (hR_21_1 : sx_R σ (b + 21) 1 = (some (b + 22))) (hR_21_2 : sx_R σ (b + 21) 2 = (some (b + 23))) (hR_21_3 : sx_R σ (b + 21) 3 = (some (b + 24))) (hR_41_2 : sx_R σ (b + 41) 2 = (some (b + 21))) : Met l yX5_step (.code yX5_step cX5_step 4 none :: lw_g) { frames := 1, cells := 0, slots := 0, locals := 23 } (va_Pc [.ref (b + 41)] (zx_w g σ)) (va_Qv (fun u => u = (ap b σ [(41, 16, 13), (41, 7, 1), (41, 5, 1)] [(41, 17, ((10 * (w1.toInt64)) + 1))] [])) (zx_w g) (gx_Q g)) 0 0 (gx_Q g) := by
  refine z_met (by decide) (Nat.le_of_ble_eq_true rfl) (fun p e s m below meth c B hr hin => ?_)
  refine z_eqs (σ' := (ap b σ [] [] [])) rfl ?_
  show zx p l e _ s m _ below meth c g 4 0 0 _ _ 0 [(0, .ref (b + 41))] []
  refine z_aload_n B dX5_step_0 rfl 0 rfl ?_
  refine gf_X5_25 (x := (some (b + 21))) B (lKA (hk_K hK 41 rfl rfl)) (rR_at 41 2 hR_41_2) dX5_step_1 ?_
  refine z_aload_n B dX5_step_4 rfl 0 rfl ?_
  refine gf_X5_41 (x := 0) B (lKA (hk_K hK 41 rfl rfl)) (rI_at 41 5 hI_41_5) dX5_step_5 ?_
  refine z_cVi (As := [.int 0]) (rest := []) B cw_X5_155 cx_5 dX5_step_8 (ci_X4_operation_783 l (σ := (ap b σ [] [] [])) (b := b) (lyA hK) (rI_at 22 0 hI_22_0) (rR_at 21 1 hR_21_1)) (lKA (hk_K hK 21 rfl rfl)) rfl (by decide) rfl (Nat.le_of_ble_eq_true rfl) (by decide) (fun r u hu => ?_)
  refine z_eqs (σ' := (ap b σ [] [] [])) hu.2 ?_
  show zx p l e _ s m _ below meth c g 4 0 0 _ _ 11 [(0, .ref (b + 41))] _
  refine z_seti (y := 0) hu.1 ?_
  refine z_istore_n (lv' := [(1, .int 0), (0, .ref (b + 41))]) B dX5_step_11 rfl (by decide) rfl ?_
  refine z_aload_n B dX5_step_12 rfl 1 rfl ?_
  refine gf_X5_25 (x := (some (b + 21))) B (lKA (hk_K hK 41 rfl rfl)) (rR_at 41 2 hR_41_2) dX5_step_13 ?_
  refine z_aload_n B dX5_step_16 rfl 1 rfl ?_
  refine gf_X5_41 (x := 0) B (lKA (hk_K hK 41 rfl rfl)) (rI_at 41 5 hI_41_5) dX5_step_17 ?_
  refine z_cVi (As := [.int 0]) (rest := []) B cw_X5_160 cx_5 dX5_step_20 (ci_X4_first_784 l (σ := (ap b σ [] [] [])) (b := b) (lyA hK) (rI_at 23 0 hI_23_0) (rR_at 21 2 hR_21_2)) (lKA (hk_K hK 21 rfl rfl)) rfl (by decide) rfl (Nat.le_of_ble_eq_true rfl) (by decide) (fun r u hu => ?_)
  refine z_eqs (σ' := (ap b σ [] [] [])) hu.2 ?_
  show zx p l e _ s m _ below meth c g 4 0 0 _ _ 23 [(1, .int 0), (0, .ref (b + 41))] _
  refine z_seti (y := 0) hu.1 ?_
  refine z_istore_n (lv' := [(2, .int 0), (1, .int 0), (0, .ref (b + 41))]) B dX5_step_23 rfl (by decide) rfl ?_
  refine z_aload_n B dX5_step_24 rfl 2 rfl ?_
  refine gf_X5_25 (x := (some (b + 21))) B (lKA (hk_K hK 41 rfl rfl)) (rR_at 41 2 hR_41_2) dX5_step_25 ?_
  refine z_aload_n B dX5_step_28 rfl 2 rfl ?_
  refine gf_X5_41 (x := 0) B (lKA (hk_K hK 41 rfl rfl)) (rI_at 41 5 hI_41_5) dX5_step_29 ?_
  refine z_cVi (As := [.int 0]) (rest := []) B cw_X5_163 cx_5 dX5_step_32 (ci_X4_second_785 l (σ := (ap b σ [] [] [])) (b := b) (lyA hK) (rI_at 24 0 hI_24_0) (rR_at 21 3 hR_21_3)) (lKA (hk_K hK 21 rfl rfl)) rfl (by decide) rfl (Nat.le_of_ble_eq_true rfl) (by decide) (fun r u hu => ?_)
  refine z_eqs (σ' := (ap b σ [] [] [])) hu.2 ?_
  show zx p l e _ s m _ below meth c g 4 0 0 _ _ 35 [(2, .int 0), (1, .int 0), (0, .ref (b + 41))] _
  refine z_seti (y := 0) hu.1 ?_
  refine z_istore_n (lv' := [(3, .int 0), (2, .int 0), (1, .int 0), (0, .ref (b + 41))]) B dX5_step_35 rfl (by decide) rfl ?_
  refine z_aload_n B dX5_step_36 rfl 3 rfl ?_
  refine z_aload_n B dX5_step_37 rfl 3 rfl ?_
  refine gf_X5_41 (x := 0) B (lKA (hk_K hK 41 rfl rfl)) (rI_at 41 5 hI_41_5) dX5_step_38 ?_
  refine z_iconst (v := 1) B dX5_step_41 (by decide) ?_
  refine z_iadd B dX5_step_42 ?_
  refine z_seti (y := 1) (by decide) ?_
  refine z_bipush (v := 20) B dX5_step_43 (by decide) ?_
  refine z_irem B dX5_step_45 (by decide) ?_
  refine z_seti (y := 1) (by decide) ?_
  refine pf_X5_41 (x := 1) (σ' := (ap b σ [(41, 5, 1)] [] [])) B (lKA (hk_K hK 41 rfl rfl)) wI_ap dX5_step_46 ?_
  refine z_aload_n B dX5_step_49 rfl 3 rfl ?_
  refine z_dup B dX5_step_50 rfl ?_
  refine gf_X5_53 (x := 0) B (lKA (hk_K hK 41 rfl rfl)) (rI_at 41 7 hI_41_7) dX5_step_51 ?_
  refine z_iconst (v := 1) B dX5_step_54 (by decide) ?_
  refine z_iadd B dX5_step_55 ?_
  refine z_seti (y := 1) (by decide) ?_
  refine pf_X5_53 (x := 1) (σ' := (ap b σ [(41, 7, 1), (41, 5, 1)] [] [])) B (lKA (hk_K hK 41 rfl rfl)) wI_ap dX5_step_56 ?_
  refine z_aload_n B dX5_step_59 rfl 3 rfl ?_
  refine gf_X5_53 (x := 1) B (lKA (hk_K hK 41 rfl rfl)) (rI_at 41 7 rfl) dX5_step_60 ?_
  refine z_bipush (v := 60) B dX5_step_63 (by decide) ?_
  refine z_icmp_gt (tgt := 77) B dX5_step_65 (by decide) (fun h => absurd h (by decide)) (fun _ => ?_)
  refine z_aload_n B dX5_step_68 rfl 3 rfl ?_
  refine z_iload_n B dX5_step_69 rfl 2 rfl ?_
  refine z_iload_n B dX5_step_70 rfl 1 rfl ?_
  refine z_cVi (As := [.int 0, .int 0]) (rest := []) B cw_X5_166 cx_6 dX5_step_71 (ci_X5_isRefused_674 l (σ := (ap b σ [(41, 7, 1), (41, 5, 1)] [] [])) (b := b) (lyA hK) ) (lKA (hk_K hK 41 rfl rfl)) rfl (by decide) rfl (Nat.le_of_ble_eq_true rfl) (by decide) (fun r u hu => ?_)
  refine z_eqs (σ' := (ap b σ [(41, 7, 1), (41, 5, 1)] [] [])) hu.2 ?_
  show zx p l e _ s m _ below meth c g 4 0 0 _ _ 74 [(3, .int 0), (2, .int 0), (1, .int 0), (0, .ref (b + 41))] _
  refine z_seti (y := 0) hu.1 ?_
  refine z_if_eq (tgt := 82) B dX5_step_74 (by decide) (fun _ => ?_) (fun h => absurd (by decide) h)
  refine z_iload_n B dX5_step_82 rfl 2 rfl ?_
  refine z_tableIn (tgt := 276) B dX5_step_83 (by decide) (by decide) (show _ = some (193 : Int) by decide) (by decide) ?_
  refine z_aload_n B dX5_step_276 rfl 3 rfl ?_
  refine z_bipush (v := 13) B dX5_step_277 (by decide) ?_
  refine z_ldc2 (v := 10) B dX5_step_279 wg_370 ?_
  refine z_aload_n B dX5_step_282 rfl 3 rfl ?_
  refine gf_X5_50 (x := w1) B (lKA (hk_K hK 41 rfl rfl)) (rI_at 41 6 hI_41_6) dX5_step_283 ?_
  refine z_i2l B dX5_step_286 rfl ?_
  refine z_lmul B dX5_step_287 ?_
  refine z_lconst (v := 1) B dX5_step_288 (by decide) ?_
  refine z_ladd B dX5_step_289 ?_
  refine z_cVv (As := [.int 13, .long ((10 * (w1.toInt64)) + 1)]) (rest := []) B cw_X5_114 cx_6 dX5_step_290 (ci_X5_want_675 l (σ := (ap b σ [(41, 7, 1), (41, 5, 1)] [] [])) (b := b) (lyA hK) ((10 * (w1.toInt64)) + 1)) (lKA (hk_K hK 41 rfl rfl)) rfl (by decide) rfl (Nat.le_of_ble_eq_true rfl) (by decide) (fun u hu => ?_)
  refine z_eqs (σ' := (ap b σ [(41, 16, 13), (41, 7, 1), (41, 5, 1)] [(41, 17, ((10 * (w1.toInt64)) + 1))] [])) (hu.trans ap_ap) ?_
  show zx p l e _ s m _ below meth c g 4 0 0 _ _ 293 [(3, .int 0), (2, .int 0), (1, .int 0), (0, .ref (b + 41))] _
  refine z_goto (tgt := 302) B dX5_step_293 (by decide) ?_
  exact z_vret B hr (by decide) (by decide) dX5_step_302 rfl
set_option maxRecDepth 100000 in
set_option maxHeartbeats 4000000 in
theorem ci_X5_advance_787 (l : Launch) {g : gx_T} {σ : sx_T} {b : Nat} (hK : lay b σ) (w1 : Int32)  (hI_22_0 : sx_I σ (b + 22) 0 = 0) (hI_23_0 : sx_I σ (b + 23) 0 = 0) (hI_24_0 : sx_I σ (b + 24) 0 = 0) (hI_41_4 : sx_I σ (b + 41) 4 = 1) (hI_41_5 : sx_I σ (b + 41) 5 = 0) (hI_41_6 : sx_I σ (b + 41) 6 = w1) (hI_41_7 : sx_I σ (b + 41) 7 = 0) (hI_41_8 : sx_I σ (b + 41) 8 = 0) (hI_41_14 : sx_I σ (b + 41) 14 = 0) (hI_41_15 : sx_I σ (b + 41) 15 = 0) (hI_41_16 : sx_I σ (b + 41) 16 = (-1)) (hI_41_19 : sx_I σ (b + 41) 19 = 0) (hR_21_1 : sx_R σ (b + 21) 1 = (some (b + 22))) (hR_21_2 : sx_R σ (b + 21) 2 = (some (b + 23))) (hR_21_3 : sx_R σ (b + 21) 3 = (some (b + 24))) (hR_41_2 : sx_R σ (b + 41) 2 = (some (b + 21))) : Met l yX5_advance (.code yX5_advance cX5_advance 5 none :: lw_g) { frames := 2, cells := 0, slots := 0, locals := 46 } (va_Pc [.ref (b + 41), .int 1] (zx_w g σ)) (va_Qv (fun u => u = (ap b σ [(41, 16, 13), (41, 7, 1), (41, 5, 1)] [(41, 17, ((10 * (w1.toInt64)) + 1))] [])) (zx_w g) (gx_Q g)) 0 0 (gx_Q g) := by
  refine z_met (by decide) (Nat.le_of_ble_eq_true rfl) (fun p e s m below meth c B hr hin => ?_)
  refine z_eqs (σ' := (ap b σ [] [] [])) rfl ?_
  show zx p l e _ s m _ below meth c g 5 0 0 _ _ 0 [(0, .ref (b + 41)), (1, .int 1)] []
  refine z_iconst (v := 1) B dX5_advance_0 (by decide) ?_
  refine z_istore_n (lv' := [(2, .int 1), (0, .ref (b + 41)), (1, .int 1)]) B dX5_advance_1 rfl (by decide) rfl ?_
  refine z_iconst (v := 0) B dX5_advance_2 (by decide) ?_
  refine z_istore_n (lv' := [(3, .int 0), (2, .int 1), (0, .ref (b + 41)), (1, .int 1)]) B dX5_advance_3 rfl (by decide) rfl ?_
  refine z_iload_n B dX5_advance_4 rfl 0 rfl ?_
  refine z_ldc (v := 1000000) B dX5_advance_5 wg_355 ?_
  refine z_icmp_ge (tgt := 122) B dX5_advance_7 (by decide) (fun h => absurd h (by decide)) (fun _ => ?_)
  refine z_iload_n B dX5_advance_10 rfl 1 rfl ?_
  refine z_if_eq (tgt := 122) B dX5_advance_11 (by decide) (fun h => absurd h (by decide)) (fun _ => ?_)
  refine z_aload_n B dX5_advance_14 rfl 2 rfl ?_
  refine gf_X5_38 (x := 1) B (lKA (hk_K hK 41 rfl rfl)) (rI_at 41 4 hI_41_4) dX5_advance_15 ?_
  refine z_iload_n B dX5_advance_18 rfl 3 rfl ?_
  refine z_icmp_ge (tgt := 26) B dX5_advance_19 (by decide) (fun _ => ?_) (fun h => absurd (by decide) h)
  refine z_iconst (v := 0) B dX5_advance_26 (by decide) ?_
  refine z_istore (lv' := [(4, .int 0), (3, .int 0), (2, .int 1), (0, .ref (b + 41)), (1, .int 1)]) B dX5_advance_27 (by decide) rfl ?_
  refine z_aload_n B dX5_advance_29 rfl 3 rfl ?_
  refine gf_X5_91 (x := 0) B (lKA (hk_K hK 41 rfl rfl)) (rI_at 41 19 hI_41_19) dX5_advance_30 ?_
  refine z_if_eq (tgt := 41) B dX5_advance_33 (by decide) (fun _ => ?_) (fun h => absurd (by decide) h)
  refine z_aload_n B dX5_advance_41 rfl 3 rfl ?_
  refine gf_X5_82 (x := (-1)) B (lKA (hk_K hK 41 rfl rfl)) (rI_at 41 16 hI_41_16) dX5_advance_42 ?_
  refine z_iconst (v := (-1)) B dX5_advance_45 (by decide) ?_
  refine z_icmp_eq (tgt := 61) B dX5_advance_46 (by decide) (fun _ => ?_) (fun h => absurd (by decide) h)
  refine z_aload_n B dX5_advance_61 rfl 3 rfl ?_
  refine gf_X5_79 (x := 0) B (lKA (hk_K hK 41 rfl rfl)) (rI_at 41 15 hI_41_15) dX5_advance_62 ?_
  refine z_if_eq (tgt := 79) B dX5_advance_65 (by decide) (fun _ => ?_) (fun h => absurd (by decide) h)
  refine z_aload_n B dX5_advance_79 rfl 3 rfl ?_
  refine gf_X5_56 (x := 0) B (lKA (hk_K hK 41 rfl rfl)) (rI_at 41 8 hI_41_8) dX5_advance_80 ?_
  refine z_if_eq (tgt := 98) B dX5_advance_83 (by decide) (fun _ => ?_) (fun h => absurd (by decide) h)
  refine z_aload_n B dX5_advance_98 rfl 3 rfl ?_
  refine gf_X5_76 (x := 0) B (lKA (hk_K hK 41 rfl rfl)) (rI_at 41 14 hI_41_14) dX5_advance_99 ?_
  refine z_if_eq (tgt := 112) B dX5_advance_102 (by decide) (fun _ => ?_) (fun h => absurd (by decide) h)
  refine z_aload_n B dX5_advance_112 rfl 3 rfl ?_
  refine z_cVv (As := []) (rest := []) B cw_X5_105 cx_6 dX5_advance_113 (ci_X5_step_786 l (σ := (ap b σ [] [] [])) (b := b) (lyA hK) w1 (rI_at 22 0 hI_22_0) (rI_at 23 0 hI_23_0) (rI_at 24 0 hI_24_0) (rI_at 41 5 hI_41_5) (rI_at 41 6 hI_41_6) (rI_at 41 7 hI_41_7) (rR_at 21 1 hR_21_1) (rR_at 21 2 hR_21_2) (rR_at 21 3 hR_21_3) (rR_at 41 2 hR_41_2)) (lKA (hk_K hK 41 rfl rfl)) rfl (by decide) rfl (Nat.le_of_ble_eq_true rfl) (by decide) (fun u hu => ?_)
  refine z_eqs (σ' := (ap b σ [(41, 16, 13), (41, 7, 1), (41, 5, 1)] [(41, 17, ((10 * (w1.toInt64)) + 1))] [])) (hu.trans ap_ap) ?_
  show zx p l e _ s m _ below meth c g 5 0 0 _ _ 116 [(4, .int 0), (3, .int 0), (2, .int 1), (0, .ref (b + 41)), (1, .int 1)] _
  refine z_iinc (v := 1) (lv' := [(3, .int 1), (4, .int 0), (2, .int 1), (0, .ref (b + 41)), (1, .int 1)]) B dX5_advance_116 1 rfl (by decide) (by decide) rfl ?_
  refine z_goto (tgt := 4) B dX5_advance_119 (by decide) ?_
  refine z_iload_n B dX5_advance_4 rfl 0 rfl ?_
  refine z_ldc (v := 1000000) B dX5_advance_5 wg_355 ?_
  refine z_icmp_ge (tgt := 122) B dX5_advance_7 (by decide) (fun h => absurd h (by decide)) (fun _ => ?_)
  refine z_iload_n B dX5_advance_10 rfl 2 rfl ?_
  refine z_if_eq (tgt := 122) B dX5_advance_11 (by decide) (fun h => absurd h (by decide)) (fun _ => ?_)
  refine z_aload_n B dX5_advance_14 rfl 3 rfl ?_
  refine gf_X5_38 (x := 1) B (lKA (hk_K hK 41 rfl rfl)) (rI_at 41 4 hI_41_4) dX5_advance_15 ?_
  refine z_iload_n B dX5_advance_18 rfl 4 rfl ?_
  refine z_icmp_ge (tgt := 26) B dX5_advance_19 (by decide) (fun _ => ?_) (fun h => absurd (by decide) h)
  refine z_iconst (v := 0) B dX5_advance_26 (by decide) ?_
  refine z_istore (lv' := [(4, .int 0), (3, .int 1), (2, .int 1), (0, .ref (b + 41)), (1, .int 1)]) B dX5_advance_27 (by decide) rfl ?_
  refine z_aload_n B dX5_advance_29 rfl 3 rfl ?_
  refine gf_X5_91 (x := 0) B (lKA (hk_K hK 41 rfl rfl)) (rI_at 41 19 hI_41_19) dX5_advance_30 ?_
  refine z_if_eq (tgt := 41) B dX5_advance_33 (by decide) (fun _ => ?_) (fun h => absurd (by decide) h)
  refine z_aload_n B dX5_advance_41 rfl 3 rfl ?_
  refine gf_X5_82 (x := 13) B (lKA (hk_K hK 41 rfl rfl)) (rI_at 41 16 rfl) dX5_advance_42 ?_
  refine z_iconst (v := (-1)) B dX5_advance_45 (by decide) ?_
  refine z_icmp_eq (tgt := 61) B dX5_advance_46 (by decide) (fun h => absurd h (by decide)) (fun _ => ?_)
  refine z_iload B dX5_advance_49 0 rfl ?_
  refine z_istore_n (lv' := [(2, .int 0), (4, .int 0), (3, .int 1), (0, .ref (b + 41)), (1, .int 1)]) B dX5_advance_51 rfl (by decide) rfl ?_
  refine z_aload_n B dX5_advance_52 rfl 3 rfl ?_
  refine z_iload B dX5_advance_53 1 rfl ?_
  refine z_cVv (As := [.int 0]) (rest := []) B cw_X5_95 cx_6 dX5_advance_55 (ci_X5_takeWanted_677 l (σ := (ap b σ [(41, 16, 13), (41, 7, 1), (41, 5, 1)] [(41, 17, ((10 * (w1.toInt64)) + 1))] [])) (b := b) (lyA hK) ) (lKA (hk_K hK 41 rfl rfl)) rfl (by decide) rfl (Nat.le_of_ble_eq_true rfl) (by decide) (fun u hu => ?_)
  refine z_eqs (σ' := (ap b σ [(41, 16, 13), (41, 7, 1), (41, 5, 1)] [(41, 17, ((10 * (w1.toInt64)) + 1))] [])) hu ?_
  show zx p l e _ s m _ below meth c g 5 0 0 _ _ 58 [(2, .int 0), (4, .int 0), (3, .int 1), (0, .ref (b + 41)), (1, .int 1)] _
  refine z_goto (tgt := 116) B dX5_advance_58 (by decide) ?_
  refine z_iinc (v := 2) (lv' := [(3, .int 2), (2, .int 0), (4, .int 0), (0, .ref (b + 41)), (1, .int 1)]) B dX5_advance_116 2 rfl (by decide) (by decide) rfl ?_
  refine z_goto (tgt := 4) B dX5_advance_119 (by decide) ?_
  refine z_iload_n B dX5_advance_4 rfl 0 rfl ?_
  refine z_ldc (v := 1000000) B dX5_advance_5 wg_355 ?_
  refine z_icmp_ge (tgt := 122) B dX5_advance_7 (by decide) (fun h => absurd h (by decide)) (fun _ => ?_)
  refine z_iload_n B dX5_advance_10 rfl 1 rfl ?_
  refine z_if_eq (tgt := 122) B dX5_advance_11 (by decide) (fun _ => ?_) (fun h => absurd (by decide) h)
  exact z_vret B hr (by decide) (by decide) dX5_advance_122 rfl
set_option maxRecDepth 100000 in
set_option maxHeartbeats 4000000 in
theorem ci_X8_goOn_788 (l : Launch) {g : gx_T} {σ : sx_T} {b : Nat} (hK : lay b σ) (w1 : Int32) (q1_w1 : (-999 : Int) ≤ w1.toInt) (q2_w1 : w1.toInt ≤ (-1 : Int)) (hI_5_1 : sx_I σ (b + 5) 1 = 0) (hI_5_2 : sx_I σ (b + 5) 2 = 0) (hI_7_1 : sx_I σ (b + 7) 1 = 0) (hI_7_2 : sx_I σ (b + 7) 2 = 0) (hI_22_0 : sx_I σ (b + 22) 0 = 0) (hI_23_0 : sx_I σ (b + 23) 0 = 0) (hI_24_0 : sx_I σ (b + 24) 0 = 0) (hI_37_2 : sx_I σ (b + 37) 2 = 1) (hI_40_4 : sx_I σ (b + 40) 4 = (-1)) (hI_40_8 : sx_I σ (b + 40) 8 = 0) (hI_41_4 : sx_I σ (b + 41) 4 = 1) (hI_41_5 : sx_I σ (b + 41) 5 = 0) (hI_41_6 : sx_I σ (b + 41) 6 = w1) (hI_41_7 : sx_I σ (b + 41) 7 = 0) (hI_41_8 : sx_I σ (b + 41) 8 = 0) (hI_41_14 : sx_I σ (b + 41) 14 = 0) (hI_41_15 : sx_I σ (b + 41) 15 = 0) (hI_41_16 : sx_I σ (b + 41) 16 = (-1)) (hI_41_18 : sx_I σ (b + 41) 18 = (-1)) (hI_41_19 : sx_I σ (b + 41) 19 = 0) (hR_0_4 : sx_R σ (b + 0) 4 = (some (b + 5))) (hR_0_5 : sx_R σ (b + 0) 5 = (some (b + 7))) (hR_5_0 : sx_R σ (b + 5) 0 = (some (b + 6))) (hR_21_1 : sx_R σ (b + 21) 1 = (some (b + 22))) (hR_21_2 : sx_R σ (b + 21) 2 = (some (b + 23))) (hR_21_3 : sx_R σ (b + 21) 3 = (some (b + 24))) (hR_37_0 : sx_R σ (b + 37) 0 = (some (b + 38))) (hR_37_1 : sx_R σ (b + 37) 1 = (some (b + 39))) (hR_40_1 : sx_R σ (b + 40) 1 = (some (b + 37))) (hR_40_2 : sx_R σ (b + 40) 2 = (some (b + 41))) (hR_40_7 : sx_R σ (b + 40) 7 = none) (hR_41_2 : sx_R σ (b + 41) 2 = (some (b + 21))) (hR_41_3 : sx_R σ (b + 41) 3 = (some (b + 37))) : Met l yX8_goOn (.code yX8_goOn cX8_goOn 5 none :: lw_g) { frames := 3, cells := 0, slots := 0, locals := 72 } (va_Pc [.ref (b + 0), .ref (b + 40)] (zx_w g σ)) (va_Qv (fun u => u = (ap b σ [(7, 2, 0), (7, 1, 0), (40, 8, 2), (5, 2, 0), (41, 19, 0), (41, 19, 0), (41, 15, 1), (41, 4, 2), (41, 16, (-1)), (37, 2, 2), (38, 1, 13), (41, 16, 13), (41, 7, 1), (41, 5, 1), (5, 2, 1)] [(39, 1, ((10 * (w1.toInt64)) + 1)), (41, 17, ((10 * (w1.toInt64)) + 1))] [(6, 0, (some (b + 40)))])) (zx_w g) (gx_Q g)) 0 0 (gx_Q g) := by
  refine z_met (by decide) (Nat.le_of_ble_eq_true rfl) (fun p e s m below meth c B hr hin => ?_)
  refine z_eqs (σ' := (ap b σ [] [] [])) rfl ?_
  show zx p l e _ s m _ below meth c g 5 0 0 _ _ 0 [(0, .ref (b + 0)), (1, .ref (b + 40))] []
  refine z_aload_n B dX8_goOn_0 rfl 0 rfl ?_
  refine gf_X8_35 (x := (some (b + 5))) B (lKA (hk_K hK 0 rfl rfl)) (rR_at 0 4 hR_0_4) dX8_goOn_1 ?_
  refine z_aload_n B dX8_goOn_4 rfl 1 rfl ?_
  refine z_cVv (As := [.ref (b + 40)]) (rest := []) B cw_X8_337 cx_3 dX8_goOn_5 (ci_X2_addLast_667 l (σ := (ap b σ [] [] [])) (b := b) (lyA hK) (rI_at 5 2 hI_5_2) (rR_at 5 0 hR_5_0)) (lKA (hk_K hK 5 rfl rfl)) rfl (by decide) rfl (Nat.le_of_ble_eq_true rfl) (by decide) (fun u hu => ?_)
  refine z_eqs (σ' := (ap b σ [(5, 2, 1)] [] [(6, 0, (some (b + 40)))])) (hu.trans ap_ap) ?_
  show zx p l e _ s m _ below meth c g 5 0 0 _ _ 8 [(0, .ref (b + 0)), (1, .ref (b + 40))] _
  refine z_iconst (v := 0) B dX8_goOn_8 (by decide) ?_
  refine z_istore_n (lv' := [(2, .int 0), (0, .ref (b + 0)), (1, .ref (b + 40))]) B dX8_goOn_9 rfl (by decide) rfl ?_
  refine z_iload_n B dX8_goOn_10 rfl 0 rfl ?_
  refine z_ldcw (v := 1000000) B dX8_goOn_11 wg_515 ?_
  refine z_icmp_ge (tgt := 126) B dX8_goOn_14 (by decide) (fun h => absurd h (by decide)) (fun _ => ?_)
  refine z_aload_n B dX8_goOn_17 rfl 1 rfl ?_
  refine gf_X8_35 (x := (some (b + 5))) B (lKA (hk_K hK 0 rfl rfl)) (rR_at 0 4 hR_0_4) dX8_goOn_18 ?_
  refine z_cVi (As := []) (rest := []) B cw_X8_341 cx_3 dX8_goOn_21 (ci_X2_isEmpty_668 l (σ := (ap b σ [(5, 2, 1)] [] [(6, 0, (some (b + 40)))])) (b := b) (lyA hK) (rI_at 5 1 hI_5_1) (rI_at 5 2 rfl)) (lKA (hk_K hK 5 rfl rfl)) rfl (by decide) rfl (Nat.le_of_ble_eq_true rfl) (by decide) (fun r u hu => ?_)
  refine z_eqs (σ' := (ap b σ [(5, 2, 1)] [] [(6, 0, (some (b + 40)))])) hu.2 ?_
  show zx p l e _ s m _ below meth c g 5 0 0 _ _ 24 [(2, .int 0), (0, .ref (b + 0)), (1, .ref (b + 40))] _
  refine z_seti (y := 0) hu.1 ?_
  refine z_if_eq (tgt := 41) B dX8_goOn_24 (by decide) (fun _ => ?_) (fun h => absurd (by decide) h)
  refine z_aload_n B dX8_goOn_41 rfl 1 rfl ?_
  refine gf_X8_35 (x := (some (b + 5))) B (lKA (hk_K hK 0 rfl rfl)) (rR_at 0 4 hR_0_4) dX8_goOn_42 ?_
  refine z_cVq (As := []) (rest := []) B cw_X8_348 cx_3 dX8_goOn_45 (ci_X2_last_669 l (σ := (ap b σ [(5, 2, 1)] [] [(6, 0, (some (b + 40)))])) (b := b) (lyA hK) (rI_at 5 1 hI_5_1) (rI_at 5 2 rfl) (rR_at 5 0 hR_5_0) (rR_at 6 0 rfl)) (lKA (hk_K hK 5 rfl rfl)) rfl (by decide) rfl (Nat.le_of_ble_eq_true rfl) (by decide) (fun r u hu => ?_)
  refine z_eqs (σ' := (ap b σ [(5, 2, 1)] [] [(6, 0, (some (b + 40)))])) hu.2 ?_
  show zx p l e _ s m _ below meth c g 5 0 0 _ _ 48 [(2, .int 0), (0, .ref (b + 0)), (1, .ref (b + 40))] _
  refine z_setr (y := (some (b + 40))) hu.1 ?_
  refine z_astore_n (lv' := [(3, .ref (b + 40)), (2, .int 0), (0, .ref (b + 0)), (1, .ref (b + 40))]) B dX8_goOn_48 rfl (by decide) rfl ?_
  refine z_aload_n B dX8_goOn_49 rfl 0 rfl ?_
  refine z_ifnonnull (r := (some (b + 40))) (tgt := 54) B dX8_goOn_50 (by decide) (fun _ _ => ?_) (fun h => nomatch h)
  refine z_aload_n B dX8_goOn_54 rfl 0 rfl ?_
  refine gf_X8_249 (x := (some (b + 41))) B (lKA (hk_K hK 40 rfl rfl)) (rR_at 40 2 hR_40_2) dX8_goOn_55 ?_
  refine z_aload_n B dX8_goOn_58 rfl 0 rfl ?_
  refine gf_X8_179 (x := (some (b + 37))) B (lKA (hk_K hK 40 rfl rfl)) (rR_at 40 1 hR_40_1) dX8_goOn_59 ?_
  refine z_cVi (As := []) (rest := [.ref (b + 41)]) B cw_X8_183 cx_2 dX8_goOn_62 (ci_X1_size_670 l (σ := (ap b σ [(5, 2, 1)] [] [(6, 0, (some (b + 40)))])) (b := b) (lyA hK) (rI_at 37 2 hI_37_2)) (lKA (hk_K hK 37 rfl rfl)) rfl (by decide) rfl (Nat.le_of_ble_eq_true rfl) (by decide) (fun r u hu => ?_)
  refine z_eqs (σ' := (ap b σ [(5, 2, 1)] [] [(6, 0, (some (b + 40)))])) hu.2 ?_
  show zx p l e _ s m _ below meth c g 5 0 0 _ _ 65 [(3, .ref (b + 40)), (2, .int 0), (0, .ref (b + 0)), (1, .ref (b + 40))] _
  refine z_seti (y := 1) hu.1 ?_
  refine z_cVv (As := [.int 1]) (rest := []) B cw_X8_289 cx_6 dX8_goOn_65 (ci_X5_advance_787 l (σ := (ap b σ [(5, 2, 1)] [] [(6, 0, (some (b + 40)))])) (b := b) (lyA hK) w1 (rI_at 22 0 hI_22_0) (rI_at 23 0 hI_23_0) (rI_at 24 0 hI_24_0) (rI_at 41 4 hI_41_4) (rI_at 41 5 hI_41_5) (rI_at 41 6 hI_41_6) (rI_at 41 7 hI_41_7) (rI_at 41 8 hI_41_8) (rI_at 41 14 hI_41_14) (rI_at 41 15 hI_41_15) (rI_at 41 16 hI_41_16) (rI_at 41 19 hI_41_19) (rR_at 21 1 hR_21_1) (rR_at 21 2 hR_21_2) (rR_at 21 3 hR_21_3) (rR_at 41 2 hR_41_2)) (lKA (hk_K hK 41 rfl rfl)) rfl (by decide) rfl (Nat.le_of_ble_eq_true rfl) (by decide) (fun u hu => ?_)
  refine z_eqs (σ' := (ap b σ [(41, 16, 13), (41, 7, 1), (41, 5, 1), (5, 2, 1)] [(41, 17, ((10 * (w1.toInt64)) + 1))] [(6, 0, (some (b + 40)))])) (hu.trans ap_ap) ?_
  show zx p l e _ s m _ below meth c g 5 0 0 _ _ 68 [(3, .ref (b + 40)), (2, .int 0), (0, .ref (b + 0)), (1, .ref (b + 40))] _
  refine z_aload_n B dX8_goOn_68 rfl 0 rfl ?_
  refine z_cVv (As := []) (rest := []) B cw_X8_351 cx_1 dX8_goOn_69 (ci_X0_letGo_679 l (σ := (ap b σ [(41, 16, 13), (41, 7, 1), (41, 5, 1), (5, 2, 1)] [(41, 17, ((10 * (w1.toInt64)) + 1))] [(6, 0, (some (b + 40)))])) (b := b) (lyA hK) (rR_at 40 7 hR_40_7)) (lKA (hk_K hK 40 rfl rfl)) rfl (by decide) rfl (Nat.le_of_ble_eq_true rfl) (by decide) (fun u hu => ?_)
  refine z_eqs (σ' := (ap b σ [(41, 16, 13), (41, 7, 1), (41, 5, 1), (5, 2, 1)] [(41, 17, ((10 * (w1.toInt64)) + 1))] [(6, 0, (some (b + 40)))])) hu ?_
  show zx p l e _ s m _ below meth c g 5 0 0 _ _ 72 [(3, .ref (b + 40)), (2, .int 0), (0, .ref (b + 0)), (1, .ref (b + 40))] _
  refine z_aload_n B dX8_goOn_72 rfl 0 rfl ?_
  refine gf_X8_249 (x := (some (b + 41))) B (lKA (hk_K hK 40 rfl rfl)) (rR_at 40 2 hR_40_2) dX8_goOn_73 ?_
  refine z_cVi (As := []) (rest := []) B cw_X8_354 cx_6 dX8_goOn_76 (ci_X5_wantsEvent_680 l (σ := (ap b σ [(41, 16, 13), (41, 7, 1), (41, 5, 1), (5, 2, 1)] [(41, 17, ((10 * (w1.toInt64)) + 1))] [(6, 0, (some (b + 40)))])) (b := b) (lyA hK) (rI_at 41 16 rfl) (rI_at 41 19 hI_41_19)) (lKA (hk_K hK 41 rfl rfl)) rfl (by decide) rfl (Nat.le_of_ble_eq_true rfl) (by decide) (fun r u hu => ?_)
  refine z_eqs (σ' := (ap b σ [(41, 16, 13), (41, 7, 1), (41, 5, 1), (5, 2, 1)] [(41, 17, ((10 * (w1.toInt64)) + 1))] [(6, 0, (some (b + 40)))])) hu.2 ?_
  show zx p l e _ s m _ below meth c g 5 0 0 _ _ 79 [(3, .ref (b + 40)), (2, .int 0), (0, .ref (b + 0)), (1, .ref (b + 40))] _
  refine z_seti (y := 1) hu.1 ?_
  refine z_if_eq (tgt := 115) B dX8_goOn_79 (by decide) (fun h => absurd h (by decide)) (fun _ => ?_)
  refine z_aload_n B dX8_goOn_82 rfl 2 rfl ?_
  refine z_aload_n B dX8_goOn_83 rfl 0 rfl ?_
  refine z_cVq (As := [.ref (b + 40)]) (rest := []) B cw_X8_357 cx_9 dX8_goOn_84 (ci_X8_make_684 l (σ := (ap b σ [(41, 16, 13), (41, 7, 1), (41, 5, 1), (5, 2, 1)] [(41, 17, ((10 * (w1.toInt64)) + 1))] [(6, 0, (some (b + 40)))])) (b := b) (lyA hK) ((10 * (w1.toInt64)) + 1) (rI_at 37 2 hI_37_2) (rI_at 40 4 hI_40_4) (rI_at 41 16 rfl) (rJ_at 41 17 rfl) (rR_at 37 0 hR_37_0) (rR_at 37 1 hR_37_1) (rR_at 40 1 hR_40_1) (rR_at 40 2 hR_40_2)) (lKA (hk_K hK 0 rfl rfl)) rfl (by decide) rfl (Nat.le_of_ble_eq_true rfl) (by decide) (fun r u hu => ?_)
  refine z_eqs (σ' := (ap b σ [(37, 2, 2), (38, 1, 13), (41, 16, 13), (41, 7, 1), (41, 5, 1), (5, 2, 1)] [(39, 1, ((10 * (w1.toInt64)) + 1)), (41, 17, ((10 * (w1.toInt64)) + 1))] [(6, 0, (some (b + 40)))])) (hu.2.trans ap_ap) ?_
  show zx p l e _ s m _ below meth c g 5 0 0 _ _ 87 [(3, .ref (b + 40)), (2, .int 0), (0, .ref (b + 0)), (1, .ref (b + 40))] _
  refine z_setr (y := none) hu.1 ?_
  refine z_qstore (r := none) (lv' := [(4, .null), (3, .ref (b + 40)), (2, .int 0), (0, .ref (b + 0)), (1, .ref (b + 40))]) B dX8_goOn_87 (by decide) rfl ?_
  refine z_aload_n B dX8_goOn_89 rfl 1 rfl ?_
  refine gf_X8_249 (x := (some (b + 41))) B (lKA (hk_K hK 40 rfl rfl)) (rR_at 40 2 hR_40_2) dX8_goOn_90 ?_
  refine z_aload_n B dX8_goOn_93 rfl 1 rfl ?_
  refine gf_X8_179 (x := (some (b + 37))) B (lKA (hk_K hK 40 rfl rfl)) (rR_at 40 1 hR_40_1) dX8_goOn_94 ?_
  refine z_cVi (As := []) (rest := [.ref (b + 41)]) B cw_X8_183 cx_2 dX8_goOn_97 (ci_X1_size_685 l (σ := (ap b σ [(37, 2, 2), (38, 1, 13), (41, 16, 13), (41, 7, 1), (41, 5, 1), (5, 2, 1)] [(39, 1, ((10 * (w1.toInt64)) + 1)), (41, 17, ((10 * (w1.toInt64)) + 1))] [(6, 0, (some (b + 40)))])) (b := b) (lyA hK) (rI_at 37 2 rfl)) (lKA (hk_K hK 37 rfl rfl)) rfl (by decide) rfl (Nat.le_of_ble_eq_true rfl) (by decide) (fun r u hu => ?_)
  refine z_eqs (σ' := (ap b σ [(37, 2, 2), (38, 1, 13), (41, 16, 13), (41, 7, 1), (41, 5, 1), (5, 2, 1)] [(39, 1, ((10 * (w1.toInt64)) + 1)), (41, 17, ((10 * (w1.toInt64)) + 1))] [(6, 0, (some (b + 40)))])) hu.2 ?_
  show zx p l e _ s m _ below meth c g 5 0 0 _ _ 100 [(4, .null), (3, .ref (b + 40)), (2, .int 0), (0, .ref (b + 0)), (1, .ref (b + 40))] _
  refine z_seti (y := 2) hu.1 ?_
  refine z_cVv (As := [.int 2]) (rest := []) B cw_X8_289 cx_6 dX8_goOn_100 (ci_X5_advance_690 l (σ := (ap b σ [(37, 2, 2), (38, 1, 13), (41, 16, 13), (41, 7, 1), (41, 5, 1), (5, 2, 1)] [(39, 1, ((10 * (w1.toInt64)) + 1)), (41, 17, ((10 * (w1.toInt64)) + 1))] [(6, 0, (some (b + 40)))])) (b := b) (lyA hK) ((10 * (w1.toInt64)) + 1) (iv_ladd (c := 1) (n := 1) rfl (iv_lmul (c := 10) (n := 10) rfl (by decide) (iv_i2l q1_w1 q2_w1).1 (iv_i2l q1_w1 q2_w1).2 (by decide) (by decide)).1 (iv_lmul (c := 10) (n := 10) rfl (by decide) (iv_i2l q1_w1 q2_w1).1 (iv_i2l q1_w1 q2_w1).2 (by decide) (by decide)).2 (by decide) (by decide)).1 (iv_ladd (c := 1) (n := 1) rfl (iv_lmul (c := 10) (n := 10) rfl (by decide) (iv_i2l q1_w1 q2_w1).1 (iv_i2l q1_w1 q2_w1).2 (by decide) (by decide)).1 (iv_lmul (c := 10) (n := 10) rfl (by decide) (iv_i2l q1_w1 q2_w1).1 (iv_i2l q1_w1 q2_w1).2 (by decide) (by decide)).2 (by decide) (by decide)).2 (rI_at 37 2 rfl) (rI_at 38 1 rfl) (rI_at 41 4 hI_41_4) (rI_at 41 16 rfl) (rI_at 41 19 hI_41_19) (rJ_at 39 1 rfl) (rJ_at 41 17 rfl) (rR_at 37 0 hR_37_0) (rR_at 37 1 hR_37_1) (rR_at 41 3 hR_41_3)) (lKA (hk_K hK 41 rfl rfl)) rfl (by decide) rfl (Nat.le_of_ble_eq_true rfl) (by decide) (fun u hu => ?_)
  refine z_eqs (σ' := (ap b σ [(41, 19, 0), (41, 15, 1), (41, 4, 2), (41, 16, (-1)), (37, 2, 2), (38, 1, 13), (41, 16, 13), (41, 7, 1), (41, 5, 1), (5, 2, 1)] [(39, 1, ((10 * (w1.toInt64)) + 1)), (41, 17, ((10 * (w1.toInt64)) + 1))] [(6, 0, (some (b + 40)))])) (hu.trans ap_ap) ?_
  show zx p l e _ s m _ below meth c g 5 0 0 _ _ 103 [(4, .null), (3, .ref (b + 40)), (2, .int 0), (0, .ref (b + 0)), (1, .ref (b + 40))] _
  refine z_aload_n B dX8_goOn_103 rfl 3 rfl ?_
  refine gf_X8_35 (x := (some (b + 5))) B (lKA (hk_K hK 0 rfl rfl)) (rR_at 0 4 hR_0_4) dX8_goOn_104 ?_
  refine z_qload (r := none) B dX8_goOn_107 0 rfl ?_
  refine z_cVv (As := [.null]) (rest := []) B cw_X8_337 cx_3 dX8_goOn_109 (ci_X2_addLast_691 l (σ := (ap b σ [(41, 19, 0), (41, 15, 1), (41, 4, 2), (41, 16, (-1)), (37, 2, 2), (38, 1, 13), (41, 16, 13), (41, 7, 1), (41, 5, 1), (5, 2, 1)] [(39, 1, ((10 * (w1.toInt64)) + 1)), (41, 17, ((10 * (w1.toInt64)) + 1))] [(6, 0, (some (b + 40)))])) (b := b) (lyA hK) ) (lKA (hk_K hK 5 rfl rfl)) rfl (by decide) rfl (Nat.le_of_ble_eq_true rfl) (by decide) (fun u hu => ?_)
  refine z_eqs (σ' := (ap b σ [(41, 19, 0), (41, 15, 1), (41, 4, 2), (41, 16, (-1)), (37, 2, 2), (38, 1, 13), (41, 16, 13), (41, 7, 1), (41, 5, 1), (5, 2, 1)] [(39, 1, ((10 * (w1.toInt64)) + 1)), (41, 17, ((10 * (w1.toInt64)) + 1))] [(6, 0, (some (b + 40)))])) hu ?_
  show zx p l e _ s m _ below meth c g 5 0 0 _ _ 112 [(4, .null), (3, .ref (b + 40)), (2, .int 0), (0, .ref (b + 0)), (1, .ref (b + 40))] _
  refine z_goto (tgt := 120) B dX8_goOn_112 (by decide) ?_
  refine z_iinc (v := 1) (lv' := [(2, .int 1), (4, .null), (3, .ref (b + 40)), (0, .ref (b + 0)), (1, .ref (b + 40))]) B dX8_goOn_120 2 rfl (by decide) (by decide) rfl ?_
  refine z_goto (tgt := 10) B dX8_goOn_123 (by decide) ?_
  refine z_iload_n B dX8_goOn_10 rfl 0 rfl ?_
  refine z_ldcw (v := 1000000) B dX8_goOn_11 wg_515 ?_
  refine z_icmp_ge (tgt := 126) B dX8_goOn_14 (by decide) (fun h => absurd h (by decide)) (fun _ => ?_)
  refine z_aload_n B dX8_goOn_17 rfl 3 rfl ?_
  refine gf_X8_35 (x := (some (b + 5))) B (lKA (hk_K hK 0 rfl rfl)) (rR_at 0 4 hR_0_4) dX8_goOn_18 ?_
  refine z_cVi (As := []) (rest := []) B cw_X8_341 cx_3 dX8_goOn_21 (ci_X2_isEmpty_668 l (σ := (ap b σ [(41, 19, 0), (41, 15, 1), (41, 4, 2), (41, 16, (-1)), (37, 2, 2), (38, 1, 13), (41, 16, 13), (41, 7, 1), (41, 5, 1), (5, 2, 1)] [(39, 1, ((10 * (w1.toInt64)) + 1)), (41, 17, ((10 * (w1.toInt64)) + 1))] [(6, 0, (some (b + 40)))])) (b := b) (lyA hK) (rI_at 5 1 hI_5_1) (rI_at 5 2 rfl)) (lKA (hk_K hK 5 rfl rfl)) rfl (by decide) rfl (Nat.le_of_ble_eq_true rfl) (by decide) (fun r u hu => ?_)
  refine z_eqs (σ' := (ap b σ [(41, 19, 0), (41, 15, 1), (41, 4, 2), (41, 16, (-1)), (37, 2, 2), (38, 1, 13), (41, 16, 13), (41, 7, 1), (41, 5, 1), (5, 2, 1)] [(39, 1, ((10 * (w1.toInt64)) + 1)), (41, 17, ((10 * (w1.toInt64)) + 1))] [(6, 0, (some (b + 40)))])) hu.2 ?_
  show zx p l e _ s m _ below meth c g 5 0 0 _ _ 24 [(2, .int 1), (4, .null), (3, .ref (b + 40)), (0, .ref (b + 0)), (1, .ref (b + 40))] _
  refine z_seti (y := 0) hu.1 ?_
  refine z_if_eq (tgt := 41) B dX8_goOn_24 (by decide) (fun _ => ?_) (fun h => absurd (by decide) h)
  refine z_aload_n B dX8_goOn_41 rfl 3 rfl ?_
  refine gf_X8_35 (x := (some (b + 5))) B (lKA (hk_K hK 0 rfl rfl)) (rR_at 0 4 hR_0_4) dX8_goOn_42 ?_
  refine z_cVq (As := []) (rest := []) B cw_X8_348 cx_3 dX8_goOn_45 (ci_X2_last_669 l (σ := (ap b σ [(41, 19, 0), (41, 15, 1), (41, 4, 2), (41, 16, (-1)), (37, 2, 2), (38, 1, 13), (41, 16, 13), (41, 7, 1), (41, 5, 1), (5, 2, 1)] [(39, 1, ((10 * (w1.toInt64)) + 1)), (41, 17, ((10 * (w1.toInt64)) + 1))] [(6, 0, (some (b + 40)))])) (b := b) (lyA hK) (rI_at 5 1 hI_5_1) (rI_at 5 2 rfl) (rR_at 5 0 hR_5_0) (rR_at 6 0 rfl)) (lKA (hk_K hK 5 rfl rfl)) rfl (by decide) rfl (Nat.le_of_ble_eq_true rfl) (by decide) (fun r u hu => ?_)
  refine z_eqs (σ' := (ap b σ [(41, 19, 0), (41, 15, 1), (41, 4, 2), (41, 16, (-1)), (37, 2, 2), (38, 1, 13), (41, 16, 13), (41, 7, 1), (41, 5, 1), (5, 2, 1)] [(39, 1, ((10 * (w1.toInt64)) + 1)), (41, 17, ((10 * (w1.toInt64)) + 1))] [(6, 0, (some (b + 40)))])) hu.2 ?_
  show zx p l e _ s m _ below meth c g 5 0 0 _ _ 48 [(2, .int 1), (4, .null), (3, .ref (b + 40)), (0, .ref (b + 0)), (1, .ref (b + 40))] _
  refine z_setr (y := (some (b + 40))) hu.1 ?_
  refine z_astore_n (lv' := [(3, .ref (b + 40)), (2, .int 1), (4, .null), (0, .ref (b + 0)), (1, .ref (b + 40))]) B dX8_goOn_48 rfl (by decide) rfl ?_
  refine z_aload_n B dX8_goOn_49 rfl 0 rfl ?_
  refine z_ifnonnull (r := (some (b + 40))) (tgt := 54) B dX8_goOn_50 (by decide) (fun _ _ => ?_) (fun h => nomatch h)
  refine z_aload_n B dX8_goOn_54 rfl 0 rfl ?_
  refine gf_X8_249 (x := (some (b + 41))) B (lKA (hk_K hK 40 rfl rfl)) (rR_at 40 2 hR_40_2) dX8_goOn_55 ?_
  refine z_aload_n B dX8_goOn_58 rfl 0 rfl ?_
  refine gf_X8_179 (x := (some (b + 37))) B (lKA (hk_K hK 40 rfl rfl)) (rR_at 40 1 hR_40_1) dX8_goOn_59 ?_
  refine z_cVi (As := []) (rest := [.ref (b + 41)]) B cw_X8_183 cx_2 dX8_goOn_62 (ci_X1_size_685 l (σ := (ap b σ [(41, 19, 0), (41, 15, 1), (41, 4, 2), (41, 16, (-1)), (37, 2, 2), (38, 1, 13), (41, 16, 13), (41, 7, 1), (41, 5, 1), (5, 2, 1)] [(39, 1, ((10 * (w1.toInt64)) + 1)), (41, 17, ((10 * (w1.toInt64)) + 1))] [(6, 0, (some (b + 40)))])) (b := b) (lyA hK) (rI_at 37 2 rfl)) (lKA (hk_K hK 37 rfl rfl)) rfl (by decide) rfl (Nat.le_of_ble_eq_true rfl) (by decide) (fun r u hu => ?_)
  refine z_eqs (σ' := (ap b σ [(41, 19, 0), (41, 15, 1), (41, 4, 2), (41, 16, (-1)), (37, 2, 2), (38, 1, 13), (41, 16, 13), (41, 7, 1), (41, 5, 1), (5, 2, 1)] [(39, 1, ((10 * (w1.toInt64)) + 1)), (41, 17, ((10 * (w1.toInt64)) + 1))] [(6, 0, (some (b + 40)))])) hu.2 ?_
  show zx p l e _ s m _ below meth c g 5 0 0 _ _ 65 [(3, .ref (b + 40)), (2, .int 1), (4, .null), (0, .ref (b + 0)), (1, .ref (b + 40))] _
  refine z_seti (y := 2) hu.1 ?_
  refine z_cVv (As := [.int 2]) (rest := []) B cw_X8_289 cx_6 dX8_goOn_65 (ci_X5_advance_692 l (σ := (ap b σ [(41, 19, 0), (41, 15, 1), (41, 4, 2), (41, 16, (-1)), (37, 2, 2), (38, 1, 13), (41, 16, 13), (41, 7, 1), (41, 5, 1), (5, 2, 1)] [(39, 1, ((10 * (w1.toInt64)) + 1)), (41, 17, ((10 * (w1.toInt64)) + 1))] [(6, 0, (some (b + 40)))])) (b := b) (lyA hK) (rI_at 41 4 rfl) (rI_at 41 15 rfl) (rI_at 41 16 rfl) (rI_at 41 19 rfl)) (lKA (hk_K hK 41 rfl rfl)) rfl (by decide) rfl (Nat.le_of_ble_eq_true rfl) (by decide) (fun u hu => ?_)
  refine z_eqs (σ' := (ap b σ [(41, 19, 0), (41, 19, 0), (41, 15, 1), (41, 4, 2), (41, 16, (-1)), (37, 2, 2), (38, 1, 13), (41, 16, 13), (41, 7, 1), (41, 5, 1), (5, 2, 1)] [(39, 1, ((10 * (w1.toInt64)) + 1)), (41, 17, ((10 * (w1.toInt64)) + 1))] [(6, 0, (some (b + 40)))])) (hu.trans ap_ap) ?_
  show zx p l e _ s m _ below meth c g 5 0 0 _ _ 68 [(3, .ref (b + 40)), (2, .int 1), (4, .null), (0, .ref (b + 0)), (1, .ref (b + 40))] _
  refine z_aload_n B dX8_goOn_68 rfl 0 rfl ?_
  refine z_cVv (As := []) (rest := []) B cw_X8_351 cx_1 dX8_goOn_69 (ci_X0_letGo_679 l (σ := (ap b σ [(41, 19, 0), (41, 19, 0), (41, 15, 1), (41, 4, 2), (41, 16, (-1)), (37, 2, 2), (38, 1, 13), (41, 16, 13), (41, 7, 1), (41, 5, 1), (5, 2, 1)] [(39, 1, ((10 * (w1.toInt64)) + 1)), (41, 17, ((10 * (w1.toInt64)) + 1))] [(6, 0, (some (b + 40)))])) (b := b) (lyA hK) (rR_at 40 7 hR_40_7)) (lKA (hk_K hK 40 rfl rfl)) rfl (by decide) rfl (Nat.le_of_ble_eq_true rfl) (by decide) (fun u hu => ?_)
  refine z_eqs (σ' := (ap b σ [(41, 19, 0), (41, 19, 0), (41, 15, 1), (41, 4, 2), (41, 16, (-1)), (37, 2, 2), (38, 1, 13), (41, 16, 13), (41, 7, 1), (41, 5, 1), (5, 2, 1)] [(39, 1, ((10 * (w1.toInt64)) + 1)), (41, 17, ((10 * (w1.toInt64)) + 1))] [(6, 0, (some (b + 40)))])) hu ?_
  show zx p l e _ s m _ below meth c g 5 0 0 _ _ 72 [(3, .ref (b + 40)), (2, .int 1), (4, .null), (0, .ref (b + 0)), (1, .ref (b + 40))] _
  refine z_aload_n B dX8_goOn_72 rfl 0 rfl ?_
  refine gf_X8_249 (x := (some (b + 41))) B (lKA (hk_K hK 40 rfl rfl)) (rR_at 40 2 hR_40_2) dX8_goOn_73 ?_
  refine z_cVi (As := []) (rest := []) B cw_X8_354 cx_6 dX8_goOn_76 (ci_X5_wantsEvent_693 l (σ := (ap b σ [(41, 19, 0), (41, 19, 0), (41, 15, 1), (41, 4, 2), (41, 16, (-1)), (37, 2, 2), (38, 1, 13), (41, 16, 13), (41, 7, 1), (41, 5, 1), (5, 2, 1)] [(39, 1, ((10 * (w1.toInt64)) + 1)), (41, 17, ((10 * (w1.toInt64)) + 1))] [(6, 0, (some (b + 40)))])) (b := b) (lyA hK) (rI_at 41 16 rfl) (rI_at 41 19 rfl)) (lKA (hk_K hK 41 rfl rfl)) rfl (by decide) rfl (Nat.le_of_ble_eq_true rfl) (by decide) (fun r u hu => ?_)
  refine z_eqs (σ' := (ap b σ [(41, 19, 0), (41, 19, 0), (41, 15, 1), (41, 4, 2), (41, 16, (-1)), (37, 2, 2), (38, 1, 13), (41, 16, 13), (41, 7, 1), (41, 5, 1), (5, 2, 1)] [(39, 1, ((10 * (w1.toInt64)) + 1)), (41, 17, ((10 * (w1.toInt64)) + 1))] [(6, 0, (some (b + 40)))])) hu.2 ?_
  show zx p l e _ s m _ below meth c g 5 0 0 _ _ 79 [(3, .ref (b + 40)), (2, .int 1), (4, .null), (0, .ref (b + 0)), (1, .ref (b + 40))] _
  refine z_seti (y := 0) hu.1 ?_
  refine z_if_eq (tgt := 115) B dX8_goOn_79 (by decide) (fun _ => ?_) (fun h => absurd (by decide) h)
  refine z_aload_n B dX8_goOn_115 rfl 3 rfl ?_
  refine z_aload_n B dX8_goOn_116 rfl 0 rfl ?_
  refine z_cVv (As := [.ref (b + 40)]) (rest := []) B cw_X8_361 cx_9 dX8_goOn_117 (ci_X8_leave_695 l (σ := (ap b σ [(41, 19, 0), (41, 19, 0), (41, 15, 1), (41, 4, 2), (41, 16, (-1)), (37, 2, 2), (38, 1, 13), (41, 16, 13), (41, 7, 1), (41, 5, 1), (5, 2, 1)] [(39, 1, ((10 * (w1.toInt64)) + 1)), (41, 17, ((10 * (w1.toInt64)) + 1))] [(6, 0, (some (b + 40)))])) (b := b) (lyA hK) (rI_at 5 1 hI_5_1) (rI_at 5 2 rfl) (rI_at 37 2 rfl) (rI_at 40 8 hI_40_8) (rI_at 41 18 hI_41_18) (rI_at 41 19 rfl) (rR_at 0 4 hR_0_4) (rR_at 40 1 hR_40_1) (rR_at 40 2 hR_40_2)) (lKA (hk_K hK 0 rfl rfl)) rfl (by decide) rfl (Nat.le_of_ble_eq_true rfl) (by decide) (fun u hu => ?_)
  refine z_eqs (σ' := (ap b σ [(40, 8, 2), (5, 2, 0), (41, 19, 0), (41, 19, 0), (41, 15, 1), (41, 4, 2), (41, 16, (-1)), (37, 2, 2), (38, 1, 13), (41, 16, 13), (41, 7, 1), (41, 5, 1), (5, 2, 1)] [(39, 1, ((10 * (w1.toInt64)) + 1)), (41, 17, ((10 * (w1.toInt64)) + 1))] [(6, 0, (some (b + 40)))])) (hu.trans ap_ap) ?_
  show zx p l e _ s m _ below meth c g 5 0 0 _ _ 120 [(3, .ref (b + 40)), (2, .int 1), (4, .null), (0, .ref (b + 0)), (1, .ref (b + 40))] _
  refine z_iinc (v := 2) (lv' := [(2, .int 2), (3, .ref (b + 40)), (4, .null), (0, .ref (b + 0)), (1, .ref (b + 40))]) B dX8_goOn_120 1 rfl (by decide) (by decide) rfl ?_
  refine z_goto (tgt := 10) B dX8_goOn_123 (by decide) ?_
  refine z_iload_n B dX8_goOn_10 rfl 0 rfl ?_
  refine z_ldcw (v := 1000000) B dX8_goOn_11 wg_515 ?_
  refine z_icmp_ge (tgt := 126) B dX8_goOn_14 (by decide) (fun h => absurd h (by decide)) (fun _ => ?_)
  refine z_aload_n B dX8_goOn_17 rfl 3 rfl ?_
  refine gf_X8_35 (x := (some (b + 5))) B (lKA (hk_K hK 0 rfl rfl)) (rR_at 0 4 hR_0_4) dX8_goOn_18 ?_
  refine z_cVi (As := []) (rest := []) B cw_X8_341 cx_3 dX8_goOn_21 (ci_X2_isEmpty_696 l (σ := (ap b σ [(40, 8, 2), (5, 2, 0), (41, 19, 0), (41, 19, 0), (41, 15, 1), (41, 4, 2), (41, 16, (-1)), (37, 2, 2), (38, 1, 13), (41, 16, 13), (41, 7, 1), (41, 5, 1), (5, 2, 1)] [(39, 1, ((10 * (w1.toInt64)) + 1)), (41, 17, ((10 * (w1.toInt64)) + 1))] [(6, 0, (some (b + 40)))])) (b := b) (lyA hK) (rI_at 5 1 hI_5_1) (rI_at 5 2 rfl)) (lKA (hk_K hK 5 rfl rfl)) rfl (by decide) rfl (Nat.le_of_ble_eq_true rfl) (by decide) (fun r u hu => ?_)
  refine z_eqs (σ' := (ap b σ [(40, 8, 2), (5, 2, 0), (41, 19, 0), (41, 19, 0), (41, 15, 1), (41, 4, 2), (41, 16, (-1)), (37, 2, 2), (38, 1, 13), (41, 16, 13), (41, 7, 1), (41, 5, 1), (5, 2, 1)] [(39, 1, ((10 * (w1.toInt64)) + 1)), (41, 17, ((10 * (w1.toInt64)) + 1))] [(6, 0, (some (b + 40)))])) hu.2 ?_
  show zx p l e _ s m _ below meth c g 5 0 0 _ _ 24 [(2, .int 2), (3, .ref (b + 40)), (4, .null), (0, .ref (b + 0)), (1, .ref (b + 40))] _
  refine z_seti (y := 1) hu.1 ?_
  refine z_if_eq (tgt := 41) B dX8_goOn_24 (by decide) (fun h => absurd h (by decide)) (fun _ => ?_)
  refine z_aload_n B dX8_goOn_27 rfl 3 rfl ?_
  refine gf_X8_35 (x := (some (b + 5))) B (lKA (hk_K hK 0 rfl rfl)) (rR_at 0 4 hR_0_4) dX8_goOn_28 ?_
  refine z_aload_n B dX8_goOn_31 rfl 3 rfl ?_
  refine gf_X8_39 (x := (some (b + 7))) B (lKA (hk_K hK 0 rfl rfl)) (rR_at 0 5 hR_0_5) dX8_goOn_32 ?_
  refine z_cVq (As := []) (rest := [.ref (b + 5)]) B cw_X8_344 cx_3 dX8_goOn_35 (ci_X2_removeFirst_697 l (σ := (ap b σ [(40, 8, 2), (5, 2, 0), (41, 19, 0), (41, 19, 0), (41, 15, 1), (41, 4, 2), (41, 16, (-1)), (37, 2, 2), (38, 1, 13), (41, 16, 13), (41, 7, 1), (41, 5, 1), (5, 2, 1)] [(39, 1, ((10 * (w1.toInt64)) + 1)), (41, 17, ((10 * (w1.toInt64)) + 1))] [(6, 0, (some (b + 40)))])) (b := b) (lyA hK) (rI_at 7 1 hI_7_1) (rI_at 7 2 hI_7_2)) (lKA (hk_K hK 7 rfl rfl)) rfl (by decide) rfl (Nat.le_of_ble_eq_true rfl) (by decide) (fun r u hu => ?_)
  refine z_eqs (σ' := (ap b σ [(7, 2, 0), (7, 1, 0), (40, 8, 2), (5, 2, 0), (41, 19, 0), (41, 19, 0), (41, 15, 1), (41, 4, 2), (41, 16, (-1)), (37, 2, 2), (38, 1, 13), (41, 16, 13), (41, 7, 1), (41, 5, 1), (5, 2, 1)] [(39, 1, ((10 * (w1.toInt64)) + 1)), (41, 17, ((10 * (w1.toInt64)) + 1))] [(6, 0, (some (b + 40)))])) (hu.2.trans ap_ap) ?_
  show zx p l e _ s m _ below meth c g 5 0 0 _ _ 38 [(2, .int 2), (3, .ref (b + 40)), (4, .null), (0, .ref (b + 0)), (1, .ref (b + 40))] _
  refine z_setr (y := none) hu.1 ?_
  refine z_cVv (As := [.null]) (rest := []) B cw_X8_337 cx_3 dX8_goOn_38 (ci_X2_addLast_691 l (σ := (ap b σ [(7, 2, 0), (7, 1, 0), (40, 8, 2), (5, 2, 0), (41, 19, 0), (41, 19, 0), (41, 15, 1), (41, 4, 2), (41, 16, (-1)), (37, 2, 2), (38, 1, 13), (41, 16, 13), (41, 7, 1), (41, 5, 1), (5, 2, 1)] [(39, 1, ((10 * (w1.toInt64)) + 1)), (41, 17, ((10 * (w1.toInt64)) + 1))] [(6, 0, (some (b + 40)))])) (b := b) (lyA hK) ) (lKA (hk_K hK 5 rfl rfl)) rfl (by decide) rfl (Nat.le_of_ble_eq_true rfl) (by decide) (fun u hu => ?_)
  refine z_eqs (σ' := (ap b σ [(7, 2, 0), (7, 1, 0), (40, 8, 2), (5, 2, 0), (41, 19, 0), (41, 19, 0), (41, 15, 1), (41, 4, 2), (41, 16, (-1)), (37, 2, 2), (38, 1, 13), (41, 16, 13), (41, 7, 1), (41, 5, 1), (5, 2, 1)] [(39, 1, ((10 * (w1.toInt64)) + 1)), (41, 17, ((10 * (w1.toInt64)) + 1))] [(6, 0, (some (b + 40)))])) hu ?_
  show zx p l e _ s m _ below meth c g 5 0 0 _ _ 41 [(2, .int 2), (3, .ref (b + 40)), (4, .null), (0, .ref (b + 0)), (1, .ref (b + 40))] _
  refine z_aload_n B dX8_goOn_41 rfl 3 rfl ?_
  refine gf_X8_35 (x := (some (b + 5))) B (lKA (hk_K hK 0 rfl rfl)) (rR_at 0 4 hR_0_4) dX8_goOn_42 ?_
  refine z_cVq (As := []) (rest := []) B cw_X8_348 cx_3 dX8_goOn_45 (ci_X2_last_698 l (σ := (ap b σ [(7, 2, 0), (7, 1, 0), (40, 8, 2), (5, 2, 0), (41, 19, 0), (41, 19, 0), (41, 15, 1), (41, 4, 2), (41, 16, (-1)), (37, 2, 2), (38, 1, 13), (41, 16, 13), (41, 7, 1), (41, 5, 1), (5, 2, 1)] [(39, 1, ((10 * (w1.toInt64)) + 1)), (41, 17, ((10 * (w1.toInt64)) + 1))] [(6, 0, (some (b + 40)))])) (b := b) (lyA hK) (rI_at 5 1 hI_5_1) (rI_at 5 2 rfl)) (lKA (hk_K hK 5 rfl rfl)) rfl (by decide) rfl (Nat.le_of_ble_eq_true rfl) (by decide) (fun r u hu => ?_)
  refine z_eqs (σ' := (ap b σ [(7, 2, 0), (7, 1, 0), (40, 8, 2), (5, 2, 0), (41, 19, 0), (41, 19, 0), (41, 15, 1), (41, 4, 2), (41, 16, (-1)), (37, 2, 2), (38, 1, 13), (41, 16, 13), (41, 7, 1), (41, 5, 1), (5, 2, 1)] [(39, 1, ((10 * (w1.toInt64)) + 1)), (41, 17, ((10 * (w1.toInt64)) + 1))] [(6, 0, (some (b + 40)))])) hu.2 ?_
  show zx p l e _ s m _ below meth c g 5 0 0 _ _ 48 [(2, .int 2), (3, .ref (b + 40)), (4, .null), (0, .ref (b + 0)), (1, .ref (b + 40))] _
  refine z_setr (y := none) hu.1 ?_
  refine z_qstore_n (r := none) (lv' := [(3, .null), (2, .int 2), (4, .null), (0, .ref (b + 0)), (1, .ref (b + 40))]) B dX8_goOn_48 rfl (by decide) rfl ?_
  refine z_qload_n (r := none) B dX8_goOn_49 rfl 0 rfl ?_
  refine z_ifnonnull (r := none) (tgt := 54) B dX8_goOn_50 (by decide) (fun a h => nomatch h) (fun _ => ?_)
  exact z_vret B hr (by decide) (by decide) dX8_goOn_53 rfl
set_option maxRecDepth 100000 in
set_option maxHeartbeats 4000000 in
theorem ci_X8_start_789 (l : Launch) {g : gx_T} {σ : sx_T} {b : Nat} (hK : lay b σ) (w1 : Int32) (q1_w1 : (-999 : Int) ≤ w1.toInt) (q2_w1 : w1.toInt ≤ (-1 : Int)) (hI_0_7 : sx_I σ (b + 0) 7 = 0) (hI_5_1 : sx_I σ (b + 5) 1 = 0) (hI_5_2 : sx_I σ (b + 5) 2 = 0) (hI_7_1 : sx_I σ (b + 7) 1 = 0) (hI_7_2 : sx_I σ (b + 7) 2 = 0) (hI_22_0 : sx_I σ (b + 22) 0 = 0) (hI_23_0 : sx_I σ (b + 23) 0 = 0) (hI_24_0 : sx_I σ (b + 24) 0 = 0) (hI_37_2 : sx_I σ (b + 37) 2 = 0) (hI_40_0 : sx_I σ (b + 40) 0 = 0) (hI_40_8 : sx_I σ (b + 40) 8 = 0) (hR_0_0 : sx_R σ (b + 0) 0 = (some (b + 1))) (hR_0_2 : sx_R σ (b + 0) 2 = (some (b + 3))) (hR_0_4 : sx_R σ (b + 0) 4 = (some (b + 5))) (hR_0_5 : sx_R σ (b + 0) 5 = (some (b + 7))) (hR_1_3 : sx_R σ (b + 1) 3 = (some (b + 21))) (hR_3_0 : sx_R σ (b + 3) 0 = (some (b + 40))) (hR_5_0 : sx_R σ (b + 5) 0 = (some (b + 6))) (hR_21_1 : sx_R σ (b + 21) 1 = (some (b + 22))) (hR_21_2 : sx_R σ (b + 21) 2 = (some (b + 23))) (hR_21_3 : sx_R σ (b + 21) 3 = (some (b + 24))) (hR_37_0 : sx_R σ (b + 37) 0 = (some (b + 38))) (hR_37_1 : sx_R σ (b + 37) 1 = (some (b + 39))) (hR_40_1 : sx_R σ (b + 40) 1 = (some (b + 37))) (hR_40_2 : sx_R σ (b + 40) 2 = (some (b + 41))) (hR_40_7 : sx_R σ (b + 40) 7 = none) (hR_41_0 : sx_R σ (b + 41) 0 = (some (b + 42))) (hR_41_1 : sx_R σ (b + 41) 1 = (some (b + 44))) : Met l yX8_start (.code yX8_start cX8_start 5 (some .int) :: lw_g) { frames := 4, cells := 0, slots := 0, locals := 96 } (va_Pc [.ref (b + 0), .int 3, .int w1] (zx_w g σ)) (va_Qi (fun r u => r = 0 ∧ u = (ap b σ [(7, 2, 0), (7, 1, 0), (40, 8, 2), (5, 2, 0), (41, 19, 0), (41, 19, 0), (41, 15, 1), (41, 4, 2), (41, 16, (-1)), (37, 2, 2), (38, 1, 13), (41, 16, 13), (41, 7, 1), (41, 5, 1), (5, 2, 1), (41, 19, 0), (41, 18, (-1)), (41, 16, (-1)), (41, 15, 0), (41, 14, 0), (41, 13, 0), (41, 12, 0), (41, 10, (-1)), (41, 9, (-1)), (41, 8, 0), (41, 7, 0), (41, 6, ((w1.toInt64).toInt32)), (41, 5, 0), (41, 4, 1), (44, 1, 0), (42, 1, 0), (37, 2, 1), (38, 0, 0), (40, 5, 0), (40, 4, (-1)), (0, 7, 1)] [(39, 1, ((10 * (((w1.toInt64).toInt32).toInt64)) + 1)), (41, 17, ((10 * (((w1.toInt64).toInt32).toInt64)) + 1)), (41, 17, 0), (41, 11, 0), (39, 0, (w1.toInt64))] [(6, 0, (some (b + 40))), (41, 3, (some (b + 37))), (41, 2, (some (b + 21))), (40, 3, (some (b + 21)))])) (zx_w g) (gx_Q g)) 0 0 (gx_Q g) := by
  refine z_met (by decide) (Nat.le_of_ble_eq_true rfl) (fun p e s m below meth c B hr hin => ?_)
  refine z_eqs (σ' := (ap b σ [] [] [])) rfl ?_
  show zx p l e _ s m _ below meth c g 5 0 0 _ _ 0 [(0, .ref (b + 0)), (1, .int 3), (2, .int w1)] []
  refine z_aload_n B dX8_start_0 rfl 0 rfl ?_
  refine z_iload_n B dX8_start_1 rfl 1 rfl ?_
  refine z_cVq (As := [.int 3]) (rest := []) B cw_X8_64 cx_9 dX8_start_2 (ci_X8_programAt_220 l (σ := (ap b σ [] [] [])) (b := b) (lyA hK) (rR_at 0 0 hR_0_0) (rR_at 1 3 hR_1_3)) (lKA (hk_K hK 0 rfl rfl)) rfl (by decide) rfl (Nat.le_of_ble_eq_true rfl) (by decide) (fun r u hu => ?_)
  refine z_eqs (σ' := (ap b σ [] [] [])) hu.2 ?_
  show zx p l e _ s m _ below meth c g 5 0 0 _ _ 5 [(0, .ref (b + 0)), (1, .int 3), (2, .int w1)] _
  refine z_setr (y := (some (b + 21))) hu.1 ?_
  refine z_astore_n (lv' := [(3, .ref (b + 21)), (0, .ref (b + 0)), (1, .int 3), (2, .int w1)]) B dX8_start_5 rfl (by decide) rfl ?_
  refine z_aload_n B dX8_start_6 rfl 0 rfl ?_
  refine z_ifnonnull (r := (some (b + 21))) (tgt := 20) B dX8_start_7 (by decide) (fun _ _ => ?_) (fun h => nomatch h)
  refine z_iload_n B dX8_start_20 rfl 3 rfl ?_
  refine z_sipush (v := (-999)) B dX8_start_21 (by decide) ?_
  refine z_icmp_lt (tgt := 34) B dX8_start_24 (by decide) (fun h => absurd h (iv_nlt q1_w1 (by decide))) (fun _ => ?_)
  refine z_iload_n B dX8_start_27 rfl 3 rfl ?_
  refine z_sipush (v := 999) B dX8_start_28 (by decide) ?_
  refine z_icmp_le (tgt := 44) B dX8_start_31 (by decide) (fun _ => ?_) (fun h => absurd (iv_le q2_w1 (by decide)) h)
  refine z_aload_n B dX8_start_44 rfl 1 rfl ?_
  refine z_aload_n B dX8_start_45 rfl 0 rfl ?_
  refine z_iload_n B dX8_start_46 rfl 3 rfl ?_
  refine z_iconst (v := (-1)) B dX8_start_47 (by decide) ?_
  refine z_iconst (v := (-1)) B dX8_start_48 (by decide) ?_
  refine z_cVq (As := [.ref (b + 21), .int w1, .int (-1), .int (-1)]) (rest := []) B cw_X8_141 cx_9 dX8_start_49 (ci_X8_open_782 l (σ := (ap b σ [] [] [])) (b := b) (lyA hK) w1 (rI_at 0 7 hI_0_7) (rI_at 37 2 hI_37_2) (rI_at 40 0 hI_40_0) (rR_at 0 2 hR_0_2) (rR_at 3 0 hR_3_0) (rR_at 37 0 hR_37_0) (rR_at 37 1 hR_37_1) (rR_at 40 1 hR_40_1) (rR_at 40 2 hR_40_2) (rR_at 41 0 hR_41_0) (rR_at 41 1 hR_41_1)) (lKA (hk_K hK 0 rfl rfl)) rfl (by decide) rfl (Nat.le_of_ble_eq_true rfl) (by decide) (fun r u hu => ?_)
  refine z_eqs (σ' := (ap b σ [(41, 19, 0), (41, 18, (-1)), (41, 16, (-1)), (41, 15, 0), (41, 14, 0), (41, 13, 0), (41, 12, 0), (41, 10, (-1)), (41, 9, (-1)), (41, 8, 0), (41, 7, 0), (41, 6, ((w1.toInt64).toInt32)), (41, 5, 0), (41, 4, 1), (44, 1, 0), (42, 1, 0), (37, 2, 1), (38, 0, 0), (40, 5, 0), (40, 4, (-1)), (0, 7, 1)] [(41, 17, 0), (41, 11, 0), (39, 0, (w1.toInt64))] [(41, 3, (some (b + 37))), (41, 2, (some (b + 21))), (40, 3, (some (b + 21)))])) (hu.2.trans ap_ap) ?_
  show zx p l e _ s m _ below meth c g 5 0 0 _ _ 52 [(3, .ref (b + 21)), (0, .ref (b + 0)), (1, .int 3), (2, .int w1)] _
  refine z_setr (y := (some (b + 40))) hu.1 ?_
  refine z_astore (lv' := [(4, .ref (b + 40)), (3, .ref (b + 21)), (0, .ref (b + 0)), (1, .int 3), (2, .int w1)]) B dX8_start_52 (by decide) rfl ?_
  refine z_aload B dX8_start_54 0 rfl ?_
  refine z_ifnonnull (r := (some (b + 40))) (tgt := 69) B dX8_start_56 (by decide) (fun _ _ => ?_) (fun h => nomatch h)
  refine z_aload_n B dX8_start_69 rfl 2 rfl ?_
  refine z_aload B dX8_start_70 0 rfl ?_
  refine z_cVv (As := [.ref (b + 40)]) (rest := []) B cw_X8_111 cx_9 dX8_start_72 (ci_X8_goOn_788 l (σ := (ap b σ [(41, 19, 0), (41, 18, (-1)), (41, 16, (-1)), (41, 15, 0), (41, 14, 0), (41, 13, 0), (41, 12, 0), (41, 10, (-1)), (41, 9, (-1)), (41, 8, 0), (41, 7, 0), (41, 6, ((w1.toInt64).toInt32)), (41, 5, 0), (41, 4, 1), (44, 1, 0), (42, 1, 0), (37, 2, 1), (38, 0, 0), (40, 5, 0), (40, 4, (-1)), (0, 7, 1)] [(41, 17, 0), (41, 11, 0), (39, 0, (w1.toInt64))] [(41, 3, (some (b + 37))), (41, 2, (some (b + 21))), (40, 3, (some (b + 21)))])) (b := b) (lyA hK) ((w1.toInt64).toInt32) (iv_l2i (iv_i2l q1_w1 q2_w1).1 (iv_i2l q1_w1 q2_w1).2 (by decide) (by decide)).1 (iv_l2i (iv_i2l q1_w1 q2_w1).1 (iv_i2l q1_w1 q2_w1).2 (by decide) (by decide)).2 (rI_at 5 1 hI_5_1) (rI_at 5 2 hI_5_2) (rI_at 7 1 hI_7_1) (rI_at 7 2 hI_7_2) (rI_at 22 0 hI_22_0) (rI_at 23 0 hI_23_0) (rI_at 24 0 hI_24_0) (rI_at 37 2 rfl) (rI_at 40 4 rfl) (rI_at 40 8 hI_40_8) (rI_at 41 4 rfl) (rI_at 41 5 rfl) (rI_at 41 6 rfl) (rI_at 41 7 rfl) (rI_at 41 8 rfl) (rI_at 41 14 rfl) (rI_at 41 15 rfl) (rI_at 41 16 rfl) (rI_at 41 18 rfl) (rI_at 41 19 rfl) (rR_at 0 4 hR_0_4) (rR_at 0 5 hR_0_5) (rR_at 5 0 hR_5_0) (rR_at 21 1 hR_21_1) (rR_at 21 2 hR_21_2) (rR_at 21 3 hR_21_3) (rR_at 37 0 hR_37_0) (rR_at 37 1 hR_37_1) (rR_at 40 1 hR_40_1) (rR_at 40 2 hR_40_2) (rR_at 40 7 hR_40_7) (rR_at 41 2 rfl) (rR_at 41 3 rfl)) (lKA (hk_K hK 0 rfl rfl)) rfl (by decide) rfl (Nat.le_of_ble_eq_true rfl) (by decide) (fun u hu => ?_)
  refine z_eqs (σ' := (ap b σ [(7, 2, 0), (7, 1, 0), (40, 8, 2), (5, 2, 0), (41, 19, 0), (41, 19, 0), (41, 15, 1), (41, 4, 2), (41, 16, (-1)), (37, 2, 2), (38, 1, 13), (41, 16, 13), (41, 7, 1), (41, 5, 1), (5, 2, 1), (41, 19, 0), (41, 18, (-1)), (41, 16, (-1)), (41, 15, 0), (41, 14, 0), (41, 13, 0), (41, 12, 0), (41, 10, (-1)), (41, 9, (-1)), (41, 8, 0), (41, 7, 0), (41, 6, ((w1.toInt64).toInt32)), (41, 5, 0), (41, 4, 1), (44, 1, 0), (42, 1, 0), (37, 2, 1), (38, 0, 0), (40, 5, 0), (40, 4, (-1)), (0, 7, 1)] [(39, 1, ((10 * (((w1.toInt64).toInt32).toInt64)) + 1)), (41, 17, ((10 * (((w1.toInt64).toInt32).toInt64)) + 1)), (41, 17, 0), (41, 11, 0), (39, 0, (w1.toInt64))] [(6, 0, (some (b + 40))), (41, 3, (some (b + 37))), (41, 2, (some (b + 21))), (40, 3, (some (b + 21)))])) (hu.trans ap_ap) ?_
  show zx p l e _ s m _ below meth c g 5 0 0 _ _ 75 [(4, .ref (b + 40)), (3, .ref (b + 21)), (0, .ref (b + 0)), (1, .int 3), (2, .int w1)] _
  refine z_aload B dX8_start_75 0 rfl ?_
  refine gf_X8_150 (x := 0) B (lKA (hk_K hK 40 rfl rfl)) (rI_at 40 0 hI_40_0) dX8_start_77 ?_
  exact z_iret B hr (by decide) (by decide) dX8_start_80 ⟨rfl, rfl⟩
set_option maxRecDepth 100000 in
set_option maxHeartbeats 4000000 in
theorem ci_L_start_790 (l : Launch) {g : gx_T} {σ : sx_T} {b : Nat} (hK : lay b σ) (w1 : Int32) (q1_w1 : (-999 : Int) ≤ w1.toInt) (q2_w1 : w1.toInt ≤ (-1 : Int)) (hI_0_7 : sx_I σ (b + 0) 7 = 0) (hI_5_1 : sx_I σ (b + 5) 1 = 0) (hI_5_2 : sx_I σ (b + 5) 2 = 0) (hI_7_1 : sx_I σ (b + 7) 1 = 0) (hI_7_2 : sx_I σ (b + 7) 2 = 0) (hI_22_0 : sx_I σ (b + 22) 0 = 0) (hI_23_0 : sx_I σ (b + 23) 0 = 0) (hI_24_0 : sx_I σ (b + 24) 0 = 0) (hI_37_2 : sx_I σ (b + 37) 2 = 0) (hI_40_0 : sx_I σ (b + 40) 0 = 0) (hI_40_8 : sx_I σ (b + 40) 8 = 0) (hR_0_0 : sx_R σ (b + 0) 0 = (some (b + 1))) (hR_0_2 : sx_R σ (b + 0) 2 = (some (b + 3))) (hR_0_4 : sx_R σ (b + 0) 4 = (some (b + 5))) (hR_0_5 : sx_R σ (b + 0) 5 = (some (b + 7))) (hR_1_3 : sx_R σ (b + 1) 3 = (some (b + 21))) (hR_3_0 : sx_R σ (b + 3) 0 = (some (b + 40))) (hR_5_0 : sx_R σ (b + 5) 0 = (some (b + 6))) (hR_21_1 : sx_R σ (b + 21) 1 = (some (b + 22))) (hR_21_2 : sx_R σ (b + 21) 2 = (some (b + 23))) (hR_21_3 : sx_R σ (b + 21) 3 = (some (b + 24))) (hR_37_0 : sx_R σ (b + 37) 0 = (some (b + 38))) (hR_37_1 : sx_R σ (b + 37) 1 = (some (b + 39))) (hR_40_1 : sx_R σ (b + 40) 1 = (some (b + 37))) (hR_40_2 : sx_R σ (b + 40) 2 = (some (b + 41))) (hR_40_7 : sx_R σ (b + 40) 7 = none) (hR_41_0 : sx_R σ (b + 41) 0 = (some (b + 42))) (hR_41_1 : sx_R σ (b + 41) 1 = (some (b + 44))) : Met l yL_start (.codeWith yL_start cL_start 5 (some .int) [(0, 10, 13, 13), (0, 10, 17, 15), (0, 10, 21, 24)] :: lw_g) { frames := 5, cells := 0, slots := 0, locals := 120 } (va_Pc [.ref (b + 0), .int 3, .int w1, .ref (b + 431)] (zx_w g σ)) (va_Qi (fun r u => r = 0 ∧ u = (ap b σ [(7, 2, 0), (7, 1, 0), (40, 8, 2), (5, 2, 0), (41, 19, 0), (41, 19, 0), (41, 15, 1), (41, 4, 2), (41, 16, (-1)), (37, 2, 2), (38, 1, 13), (41, 16, 13), (41, 7, 1), (41, 5, 1), (5, 2, 1), (41, 19, 0), (41, 18, (-1)), (41, 16, (-1)), (41, 15, 0), (41, 14, 0), (41, 13, 0), (41, 12, 0), (41, 10, (-1)), (41, 9, (-1)), (41, 8, 0), (41, 7, 0), (41, 6, ((w1.toInt64).toInt32)), (41, 5, 0), (41, 4, 1), (44, 1, 0), (42, 1, 0), (37, 2, 1), (38, 0, 0), (40, 5, 0), (40, 4, (-1)), (0, 7, 1)] [(431, 0, 0), (39, 1, ((10 * (((w1.toInt64).toInt32).toInt64)) + 1)), (41, 17, ((10 * (((w1.toInt64).toInt32).toInt64)) + 1)), (41, 17, 0), (41, 11, 0), (39, 0, (w1.toInt64))] [(6, 0, (some (b + 40))), (41, 3, (some (b + 37))), (41, 2, (some (b + 21))), (40, 3, (some (b + 21)))])) (zx_w g) (gx_Q g)) 0 0 (gx_Q g) := by
  refine z_metW (by decide) (Nat.le_of_ble_eq_true rfl) (fun p e s m below meth c B hr htab => ?_)
  refine z_eqs (σ' := (ap b σ [] [] [])) rfl ?_
  show zx p l e _ s m _ below meth c g 5 0 0 _ _ 0 [(0, .ref (b + 0)), (1, .int 3), (2, .int w1), (3, .ref (b + 431))] []
  refine z_aload_n B dL_start_0 rfl 3 rfl ?_
  refine z_iconst (v := 0) B dL_start_1 (by decide) ?_
  refine z_aload_n B dL_start_2 rfl 0 rfl ?_
  refine z_iload_n B dL_start_3 rfl 1 rfl ?_
  refine z_iload_n B dL_start_4 rfl 2 rfl ?_
  refine z_cVi (As := [.int 3, .int w1]) (rest := [.int 0, .ref (b + 431)]) B cw_L_20 cx_9 dL_start_5 (ci_X8_start_789 l (σ := (ap b σ [] [] [])) (b := b) (lyA hK) w1 q1_w1 q2_w1 (rI_at 0 7 hI_0_7) (rI_at 5 1 hI_5_1) (rI_at 5 2 hI_5_2) (rI_at 7 1 hI_7_1) (rI_at 7 2 hI_7_2) (rI_at 22 0 hI_22_0) (rI_at 23 0 hI_23_0) (rI_at 24 0 hI_24_0) (rI_at 37 2 hI_37_2) (rI_at 40 0 hI_40_0) (rI_at 40 8 hI_40_8) (rR_at 0 0 hR_0_0) (rR_at 0 2 hR_0_2) (rR_at 0 4 hR_0_4) (rR_at 0 5 hR_0_5) (rR_at 1 3 hR_1_3) (rR_at 3 0 hR_3_0) (rR_at 5 0 hR_5_0) (rR_at 21 1 hR_21_1) (rR_at 21 2 hR_21_2) (rR_at 21 3 hR_21_3) (rR_at 37 0 hR_37_0) (rR_at 37 1 hR_37_1) (rR_at 40 1 hR_40_1) (rR_at 40 2 hR_40_2) (rR_at 40 7 hR_40_7) (rR_at 41 0 hR_41_0) (rR_at 41 1 hR_41_1)) (lKA (hk_K hK 0 rfl rfl)) rfl (by decide) rfl (Nat.le_of_ble_eq_true rfl) (by decide) (fun r u hu => ?_)
  refine z_eqs (σ' := (ap b σ [(7, 2, 0), (7, 1, 0), (40, 8, 2), (5, 2, 0), (41, 19, 0), (41, 19, 0), (41, 15, 1), (41, 4, 2), (41, 16, (-1)), (37, 2, 2), (38, 1, 13), (41, 16, 13), (41, 7, 1), (41, 5, 1), (5, 2, 1), (41, 19, 0), (41, 18, (-1)), (41, 16, (-1)), (41, 15, 0), (41, 14, 0), (41, 13, 0), (41, 12, 0), (41, 10, (-1)), (41, 9, (-1)), (41, 8, 0), (41, 7, 0), (41, 6, ((w1.toInt64).toInt32)), (41, 5, 0), (41, 4, 1), (44, 1, 0), (42, 1, 0), (37, 2, 1), (38, 0, 0), (40, 5, 0), (40, 4, (-1)), (0, 7, 1)] [(39, 1, ((10 * (((w1.toInt64).toInt32).toInt64)) + 1)), (41, 17, ((10 * (((w1.toInt64).toInt32).toInt64)) + 1)), (41, 17, 0), (41, 11, 0), (39, 0, (w1.toInt64))] [(6, 0, (some (b + 40))), (41, 3, (some (b + 37))), (41, 2, (some (b + 21))), (40, 3, (some (b + 21)))])) (hu.2.trans ap_ap) ?_
  show zx p l e _ s m _ below meth c g 5 0 0 _ _ 8 [(0, .ref (b + 0)), (1, .int 3), (2, .int w1), (3, .ref (b + 431))] _
  refine z_seti (y := 0) hu.1 ?_
  refine z_i2l (v := 0) B dL_start_8 (by decide) ?_
  refine z_last (j := 0) (σ' := (ap b σ [(7, 2, 0), (7, 1, 0), (40, 8, 2), (5, 2, 0), (41, 19, 0), (41, 19, 0), (41, 15, 1), (41, 4, 2), (41, 16, (-1)), (37, 2, 2), (38, 1, 13), (41, 16, 13), (41, 7, 1), (41, 5, 1), (5, 2, 1), (41, 19, 0), (41, 18, (-1)), (41, 16, (-1)), (41, 15, 0), (41, 14, 0), (41, 13, 0), (41, 12, 0), (41, 10, (-1)), (41, 9, (-1)), (41, 8, 0), (41, 7, 0), (41, 6, ((w1.toInt64).toInt32)), (41, 5, 0), (41, 4, 1), (44, 1, 0), (42, 1, 0), (37, 2, 1), (38, 0, 0), (40, 5, 0), (40, 4, (-1)), (0, 7, 1)] [(431, 0, 0), (39, 1, ((10 * (((w1.toInt64).toInt32).toInt64)) + 1)), (41, 17, ((10 * (((w1.toInt64).toInt32).toInt64)) + 1)), (41, 17, 0), (41, 11, 0), (39, 0, (w1.toInt64))] [(6, 0, (some (b + 40))), (41, 3, (some (b + 37))), (41, 2, (some (b + 21))), (40, 3, (some (b + 21)))])) B (lKA (hk_K hK 431 rfl rfl)) (by decide) (in_of (lNA (hk_N hK 431 rfl rfl)) (show ¬ ((0 : Int32) < 0 ∨ 1 ≤ (0 : Int32).toNatClampNeg) by decide)) wJ_ap dL_start_9 ?_
  refine z_goto (tgt := 25) B dL_start_10 (by decide) ?_
  refine z_iconst (v := 0) B dL_start_25 (by decide) ?_
  exact z_iret B hr (by decide) (by decide) dL_start_26 ⟨rfl, rfl⟩
set_option maxRecDepth 100000 in
set_option maxHeartbeats 4000000 in
theorem ci_X9_begets_791 (l : Launch) {g : gx_T} {σ : sx_T} {b : Nat} (hK : lay b σ) (w1 : Int32)  (hI_405_6 : sx_I σ (b + 405) 6 = 0) (hI_413_0 : sx_I σ (b + 413) 0 = 0) (hR_405_7 : sx_R σ (b + 405) 7 = (some (b + 409))) (hR_405_8 : sx_R σ (b + 405) 8 = (some (b + 410))) (hR_405_9 : sx_R σ (b + 405) 9 = (some (b + 411))) (hR_405_11 : sx_R σ (b + 405) 11 = (some (b + 413))) (hR_405_13 : sx_R σ (b + 405) 13 = (some (b + 415))) (hR_405_14 : sx_R σ (b + 405) 14 = (some (b + 416))) (hR_405_15 : sx_R σ (b + 405) 15 = (some (b + 417))) : Met l yX9_begets (.code yX9_begets cX9_begets 6 (some .int) :: lw_g) { frames := 1, cells := 0, slots := 0, locals := 24 } (va_Pc [.ref (b + 405), .int 3, .int w1, .int (-1), .int (-1)] (zx_w g σ)) (va_Qi (fun r u => r = 0 ∧ u = (ap b σ [(413, 0, 1), (416, 0, 0), (415, 0, (-1)), (411, 0, 0), (410, 0, (-1)), (409, 0, 3), (405, 6, 1)] [(417, 0, (w1.toInt64))] [])) (zx_w g) (gx_Q g)) 0 0 (gx_Q g) := by
  refine z_met (by decide) (Nat.le_of_ble_eq_true rfl) (fun p e s m below meth c B hr hin => ?_)
  refine z_eqs (σ' := (ap b σ [] [] [])) rfl ?_
  show zx p l e _ s m _ below meth c g 6 0 0 _ _ 0 [(0, .ref (b + 405)), (1, .int 3), (2, .int w1), (3, .int (-1)), (4, .int (-1))] []
  refine z_aload_n B dX9_begets_0 rfl 0 rfl ?_
  refine gf_X9_93 (x := 0) B (lKA (hk_K hK 405 rfl rfl)) (rI_at 405 6 hI_405_6) dX9_begets_1 ?_
  refine z_bipush (v := 40) B dX9_begets_4 (by decide) ?_
  refine z_icmp_ne (tgt := 11) B dX9_begets_6 (by decide) (fun _ => ?_) (fun h => absurd h (by decide))
  refine z_aload_n B dX9_begets_11 rfl 0 rfl ?_
  refine gf_X9_93 (x := 0) B (lKA (hk_K hK 405 rfl rfl)) (rI_at 405 6 hI_405_6) dX9_begets_12 ?_
  refine z_istore (lv' := [(5, .int 0), (0, .ref (b + 405)), (1, .int 3), (2, .int w1), (3, .int (-1)), (4, .int (-1))]) B dX9_begets_15 (by decide) rfl ?_
  refine z_aload_n B dX9_begets_17 rfl 1 rfl ?_
  refine z_dup B dX9_begets_18 rfl ?_
  refine gf_X9_93 (x := 0) B (lKA (hk_K hK 405 rfl rfl)) (rI_at 405 6 hI_405_6) dX9_begets_19 ?_
  refine z_iconst (v := 1) B dX9_begets_22 (by decide) ?_
  refine z_iadd B dX9_begets_23 ?_
  refine z_seti (y := 1) (by decide) ?_
  refine pf_X9_93 (x := 1) (σ' := (ap b σ [(405, 6, 1)] [] [])) B (lKA (hk_K hK 405 rfl rfl)) wI_ap dX9_begets_24 ?_
  refine z_aload_n B dX9_begets_27 rfl 1 rfl ?_
  refine gf_X9_23 (x := (some (b + 409))) B (lKA (hk_K hK 405 rfl rfl)) (rR_at 405 7 hR_405_7) dX9_begets_28 ?_
  refine z_iload B dX9_begets_31 0 rfl ?_
  refine z_iload_n B dX9_begets_33 rfl 2 rfl ?_
  refine z_iast (j := 0) (σ' := (ap b σ [(409, 0, 3), (405, 6, 1)] [] [])) B (lKA (hk_K hK 409 rfl rfl)) (by decide) (in_of (lNA (hk_N hK 409 rfl rfl)) (show ¬ ((0 : Int32) < 0 ∨ 41 ≤ (0 : Int32).toNatClampNeg) by decide)) wI_ap dX9_begets_34 ?_
  refine z_aload_n B dX9_begets_35 rfl 1 rfl ?_
  refine gf_X9_26 (x := (some (b + 410))) B (lKA (hk_K hK 405 rfl rfl)) (rR_at 405 8 hR_405_8) dX9_begets_36 ?_
  refine z_iload B dX9_begets_39 0 rfl ?_
  refine z_iload_n B dX9_begets_41 rfl 4 rfl ?_
  refine z_iast (j := 0) (σ' := (ap b σ [(410, 0, (-1)), (409, 0, 3), (405, 6, 1)] [] [])) B (lKA (hk_K hK 410 rfl rfl)) (by decide) (in_of (lNA (hk_N hK 410 rfl rfl)) (show ¬ ((0 : Int32) < 0 ∨ 41 ≤ (0 : Int32).toNatClampNeg) by decide)) wI_ap dX9_begets_42 ?_
  refine z_aload_n B dX9_begets_43 rfl 1 rfl ?_
  refine gf_X9_29 (x := (some (b + 411))) B (lKA (hk_K hK 405 rfl rfl)) (rR_at 405 9 hR_405_9) dX9_begets_44 ?_
  refine z_iload B dX9_begets_47 0 rfl ?_
  refine z_iload B dX9_begets_49 5 rfl ?_
  refine z_iconst (v := (-1)) B dX9_begets_51 (by decide) ?_
  refine z_icmp_ne (tgt := 60) B dX9_begets_52 (by decide) (fun h => absurd (by decide) h) (fun _ => ?_)
  refine z_iload B dX9_begets_55 0 rfl ?_
  refine z_goto (tgt := 62) B dX9_begets_57 (by decide) ?_
  refine z_iast (j := 0) (σ' := (ap b σ [(411, 0, 0), (410, 0, (-1)), (409, 0, 3), (405, 6, 1)] [] [])) B (lKA (hk_K hK 411 rfl rfl)) (by decide) (in_of (lNA (hk_N hK 411 rfl rfl)) (show ¬ ((0 : Int32) < 0 ∨ 41 ≤ (0 : Int32).toNatClampNeg) by decide)) wI_ap dX9_begets_62 ?_
  refine z_aload_n B dX9_begets_63 rfl 1 rfl ?_
  refine gf_X9_41 (x := (some (b + 415))) B (lKA (hk_K hK 405 rfl rfl)) (rR_at 405 13 hR_405_13) dX9_begets_64 ?_
  refine z_iload B dX9_begets_67 0 rfl ?_
  refine z_iconst (v := (-1)) B dX9_begets_69 (by decide) ?_
  refine z_iast (j := 0) (σ' := (ap b σ [(415, 0, (-1)), (411, 0, 0), (410, 0, (-1)), (409, 0, 3), (405, 6, 1)] [] [])) B (lKA (hk_K hK 415 rfl rfl)) (by decide) (in_of (lNA (hk_N hK 415 rfl rfl)) (show ¬ ((0 : Int32) < 0 ∨ 41 ≤ (0 : Int32).toNatClampNeg) by decide)) wI_ap dX9_begets_70 ?_
  refine z_aload_n B dX9_begets_71 rfl 1 rfl ?_
  refine z_iload B dX9_begets_72 0 rfl ?_
  refine z_iconst (v := 0) B dX9_begets_74 (by decide) ?_
  refine z_iload_n B dX9_begets_75 rfl 3 rfl ?_
  refine z_i2l B dX9_begets_76 rfl ?_
  refine z_cVv (As := [.int 0, .int 0, .long (w1.toInt64)]) (rest := []) B cw_X9_143 cx_10 dX9_begets_77 (ci_X9_adds_704 l (σ := (ap b σ [(415, 0, (-1)), (411, 0, 0), (410, 0, (-1)), (409, 0, 3), (405, 6, 1)] [] [])) (b := b) (lyA hK) (w1.toInt64) (rI_at 413 0 hI_413_0) (rR_at 405 11 hR_405_11) (rR_at 405 14 hR_405_14) (rR_at 405 15 hR_405_15)) (lKA (hk_K hK 405 rfl rfl)) rfl (by decide) rfl (Nat.le_of_ble_eq_true rfl) (by decide) (fun u hu => ?_)
  refine z_eqs (σ' := (ap b σ [(413, 0, 1), (416, 0, 0), (415, 0, (-1)), (411, 0, 0), (410, 0, (-1)), (409, 0, 3), (405, 6, 1)] [(417, 0, (w1.toInt64))] [])) (hu.trans ap_ap) ?_
  show zx p l e _ s m _ below meth c g 6 0 0 _ _ 80 [(5, .int 0), (0, .ref (b + 405)), (1, .int 3), (2, .int w1), (3, .int (-1)), (4, .int (-1))] _
  refine z_iload B dX9_begets_80 0 rfl ?_
  exact z_iret B hr (by decide) (by decide) dX9_begets_82 ⟨rfl, rfl⟩
set_option maxRecDepth 100000 in
set_option maxHeartbeats 4000000 in
theorem ci_X9_steps_792 (l : Launch) {g : gx_T} {σ : sx_T} {b : Nat} (hK : lay b σ) (w1 : Int32)  (hI_405_27 : sx_I σ (b + 405) 27 = 1) (hI_405_28 : sx_I σ (b + 405) 28 = 0) (hI_405_29 : sx_I σ (b + 405) 29 = w1) (hI_405_38 : sx_I σ (b + 405) 38 = 0) (hI_406_60 : sx_I σ (b + 406) 60 = 0) (hI_407_60 : sx_I σ (b + 407) 60 = 0) (hI_409_0 : sx_I σ (b + 409) 0 = 3) (hI_413_0 : sx_I σ (b + 413) 0 = 1) (hR_405_3 : sx_R σ (b + 405) 3 = (some (b + 406))) (hR_405_4 : sx_R σ (b + 405) 4 = (some (b + 407))) (hR_405_7 : sx_R σ (b + 405) 7 = (some (b + 409))) (hR_405_11 : sx_R σ (b + 405) 11 = (some (b + 413))) (hR_405_14 : sx_R σ (b + 405) 14 = (some (b + 416))) (hR_405_15 : sx_R σ (b + 405) 15 = (some (b + 417))) : Met l yX9_steps (.code yX9_steps cX9_steps 12 (some .boolean) :: lw_g) { frames := 2, cells := 0, slots := 0, locals := 51 } (va_Pc [.ref (b + 405), .int 0, .int 1, .int 1] (zx_w g σ)) (va_Qi (fun r u => r = 1 ∧ u = (ap b σ [(405, 37, 1), (405, 27, 2), (413, 0, 2), (416, 1, 13), (405, 28, 1), (405, 38, 1)] [(417, 1, ((10 * (w1.toInt64)) + 1))] [])) (zx_w g) (gx_Q g)) 0 0 (gx_Q g) := by
  refine z_met (by decide) (Nat.le_of_ble_eq_true rfl) (fun p e s m below meth c B hr hin => ?_)
  refine z_eqs (σ' := (ap b σ [] [] [])) rfl ?_
  show zx p l e _ s m _ below meth c g 12 0 0 _ _ 0 [(0, .ref (b + 405)), (1, .int 0), (2, .int 1), (3, .int 1)] []
  refine z_aload_n B dX9_steps_0 rfl 0 rfl ?_
  refine gf_X9_137 (x := 0) B (lKA (hk_K hK 405 rfl rfl)) (rI_at 405 38 hI_405_38) dX9_steps_1 ?_
  refine z_bipush (v := 60) B dX9_steps_4 (by decide) ?_
  refine z_icmp_ne (tgt := 16) B dX9_steps_6 (by decide) (fun _ => ?_) (fun h => absurd h (by decide))
  refine z_bipush (v := 20) B dX9_steps_16 (by decide) ?_
  refine z_aload_n B dX9_steps_18 rfl 0 rfl ?_
  refine gf_X9_23 (x := (some (b + 409))) B (lKA (hk_K hK 405 rfl rfl)) (rR_at 405 7 hR_405_7) dX9_steps_19 ?_
  refine z_iload_n B dX9_steps_22 rfl 1 rfl ?_
  refine z_iald (j := 0) (x := 3) B (lKA (hk_K hK 409 rfl rfl)) (by decide) (in_of (lNA (hk_N hK 409 rfl rfl)) (show ¬ ((0 : Int32) < 0 ∨ 41 ≤ (0 : Int32).toNatClampNeg) by decide)) (rI_at 409 0 hI_409_0) dX9_steps_23 ?_
  refine z_imul B dX9_steps_24 ?_
  refine z_seti (y := 60) (by decide) ?_
  refine z_aload_n B dX9_steps_25 rfl 0 rfl ?_
  refine gf_X9_110 (x := 0) B (lKA (hk_K hK 405 rfl rfl)) (rI_at 405 28 hI_405_28) dX9_steps_26 ?_
  refine z_iadd B dX9_steps_29 ?_
  refine z_seti (y := 60) (by decide) ?_
  refine z_istore (lv' := [(4, .int 60), (0, .ref (b + 405)), (1, .int 0), (2, .int 1), (3, .int 1)]) B dX9_steps_30 (by decide) rfl ?_
  refine z_aload_n B dX9_steps_32 rfl 1 rfl ?_
  refine gf_X9_13 (x := (some (b + 406))) B (lKA (hk_K hK 405 rfl rfl)) (rR_at 405 3 hR_405_3) dX9_steps_33 ?_
  refine z_iload B dX9_steps_36 0 rfl ?_
  refine z_iald (j := 60) (x := 0) B (lKA (hk_K hK 406 rfl rfl)) (by decide) (in_of (lNA (hk_N hK 406 rfl rfl)) (show ¬ ((60 : Int32) < 0 ∨ 120 ≤ (60 : Int32).toNatClampNeg) by decide)) (rI_at 406 60 hI_406_60) dX9_steps_38 ?_
  refine z_istore (lv' := [(5, .int 0), (4, .int 60), (0, .ref (b + 405)), (1, .int 0), (2, .int 1), (3, .int 1)]) B dX9_steps_39 (by decide) rfl ?_
  refine z_aload_n B dX9_steps_41 rfl 2 rfl ?_
  refine gf_X9_17 (x := (some (b + 407))) B (lKA (hk_K hK 405 rfl rfl)) (rR_at 405 4 hR_405_4) dX9_steps_42 ?_
  refine z_iload B dX9_steps_45 1 rfl ?_
  refine z_iald (j := 60) (x := 0) B (lKA (hk_K hK 407 rfl rfl)) (by decide) (in_of (lNA (hk_N hK 407 rfl rfl)) (show ¬ ((60 : Int32) < 0 ∨ 120 ≤ (60 : Int32).toNatClampNeg) by decide)) (rI_at 407 60 hI_407_60) dX9_steps_47 ?_
  refine z_istore (lv' := [(6, .int 0), (5, .int 0), (4, .int 60), (0, .ref (b + 405)), (1, .int 0), (2, .int 1), (3, .int 1)]) B dX9_steps_48 (by decide) rfl ?_
  refine z_aload_n B dX9_steps_50 rfl 3 rfl ?_
  refine gf_X9_107 (x := 1) B (lKA (hk_K hK 405 rfl rfl)) (rI_at 405 27 hI_405_27) dX9_steps_51 ?_
  refine z_iload_n B dX9_steps_54 rfl 5 rfl ?_
  refine z_icmp_lt (tgt := 62) B dX9_steps_55 (by decide) (fun h => absurd h (by decide)) (fun _ => ?_)
  refine z_iconst (v := 1) B dX9_steps_58 (by decide) ?_
  refine z_goto (tgt := 63) B dX9_steps_59 (by decide) ?_
  refine z_istore (lv' := [(7, .int 1), (6, .int 0), (5, .int 0), (4, .int 60), (0, .ref (b + 405)), (1, .int 0), (2, .int 1), (3, .int 1)]) B dX9_steps_63 (by decide) rfl ?_
  refine z_aload_n B dX9_steps_65 rfl 4 rfl ?_
  refine gf_X9_110 (x := 0) B (lKA (hk_K hK 405 rfl rfl)) (rI_at 405 28 hI_405_28) dX9_steps_66 ?_
  refine z_istore (lv' := [(8, .int 0), (7, .int 1), (6, .int 0), (5, .int 0), (4, .int 60), (0, .ref (b + 405)), (1, .int 0), (2, .int 1), (3, .int 1)]) B dX9_steps_69 (by decide) rfl ?_
  refine z_aload_n B dX9_steps_71 rfl 5 rfl ?_
  refine z_dup B dX9_steps_72 rfl ?_
  refine gf_X9_137 (x := 0) B (lKA (hk_K hK 405 rfl rfl)) (rI_at 405 38 hI_405_38) dX9_steps_73 ?_
  refine z_iconst (v := 1) B dX9_steps_76 (by decide) ?_
  refine z_iadd B dX9_steps_77 ?_
  refine z_seti (y := 1) (by decide) ?_
  refine pf_X9_137 (x := 1) (σ' := (ap b σ [(405, 38, 1)] [] [])) B (lKA (hk_K hK 405 rfl rfl)) wI_ap dX9_steps_78 ?_
  refine z_aload_n B dX9_steps_81 rfl 5 rfl ?_
  refine z_aload_n B dX9_steps_82 rfl 5 rfl ?_
  refine gf_X9_110 (x := 0) B (lKA (hk_K hK 405 rfl rfl)) (rI_at 405 28 hI_405_28) dX9_steps_83 ?_
  refine z_iconst (v := 1) B dX9_steps_86 (by decide) ?_
  refine z_iadd B dX9_steps_87 ?_
  refine z_seti (y := 1) (by decide) ?_
  refine z_bipush (v := 20) B dX9_steps_88 (by decide) ?_
  refine z_irem B dX9_steps_90 (by decide) ?_
  refine z_seti (y := 1) (by decide) ?_
  refine pf_X9_110 (x := 1) (σ' := (ap b σ [(405, 28, 1), (405, 38, 1)] [] [])) B (lKA (hk_K hK 405 rfl rfl)) wI_ap dX9_steps_91 ?_
  refine z_iload B dX9_steps_94 3 rfl ?_
  refine z_iconst (v := 3) B dX9_steps_96 (by decide) ?_
  refine z_icmp_eq (tgt := 106) B dX9_steps_97 (by decide) (fun h => absurd h (by decide)) (fun _ => ?_)
  refine z_iload B dX9_steps_100 3 rfl ?_
  refine z_iconst (v := 4) B dX9_steps_102 (by decide) ?_
  refine z_icmp_ne (tgt := 115) B dX9_steps_103 (by decide) (fun _ => ?_) (fun h => absurd h (by decide))
  refine z_iconst (v := (-1)) B dX9_steps_115 (by decide) ?_
  refine z_istore (lv' := [(9, .int (-1)), (8, .int 0), (7, .int 1), (6, .int 0), (5, .int 0), (4, .int 60), (0, .ref (b + 405)), (1, .int 0), (2, .int 1), (3, .int 1)]) B dX9_steps_116 (by decide) rfl ?_
  refine z_iload B dX9_steps_118 4 rfl ?_
  refine z_cSi (As := [.int 0]) (rest := []) B cw_X9_193 dX9_steps_120 (ci_X9_isBounded_707 l (σ := (ap b σ [(405, 28, 1), (405, 38, 1)] [] [])) (b := b) (lyA hK) ) rfl (by decide) rfl (Nat.le_of_ble_eq_true rfl) (by decide) (fun r u hu => ?_)
  refine z_eqs (σ' := (ap b σ [(405, 28, 1), (405, 38, 1)] [] [])) hu.2 ?_
  show zx p l e _ s m _ below meth c g 12 0 0 _ _ 123 [(9, .int (-1)), (8, .int 0), (7, .int 1), (6, .int 0), (5, .int 0), (4, .int 60), (0, .ref (b + 405)), (1, .int 0), (2, .int 1), (3, .int 1)] _
  refine z_seti (y := 0) hu.1 ?_
  refine z_if_eq (tgt := 141) B dX9_steps_123 (by decide) (fun _ => ?_) (fun h => absurd (by decide) h)
  refine z_iload B dX9_steps_141 4 rfl ?_
  refine z_bipush (v := 12) B dX9_steps_143 (by decide) ?_
  refine z_icmp_ne (tgt := 164) B dX9_steps_145 (by decide) (fun _ => ?_) (fun h => absurd h (by decide))
  refine z_iconst (v := 1) B dX9_steps_164 (by decide) ?_
  refine z_istore (lv' := [(10, .int 1), (9, .int (-1)), (8, .int 0), (7, .int 1), (6, .int 0), (5, .int 0), (4, .int 60), (0, .ref (b + 405)), (1, .int 0), (2, .int 1), (3, .int 1)]) B dX9_steps_165 (by decide) rfl ?_
  refine z_iload B dX9_steps_167 5 rfl ?_
  refine z_tableIn (tgt := 252) B dX9_steps_169 (by decide) (by decide) (show _ = some (83 : Int) by decide) (by decide) ?_
  refine z_aload_n B dX9_steps_252 rfl 7 rfl ?_
  refine z_iload_n B dX9_steps_253 rfl 8 rfl ?_
  refine z_iload_n B dX9_steps_254 rfl 9 rfl ?_
  refine z_iload_n B dX9_steps_255 rfl 10 rfl ?_
  refine z_bipush (v := 13) B dX9_steps_256 (by decide) ?_
  refine z_ldc2 (v := 10) B dX9_steps_258 wg_1247 ?_
  refine z_aload_n B dX9_steps_261 rfl 7 rfl ?_
  refine gf_X9_113 (x := w1) B (lKA (hk_K hK 405 rfl rfl)) (rI_at 405 29 hI_405_29) dX9_steps_262 ?_
  refine z_i2l B dX9_steps_265 rfl ?_
  refine z_lmul B dX9_steps_266 ?_
  refine z_lconst (v := 1) B dX9_steps_267 (by decide) ?_
  refine z_ladd B dX9_steps_268 ?_
  refine z_iconst (v := 0) B dX9_steps_269 (by decide) ?_
  refine z_cVi (As := [.int 0, .int 1, .int 1, .int 13, .long ((10 * (w1.toInt64)) + 1), .int 0]) (rest := []) B cw_X9_164 cx_10 dX9_steps_270 (ci_X9_meets_709 l (σ := (ap b σ [(405, 28, 1), (405, 38, 1)] [] [])) (b := b) (lyA hK) ((10 * (w1.toInt64)) + 1) (rI_at 405 27 hI_405_27) (rI_at 413 0 hI_413_0) (rR_at 405 11 hR_405_11) (rR_at 405 14 hR_405_14) (rR_at 405 15 hR_405_15)) (lKA (hk_K hK 405 rfl rfl)) rfl (by decide) rfl (Nat.le_of_ble_eq_true rfl) (by decide) (fun r u hu => ?_)
  refine z_eqs (σ' := (ap b σ [(405, 27, 2), (413, 0, 2), (416, 1, 13), (405, 28, 1), (405, 38, 1)] [(417, 1, ((10 * (w1.toInt64)) + 1))] [])) (hu.2.trans ap_ap) ?_
  show zx p l e _ s m _ below meth c g 12 0 0 _ _ 273 [(10, .int 1), (9, .int (-1)), (8, .int 0), (7, .int 1), (6, .int 0), (5, .int 0), (4, .int 60), (0, .ref (b + 405)), (1, .int 0), (2, .int 1), (3, .int 1)] _
  refine z_seti (y := 1) hu.1 ?_
  refine z_istore (lv' := [(10, .int 1), (9, .int (-1)), (8, .int 0), (7, .int 1), (6, .int 0), (5, .int 0), (4, .int 60), (0, .ref (b + 405)), (1, .int 0), (2, .int 1), (3, .int 1)]) B dX9_steps_273 (by decide) rfl ?_
  refine z_aload_n B dX9_steps_275 rfl 7 rfl ?_
  refine z_iload B dX9_steps_276 0 rfl ?_
  refine z_if_eq (tgt := 285) B dX9_steps_278 (by decide) (fun h => absurd h (by decide)) (fun _ => ?_)
  refine z_iconst (v := 1) B dX9_steps_281 (by decide) ?_
  refine z_goto (tgt := 286) B dX9_steps_282 (by decide) ?_
  refine pf_X9_134 (x := 1) (σ' := (ap b σ [(405, 37, 1), (405, 27, 2), (413, 0, 2), (416, 1, 13), (405, 28, 1), (405, 38, 1)] [(417, 1, ((10 * (w1.toInt64)) + 1))] [])) B (lKA (hk_K hK 405 rfl rfl)) wI_ap dX9_steps_286 ?_
  refine z_goto (tgt := 1085) B dX9_steps_289 (by decide) ?_
  refine z_iload B dX9_steps_1085 0 rfl ?_
  refine z_if_ne (tgt := 1113) B dX9_steps_1087 (by decide) (fun _ => ?_) (fun h => absurd h (by decide))
  refine z_iload B dX9_steps_1113 0 rfl ?_
  exact z_zret B hr (by decide) (by decide) (by decide) dX9_steps_1115 ⟨rfl, rfl⟩
set_option maxRecDepth 100000 in
set_option maxHeartbeats 4000000 in
theorem ci_X9_replays_793 (l : Launch) {g : gx_T} {σ : sx_T} {b : Nat} (hK : lay b σ) (w1 : Int64)  (hI_406_60 : sx_I σ (b + 406) 60 = 0) (hI_407_60 : sx_I σ (b + 407) 60 = 0) (hI_409_0 : sx_I σ (b + 409) 0 = 3) (hI_413_0 : sx_I σ (b + 413) 0 = 1) (hI_416_0 : sx_I σ (b + 416) 0 = 0) (hJ_417_0 : sx_J σ (b + 417) 0 = w1) (hR_405_3 : sx_R σ (b + 405) 3 = (some (b + 406))) (hR_405_4 : sx_R σ (b + 405) 4 = (some (b + 407))) (hR_405_7 : sx_R σ (b + 405) 7 = (some (b + 409))) (hR_405_11 : sx_R σ (b + 405) 11 = (some (b + 413))) (hR_405_14 : sx_R σ (b + 405) 14 = (some (b + 416))) (hR_405_15 : sx_R σ (b + 405) 15 = (some (b + 417))) : Met l yX9_replays (.code yX9_replays cX9_replays 5 (some .int) :: lw_g) { frames := 3, cells := 0, slots := 0, locals := 82 } (va_Pc [.ref (b + 405), .int 0, .int 1, .int 1] (zx_w g σ)) (va_Qi (fun r u => r = (-1) ∧ u = (ap b σ [(405, 26, 1), (405, 37, 1), (405, 27, 2), (413, 0, 2), (416, 1, 13), (405, 28, 1), (405, 38, 1), (405, 48, (-1)), (405, 27, 1), (405, 29, (w1.toInt32)), (405, 26, 1), (405, 47, 1), (405, 39, 0), (405, 38, 0), (405, 37, 0), (405, 36, 0), (405, 35, 0), (405, 34, 0), (405, 32, 0), (405, 31, 0), (405, 30, 0), (405, 29, 0), (405, 28, 0), (405, 27, 0), (405, 26, 1)] [(417, 1, ((10 * ((w1.toInt32).toInt64)) + 1))] [])) (zx_w g) (gx_Q g)) 0 0 (gx_Q g) := by
  refine z_met (by decide) (Nat.le_of_ble_eq_true rfl) (fun p e s m below meth c B hr hin => ?_)
  refine z_eqs (σ' := (ap b σ [] [] [])) rfl ?_
  show zx p l e _ s m _ below meth c g 5 0 0 _ _ 0 [(0, .ref (b + 405)), (1, .int 0), (2, .int 1), (3, .int 1)] []
  refine z_aload_n B dX9_replays_0 rfl 0 rfl ?_
  refine z_cVv (As := []) (rest := []) B cw_X9_175 cx_10 dX9_replays_1 (ci_X9_begins_706 l (σ := (ap b σ [] [] [])) (b := b) (lyA hK) ) (lKA (hk_K hK 405 rfl rfl)) rfl (by decide) rfl (Nat.le_of_ble_eq_true rfl) (by decide) (fun u hu => ?_)
  refine z_eqs (σ' := (ap b σ [(405, 39, 0), (405, 38, 0), (405, 37, 0), (405, 36, 0), (405, 35, 0), (405, 34, 0), (405, 32, 0), (405, 31, 0), (405, 30, 0), (405, 29, 0), (405, 28, 0), (405, 27, 0), (405, 26, 1)] [] [])) (hu.trans ap_ap) ?_
  show zx p l e _ s m _ below meth c g 5 0 0 _ _ 4 [(0, .ref (b + 405)), (1, .int 0), (2, .int 1), (3, .int 1)] _
  refine z_aload_n B dX9_replays_4 rfl 0 rfl ?_
  refine z_iload_n B dX9_replays_5 rfl 3 rfl ?_
  refine pf_X9_156 (x := 1) (σ' := (ap b σ [(405, 47, 1), (405, 39, 0), (405, 38, 0), (405, 37, 0), (405, 36, 0), (405, 35, 0), (405, 34, 0), (405, 32, 0), (405, 31, 0), (405, 30, 0), (405, 29, 0), (405, 28, 0), (405, 27, 0), (405, 26, 1)] [] [])) B (by decide) (lKA (hk_K hK 405 rfl rfl)) wI_ap dX9_replays_6 ?_
  refine z_aload_n B dX9_replays_9 rfl 0 rfl ?_
  refine z_aload_n B dX9_replays_10 rfl 0 rfl ?_
  refine gf_X9_44 (x := (some (b + 416))) B (lKA (hk_K hK 405 rfl rfl)) (rR_at 405 14 hR_405_14) dX9_replays_11 ?_
  refine z_sipush (v := 160) B dX9_replays_14 (by decide) ?_
  refine z_iload_n B dX9_replays_17 rfl 1 rfl ?_
  refine z_imul B dX9_replays_18 ?_
  refine z_seti (y := 0) (by decide) ?_
  refine z_iald (j := 0) (x := 0) B (lKA (hk_K hK 416 rfl rfl)) (by decide) (in_of (lNA (hk_N hK 416 rfl rfl)) (show ¬ ((0 : Int32) < 0 ∨ 6560 ≤ (0 : Int32).toNatClampNeg) by decide)) (rI_at 416 0 hI_416_0) dX9_replays_19 ?_
  refine z_if_ne (tgt := 27) B dX9_replays_20 (by decide) (fun h => absurd (by decide) h) (fun _ => ?_)
  refine z_iconst (v := 1) B dX9_replays_23 (by decide) ?_
  refine z_goto (tgt := 28) B dX9_replays_24 (by decide) ?_
  refine pf_X9_103 (x := 1) (σ' := (ap b σ [(405, 26, 1), (405, 47, 1), (405, 39, 0), (405, 38, 0), (405, 37, 0), (405, 36, 0), (405, 35, 0), (405, 34, 0), (405, 32, 0), (405, 31, 0), (405, 30, 0), (405, 29, 0), (405, 28, 0), (405, 27, 0), (405, 26, 1)] [] [])) B (by decide) (lKA (hk_K hK 405 rfl rfl)) wI_ap dX9_replays_28 ?_
  refine z_aload_n B dX9_replays_31 rfl 0 rfl ?_
  refine z_aload_n B dX9_replays_32 rfl 0 rfl ?_
  refine gf_X9_47 (x := (some (b + 417))) B (lKA (hk_K hK 405 rfl rfl)) (rR_at 405 15 hR_405_15) dX9_replays_33 ?_
  refine z_sipush (v := 160) B dX9_replays_36 (by decide) ?_
  refine z_iload_n B dX9_replays_39 rfl 1 rfl ?_
  refine z_imul B dX9_replays_40 ?_
  refine z_seti (y := 0) (by decide) ?_
  refine z_lald (j := 0) (x := w1) B (lKA (hk_K hK 417 rfl rfl)) (by decide) (in_of (lNA (hk_N hK 417 rfl rfl)) (show ¬ ((0 : Int32) < 0 ∨ 6560 ≤ (0 : Int32).toNatClampNeg) by decide)) (rJ_at 417 0 hJ_417_0) dX9_replays_41 ?_
  refine z_l2i B dX9_replays_42 rfl ?_
  refine pf_X9_113 (x := (w1.toInt32)) (σ' := (ap b σ [(405, 29, (w1.toInt32)), (405, 26, 1), (405, 47, 1), (405, 39, 0), (405, 38, 0), (405, 37, 0), (405, 36, 0), (405, 35, 0), (405, 34, 0), (405, 32, 0), (405, 31, 0), (405, 30, 0), (405, 29, 0), (405, 28, 0), (405, 27, 0), (405, 26, 1)] [] [])) B (lKA (hk_K hK 405 rfl rfl)) wI_ap dX9_replays_43 ?_
  refine z_aload_n B dX9_replays_46 rfl 0 rfl ?_
  refine z_iconst (v := 1) B dX9_replays_47 (by decide) ?_
  refine pf_X9_107 (x := 1) (σ' := (ap b σ [(405, 27, 1), (405, 29, (w1.toInt32)), (405, 26, 1), (405, 47, 1), (405, 39, 0), (405, 38, 0), (405, 37, 0), (405, 36, 0), (405, 35, 0), (405, 34, 0), (405, 32, 0), (405, 31, 0), (405, 30, 0), (405, 29, 0), (405, 28, 0), (405, 27, 0), (405, 26, 1)] [] [])) B (lKA (hk_K hK 405 rfl rfl)) wI_ap dX9_replays_48 ?_
  refine z_aload_n B dX9_replays_51 rfl 0 rfl ?_
  refine z_iconst (v := (-1)) B dX9_replays_52 (by decide) ?_
  refine pf_X9_172 (x := (-1)) (σ' := (ap b σ [(405, 48, (-1)), (405, 27, 1), (405, 29, (w1.toInt32)), (405, 26, 1), (405, 47, 1), (405, 39, 0), (405, 38, 0), (405, 37, 0), (405, 36, 0), (405, 35, 0), (405, 34, 0), (405, 32, 0), (405, 31, 0), (405, 30, 0), (405, 29, 0), (405, 28, 0), (405, 27, 0), (405, 26, 1)] [] [])) B (lKA (hk_K hK 405 rfl rfl)) wI_ap dX9_replays_53 ?_
  refine z_aload_n B dX9_replays_56 rfl 0 rfl ?_
  refine gf_X9_103 (x := 1) B (lKA (hk_K hK 405 rfl rfl)) (rI_at 405 26 rfl) dX9_replays_57 ?_
  refine z_istore (lv' := [(4, .int 1), (0, .ref (b + 405)), (1, .int 0), (2, .int 1), (3, .int 1)]) B dX9_replays_60 (by decide) rfl ?_
  refine z_iload B dX9_replays_62 0 rfl ?_
  refine z_if_eq (tgt := 180) B dX9_replays_64 (by decide) (fun h => absurd h (by decide)) (fun _ => ?_)
  refine z_aload_n B dX9_replays_67 rfl 1 rfl ?_
  refine gf_X9_103 (x := 1) B (lKA (hk_K hK 405 rfl rfl)) (rI_at 405 26 rfl) dX9_replays_68 ?_
  refine z_if_eq (tgt := 180) B dX9_replays_71 (by decide) (fun h => absurd h (by decide)) (fun _ => ?_)
  refine z_aload_n B dX9_replays_74 rfl 1 rfl ?_
  refine gf_X9_134 (x := 0) B (lKA (hk_K hK 405 rfl rfl)) (rI_at 405 37 rfl) dX9_replays_75 ?_
  refine z_if_le (tgt := 104) B dX9_replays_78 (by decide) (fun _ => ?_) (fun h => absurd (by decide) h)
  refine z_aload_n B dX9_replays_104 rfl 1 rfl ?_
  refine gf_X9_116 (x := 0) B (lKA (hk_K hK 405 rfl rfl)) (rI_at 405 30 rfl) dX9_replays_105 ?_
  refine z_if_eq (tgt := 139) B dX9_replays_108 (by decide) (fun _ => ?_) (fun h => absurd (by decide) h)
  refine z_aload_n B dX9_replays_139 rfl 1 rfl ?_
  refine gf_X9_131 (x := 0) B (lKA (hk_K hK 405 rfl rfl)) (rI_at 405 36 rfl) dX9_replays_140 ?_
  refine z_if_le (tgt := 158) B dX9_replays_143 (by decide) (fun _ => ?_) (fun h => absurd (by decide) h)
  refine z_aload_n B dX9_replays_158 rfl 1 rfl ?_
  refine z_iload_n B dX9_replays_159 rfl 2 rfl ?_
  refine z_iload_n B dX9_replays_160 rfl 3 rfl ?_
  refine z_iload_n B dX9_replays_161 rfl 4 rfl ?_
  refine z_cVi (As := [.int 0, .int 1, .int 1]) (rest := []) B cw_X9_186 cx_10 dX9_replays_162 (ci_X9_steps_792 l (σ := (ap b σ [(405, 48, (-1)), (405, 27, 1), (405, 29, (w1.toInt32)), (405, 26, 1), (405, 47, 1), (405, 39, 0), (405, 38, 0), (405, 37, 0), (405, 36, 0), (405, 35, 0), (405, 34, 0), (405, 32, 0), (405, 31, 0), (405, 30, 0), (405, 29, 0), (405, 28, 0), (405, 27, 0), (405, 26, 1)] [] [])) (b := b) (lyA hK) (w1.toInt32) (rI_at 405 27 rfl) (rI_at 405 28 rfl) (rI_at 405 29 rfl) (rI_at 405 38 rfl) (rI_at 406 60 hI_406_60) (rI_at 407 60 hI_407_60) (rI_at 409 0 hI_409_0) (rI_at 413 0 hI_413_0) (rR_at 405 3 hR_405_3) (rR_at 405 4 hR_405_4) (rR_at 405 7 hR_405_7) (rR_at 405 11 hR_405_11) (rR_at 405 14 hR_405_14) (rR_at 405 15 hR_405_15)) (lKA (hk_K hK 405 rfl rfl)) rfl (by decide) rfl (Nat.le_of_ble_eq_true rfl) (by decide) (fun r u hu => ?_)
  refine z_eqs (σ' := (ap b σ [(405, 37, 1), (405, 27, 2), (413, 0, 2), (416, 1, 13), (405, 28, 1), (405, 38, 1), (405, 48, (-1)), (405, 27, 1), (405, 29, (w1.toInt32)), (405, 26, 1), (405, 47, 1), (405, 39, 0), (405, 38, 0), (405, 37, 0), (405, 36, 0), (405, 35, 0), (405, 34, 0), (405, 32, 0), (405, 31, 0), (405, 30, 0), (405, 29, 0), (405, 28, 0), (405, 27, 0), (405, 26, 1)] [(417, 1, ((10 * ((w1.toInt32).toInt64)) + 1))] [])) (hu.2.trans ap_ap) ?_
  show zx p l e _ s m _ below meth c g 5 0 0 _ _ 165 [(4, .int 1), (0, .ref (b + 405)), (1, .int 0), (2, .int 1), (3, .int 1)] _
  refine z_seti (y := 1) hu.1 ?_
  refine z_istore (lv' := [(4, .int 1), (0, .ref (b + 405)), (1, .int 0), (2, .int 1), (3, .int 1)]) B dX9_replays_165 (by decide) rfl ?_
  refine z_aload_n B dX9_replays_167 rfl 1 rfl ?_
  refine gf_X9_172 (x := (-1)) B (lKA (hk_K hK 405 rfl rfl)) (rI_at 405 48 rfl) dX9_replays_168 ?_
  refine z_iconst (v := (-1)) B dX9_replays_171 (by decide) ?_
  refine z_icmp_eq (tgt := 62) B dX9_replays_172 (by decide) (fun _ => ?_) (fun h => absurd (by decide) h)
  refine z_iload B dX9_replays_62 0 rfl ?_
  refine z_if_eq (tgt := 180) B dX9_replays_64 (by decide) (fun h => absurd h (by decide)) (fun _ => ?_)
  refine z_aload_n B dX9_replays_67 rfl 1 rfl ?_
  refine gf_X9_103 (x := 1) B (lKA (hk_K hK 405 rfl rfl)) (rI_at 405 26 rfl) dX9_replays_68 ?_
  refine z_if_eq (tgt := 180) B dX9_replays_71 (by decide) (fun h => absurd h (by decide)) (fun _ => ?_)
  refine z_aload_n B dX9_replays_74 rfl 1 rfl ?_
  refine gf_X9_134 (x := 1) B (lKA (hk_K hK 405 rfl rfl)) (rI_at 405 37 rfl) dX9_replays_75 ?_
  refine z_if_le (tgt := 104) B dX9_replays_78 (by decide) (fun h => absurd h (by decide)) (fun _ => ?_)
  refine z_aload_n B dX9_replays_81 rfl 1 rfl ?_
  refine z_aload_n B dX9_replays_82 rfl 1 rfl ?_
  refine gf_X9_107 (x := 2) B (lKA (hk_K hK 405 rfl rfl)) (rI_at 405 27 rfl) dX9_replays_83 ?_
  refine z_iload_n B dX9_replays_86 rfl 3 rfl ?_
  refine z_icmp_lt (tgt := 94) B dX9_replays_87 (by decide) (fun h => absurd h (by decide)) (fun _ => ?_)
  refine z_iconst (v := 1) B dX9_replays_90 (by decide) ?_
  refine z_goto (tgt := 95) B dX9_replays_91 (by decide) ?_
  refine pf_X9_103 (x := 1) (σ' := (ap b σ [(405, 26, 1), (405, 37, 1), (405, 27, 2), (413, 0, 2), (416, 1, 13), (405, 28, 1), (405, 38, 1), (405, 48, (-1)), (405, 27, 1), (405, 29, (w1.toInt32)), (405, 26, 1), (405, 47, 1), (405, 39, 0), (405, 38, 0), (405, 37, 0), (405, 36, 0), (405, 35, 0), (405, 34, 0), (405, 32, 0), (405, 31, 0), (405, 30, 0), (405, 29, 0), (405, 28, 0), (405, 27, 0), (405, 26, 1)] [(417, 1, ((10 * ((w1.toInt32).toInt64)) + 1))] [])) B (by decide) (lKA (hk_K hK 405 rfl rfl)) wI_ap dX9_replays_95 ?_
  refine z_iconst (v := 0) B dX9_replays_98 (by decide) ?_
  refine z_istore (lv' := [(4, .int 0), (0, .ref (b + 405)), (1, .int 0), (2, .int 1), (3, .int 1)]) B dX9_replays_99 (by decide) rfl ?_
  refine z_goto (tgt := 62) B dX9_replays_101 (by decide) ?_
  refine z_iload B dX9_replays_62 0 rfl ?_
  refine z_if_eq (tgt := 180) B dX9_replays_64 (by decide) (fun _ => ?_) (fun h => absurd (by decide) h)
  refine z_iconst (v := (-1)) B dX9_replays_180 (by decide) ?_
  exact z_iret B hr (by decide) (by decide) dX9_replays_181 ⟨rfl, rfl⟩
set_option maxRecDepth 100000 in
set_option maxHeartbeats 4000000 in
theorem ci_X9_goesOn_794 (l : Launch) {g : gx_T} {σ : sx_T} {b : Nat} (hK : lay b σ) (w1 : Int64)  (hI_405_16 : sx_I σ (b + 405) 16 = 0) (hI_406_60 : sx_I σ (b + 406) 60 = 0) (hI_407_60 : sx_I σ (b + 407) 60 = 0) (hI_409_0 : sx_I σ (b + 409) 0 = 3) (hI_410_0 : sx_I σ (b + 410) 0 = (-1)) (hI_412_0 : sx_I σ (b + 412) 0 = 0) (hI_413_0 : sx_I σ (b + 413) 0 = 1) (hI_416_0 : sx_I σ (b + 416) 0 = 0) (hJ_417_0 : sx_J σ (b + 417) 0 = w1) (hR_405_3 : sx_R σ (b + 405) 3 = (some (b + 406))) (hR_405_4 : sx_R σ (b + 405) 4 = (some (b + 407))) (hR_405_7 : sx_R σ (b + 405) 7 = (some (b + 409))) (hR_405_8 : sx_R σ (b + 405) 8 = (some (b + 410))) (hR_405_10 : sx_R σ (b + 405) 10 = (some (b + 412))) (hR_405_11 : sx_R σ (b + 405) 11 = (some (b + 413))) (hR_405_12 : sx_R σ (b + 405) 12 = (some (b + 414))) (hR_405_14 : sx_R σ (b + 405) 14 = (some (b + 416))) (hR_405_15 : sx_R σ (b + 405) 15 = (some (b + 417))) (hR_405_42 : sx_R σ (b + 405) 42 = (some (b + 428))) : Met l yX9_goesOn (.code yX9_goesOn cX9_goesOn 5 none :: lw_g) { frames := 4, cells := 0, slots := 0, locals := 106 } (va_Pc [.ref (b + 405), .int 0] (zx_w g σ)) (va_Qv (fun u => u = (ap b σ [(412, 0, 1), (414, 0, 2), (405, 26, 1), (405, 37, 1), (405, 27, 2), (413, 0, 2), (416, 1, 13), (405, 28, 1), (405, 38, 1), (405, 48, (-1)), (405, 27, 1), (405, 29, (w1.toInt32)), (405, 26, 1), (405, 47, 1), (405, 39, 0), (405, 38, 0), (405, 37, 0), (405, 36, 0), (405, 35, 0), (405, 34, 0), (405, 32, 0), (405, 31, 0), (405, 30, 0), (405, 29, 0), (405, 28, 0), (405, 27, 0), (405, 26, 1), (428, 0, 0)] [(417, 1, ((10 * ((w1.toInt32).toInt64)) + 1))] [])) (zx_w g) (gx_Q g)) 0 0 (gx_Q g) := by
  refine z_met (by decide) (Nat.le_of_ble_eq_true rfl) (fun p e s m below meth c B hr hin => ?_)
  refine z_eqs (σ' := (ap b σ [] [] [])) rfl ?_
  show zx p l e _ s m _ below meth c g 5 0 0 _ _ 0 [(0, .ref (b + 405)), (1, .int 0)] []
  refine z_iconst (v := 1) B dX9_goesOn_0 (by decide) ?_
  refine z_istore_n (lv' := [(2, .int 1), (0, .ref (b + 405)), (1, .int 0)]) B dX9_goesOn_1 rfl (by decide) rfl ?_
  refine z_aload_n B dX9_goesOn_2 rfl 1 rfl ?_
  refine gf_X9_81 (x := (some (b + 428))) B (lKA (hk_K hK 405 rfl rfl)) (rR_at 405 42 hR_405_42) dX9_goesOn_3 ?_
  refine z_iconst (v := 0) B dX9_goesOn_6 (by decide) ?_
  refine z_iload_n B dX9_goesOn_7 rfl 2 rfl ?_
  refine z_iast (j := 0) (σ' := (ap b σ [(428, 0, 0)] [] [])) B (lKA (hk_K hK 428 rfl rfl)) (by decide) (in_of (lNA (hk_N hK 428 rfl rfl)) (show ¬ ((0 : Int32) < 0 ∨ 50 ≤ (0 : Int32).toNatClampNeg) by decide)) wI_ap dX9_goesOn_8 ?_
  refine z_iload_n B dX9_goesOn_9 rfl 0 rfl ?_
  refine z_if_le (tgt := 106) B dX9_goesOn_10 (by decide) (fun h => absurd h (by decide)) (fun _ => ?_)
  refine z_aload_n B dX9_goesOn_13 rfl 1 rfl ?_
  refine gf_X9_81 (x := (some (b + 428))) B (lKA (hk_K hK 405 rfl rfl)) (rR_at 405 42 hR_405_42) dX9_goesOn_14 ?_
  refine z_iload_n B dX9_goesOn_17 rfl 0 rfl ?_
  refine z_iconst (v := 1) B dX9_goesOn_18 (by decide) ?_
  refine z_isub B dX9_goesOn_19 ?_
  refine z_seti (y := 0) (by decide) ?_
  refine z_iald (j := 0) (x := 0) B (lKA (hk_K hK 428 rfl rfl)) (by decide) (in_of (lNA (hk_N hK 428 rfl rfl)) (show ¬ ((0 : Int32) < 0 ∨ 50 ≤ (0 : Int32).toNatClampNeg) by decide)) (rI_at 428 0 rfl) dX9_goesOn_20 ?_
  refine z_istore_n (lv' := [(3, .int 0), (2, .int 1), (0, .ref (b + 405)), (1, .int 0)]) B dX9_goesOn_21 rfl (by decide) rfl ?_
  refine z_aload_n B dX9_goesOn_22 rfl 2 rfl ?_
  refine gf_X9_32 (x := (some (b + 412))) B (lKA (hk_K hK 405 rfl rfl)) (rR_at 405 10 hR_405_10) dX9_goesOn_23 ?_
  refine z_iload_n B dX9_goesOn_26 rfl 0 rfl ?_
  refine z_iald (j := 0) (x := 0) B (lKA (hk_K hK 412 rfl rfl)) (by decide) (in_of (lNA (hk_N hK 412 rfl rfl)) (show ¬ ((0 : Int32) < 0 ∨ 41 ≤ (0 : Int32).toNatClampNeg) by decide)) (rI_at 412 0 hI_412_0) dX9_goesOn_27 ?_
  refine z_if_le (tgt := 35) B dX9_goesOn_28 (by decide) (fun _ => ?_) (fun h => absurd (by decide) h)
  refine z_aload_n B dX9_goesOn_35 rfl 2 rfl ?_
  refine z_iload_n B dX9_goesOn_36 rfl 0 rfl ?_
  refine z_aload_n B dX9_goesOn_37 rfl 2 rfl ?_
  refine gf_X9_35 (x := (some (b + 413))) B (lKA (hk_K hK 405 rfl rfl)) (rR_at 405 11 hR_405_11) dX9_goesOn_38 ?_
  refine z_iload_n B dX9_goesOn_41 rfl 0 rfl ?_
  refine z_iald (j := 0) (x := 1) B (lKA (hk_K hK 413 rfl rfl)) (by decide) (in_of (lNA (hk_N hK 413 rfl rfl)) (show ¬ ((0 : Int32) < 0 ∨ 41 ≤ (0 : Int32).toNatClampNeg) by decide)) (rI_at 413 0 hI_413_0) dX9_goesOn_42 ?_
  refine z_iconst (v := 1) B dX9_goesOn_43 (by decide) ?_
  refine z_cVi (As := [.int 0, .int 1, .int 1]) (rest := []) B cw_X9_216 cx_10 dX9_goesOn_44 (ci_X9_replays_793 l (σ := (ap b σ [(428, 0, 0)] [] [])) (b := b) (lyA hK) w1 (rI_at 406 60 hI_406_60) (rI_at 407 60 hI_407_60) (rI_at 409 0 hI_409_0) (rI_at 413 0 hI_413_0) (rI_at 416 0 hI_416_0) (rJ_at 417 0 hJ_417_0) (rR_at 405 3 hR_405_3) (rR_at 405 4 hR_405_4) (rR_at 405 7 hR_405_7) (rR_at 405 11 hR_405_11) (rR_at 405 14 hR_405_14) (rR_at 405 15 hR_405_15)) (lKA (hk_K hK 405 rfl rfl)) rfl (by decide) rfl (Nat.le_of_ble_eq_true rfl) (by decide) (fun r u hu => ?_)
  refine z_eqs (σ' := (ap b σ [(405, 26, 1), (405, 37, 1), (405, 27, 2), (413, 0, 2), (416, 1, 13), (405, 28, 1), (405, 38, 1), (405, 48, (-1)), (405, 27, 1), (405, 29, (w1.toInt32)), (405, 26, 1), (405, 47, 1), (405, 39, 0), (405, 38, 0), (405, 37, 0), (405, 36, 0), (405, 35, 0), (405, 34, 0), (405, 32, 0), (405, 31, 0), (405, 30, 0), (405, 29, 0), (405, 28, 0), (405, 27, 0), (405, 26, 1), (428, 0, 0)] [(417, 1, ((10 * ((w1.toInt32).toInt64)) + 1))] [])) (hu.2.trans ap_ap) ?_
  show zx p l e _ s m _ below meth c g 5 0 0 _ _ 47 [(3, .int 0), (2, .int 1), (0, .ref (b + 405)), (1, .int 0)] _
  refine z_seti (y := (-1)) hu.1 ?_
  refine z_istore (lv' := [(4, .int (-1)), (3, .int 0), (2, .int 1), (0, .ref (b + 405)), (1, .int 0)]) B dX9_goesOn_47 (by decide) rfl ?_
  refine z_iload B dX9_goesOn_49 0 rfl ?_
  refine z_iconst (v := (-1)) B dX9_goesOn_51 (by decide) ?_
  refine z_icmp_eq (tgt := 69) B dX9_goesOn_52 (by decide) (fun _ => ?_) (fun h => absurd (by decide) h)
  refine z_iinc (v := 0) (lv' := [(2, .int 0), (4, .int (-1)), (3, .int 0), (0, .ref (b + 405)), (1, .int 0)]) B dX9_goesOn_69 2 rfl (by decide) (by decide) rfl ?_
  refine z_aload_n B dX9_goesOn_72 rfl 3 rfl ?_
  refine gf_X9_32 (x := (some (b + 412))) B (lKA (hk_K hK 405 rfl rfl)) (rR_at 405 10 hR_405_10) dX9_goesOn_73 ?_
  refine z_iload_n B dX9_goesOn_76 rfl 2 rfl ?_
  refine z_iald (j := 0) (x := 0) B (lKA (hk_K hK 412 rfl rfl)) (by decide) (in_of (lNA (hk_N hK 412 rfl rfl)) (show ¬ ((0 : Int32) < 0 ∨ 41 ≤ (0 : Int32).toNatClampNeg) by decide)) (rI_at 412 0 hI_412_0) dX9_goesOn_77 ?_
  refine z_if_ne (tgt := 103) B dX9_goesOn_78 (by decide) (fun h => absurd (by decide) h) (fun _ => ?_)
  refine z_aload_n B dX9_goesOn_81 rfl 3 rfl ?_
  refine gf_X9_103 (x := 1) B (lKA (hk_K hK 405 rfl rfl)) (rI_at 405 26 rfl) dX9_goesOn_82 ?_
  refine z_if_eq (tgt := 103) B dX9_goesOn_85 (by decide) (fun h => absurd h (by decide)) (fun _ => ?_)
  refine z_aload_n B dX9_goesOn_88 rfl 3 rfl ?_
  refine gf_X9_38 (x := (some (b + 414))) B (lKA (hk_K hK 405 rfl rfl)) (rR_at 405 12 hR_405_12) dX9_goesOn_89 ?_
  refine z_iload_n B dX9_goesOn_92 rfl 2 rfl ?_
  refine z_aload_n B dX9_goesOn_93 rfl 3 rfl ?_
  refine gf_X9_107 (x := 2) B (lKA (hk_K hK 405 rfl rfl)) (rI_at 405 27 rfl) dX9_goesOn_94 ?_
  refine z_iast (j := 0) (σ' := (ap b σ [(414, 0, 2), (405, 26, 1), (405, 37, 1), (405, 27, 2), (413, 0, 2), (416, 1, 13), (405, 28, 1), (405, 38, 1), (405, 48, (-1)), (405, 27, 1), (405, 29, (w1.toInt32)), (405, 26, 1), (405, 47, 1), (405, 39, 0), (405, 38, 0), (405, 37, 0), (405, 36, 0), (405, 35, 0), (405, 34, 0), (405, 32, 0), (405, 31, 0), (405, 30, 0), (405, 29, 0), (405, 28, 0), (405, 27, 0), (405, 26, 1), (428, 0, 0)] [(417, 1, ((10 * ((w1.toInt32).toInt64)) + 1))] [])) B (lKA (hk_K hK 414 rfl rfl)) (by decide) (in_of (lNA (hk_N hK 414 rfl rfl)) (show ¬ ((0 : Int32) < 0 ∨ 41 ≤ (0 : Int32).toNatClampNeg) by decide)) wI_ap dX9_goesOn_97 ?_
  refine z_aload_n B dX9_goesOn_98 rfl 3 rfl ?_
  refine z_iload_n B dX9_goesOn_99 rfl 2 rfl ?_
  refine z_cVv (As := [.int 0]) (rest := []) B cw_X9_220 cx_10 dX9_goesOn_100 (ci_X9_rests_712 l (σ := (ap b σ [(414, 0, 2), (405, 26, 1), (405, 37, 1), (405, 27, 2), (413, 0, 2), (416, 1, 13), (405, 28, 1), (405, 38, 1), (405, 48, (-1)), (405, 27, 1), (405, 29, (w1.toInt32)), (405, 26, 1), (405, 47, 1), (405, 39, 0), (405, 38, 0), (405, 37, 0), (405, 36, 0), (405, 35, 0), (405, 34, 0), (405, 32, 0), (405, 31, 0), (405, 30, 0), (405, 29, 0), (405, 28, 0), (405, 27, 0), (405, 26, 1), (428, 0, 0)] [(417, 1, ((10 * ((w1.toInt32).toInt64)) + 1))] [])) (b := b) (lyA hK) (w1.toInt32) (rI_at 405 16 hI_405_16) (rI_at 405 29 rfl) (rI_at 405 30 rfl) (rI_at 405 37 rfl) (rI_at 410 0 hI_410_0) (rR_at 405 8 hR_405_8) (rR_at 405 10 hR_405_10)) (lKA (hk_K hK 405 rfl rfl)) rfl (by decide) rfl (Nat.le_of_ble_eq_true rfl) (by decide) (fun u hu => ?_)
  refine z_eqs (σ' := (ap b σ [(412, 0, 1), (414, 0, 2), (405, 26, 1), (405, 37, 1), (405, 27, 2), (413, 0, 2), (416, 1, 13), (405, 28, 1), (405, 38, 1), (405, 48, (-1)), (405, 27, 1), (405, 29, (w1.toInt32)), (405, 26, 1), (405, 47, 1), (405, 39, 0), (405, 38, 0), (405, 37, 0), (405, 36, 0), (405, 35, 0), (405, 34, 0), (405, 32, 0), (405, 31, 0), (405, 30, 0), (405, 29, 0), (405, 28, 0), (405, 27, 0), (405, 26, 1), (428, 0, 0)] [(417, 1, ((10 * ((w1.toInt32).toInt64)) + 1))] [])) (hu.trans ap_ap) ?_
  show zx p l e _ s m _ below meth c g 5 0 0 _ _ 103 [(2, .int 0), (4, .int (-1)), (3, .int 0), (0, .ref (b + 405)), (1, .int 0)] _
  refine z_goto (tgt := 9) B dX9_goesOn_103 (by decide) ?_
  refine z_iload_n B dX9_goesOn_9 rfl 0 rfl ?_
  refine z_if_le (tgt := 106) B dX9_goesOn_10 (by decide) (fun _ => ?_) (fun h => absurd (by decide) h)
  exact z_vret B hr (by decide) (by decide) dX9_goesOn_106 rfl
set_option maxRecDepth 100000 in
set_option maxHeartbeats 4000000 in
theorem ci_X9_runs_795 (l : Launch) {g : gx_T} {σ : sx_T} {b : Nat} (hK : lay b σ) (w1 : Int64)  (hI_405_16 : sx_I σ (b + 405) 16 = 0) (hI_406_60 : sx_I σ (b + 406) 60 = 0) (hI_407_60 : sx_I σ (b + 407) 60 = 0) (hI_409_0 : sx_I σ (b + 409) 0 = 3) (hI_410_0 : sx_I σ (b + 410) 0 = (-1)) (hI_412_0 : sx_I σ (b + 412) 0 = 0) (hI_413_0 : sx_I σ (b + 413) 0 = 1) (hI_416_0 : sx_I σ (b + 416) 0 = 0) (hJ_417_0 : sx_J σ (b + 417) 0 = w1) (hR_405_3 : sx_R σ (b + 405) 3 = (some (b + 406))) (hR_405_4 : sx_R σ (b + 405) 4 = (some (b + 407))) (hR_405_7 : sx_R σ (b + 405) 7 = (some (b + 409))) (hR_405_8 : sx_R σ (b + 405) 8 = (some (b + 410))) (hR_405_10 : sx_R σ (b + 405) 10 = (some (b + 412))) (hR_405_11 : sx_R σ (b + 405) 11 = (some (b + 413))) (hR_405_12 : sx_R σ (b + 405) 12 = (some (b + 414))) (hR_405_14 : sx_R σ (b + 405) 14 = (some (b + 416))) (hR_405_15 : sx_R σ (b + 405) 15 = (some (b + 417))) (hR_405_42 : sx_R σ (b + 405) 42 = (some (b + 428))) : Met l yX9_runs (.code yX9_runs cX9_runs 5 none :: lw_g) { frames := 5, cells := 0, slots := 0, locals := 130 } (va_Pc [.ref (b + 405), .int 0] (zx_w g σ)) (va_Qv (fun u => u = (ap b σ [(412, 0, 1), (414, 0, 2), (405, 26, 1), (405, 37, 1), (405, 27, 2), (413, 0, 2), (416, 1, 13), (405, 28, 1), (405, 38, 1), (405, 48, (-1)), (405, 27, 1), (405, 29, (w1.toInt32)), (405, 26, 1), (405, 47, 1), (405, 39, 0), (405, 38, 0), (405, 37, 0), (405, 36, 0), (405, 35, 0), (405, 34, 0), (405, 32, 0), (405, 31, 0), (405, 30, 0), (405, 29, 0), (405, 28, 0), (405, 27, 0), (405, 26, 1), (428, 0, 0), (405, 45, 0), (405, 43, 0)] [(417, 1, ((10 * ((w1.toInt32).toInt64)) + 1))] [])) (zx_w g) (gx_Q g)) 0 0 (gx_Q g) := by
  refine z_met (by decide) (Nat.le_of_ble_eq_true rfl) (fun p e s m below meth c B hr hin => ?_)
  refine z_eqs (σ' := (ap b σ [] [] [])) rfl ?_
  show zx p l e _ s m _ below meth c g 5 0 0 _ _ 0 [(0, .ref (b + 405)), (1, .int 0)] []
  refine z_aload_n B dX9_runs_0 rfl 0 rfl ?_
  refine z_iconst (v := 0) B dX9_runs_1 (by decide) ?_
  refine pf_X9_226 (x := 0) (σ' := (ap b σ [(405, 43, 0)] [] [])) B (lKA (hk_K hK 405 rfl rfl)) wI_ap dX9_runs_2 ?_
  refine z_aload_n B dX9_runs_5 rfl 0 rfl ?_
  refine z_iconst (v := 0) B dX9_runs_6 (by decide) ?_
  refine pf_X9_159 (x := 0) (σ' := (ap b σ [(405, 45, 0), (405, 43, 0)] [] [])) B (lKA (hk_K hK 405 rfl rfl)) wI_ap dX9_runs_7 ?_
  refine z_aload_n B dX9_runs_10 rfl 0 rfl ?_
  refine z_iload_n B dX9_runs_11 rfl 1 rfl ?_
  refine z_cVv (As := [.int 0]) (rest := []) B cw_X9_229 cx_10 dX9_runs_12 (ci_X9_goesOn_794 l (σ := (ap b σ [(405, 45, 0), (405, 43, 0)] [] [])) (b := b) (lyA hK) w1 (rI_at 405 16 hI_405_16) (rI_at 406 60 hI_406_60) (rI_at 407 60 hI_407_60) (rI_at 409 0 hI_409_0) (rI_at 410 0 hI_410_0) (rI_at 412 0 hI_412_0) (rI_at 413 0 hI_413_0) (rI_at 416 0 hI_416_0) (rJ_at 417 0 hJ_417_0) (rR_at 405 3 hR_405_3) (rR_at 405 4 hR_405_4) (rR_at 405 7 hR_405_7) (rR_at 405 8 hR_405_8) (rR_at 405 10 hR_405_10) (rR_at 405 11 hR_405_11) (rR_at 405 12 hR_405_12) (rR_at 405 14 hR_405_14) (rR_at 405 15 hR_405_15) (rR_at 405 42 hR_405_42)) (lKA (hk_K hK 405 rfl rfl)) rfl (by decide) rfl (Nat.le_of_ble_eq_true rfl) (by decide) (fun u hu => ?_)
  refine z_eqs (σ' := (ap b σ [(412, 0, 1), (414, 0, 2), (405, 26, 1), (405, 37, 1), (405, 27, 2), (413, 0, 2), (416, 1, 13), (405, 28, 1), (405, 38, 1), (405, 48, (-1)), (405, 27, 1), (405, 29, (w1.toInt32)), (405, 26, 1), (405, 47, 1), (405, 39, 0), (405, 38, 0), (405, 37, 0), (405, 36, 0), (405, 35, 0), (405, 34, 0), (405, 32, 0), (405, 31, 0), (405, 30, 0), (405, 29, 0), (405, 28, 0), (405, 27, 0), (405, 26, 1), (428, 0, 0), (405, 45, 0), (405, 43, 0)] [(417, 1, ((10 * ((w1.toInt32).toInt64)) + 1))] [])) (hu.trans ap_ap) ?_
  show zx p l e _ s m _ below meth c g 5 0 0 _ _ 15 [(0, .ref (b + 405)), (1, .int 0)] _
  refine z_iconst (v := 0) B dX9_runs_15 (by decide) ?_
  refine z_istore_n (lv' := [(2, .int 0), (0, .ref (b + 405)), (1, .int 0)]) B dX9_runs_16 rfl (by decide) rfl ?_
  refine z_iconst (v := 0) B dX9_runs_17 (by decide) ?_
  refine z_istore_n (lv' := [(3, .int 0), (2, .int 0), (0, .ref (b + 405)), (1, .int 0)]) B dX9_runs_18 rfl (by decide) rfl ?_
  refine z_iload_n B dX9_runs_19 rfl 1 rfl ?_
  refine z_aload_n B dX9_runs_20 rfl 2 rfl ?_
  refine gf_X9_226 (x := 0) B (lKA (hk_K hK 405 rfl rfl)) (rI_at 405 43 rfl) dX9_runs_21 ?_
  refine z_icmp_lt (tgt := 35) B dX9_runs_24 (by decide) (fun h => absurd h (by decide)) (fun _ => ?_)
  refine z_iload_n B dX9_runs_27 rfl 0 rfl ?_
  refine z_aload_n B dX9_runs_28 rfl 2 rfl ?_
  refine gf_X9_159 (x := 0) B (lKA (hk_K hK 405 rfl rfl)) (rI_at 405 45 rfl) dX9_runs_29 ?_
  refine z_icmp_ge (tgt := 90) B dX9_runs_32 (by decide) (fun _ => ?_) (fun h => absurd (by decide) h)
  exact z_vret B hr (by decide) (by decide) dX9_runs_90 rfl
set_option maxRecDepth 100000 in
set_option maxHeartbeats 4000000 in
theorem ci_X9_start_796 (l : Launch) {g : gx_T} {σ : sx_T} {b : Nat} (hK : lay b σ) (w1 : Int32) (q1_w1 : (-999 : Int) ≤ w1.toInt) (q2_w1 : w1.toInt ≤ (-1 : Int)) (hI_405_6 : sx_I σ (b + 405) 6 = 0) (hI_405_16 : sx_I σ (b + 405) 16 = 0) (hI_406_60 : sx_I σ (b + 406) 60 = 0) (hI_407_60 : sx_I σ (b + 407) 60 = 0) (hI_412_0 : sx_I σ (b + 412) 0 = 0) (hI_413_0 : sx_I σ (b + 413) 0 = 0) (hR_405_3 : sx_R σ (b + 405) 3 = (some (b + 406))) (hR_405_4 : sx_R σ (b + 405) 4 = (some (b + 407))) (hR_405_7 : sx_R σ (b + 405) 7 = (some (b + 409))) (hR_405_8 : sx_R σ (b + 405) 8 = (some (b + 410))) (hR_405_9 : sx_R σ (b + 405) 9 = (some (b + 411))) (hR_405_10 : sx_R σ (b + 405) 10 = (some (b + 412))) (hR_405_11 : sx_R σ (b + 405) 11 = (some (b + 413))) (hR_405_12 : sx_R σ (b + 405) 12 = (some (b + 414))) (hR_405_13 : sx_R σ (b + 405) 13 = (some (b + 415))) (hR_405_14 : sx_R σ (b + 405) 14 = (some (b + 416))) (hR_405_15 : sx_R σ (b + 405) 15 = (some (b + 417))) (hR_405_42 : sx_R σ (b + 405) 42 = (some (b + 428))) : Met l yX9_start (.code yX9_start cX9_start 4 (some .int) :: lw_g) { frames := 6, cells := 0, slots := 0, locals := 154 } (va_Pc [.ref (b + 405), .int 3, .int w1] (zx_w g σ)) (va_Qi (fun r u => r = 0 ∧ u = (ap b σ [(412, 0, 1), (414, 0, 2), (405, 26, 1), (405, 37, 1), (405, 27, 2), (413, 0, 2), (416, 1, 13), (405, 28, 1), (405, 38, 1), (405, 48, (-1)), (405, 27, 1), (405, 29, ((w1.toInt64).toInt32)), (405, 26, 1), (405, 47, 1), (405, 39, 0), (405, 38, 0), (405, 37, 0), (405, 36, 0), (405, 35, 0), (405, 34, 0), (405, 32, 0), (405, 31, 0), (405, 30, 0), (405, 29, 0), (405, 28, 0), (405, 27, 0), (405, 26, 1), (428, 0, 0), (405, 45, 0), (405, 43, 0), (413, 0, 1), (416, 0, 0), (415, 0, (-1)), (411, 0, 0), (410, 0, (-1)), (409, 0, 3), (405, 6, 1), (405, 0, 0)] [(417, 1, ((10 * (((w1.toInt64).toInt32).toInt64)) + 1)), (417, 0, (w1.toInt64))] [])) (zx_w g) (gx_Q g)) 0 0 (gx_Q g) := by
  refine z_met (by decide) (Nat.le_of_ble_eq_true rfl) (fun p e s m below meth c B hr hin => ?_)
  refine z_eqs (σ' := (ap b σ [] [] [])) rfl ?_
  show zx p l e _ s m _ below meth c g 4 0 0 _ _ 0 [(0, .ref (b + 405)), (1, .int 3), (2, .int w1)] []
  refine z_aload_n B dX9_start_0 rfl 0 rfl ?_
  refine z_iload_n B dX9_start_1 rfl 1 rfl ?_
  refine z_iconst (v := 0) B dX9_start_2 (by decide) ?_
  refine z_iconst (v := 5) B dX9_start_3 (by decide) ?_
  refine z_cSi (As := [.int 3, .int 0, .int 5]) (rest := [.ref (b + 405)]) B cw_X9_96 dX9_start_4 (ci_X9_in_223 l (σ := (ap b σ [] [] [])) (b := b) (lyA hK) ) rfl (by decide) rfl (Nat.le_of_ble_eq_true rfl) (by decide) (fun r u hu => ?_)
  refine z_eqs (σ' := (ap b σ [] [] [])) hu.2 ?_
  show zx p l e _ s m _ below meth c g 4 0 0 _ _ 7 [(0, .ref (b + 405)), (1, .int 3), (2, .int w1)] _
  refine z_seti (y := 1) hu.1 ?_
  refine z_iload_n B dX9_start_7 rfl 2 rfl ?_
  refine z_sipush (v := (-999)) B dX9_start_8 (by decide) ?_
  refine z_sipush (v := 999) B dX9_start_11 (by decide) ?_
  refine z_cSi (As := [.int w1, .int (-999), .int 999]) (rest := [.int 1, .ref (b + 405)]) B cw_X9_96 dX9_start_14 (ci_X9_in_702 l (σ := (ap b σ [] [] [])) (b := b) (lyA hK) w1 q1_w1 q2_w1) rfl (by decide) rfl (Nat.le_of_ble_eq_true rfl) (by decide) (fun r u hu => ?_)
  refine z_eqs (σ' := (ap b σ [] [] [])) hu.2 ?_
  show zx p l e _ s m _ below meth c g 4 0 0 _ _ 17 [(0, .ref (b + 405)), (1, .int 3), (2, .int w1)] _
  refine z_seti (y := 1) hu.1 ?_
  refine z_aload_n B dX9_start_17 rfl 0 rfl ?_
  refine gf_X9_93 (x := 0) B (lKA (hk_K hK 405 rfl rfl)) (rI_at 405 6 hI_405_6) dX9_start_18 ?_
  refine z_bipush (v := 40) B dX9_start_21 (by decide) ?_
  refine z_icmp_ge (tgt := 30) B dX9_start_23 (by decide) (fun h => absurd h (by decide)) (fun _ => ?_)
  refine z_iconst (v := 1) B dX9_start_26 (by decide) ?_
  refine z_goto (tgt := 31) B dX9_start_27 (by decide) ?_
  refine z_cVi (As := [.int 1, .int 1, .int 1]) (rest := []) B cw_X9_259 cx_10 dX9_start_31 (ci_X9_needs___703 l (σ := (ap b σ [] [] [])) (b := b) (lyA hK) ) (lKA (hk_K hK 405 rfl rfl)) rfl (by decide) rfl (Nat.le_of_ble_eq_true rfl) (by decide) (fun r u hu => ?_)
  refine z_eqs (σ' := (ap b σ [(405, 0, 0)] [] [])) (hu.2.trans ap_ap) ?_
  show zx p l e _ s m _ below meth c g 4 0 0 _ _ 34 [(0, .ref (b + 405)), (1, .int 3), (2, .int w1)] _
  refine z_seti (y := 1) hu.1 ?_
  refine z_if_ne (tgt := 39) B dX9_start_34 (by decide) (fun _ => ?_) (fun h => absurd h (by decide))
  refine z_aload_n B dX9_start_39 rfl 0 rfl ?_
  refine z_iload_n B dX9_start_40 rfl 1 rfl ?_
  refine z_iload_n B dX9_start_41 rfl 2 rfl ?_
  refine z_iconst (v := (-1)) B dX9_start_42 (by decide) ?_
  refine z_iconst (v := (-1)) B dX9_start_43 (by decide) ?_
  refine z_cVi (As := [.int 3, .int w1, .int (-1), .int (-1)]) (rest := []) B cw_X9_168 cx_10 dX9_start_44 (ci_X9_begets_791 l (σ := (ap b σ [(405, 0, 0)] [] [])) (b := b) (lyA hK) w1 (rI_at 405 6 hI_405_6) (rI_at 413 0 hI_413_0) (rR_at 405 7 hR_405_7) (rR_at 405 8 hR_405_8) (rR_at 405 9 hR_405_9) (rR_at 405 11 hR_405_11) (rR_at 405 13 hR_405_13) (rR_at 405 14 hR_405_14) (rR_at 405 15 hR_405_15)) (lKA (hk_K hK 405 rfl rfl)) rfl (by decide) rfl (Nat.le_of_ble_eq_true rfl) (by decide) (fun r u hu => ?_)
  refine z_eqs (σ' := (ap b σ [(413, 0, 1), (416, 0, 0), (415, 0, (-1)), (411, 0, 0), (410, 0, (-1)), (409, 0, 3), (405, 6, 1), (405, 0, 0)] [(417, 0, (w1.toInt64))] [])) (hu.2.trans ap_ap) ?_
  show zx p l e _ s m _ below meth c g 4 0 0 _ _ 47 [(0, .ref (b + 405)), (1, .int 3), (2, .int w1)] _
  refine z_seti (y := 0) hu.1 ?_
  refine z_istore_n (lv' := [(3, .int 0), (0, .ref (b + 405)), (1, .int 3), (2, .int w1)]) B dX9_start_47 rfl (by decide) rfl ?_
  refine z_aload_n B dX9_start_48 rfl 1 rfl ?_
  refine z_iload_n B dX9_start_49 rfl 0 rfl ?_
  refine z_cVv (As := [.int 0]) (rest := []) B cw_X9_253 cx_10 dX9_start_50 (ci_X9_runs_795 l (σ := (ap b σ [(413, 0, 1), (416, 0, 0), (415, 0, (-1)), (411, 0, 0), (410, 0, (-1)), (409, 0, 3), (405, 6, 1), (405, 0, 0)] [(417, 0, (w1.toInt64))] [])) (b := b) (lyA hK) (w1.toInt64) (rI_at 405 16 hI_405_16) (rI_at 406 60 hI_406_60) (rI_at 407 60 hI_407_60) (rI_at 409 0 rfl) (rI_at 410 0 rfl) (rI_at 412 0 hI_412_0) (rI_at 413 0 rfl) (rI_at 416 0 rfl) (rJ_at 417 0 rfl) (rR_at 405 3 hR_405_3) (rR_at 405 4 hR_405_4) (rR_at 405 7 hR_405_7) (rR_at 405 8 hR_405_8) (rR_at 405 10 hR_405_10) (rR_at 405 11 hR_405_11) (rR_at 405 12 hR_405_12) (rR_at 405 14 hR_405_14) (rR_at 405 15 hR_405_15) (rR_at 405 42 hR_405_42)) (lKA (hk_K hK 405 rfl rfl)) rfl (by decide) rfl (Nat.le_of_ble_eq_true rfl) (by decide) (fun u hu => ?_)
  refine z_eqs (σ' := (ap b σ [(412, 0, 1), (414, 0, 2), (405, 26, 1), (405, 37, 1), (405, 27, 2), (413, 0, 2), (416, 1, 13), (405, 28, 1), (405, 38, 1), (405, 48, (-1)), (405, 27, 1), (405, 29, ((w1.toInt64).toInt32)), (405, 26, 1), (405, 47, 1), (405, 39, 0), (405, 38, 0), (405, 37, 0), (405, 36, 0), (405, 35, 0), (405, 34, 0), (405, 32, 0), (405, 31, 0), (405, 30, 0), (405, 29, 0), (405, 28, 0), (405, 27, 0), (405, 26, 1), (428, 0, 0), (405, 45, 0), (405, 43, 0), (413, 0, 1), (416, 0, 0), (415, 0, (-1)), (411, 0, 0), (410, 0, (-1)), (409, 0, 3), (405, 6, 1), (405, 0, 0)] [(417, 1, ((10 * (((w1.toInt64).toInt32).toInt64)) + 1)), (417, 0, (w1.toInt64))] [])) (hu.trans ap_ap) ?_
  show zx p l e _ s m _ below meth c g 4 0 0 _ _ 53 [(3, .int 0), (0, .ref (b + 405)), (1, .int 3), (2, .int w1)] _
  refine z_iload_n B dX9_start_53 rfl 0 rfl ?_
  exact z_iret B hr (by decide) (by decide) dX9_start_54 ⟨rfl, rfl⟩
set_option maxRecDepth 100000 in
set_option maxHeartbeats 4000000 in
theorem ci_X8_goOn_797 (l : Launch) {g : gx_T} {σ : sx_T} {b : Nat} (hK : lay b σ) (w1 : Int32) (q1_w1 : (0 : Int) ≤ w1.toInt) (q2_w1 : w1.toInt ≤ (999 : Int)) (hI_5_1 : sx_I σ (b + 5) 1 = 0) (hI_5_2 : sx_I σ (b + 5) 2 = 0) (hI_7_1 : sx_I σ (b + 7) 1 = 0) (hI_7_2 : sx_I σ (b + 7) 2 = 0) (hI_22_0 : sx_I σ (b + 22) 0 = 0) (hI_23_0 : sx_I σ (b + 23) 0 = 0) (hI_24_0 : sx_I σ (b + 24) 0 = 0) (hI_37_2 : sx_I σ (b + 37) 2 = 1) (hI_40_4 : sx_I σ (b + 40) 4 = (-1)) (hI_40_8 : sx_I σ (b + 40) 8 = 0) (hI_41_4 : sx_I σ (b + 41) 4 = 1) (hI_41_5 : sx_I σ (b + 41) 5 = 0) (hI_41_6 : sx_I σ (b + 41) 6 = w1) (hI_41_7 : sx_I σ (b + 41) 7 = 0) (hI_41_8 : sx_I σ (b + 41) 8 = 0) (hI_41_14 : sx_I σ (b + 41) 14 = 0) (hI_41_15 : sx_I σ (b + 41) 15 = 0) (hI_41_16 : sx_I σ (b + 41) 16 = (-1)) (hI_41_18 : sx_I σ (b + 41) 18 = (-1)) (hI_41_19 : sx_I σ (b + 41) 19 = 0) (hR_0_4 : sx_R σ (b + 0) 4 = (some (b + 5))) (hR_0_5 : sx_R σ (b + 0) 5 = (some (b + 7))) (hR_5_0 : sx_R σ (b + 5) 0 = (some (b + 6))) (hR_21_1 : sx_R σ (b + 21) 1 = (some (b + 22))) (hR_21_2 : sx_R σ (b + 21) 2 = (some (b + 23))) (hR_21_3 : sx_R σ (b + 21) 3 = (some (b + 24))) (hR_37_0 : sx_R σ (b + 37) 0 = (some (b + 38))) (hR_37_1 : sx_R σ (b + 37) 1 = (some (b + 39))) (hR_40_1 : sx_R σ (b + 40) 1 = (some (b + 37))) (hR_40_2 : sx_R σ (b + 40) 2 = (some (b + 41))) (hR_40_7 : sx_R σ (b + 40) 7 = none) (hR_41_2 : sx_R σ (b + 41) 2 = (some (b + 21))) (hR_41_3 : sx_R σ (b + 41) 3 = (some (b + 37))) : Met l yX8_goOn (.code yX8_goOn cX8_goOn 5 none :: lw_g) { frames := 3, cells := 0, slots := 0, locals := 72 } (va_Pc [.ref (b + 0), .ref (b + 40)] (zx_w g σ)) (va_Qv (fun u => u = (ap b σ [(7, 2, 0), (7, 1, 0), (40, 8, 2), (5, 2, 0), (41, 19, 0), (41, 19, 0), (41, 15, 1), (41, 4, 2), (41, 16, (-1)), (37, 2, 2), (38, 1, 13), (41, 16, 13), (41, 7, 1), (41, 5, 1), (5, 2, 1)] [(39, 1, ((10 * (w1.toInt64)) + 1)), (41, 17, ((10 * (w1.toInt64)) + 1))] [(6, 0, (some (b + 40)))])) (zx_w g) (gx_Q g)) 0 0 (gx_Q g) := by
  refine z_met (by decide) (Nat.le_of_ble_eq_true rfl) (fun p e s m below meth c B hr hin => ?_)
  refine z_eqs (σ' := (ap b σ [] [] [])) rfl ?_
  show zx p l e _ s m _ below meth c g 5 0 0 _ _ 0 [(0, .ref (b + 0)), (1, .ref (b + 40))] []
  refine z_aload_n B dX8_goOn_0 rfl 0 rfl ?_
  refine gf_X8_35 (x := (some (b + 5))) B (lKA (hk_K hK 0 rfl rfl)) (rR_at 0 4 hR_0_4) dX8_goOn_1 ?_
  refine z_aload_n B dX8_goOn_4 rfl 1 rfl ?_
  refine z_cVv (As := [.ref (b + 40)]) (rest := []) B cw_X8_337 cx_3 dX8_goOn_5 (ci_X2_addLast_667 l (σ := (ap b σ [] [] [])) (b := b) (lyA hK) (rI_at 5 2 hI_5_2) (rR_at 5 0 hR_5_0)) (lKA (hk_K hK 5 rfl rfl)) rfl (by decide) rfl (Nat.le_of_ble_eq_true rfl) (by decide) (fun u hu => ?_)
  refine z_eqs (σ' := (ap b σ [(5, 2, 1)] [] [(6, 0, (some (b + 40)))])) (hu.trans ap_ap) ?_
  show zx p l e _ s m _ below meth c g 5 0 0 _ _ 8 [(0, .ref (b + 0)), (1, .ref (b + 40))] _
  refine z_iconst (v := 0) B dX8_goOn_8 (by decide) ?_
  refine z_istore_n (lv' := [(2, .int 0), (0, .ref (b + 0)), (1, .ref (b + 40))]) B dX8_goOn_9 rfl (by decide) rfl ?_
  refine z_iload_n B dX8_goOn_10 rfl 0 rfl ?_
  refine z_ldcw (v := 1000000) B dX8_goOn_11 wg_515 ?_
  refine z_icmp_ge (tgt := 126) B dX8_goOn_14 (by decide) (fun h => absurd h (by decide)) (fun _ => ?_)
  refine z_aload_n B dX8_goOn_17 rfl 1 rfl ?_
  refine gf_X8_35 (x := (some (b + 5))) B (lKA (hk_K hK 0 rfl rfl)) (rR_at 0 4 hR_0_4) dX8_goOn_18 ?_
  refine z_cVi (As := []) (rest := []) B cw_X8_341 cx_3 dX8_goOn_21 (ci_X2_isEmpty_668 l (σ := (ap b σ [(5, 2, 1)] [] [(6, 0, (some (b + 40)))])) (b := b) (lyA hK) (rI_at 5 1 hI_5_1) (rI_at 5 2 rfl)) (lKA (hk_K hK 5 rfl rfl)) rfl (by decide) rfl (Nat.le_of_ble_eq_true rfl) (by decide) (fun r u hu => ?_)
  refine z_eqs (σ' := (ap b σ [(5, 2, 1)] [] [(6, 0, (some (b + 40)))])) hu.2 ?_
  show zx p l e _ s m _ below meth c g 5 0 0 _ _ 24 [(2, .int 0), (0, .ref (b + 0)), (1, .ref (b + 40))] _
  refine z_seti (y := 0) hu.1 ?_
  refine z_if_eq (tgt := 41) B dX8_goOn_24 (by decide) (fun _ => ?_) (fun h => absurd (by decide) h)
  refine z_aload_n B dX8_goOn_41 rfl 1 rfl ?_
  refine gf_X8_35 (x := (some (b + 5))) B (lKA (hk_K hK 0 rfl rfl)) (rR_at 0 4 hR_0_4) dX8_goOn_42 ?_
  refine z_cVq (As := []) (rest := []) B cw_X8_348 cx_3 dX8_goOn_45 (ci_X2_last_669 l (σ := (ap b σ [(5, 2, 1)] [] [(6, 0, (some (b + 40)))])) (b := b) (lyA hK) (rI_at 5 1 hI_5_1) (rI_at 5 2 rfl) (rR_at 5 0 hR_5_0) (rR_at 6 0 rfl)) (lKA (hk_K hK 5 rfl rfl)) rfl (by decide) rfl (Nat.le_of_ble_eq_true rfl) (by decide) (fun r u hu => ?_)
  refine z_eqs (σ' := (ap b σ [(5, 2, 1)] [] [(6, 0, (some (b + 40)))])) hu.2 ?_
  show zx p l e _ s m _ below meth c g 5 0 0 _ _ 48 [(2, .int 0), (0, .ref (b + 0)), (1, .ref (b + 40))] _
  refine z_setr (y := (some (b + 40))) hu.1 ?_
  refine z_astore_n (lv' := [(3, .ref (b + 40)), (2, .int 0), (0, .ref (b + 0)), (1, .ref (b + 40))]) B dX8_goOn_48 rfl (by decide) rfl ?_
  refine z_aload_n B dX8_goOn_49 rfl 0 rfl ?_
  refine z_ifnonnull (r := (some (b + 40))) (tgt := 54) B dX8_goOn_50 (by decide) (fun _ _ => ?_) (fun h => nomatch h)
  refine z_aload_n B dX8_goOn_54 rfl 0 rfl ?_
  refine gf_X8_249 (x := (some (b + 41))) B (lKA (hk_K hK 40 rfl rfl)) (rR_at 40 2 hR_40_2) dX8_goOn_55 ?_
  refine z_aload_n B dX8_goOn_58 rfl 0 rfl ?_
  refine gf_X8_179 (x := (some (b + 37))) B (lKA (hk_K hK 40 rfl rfl)) (rR_at 40 1 hR_40_1) dX8_goOn_59 ?_
  refine z_cVi (As := []) (rest := [.ref (b + 41)]) B cw_X8_183 cx_2 dX8_goOn_62 (ci_X1_size_670 l (σ := (ap b σ [(5, 2, 1)] [] [(6, 0, (some (b + 40)))])) (b := b) (lyA hK) (rI_at 37 2 hI_37_2)) (lKA (hk_K hK 37 rfl rfl)) rfl (by decide) rfl (Nat.le_of_ble_eq_true rfl) (by decide) (fun r u hu => ?_)
  refine z_eqs (σ' := (ap b σ [(5, 2, 1)] [] [(6, 0, (some (b + 40)))])) hu.2 ?_
  show zx p l e _ s m _ below meth c g 5 0 0 _ _ 65 [(3, .ref (b + 40)), (2, .int 0), (0, .ref (b + 0)), (1, .ref (b + 40))] _
  refine z_seti (y := 1) hu.1 ?_
  refine z_cVv (As := [.int 1]) (rest := []) B cw_X8_289 cx_6 dX8_goOn_65 (ci_X5_advance_787 l (σ := (ap b σ [(5, 2, 1)] [] [(6, 0, (some (b + 40)))])) (b := b) (lyA hK) w1 (rI_at 22 0 hI_22_0) (rI_at 23 0 hI_23_0) (rI_at 24 0 hI_24_0) (rI_at 41 4 hI_41_4) (rI_at 41 5 hI_41_5) (rI_at 41 6 hI_41_6) (rI_at 41 7 hI_41_7) (rI_at 41 8 hI_41_8) (rI_at 41 14 hI_41_14) (rI_at 41 15 hI_41_15) (rI_at 41 16 hI_41_16) (rI_at 41 19 hI_41_19) (rR_at 21 1 hR_21_1) (rR_at 21 2 hR_21_2) (rR_at 21 3 hR_21_3) (rR_at 41 2 hR_41_2)) (lKA (hk_K hK 41 rfl rfl)) rfl (by decide) rfl (Nat.le_of_ble_eq_true rfl) (by decide) (fun u hu => ?_)
  refine z_eqs (σ' := (ap b σ [(41, 16, 13), (41, 7, 1), (41, 5, 1), (5, 2, 1)] [(41, 17, ((10 * (w1.toInt64)) + 1))] [(6, 0, (some (b + 40)))])) (hu.trans ap_ap) ?_
  show zx p l e _ s m _ below meth c g 5 0 0 _ _ 68 [(3, .ref (b + 40)), (2, .int 0), (0, .ref (b + 0)), (1, .ref (b + 40))] _
  refine z_aload_n B dX8_goOn_68 rfl 0 rfl ?_
  refine z_cVv (As := []) (rest := []) B cw_X8_351 cx_1 dX8_goOn_69 (ci_X0_letGo_679 l (σ := (ap b σ [(41, 16, 13), (41, 7, 1), (41, 5, 1), (5, 2, 1)] [(41, 17, ((10 * (w1.toInt64)) + 1))] [(6, 0, (some (b + 40)))])) (b := b) (lyA hK) (rR_at 40 7 hR_40_7)) (lKA (hk_K hK 40 rfl rfl)) rfl (by decide) rfl (Nat.le_of_ble_eq_true rfl) (by decide) (fun u hu => ?_)
  refine z_eqs (σ' := (ap b σ [(41, 16, 13), (41, 7, 1), (41, 5, 1), (5, 2, 1)] [(41, 17, ((10 * (w1.toInt64)) + 1))] [(6, 0, (some (b + 40)))])) hu ?_
  show zx p l e _ s m _ below meth c g 5 0 0 _ _ 72 [(3, .ref (b + 40)), (2, .int 0), (0, .ref (b + 0)), (1, .ref (b + 40))] _
  refine z_aload_n B dX8_goOn_72 rfl 0 rfl ?_
  refine gf_X8_249 (x := (some (b + 41))) B (lKA (hk_K hK 40 rfl rfl)) (rR_at 40 2 hR_40_2) dX8_goOn_73 ?_
  refine z_cVi (As := []) (rest := []) B cw_X8_354 cx_6 dX8_goOn_76 (ci_X5_wantsEvent_680 l (σ := (ap b σ [(41, 16, 13), (41, 7, 1), (41, 5, 1), (5, 2, 1)] [(41, 17, ((10 * (w1.toInt64)) + 1))] [(6, 0, (some (b + 40)))])) (b := b) (lyA hK) (rI_at 41 16 rfl) (rI_at 41 19 hI_41_19)) (lKA (hk_K hK 41 rfl rfl)) rfl (by decide) rfl (Nat.le_of_ble_eq_true rfl) (by decide) (fun r u hu => ?_)
  refine z_eqs (σ' := (ap b σ [(41, 16, 13), (41, 7, 1), (41, 5, 1), (5, 2, 1)] [(41, 17, ((10 * (w1.toInt64)) + 1))] [(6, 0, (some (b + 40)))])) hu.2 ?_
  show zx p l e _ s m _ below meth c g 5 0 0 _ _ 79 [(3, .ref (b + 40)), (2, .int 0), (0, .ref (b + 0)), (1, .ref (b + 40))] _
  refine z_seti (y := 1) hu.1 ?_
  refine z_if_eq (tgt := 115) B dX8_goOn_79 (by decide) (fun h => absurd h (by decide)) (fun _ => ?_)
  refine z_aload_n B dX8_goOn_82 rfl 2 rfl ?_
  refine z_aload_n B dX8_goOn_83 rfl 0 rfl ?_
  refine z_cVq (As := [.ref (b + 40)]) (rest := []) B cw_X8_357 cx_9 dX8_goOn_84 (ci_X8_make_684 l (σ := (ap b σ [(41, 16, 13), (41, 7, 1), (41, 5, 1), (5, 2, 1)] [(41, 17, ((10 * (w1.toInt64)) + 1))] [(6, 0, (some (b + 40)))])) (b := b) (lyA hK) ((10 * (w1.toInt64)) + 1) (rI_at 37 2 hI_37_2) (rI_at 40 4 hI_40_4) (rI_at 41 16 rfl) (rJ_at 41 17 rfl) (rR_at 37 0 hR_37_0) (rR_at 37 1 hR_37_1) (rR_at 40 1 hR_40_1) (rR_at 40 2 hR_40_2)) (lKA (hk_K hK 0 rfl rfl)) rfl (by decide) rfl (Nat.le_of_ble_eq_true rfl) (by decide) (fun r u hu => ?_)
  refine z_eqs (σ' := (ap b σ [(37, 2, 2), (38, 1, 13), (41, 16, 13), (41, 7, 1), (41, 5, 1), (5, 2, 1)] [(39, 1, ((10 * (w1.toInt64)) + 1)), (41, 17, ((10 * (w1.toInt64)) + 1))] [(6, 0, (some (b + 40)))])) (hu.2.trans ap_ap) ?_
  show zx p l e _ s m _ below meth c g 5 0 0 _ _ 87 [(3, .ref (b + 40)), (2, .int 0), (0, .ref (b + 0)), (1, .ref (b + 40))] _
  refine z_setr (y := none) hu.1 ?_
  refine z_qstore (r := none) (lv' := [(4, .null), (3, .ref (b + 40)), (2, .int 0), (0, .ref (b + 0)), (1, .ref (b + 40))]) B dX8_goOn_87 (by decide) rfl ?_
  refine z_aload_n B dX8_goOn_89 rfl 1 rfl ?_
  refine gf_X8_249 (x := (some (b + 41))) B (lKA (hk_K hK 40 rfl rfl)) (rR_at 40 2 hR_40_2) dX8_goOn_90 ?_
  refine z_aload_n B dX8_goOn_93 rfl 1 rfl ?_
  refine gf_X8_179 (x := (some (b + 37))) B (lKA (hk_K hK 40 rfl rfl)) (rR_at 40 1 hR_40_1) dX8_goOn_94 ?_
  refine z_cVi (As := []) (rest := [.ref (b + 41)]) B cw_X8_183 cx_2 dX8_goOn_97 (ci_X1_size_685 l (σ := (ap b σ [(37, 2, 2), (38, 1, 13), (41, 16, 13), (41, 7, 1), (41, 5, 1), (5, 2, 1)] [(39, 1, ((10 * (w1.toInt64)) + 1)), (41, 17, ((10 * (w1.toInt64)) + 1))] [(6, 0, (some (b + 40)))])) (b := b) (lyA hK) (rI_at 37 2 rfl)) (lKA (hk_K hK 37 rfl rfl)) rfl (by decide) rfl (Nat.le_of_ble_eq_true rfl) (by decide) (fun r u hu => ?_)
  refine z_eqs (σ' := (ap b σ [(37, 2, 2), (38, 1, 13), (41, 16, 13), (41, 7, 1), (41, 5, 1), (5, 2, 1)] [(39, 1, ((10 * (w1.toInt64)) + 1)), (41, 17, ((10 * (w1.toInt64)) + 1))] [(6, 0, (some (b + 40)))])) hu.2 ?_
  show zx p l e _ s m _ below meth c g 5 0 0 _ _ 100 [(4, .null), (3, .ref (b + 40)), (2, .int 0), (0, .ref (b + 0)), (1, .ref (b + 40))] _
  refine z_seti (y := 2) hu.1 ?_
  refine z_cVv (As := [.int 2]) (rest := []) B cw_X8_289 cx_6 dX8_goOn_100 (ci_X5_advance_717 l (σ := (ap b σ [(37, 2, 2), (38, 1, 13), (41, 16, 13), (41, 7, 1), (41, 5, 1), (5, 2, 1)] [(39, 1, ((10 * (w1.toInt64)) + 1)), (41, 17, ((10 * (w1.toInt64)) + 1))] [(6, 0, (some (b + 40)))])) (b := b) (lyA hK) ((10 * (w1.toInt64)) + 1) (iv_ladd (c := 1) (n := 1) rfl (iv_lmul (c := 10) (n := 10) rfl (by decide) (iv_i2l q1_w1 q2_w1).1 (iv_i2l q1_w1 q2_w1).2 (by decide) (by decide)).1 (iv_lmul (c := 10) (n := 10) rfl (by decide) (iv_i2l q1_w1 q2_w1).1 (iv_i2l q1_w1 q2_w1).2 (by decide) (by decide)).2 (by decide) (by decide)).1 (iv_ladd (c := 1) (n := 1) rfl (iv_lmul (c := 10) (n := 10) rfl (by decide) (iv_i2l q1_w1 q2_w1).1 (iv_i2l q1_w1 q2_w1).2 (by decide) (by decide)).1 (iv_lmul (c := 10) (n := 10) rfl (by decide) (iv_i2l q1_w1 q2_w1).1 (iv_i2l q1_w1 q2_w1).2 (by decide) (by decide)).2 (by decide) (by decide)).2 (rI_at 37 2 rfl) (rI_at 38 1 rfl) (rI_at 41 4 hI_41_4) (rI_at 41 16 rfl) (rI_at 41 19 hI_41_19) (rJ_at 39 1 rfl) (rJ_at 41 17 rfl) (rR_at 37 0 hR_37_0) (rR_at 37 1 hR_37_1) (rR_at 41 3 hR_41_3)) (lKA (hk_K hK 41 rfl rfl)) rfl (by decide) rfl (Nat.le_of_ble_eq_true rfl) (by decide) (fun u hu => ?_)
  refine z_eqs (σ' := (ap b σ [(41, 19, 0), (41, 15, 1), (41, 4, 2), (41, 16, (-1)), (37, 2, 2), (38, 1, 13), (41, 16, 13), (41, 7, 1), (41, 5, 1), (5, 2, 1)] [(39, 1, ((10 * (w1.toInt64)) + 1)), (41, 17, ((10 * (w1.toInt64)) + 1))] [(6, 0, (some (b + 40)))])) (hu.trans ap_ap) ?_
  show zx p l e _ s m _ below meth c g 5 0 0 _ _ 103 [(4, .null), (3, .ref (b + 40)), (2, .int 0), (0, .ref (b + 0)), (1, .ref (b + 40))] _
  refine z_aload_n B dX8_goOn_103 rfl 3 rfl ?_
  refine gf_X8_35 (x := (some (b + 5))) B (lKA (hk_K hK 0 rfl rfl)) (rR_at 0 4 hR_0_4) dX8_goOn_104 ?_
  refine z_qload (r := none) B dX8_goOn_107 0 rfl ?_
  refine z_cVv (As := [.null]) (rest := []) B cw_X8_337 cx_3 dX8_goOn_109 (ci_X2_addLast_691 l (σ := (ap b σ [(41, 19, 0), (41, 15, 1), (41, 4, 2), (41, 16, (-1)), (37, 2, 2), (38, 1, 13), (41, 16, 13), (41, 7, 1), (41, 5, 1), (5, 2, 1)] [(39, 1, ((10 * (w1.toInt64)) + 1)), (41, 17, ((10 * (w1.toInt64)) + 1))] [(6, 0, (some (b + 40)))])) (b := b) (lyA hK) ) (lKA (hk_K hK 5 rfl rfl)) rfl (by decide) rfl (Nat.le_of_ble_eq_true rfl) (by decide) (fun u hu => ?_)
  refine z_eqs (σ' := (ap b σ [(41, 19, 0), (41, 15, 1), (41, 4, 2), (41, 16, (-1)), (37, 2, 2), (38, 1, 13), (41, 16, 13), (41, 7, 1), (41, 5, 1), (5, 2, 1)] [(39, 1, ((10 * (w1.toInt64)) + 1)), (41, 17, ((10 * (w1.toInt64)) + 1))] [(6, 0, (some (b + 40)))])) hu ?_
  show zx p l e _ s m _ below meth c g 5 0 0 _ _ 112 [(4, .null), (3, .ref (b + 40)), (2, .int 0), (0, .ref (b + 0)), (1, .ref (b + 40))] _
  refine z_goto (tgt := 120) B dX8_goOn_112 (by decide) ?_
  refine z_iinc (v := 1) (lv' := [(2, .int 1), (4, .null), (3, .ref (b + 40)), (0, .ref (b + 0)), (1, .ref (b + 40))]) B dX8_goOn_120 2 rfl (by decide) (by decide) rfl ?_
  refine z_goto (tgt := 10) B dX8_goOn_123 (by decide) ?_
  refine z_iload_n B dX8_goOn_10 rfl 0 rfl ?_
  refine z_ldcw (v := 1000000) B dX8_goOn_11 wg_515 ?_
  refine z_icmp_ge (tgt := 126) B dX8_goOn_14 (by decide) (fun h => absurd h (by decide)) (fun _ => ?_)
  refine z_aload_n B dX8_goOn_17 rfl 3 rfl ?_
  refine gf_X8_35 (x := (some (b + 5))) B (lKA (hk_K hK 0 rfl rfl)) (rR_at 0 4 hR_0_4) dX8_goOn_18 ?_
  refine z_cVi (As := []) (rest := []) B cw_X8_341 cx_3 dX8_goOn_21 (ci_X2_isEmpty_668 l (σ := (ap b σ [(41, 19, 0), (41, 15, 1), (41, 4, 2), (41, 16, (-1)), (37, 2, 2), (38, 1, 13), (41, 16, 13), (41, 7, 1), (41, 5, 1), (5, 2, 1)] [(39, 1, ((10 * (w1.toInt64)) + 1)), (41, 17, ((10 * (w1.toInt64)) + 1))] [(6, 0, (some (b + 40)))])) (b := b) (lyA hK) (rI_at 5 1 hI_5_1) (rI_at 5 2 rfl)) (lKA (hk_K hK 5 rfl rfl)) rfl (by decide) rfl (Nat.le_of_ble_eq_true rfl) (by decide) (fun r u hu => ?_)
  refine z_eqs (σ' := (ap b σ [(41, 19, 0), (41, 15, 1), (41, 4, 2), (41, 16, (-1)), (37, 2, 2), (38, 1, 13), (41, 16, 13), (41, 7, 1), (41, 5, 1), (5, 2, 1)] [(39, 1, ((10 * (w1.toInt64)) + 1)), (41, 17, ((10 * (w1.toInt64)) + 1))] [(6, 0, (some (b + 40)))])) hu.2 ?_
  show zx p l e _ s m _ below meth c g 5 0 0 _ _ 24 [(2, .int 1), (4, .null), (3, .ref (b + 40)), (0, .ref (b + 0)), (1, .ref (b + 40))] _
  refine z_seti (y := 0) hu.1 ?_
  refine z_if_eq (tgt := 41) B dX8_goOn_24 (by decide) (fun _ => ?_) (fun h => absurd (by decide) h)
  refine z_aload_n B dX8_goOn_41 rfl 3 rfl ?_
  refine gf_X8_35 (x := (some (b + 5))) B (lKA (hk_K hK 0 rfl rfl)) (rR_at 0 4 hR_0_4) dX8_goOn_42 ?_
  refine z_cVq (As := []) (rest := []) B cw_X8_348 cx_3 dX8_goOn_45 (ci_X2_last_669 l (σ := (ap b σ [(41, 19, 0), (41, 15, 1), (41, 4, 2), (41, 16, (-1)), (37, 2, 2), (38, 1, 13), (41, 16, 13), (41, 7, 1), (41, 5, 1), (5, 2, 1)] [(39, 1, ((10 * (w1.toInt64)) + 1)), (41, 17, ((10 * (w1.toInt64)) + 1))] [(6, 0, (some (b + 40)))])) (b := b) (lyA hK) (rI_at 5 1 hI_5_1) (rI_at 5 2 rfl) (rR_at 5 0 hR_5_0) (rR_at 6 0 rfl)) (lKA (hk_K hK 5 rfl rfl)) rfl (by decide) rfl (Nat.le_of_ble_eq_true rfl) (by decide) (fun r u hu => ?_)
  refine z_eqs (σ' := (ap b σ [(41, 19, 0), (41, 15, 1), (41, 4, 2), (41, 16, (-1)), (37, 2, 2), (38, 1, 13), (41, 16, 13), (41, 7, 1), (41, 5, 1), (5, 2, 1)] [(39, 1, ((10 * (w1.toInt64)) + 1)), (41, 17, ((10 * (w1.toInt64)) + 1))] [(6, 0, (some (b + 40)))])) hu.2 ?_
  show zx p l e _ s m _ below meth c g 5 0 0 _ _ 48 [(2, .int 1), (4, .null), (3, .ref (b + 40)), (0, .ref (b + 0)), (1, .ref (b + 40))] _
  refine z_setr (y := (some (b + 40))) hu.1 ?_
  refine z_astore_n (lv' := [(3, .ref (b + 40)), (2, .int 1), (4, .null), (0, .ref (b + 0)), (1, .ref (b + 40))]) B dX8_goOn_48 rfl (by decide) rfl ?_
  refine z_aload_n B dX8_goOn_49 rfl 0 rfl ?_
  refine z_ifnonnull (r := (some (b + 40))) (tgt := 54) B dX8_goOn_50 (by decide) (fun _ _ => ?_) (fun h => nomatch h)
  refine z_aload_n B dX8_goOn_54 rfl 0 rfl ?_
  refine gf_X8_249 (x := (some (b + 41))) B (lKA (hk_K hK 40 rfl rfl)) (rR_at 40 2 hR_40_2) dX8_goOn_55 ?_
  refine z_aload_n B dX8_goOn_58 rfl 0 rfl ?_
  refine gf_X8_179 (x := (some (b + 37))) B (lKA (hk_K hK 40 rfl rfl)) (rR_at 40 1 hR_40_1) dX8_goOn_59 ?_
  refine z_cVi (As := []) (rest := [.ref (b + 41)]) B cw_X8_183 cx_2 dX8_goOn_62 (ci_X1_size_685 l (σ := (ap b σ [(41, 19, 0), (41, 15, 1), (41, 4, 2), (41, 16, (-1)), (37, 2, 2), (38, 1, 13), (41, 16, 13), (41, 7, 1), (41, 5, 1), (5, 2, 1)] [(39, 1, ((10 * (w1.toInt64)) + 1)), (41, 17, ((10 * (w1.toInt64)) + 1))] [(6, 0, (some (b + 40)))])) (b := b) (lyA hK) (rI_at 37 2 rfl)) (lKA (hk_K hK 37 rfl rfl)) rfl (by decide) rfl (Nat.le_of_ble_eq_true rfl) (by decide) (fun r u hu => ?_)
  refine z_eqs (σ' := (ap b σ [(41, 19, 0), (41, 15, 1), (41, 4, 2), (41, 16, (-1)), (37, 2, 2), (38, 1, 13), (41, 16, 13), (41, 7, 1), (41, 5, 1), (5, 2, 1)] [(39, 1, ((10 * (w1.toInt64)) + 1)), (41, 17, ((10 * (w1.toInt64)) + 1))] [(6, 0, (some (b + 40)))])) hu.2 ?_
  show zx p l e _ s m _ below meth c g 5 0 0 _ _ 65 [(3, .ref (b + 40)), (2, .int 1), (4, .null), (0, .ref (b + 0)), (1, .ref (b + 40))] _
  refine z_seti (y := 2) hu.1 ?_
  refine z_cVv (As := [.int 2]) (rest := []) B cw_X8_289 cx_6 dX8_goOn_65 (ci_X5_advance_692 l (σ := (ap b σ [(41, 19, 0), (41, 15, 1), (41, 4, 2), (41, 16, (-1)), (37, 2, 2), (38, 1, 13), (41, 16, 13), (41, 7, 1), (41, 5, 1), (5, 2, 1)] [(39, 1, ((10 * (w1.toInt64)) + 1)), (41, 17, ((10 * (w1.toInt64)) + 1))] [(6, 0, (some (b + 40)))])) (b := b) (lyA hK) (rI_at 41 4 rfl) (rI_at 41 15 rfl) (rI_at 41 16 rfl) (rI_at 41 19 rfl)) (lKA (hk_K hK 41 rfl rfl)) rfl (by decide) rfl (Nat.le_of_ble_eq_true rfl) (by decide) (fun u hu => ?_)
  refine z_eqs (σ' := (ap b σ [(41, 19, 0), (41, 19, 0), (41, 15, 1), (41, 4, 2), (41, 16, (-1)), (37, 2, 2), (38, 1, 13), (41, 16, 13), (41, 7, 1), (41, 5, 1), (5, 2, 1)] [(39, 1, ((10 * (w1.toInt64)) + 1)), (41, 17, ((10 * (w1.toInt64)) + 1))] [(6, 0, (some (b + 40)))])) (hu.trans ap_ap) ?_
  show zx p l e _ s m _ below meth c g 5 0 0 _ _ 68 [(3, .ref (b + 40)), (2, .int 1), (4, .null), (0, .ref (b + 0)), (1, .ref (b + 40))] _
  refine z_aload_n B dX8_goOn_68 rfl 0 rfl ?_
  refine z_cVv (As := []) (rest := []) B cw_X8_351 cx_1 dX8_goOn_69 (ci_X0_letGo_679 l (σ := (ap b σ [(41, 19, 0), (41, 19, 0), (41, 15, 1), (41, 4, 2), (41, 16, (-1)), (37, 2, 2), (38, 1, 13), (41, 16, 13), (41, 7, 1), (41, 5, 1), (5, 2, 1)] [(39, 1, ((10 * (w1.toInt64)) + 1)), (41, 17, ((10 * (w1.toInt64)) + 1))] [(6, 0, (some (b + 40)))])) (b := b) (lyA hK) (rR_at 40 7 hR_40_7)) (lKA (hk_K hK 40 rfl rfl)) rfl (by decide) rfl (Nat.le_of_ble_eq_true rfl) (by decide) (fun u hu => ?_)
  refine z_eqs (σ' := (ap b σ [(41, 19, 0), (41, 19, 0), (41, 15, 1), (41, 4, 2), (41, 16, (-1)), (37, 2, 2), (38, 1, 13), (41, 16, 13), (41, 7, 1), (41, 5, 1), (5, 2, 1)] [(39, 1, ((10 * (w1.toInt64)) + 1)), (41, 17, ((10 * (w1.toInt64)) + 1))] [(6, 0, (some (b + 40)))])) hu ?_
  show zx p l e _ s m _ below meth c g 5 0 0 _ _ 72 [(3, .ref (b + 40)), (2, .int 1), (4, .null), (0, .ref (b + 0)), (1, .ref (b + 40))] _
  refine z_aload_n B dX8_goOn_72 rfl 0 rfl ?_
  refine gf_X8_249 (x := (some (b + 41))) B (lKA (hk_K hK 40 rfl rfl)) (rR_at 40 2 hR_40_2) dX8_goOn_73 ?_
  refine z_cVi (As := []) (rest := []) B cw_X8_354 cx_6 dX8_goOn_76 (ci_X5_wantsEvent_693 l (σ := (ap b σ [(41, 19, 0), (41, 19, 0), (41, 15, 1), (41, 4, 2), (41, 16, (-1)), (37, 2, 2), (38, 1, 13), (41, 16, 13), (41, 7, 1), (41, 5, 1), (5, 2, 1)] [(39, 1, ((10 * (w1.toInt64)) + 1)), (41, 17, ((10 * (w1.toInt64)) + 1))] [(6, 0, (some (b + 40)))])) (b := b) (lyA hK) (rI_at 41 16 rfl) (rI_at 41 19 rfl)) (lKA (hk_K hK 41 rfl rfl)) rfl (by decide) rfl (Nat.le_of_ble_eq_true rfl) (by decide) (fun r u hu => ?_)
  refine z_eqs (σ' := (ap b σ [(41, 19, 0), (41, 19, 0), (41, 15, 1), (41, 4, 2), (41, 16, (-1)), (37, 2, 2), (38, 1, 13), (41, 16, 13), (41, 7, 1), (41, 5, 1), (5, 2, 1)] [(39, 1, ((10 * (w1.toInt64)) + 1)), (41, 17, ((10 * (w1.toInt64)) + 1))] [(6, 0, (some (b + 40)))])) hu.2 ?_
  show zx p l e _ s m _ below meth c g 5 0 0 _ _ 79 [(3, .ref (b + 40)), (2, .int 1), (4, .null), (0, .ref (b + 0)), (1, .ref (b + 40))] _
  refine z_seti (y := 0) hu.1 ?_
  refine z_if_eq (tgt := 115) B dX8_goOn_79 (by decide) (fun _ => ?_) (fun h => absurd (by decide) h)
  refine z_aload_n B dX8_goOn_115 rfl 3 rfl ?_
  refine z_aload_n B dX8_goOn_116 rfl 0 rfl ?_
  refine z_cVv (As := [.ref (b + 40)]) (rest := []) B cw_X8_361 cx_9 dX8_goOn_117 (ci_X8_leave_695 l (σ := (ap b σ [(41, 19, 0), (41, 19, 0), (41, 15, 1), (41, 4, 2), (41, 16, (-1)), (37, 2, 2), (38, 1, 13), (41, 16, 13), (41, 7, 1), (41, 5, 1), (5, 2, 1)] [(39, 1, ((10 * (w1.toInt64)) + 1)), (41, 17, ((10 * (w1.toInt64)) + 1))] [(6, 0, (some (b + 40)))])) (b := b) (lyA hK) (rI_at 5 1 hI_5_1) (rI_at 5 2 rfl) (rI_at 37 2 rfl) (rI_at 40 8 hI_40_8) (rI_at 41 18 hI_41_18) (rI_at 41 19 rfl) (rR_at 0 4 hR_0_4) (rR_at 40 1 hR_40_1) (rR_at 40 2 hR_40_2)) (lKA (hk_K hK 0 rfl rfl)) rfl (by decide) rfl (Nat.le_of_ble_eq_true rfl) (by decide) (fun u hu => ?_)
  refine z_eqs (σ' := (ap b σ [(40, 8, 2), (5, 2, 0), (41, 19, 0), (41, 19, 0), (41, 15, 1), (41, 4, 2), (41, 16, (-1)), (37, 2, 2), (38, 1, 13), (41, 16, 13), (41, 7, 1), (41, 5, 1), (5, 2, 1)] [(39, 1, ((10 * (w1.toInt64)) + 1)), (41, 17, ((10 * (w1.toInt64)) + 1))] [(6, 0, (some (b + 40)))])) (hu.trans ap_ap) ?_
  show zx p l e _ s m _ below meth c g 5 0 0 _ _ 120 [(3, .ref (b + 40)), (2, .int 1), (4, .null), (0, .ref (b + 0)), (1, .ref (b + 40))] _
  refine z_iinc (v := 2) (lv' := [(2, .int 2), (3, .ref (b + 40)), (4, .null), (0, .ref (b + 0)), (1, .ref (b + 40))]) B dX8_goOn_120 1 rfl (by decide) (by decide) rfl ?_
  refine z_goto (tgt := 10) B dX8_goOn_123 (by decide) ?_
  refine z_iload_n B dX8_goOn_10 rfl 0 rfl ?_
  refine z_ldcw (v := 1000000) B dX8_goOn_11 wg_515 ?_
  refine z_icmp_ge (tgt := 126) B dX8_goOn_14 (by decide) (fun h => absurd h (by decide)) (fun _ => ?_)
  refine z_aload_n B dX8_goOn_17 rfl 3 rfl ?_
  refine gf_X8_35 (x := (some (b + 5))) B (lKA (hk_K hK 0 rfl rfl)) (rR_at 0 4 hR_0_4) dX8_goOn_18 ?_
  refine z_cVi (As := []) (rest := []) B cw_X8_341 cx_3 dX8_goOn_21 (ci_X2_isEmpty_696 l (σ := (ap b σ [(40, 8, 2), (5, 2, 0), (41, 19, 0), (41, 19, 0), (41, 15, 1), (41, 4, 2), (41, 16, (-1)), (37, 2, 2), (38, 1, 13), (41, 16, 13), (41, 7, 1), (41, 5, 1), (5, 2, 1)] [(39, 1, ((10 * (w1.toInt64)) + 1)), (41, 17, ((10 * (w1.toInt64)) + 1))] [(6, 0, (some (b + 40)))])) (b := b) (lyA hK) (rI_at 5 1 hI_5_1) (rI_at 5 2 rfl)) (lKA (hk_K hK 5 rfl rfl)) rfl (by decide) rfl (Nat.le_of_ble_eq_true rfl) (by decide) (fun r u hu => ?_)
  refine z_eqs (σ' := (ap b σ [(40, 8, 2), (5, 2, 0), (41, 19, 0), (41, 19, 0), (41, 15, 1), (41, 4, 2), (41, 16, (-1)), (37, 2, 2), (38, 1, 13), (41, 16, 13), (41, 7, 1), (41, 5, 1), (5, 2, 1)] [(39, 1, ((10 * (w1.toInt64)) + 1)), (41, 17, ((10 * (w1.toInt64)) + 1))] [(6, 0, (some (b + 40)))])) hu.2 ?_
  show zx p l e _ s m _ below meth c g 5 0 0 _ _ 24 [(2, .int 2), (3, .ref (b + 40)), (4, .null), (0, .ref (b + 0)), (1, .ref (b + 40))] _
  refine z_seti (y := 1) hu.1 ?_
  refine z_if_eq (tgt := 41) B dX8_goOn_24 (by decide) (fun h => absurd h (by decide)) (fun _ => ?_)
  refine z_aload_n B dX8_goOn_27 rfl 3 rfl ?_
  refine gf_X8_35 (x := (some (b + 5))) B (lKA (hk_K hK 0 rfl rfl)) (rR_at 0 4 hR_0_4) dX8_goOn_28 ?_
  refine z_aload_n B dX8_goOn_31 rfl 3 rfl ?_
  refine gf_X8_39 (x := (some (b + 7))) B (lKA (hk_K hK 0 rfl rfl)) (rR_at 0 5 hR_0_5) dX8_goOn_32 ?_
  refine z_cVq (As := []) (rest := [.ref (b + 5)]) B cw_X8_344 cx_3 dX8_goOn_35 (ci_X2_removeFirst_697 l (σ := (ap b σ [(40, 8, 2), (5, 2, 0), (41, 19, 0), (41, 19, 0), (41, 15, 1), (41, 4, 2), (41, 16, (-1)), (37, 2, 2), (38, 1, 13), (41, 16, 13), (41, 7, 1), (41, 5, 1), (5, 2, 1)] [(39, 1, ((10 * (w1.toInt64)) + 1)), (41, 17, ((10 * (w1.toInt64)) + 1))] [(6, 0, (some (b + 40)))])) (b := b) (lyA hK) (rI_at 7 1 hI_7_1) (rI_at 7 2 hI_7_2)) (lKA (hk_K hK 7 rfl rfl)) rfl (by decide) rfl (Nat.le_of_ble_eq_true rfl) (by decide) (fun r u hu => ?_)
  refine z_eqs (σ' := (ap b σ [(7, 2, 0), (7, 1, 0), (40, 8, 2), (5, 2, 0), (41, 19, 0), (41, 19, 0), (41, 15, 1), (41, 4, 2), (41, 16, (-1)), (37, 2, 2), (38, 1, 13), (41, 16, 13), (41, 7, 1), (41, 5, 1), (5, 2, 1)] [(39, 1, ((10 * (w1.toInt64)) + 1)), (41, 17, ((10 * (w1.toInt64)) + 1))] [(6, 0, (some (b + 40)))])) (hu.2.trans ap_ap) ?_
  show zx p l e _ s m _ below meth c g 5 0 0 _ _ 38 [(2, .int 2), (3, .ref (b + 40)), (4, .null), (0, .ref (b + 0)), (1, .ref (b + 40))] _
  refine z_setr (y := none) hu.1 ?_
  refine z_cVv (As := [.null]) (rest := []) B cw_X8_337 cx_3 dX8_goOn_38 (ci_X2_addLast_691 l (σ := (ap b σ [(7, 2, 0), (7, 1, 0), (40, 8, 2), (5, 2, 0), (41, 19, 0), (41, 19, 0), (41, 15, 1), (41, 4, 2), (41, 16, (-1)), (37, 2, 2), (38, 1, 13), (41, 16, 13), (41, 7, 1), (41, 5, 1), (5, 2, 1)] [(39, 1, ((10 * (w1.toInt64)) + 1)), (41, 17, ((10 * (w1.toInt64)) + 1))] [(6, 0, (some (b + 40)))])) (b := b) (lyA hK) ) (lKA (hk_K hK 5 rfl rfl)) rfl (by decide) rfl (Nat.le_of_ble_eq_true rfl) (by decide) (fun u hu => ?_)
  refine z_eqs (σ' := (ap b σ [(7, 2, 0), (7, 1, 0), (40, 8, 2), (5, 2, 0), (41, 19, 0), (41, 19, 0), (41, 15, 1), (41, 4, 2), (41, 16, (-1)), (37, 2, 2), (38, 1, 13), (41, 16, 13), (41, 7, 1), (41, 5, 1), (5, 2, 1)] [(39, 1, ((10 * (w1.toInt64)) + 1)), (41, 17, ((10 * (w1.toInt64)) + 1))] [(6, 0, (some (b + 40)))])) hu ?_
  show zx p l e _ s m _ below meth c g 5 0 0 _ _ 41 [(2, .int 2), (3, .ref (b + 40)), (4, .null), (0, .ref (b + 0)), (1, .ref (b + 40))] _
  refine z_aload_n B dX8_goOn_41 rfl 3 rfl ?_
  refine gf_X8_35 (x := (some (b + 5))) B (lKA (hk_K hK 0 rfl rfl)) (rR_at 0 4 hR_0_4) dX8_goOn_42 ?_
  refine z_cVq (As := []) (rest := []) B cw_X8_348 cx_3 dX8_goOn_45 (ci_X2_last_698 l (σ := (ap b σ [(7, 2, 0), (7, 1, 0), (40, 8, 2), (5, 2, 0), (41, 19, 0), (41, 19, 0), (41, 15, 1), (41, 4, 2), (41, 16, (-1)), (37, 2, 2), (38, 1, 13), (41, 16, 13), (41, 7, 1), (41, 5, 1), (5, 2, 1)] [(39, 1, ((10 * (w1.toInt64)) + 1)), (41, 17, ((10 * (w1.toInt64)) + 1))] [(6, 0, (some (b + 40)))])) (b := b) (lyA hK) (rI_at 5 1 hI_5_1) (rI_at 5 2 rfl)) (lKA (hk_K hK 5 rfl rfl)) rfl (by decide) rfl (Nat.le_of_ble_eq_true rfl) (by decide) (fun r u hu => ?_)
  refine z_eqs (σ' := (ap b σ [(7, 2, 0), (7, 1, 0), (40, 8, 2), (5, 2, 0), (41, 19, 0), (41, 19, 0), (41, 15, 1), (41, 4, 2), (41, 16, (-1)), (37, 2, 2), (38, 1, 13), (41, 16, 13), (41, 7, 1), (41, 5, 1), (5, 2, 1)] [(39, 1, ((10 * (w1.toInt64)) + 1)), (41, 17, ((10 * (w1.toInt64)) + 1))] [(6, 0, (some (b + 40)))])) hu.2 ?_
  show zx p l e _ s m _ below meth c g 5 0 0 _ _ 48 [(2, .int 2), (3, .ref (b + 40)), (4, .null), (0, .ref (b + 0)), (1, .ref (b + 40))] _
  refine z_setr (y := none) hu.1 ?_
  refine z_qstore_n (r := none) (lv' := [(3, .null), (2, .int 2), (4, .null), (0, .ref (b + 0)), (1, .ref (b + 40))]) B dX8_goOn_48 rfl (by decide) rfl ?_
  refine z_qload_n (r := none) B dX8_goOn_49 rfl 0 rfl ?_
  refine z_ifnonnull (r := none) (tgt := 54) B dX8_goOn_50 (by decide) (fun a h => nomatch h) (fun _ => ?_)
  exact z_vret B hr (by decide) (by decide) dX8_goOn_53 rfl
set_option maxRecDepth 100000 in
set_option maxHeartbeats 4000000 in
theorem ci_X8_start_798 (l : Launch) {g : gx_T} {σ : sx_T} {b : Nat} (hK : lay b σ) (w1 : Int32) (q1_w1 : (0 : Int) ≤ w1.toInt) (q2_w1 : w1.toInt ≤ (999 : Int)) (hI_0_7 : sx_I σ (b + 0) 7 = 0) (hI_5_1 : sx_I σ (b + 5) 1 = 0) (hI_5_2 : sx_I σ (b + 5) 2 = 0) (hI_7_1 : sx_I σ (b + 7) 1 = 0) (hI_7_2 : sx_I σ (b + 7) 2 = 0) (hI_22_0 : sx_I σ (b + 22) 0 = 0) (hI_23_0 : sx_I σ (b + 23) 0 = 0) (hI_24_0 : sx_I σ (b + 24) 0 = 0) (hI_37_2 : sx_I σ (b + 37) 2 = 0) (hI_40_0 : sx_I σ (b + 40) 0 = 0) (hI_40_8 : sx_I σ (b + 40) 8 = 0) (hR_0_0 : sx_R σ (b + 0) 0 = (some (b + 1))) (hR_0_2 : sx_R σ (b + 0) 2 = (some (b + 3))) (hR_0_4 : sx_R σ (b + 0) 4 = (some (b + 5))) (hR_0_5 : sx_R σ (b + 0) 5 = (some (b + 7))) (hR_1_3 : sx_R σ (b + 1) 3 = (some (b + 21))) (hR_3_0 : sx_R σ (b + 3) 0 = (some (b + 40))) (hR_5_0 : sx_R σ (b + 5) 0 = (some (b + 6))) (hR_21_1 : sx_R σ (b + 21) 1 = (some (b + 22))) (hR_21_2 : sx_R σ (b + 21) 2 = (some (b + 23))) (hR_21_3 : sx_R σ (b + 21) 3 = (some (b + 24))) (hR_37_0 : sx_R σ (b + 37) 0 = (some (b + 38))) (hR_37_1 : sx_R σ (b + 37) 1 = (some (b + 39))) (hR_40_1 : sx_R σ (b + 40) 1 = (some (b + 37))) (hR_40_2 : sx_R σ (b + 40) 2 = (some (b + 41))) (hR_40_7 : sx_R σ (b + 40) 7 = none) (hR_41_0 : sx_R σ (b + 41) 0 = (some (b + 42))) (hR_41_1 : sx_R σ (b + 41) 1 = (some (b + 44))) : Met l yX8_start (.code yX8_start cX8_start 5 (some .int) :: lw_g) { frames := 4, cells := 0, slots := 0, locals := 96 } (va_Pc [.ref (b + 0), .int 3, .int w1] (zx_w g σ)) (va_Qi (fun r u => r = 0 ∧ u = (ap b σ [(7, 2, 0), (7, 1, 0), (40, 8, 2), (5, 2, 0), (41, 19, 0), (41, 19, 0), (41, 15, 1), (41, 4, 2), (41, 16, (-1)), (37, 2, 2), (38, 1, 13), (41, 16, 13), (41, 7, 1), (41, 5, 1), (5, 2, 1), (41, 19, 0), (41, 18, (-1)), (41, 16, (-1)), (41, 15, 0), (41, 14, 0), (41, 13, 0), (41, 12, 0), (41, 10, (-1)), (41, 9, (-1)), (41, 8, 0), (41, 7, 0), (41, 6, ((w1.toInt64).toInt32)), (41, 5, 0), (41, 4, 1), (44, 1, 0), (42, 1, 0), (37, 2, 1), (38, 0, 0), (40, 5, 0), (40, 4, (-1)), (0, 7, 1)] [(39, 1, ((10 * (((w1.toInt64).toInt32).toInt64)) + 1)), (41, 17, ((10 * (((w1.toInt64).toInt32).toInt64)) + 1)), (41, 17, 0), (41, 11, 0), (39, 0, (w1.toInt64))] [(6, 0, (some (b + 40))), (41, 3, (some (b + 37))), (41, 2, (some (b + 21))), (40, 3, (some (b + 21)))])) (zx_w g) (gx_Q g)) 0 0 (gx_Q g) := by
  refine z_met (by decide) (Nat.le_of_ble_eq_true rfl) (fun p e s m below meth c B hr hin => ?_)
  refine z_eqs (σ' := (ap b σ [] [] [])) rfl ?_
  show zx p l e _ s m _ below meth c g 5 0 0 _ _ 0 [(0, .ref (b + 0)), (1, .int 3), (2, .int w1)] []
  refine z_aload_n B dX8_start_0 rfl 0 rfl ?_
  refine z_iload_n B dX8_start_1 rfl 1 rfl ?_
  refine z_cVq (As := [.int 3]) (rest := []) B cw_X8_64 cx_9 dX8_start_2 (ci_X8_programAt_220 l (σ := (ap b σ [] [] [])) (b := b) (lyA hK) (rR_at 0 0 hR_0_0) (rR_at 1 3 hR_1_3)) (lKA (hk_K hK 0 rfl rfl)) rfl (by decide) rfl (Nat.le_of_ble_eq_true rfl) (by decide) (fun r u hu => ?_)
  refine z_eqs (σ' := (ap b σ [] [] [])) hu.2 ?_
  show zx p l e _ s m _ below meth c g 5 0 0 _ _ 5 [(0, .ref (b + 0)), (1, .int 3), (2, .int w1)] _
  refine z_setr (y := (some (b + 21))) hu.1 ?_
  refine z_astore_n (lv' := [(3, .ref (b + 21)), (0, .ref (b + 0)), (1, .int 3), (2, .int w1)]) B dX8_start_5 rfl (by decide) rfl ?_
  refine z_aload_n B dX8_start_6 rfl 0 rfl ?_
  refine z_ifnonnull (r := (some (b + 21))) (tgt := 20) B dX8_start_7 (by decide) (fun _ _ => ?_) (fun h => nomatch h)
  refine z_iload_n B dX8_start_20 rfl 3 rfl ?_
  refine z_sipush (v := (-999)) B dX8_start_21 (by decide) ?_
  refine z_icmp_lt (tgt := 34) B dX8_start_24 (by decide) (fun h => absurd h (iv_nlt q1_w1 (by decide))) (fun _ => ?_)
  refine z_iload_n B dX8_start_27 rfl 3 rfl ?_
  refine z_sipush (v := 999) B dX8_start_28 (by decide) ?_
  refine z_icmp_le (tgt := 44) B dX8_start_31 (by decide) (fun _ => ?_) (fun h => absurd (iv_le q2_w1 (by decide)) h)
  refine z_aload_n B dX8_start_44 rfl 1 rfl ?_
  refine z_aload_n B dX8_start_45 rfl 0 rfl ?_
  refine z_iload_n B dX8_start_46 rfl 3 rfl ?_
  refine z_iconst (v := (-1)) B dX8_start_47 (by decide) ?_
  refine z_iconst (v := (-1)) B dX8_start_48 (by decide) ?_
  refine z_cVq (As := [.ref (b + 21), .int w1, .int (-1), .int (-1)]) (rest := []) B cw_X8_141 cx_9 dX8_start_49 (ci_X8_open_782 l (σ := (ap b σ [] [] [])) (b := b) (lyA hK) w1 (rI_at 0 7 hI_0_7) (rI_at 37 2 hI_37_2) (rI_at 40 0 hI_40_0) (rR_at 0 2 hR_0_2) (rR_at 3 0 hR_3_0) (rR_at 37 0 hR_37_0) (rR_at 37 1 hR_37_1) (rR_at 40 1 hR_40_1) (rR_at 40 2 hR_40_2) (rR_at 41 0 hR_41_0) (rR_at 41 1 hR_41_1)) (lKA (hk_K hK 0 rfl rfl)) rfl (by decide) rfl (Nat.le_of_ble_eq_true rfl) (by decide) (fun r u hu => ?_)
  refine z_eqs (σ' := (ap b σ [(41, 19, 0), (41, 18, (-1)), (41, 16, (-1)), (41, 15, 0), (41, 14, 0), (41, 13, 0), (41, 12, 0), (41, 10, (-1)), (41, 9, (-1)), (41, 8, 0), (41, 7, 0), (41, 6, ((w1.toInt64).toInt32)), (41, 5, 0), (41, 4, 1), (44, 1, 0), (42, 1, 0), (37, 2, 1), (38, 0, 0), (40, 5, 0), (40, 4, (-1)), (0, 7, 1)] [(41, 17, 0), (41, 11, 0), (39, 0, (w1.toInt64))] [(41, 3, (some (b + 37))), (41, 2, (some (b + 21))), (40, 3, (some (b + 21)))])) (hu.2.trans ap_ap) ?_
  show zx p l e _ s m _ below meth c g 5 0 0 _ _ 52 [(3, .ref (b + 21)), (0, .ref (b + 0)), (1, .int 3), (2, .int w1)] _
  refine z_setr (y := (some (b + 40))) hu.1 ?_
  refine z_astore (lv' := [(4, .ref (b + 40)), (3, .ref (b + 21)), (0, .ref (b + 0)), (1, .int 3), (2, .int w1)]) B dX8_start_52 (by decide) rfl ?_
  refine z_aload B dX8_start_54 0 rfl ?_
  refine z_ifnonnull (r := (some (b + 40))) (tgt := 69) B dX8_start_56 (by decide) (fun _ _ => ?_) (fun h => nomatch h)
  refine z_aload_n B dX8_start_69 rfl 2 rfl ?_
  refine z_aload B dX8_start_70 0 rfl ?_
  refine z_cVv (As := [.ref (b + 40)]) (rest := []) B cw_X8_111 cx_9 dX8_start_72 (ci_X8_goOn_797 l (σ := (ap b σ [(41, 19, 0), (41, 18, (-1)), (41, 16, (-1)), (41, 15, 0), (41, 14, 0), (41, 13, 0), (41, 12, 0), (41, 10, (-1)), (41, 9, (-1)), (41, 8, 0), (41, 7, 0), (41, 6, ((w1.toInt64).toInt32)), (41, 5, 0), (41, 4, 1), (44, 1, 0), (42, 1, 0), (37, 2, 1), (38, 0, 0), (40, 5, 0), (40, 4, (-1)), (0, 7, 1)] [(41, 17, 0), (41, 11, 0), (39, 0, (w1.toInt64))] [(41, 3, (some (b + 37))), (41, 2, (some (b + 21))), (40, 3, (some (b + 21)))])) (b := b) (lyA hK) ((w1.toInt64).toInt32) (iv_l2i (iv_i2l q1_w1 q2_w1).1 (iv_i2l q1_w1 q2_w1).2 (by decide) (by decide)).1 (iv_l2i (iv_i2l q1_w1 q2_w1).1 (iv_i2l q1_w1 q2_w1).2 (by decide) (by decide)).2 (rI_at 5 1 hI_5_1) (rI_at 5 2 hI_5_2) (rI_at 7 1 hI_7_1) (rI_at 7 2 hI_7_2) (rI_at 22 0 hI_22_0) (rI_at 23 0 hI_23_0) (rI_at 24 0 hI_24_0) (rI_at 37 2 rfl) (rI_at 40 4 rfl) (rI_at 40 8 hI_40_8) (rI_at 41 4 rfl) (rI_at 41 5 rfl) (rI_at 41 6 rfl) (rI_at 41 7 rfl) (rI_at 41 8 rfl) (rI_at 41 14 rfl) (rI_at 41 15 rfl) (rI_at 41 16 rfl) (rI_at 41 18 rfl) (rI_at 41 19 rfl) (rR_at 0 4 hR_0_4) (rR_at 0 5 hR_0_5) (rR_at 5 0 hR_5_0) (rR_at 21 1 hR_21_1) (rR_at 21 2 hR_21_2) (rR_at 21 3 hR_21_3) (rR_at 37 0 hR_37_0) (rR_at 37 1 hR_37_1) (rR_at 40 1 hR_40_1) (rR_at 40 2 hR_40_2) (rR_at 40 7 hR_40_7) (rR_at 41 2 rfl) (rR_at 41 3 rfl)) (lKA (hk_K hK 0 rfl rfl)) rfl (by decide) rfl (Nat.le_of_ble_eq_true rfl) (by decide) (fun u hu => ?_)
  refine z_eqs (σ' := (ap b σ [(7, 2, 0), (7, 1, 0), (40, 8, 2), (5, 2, 0), (41, 19, 0), (41, 19, 0), (41, 15, 1), (41, 4, 2), (41, 16, (-1)), (37, 2, 2), (38, 1, 13), (41, 16, 13), (41, 7, 1), (41, 5, 1), (5, 2, 1), (41, 19, 0), (41, 18, (-1)), (41, 16, (-1)), (41, 15, 0), (41, 14, 0), (41, 13, 0), (41, 12, 0), (41, 10, (-1)), (41, 9, (-1)), (41, 8, 0), (41, 7, 0), (41, 6, ((w1.toInt64).toInt32)), (41, 5, 0), (41, 4, 1), (44, 1, 0), (42, 1, 0), (37, 2, 1), (38, 0, 0), (40, 5, 0), (40, 4, (-1)), (0, 7, 1)] [(39, 1, ((10 * (((w1.toInt64).toInt32).toInt64)) + 1)), (41, 17, ((10 * (((w1.toInt64).toInt32).toInt64)) + 1)), (41, 17, 0), (41, 11, 0), (39, 0, (w1.toInt64))] [(6, 0, (some (b + 40))), (41, 3, (some (b + 37))), (41, 2, (some (b + 21))), (40, 3, (some (b + 21)))])) (hu.trans ap_ap) ?_
  show zx p l e _ s m _ below meth c g 5 0 0 _ _ 75 [(4, .ref (b + 40)), (3, .ref (b + 21)), (0, .ref (b + 0)), (1, .int 3), (2, .int w1)] _
  refine z_aload B dX8_start_75 0 rfl ?_
  refine gf_X8_150 (x := 0) B (lKA (hk_K hK 40 rfl rfl)) (rI_at 40 0 hI_40_0) dX8_start_77 ?_
  exact z_iret B hr (by decide) (by decide) dX8_start_80 ⟨rfl, rfl⟩
set_option maxRecDepth 100000 in
set_option maxHeartbeats 4000000 in
theorem ci_L_start_799 (l : Launch) {g : gx_T} {σ : sx_T} {b : Nat} (hK : lay b σ) (w1 : Int32) (q1_w1 : (0 : Int) ≤ w1.toInt) (q2_w1 : w1.toInt ≤ (999 : Int)) (hI_0_7 : sx_I σ (b + 0) 7 = 0) (hI_5_1 : sx_I σ (b + 5) 1 = 0) (hI_5_2 : sx_I σ (b + 5) 2 = 0) (hI_7_1 : sx_I σ (b + 7) 1 = 0) (hI_7_2 : sx_I σ (b + 7) 2 = 0) (hI_22_0 : sx_I σ (b + 22) 0 = 0) (hI_23_0 : sx_I σ (b + 23) 0 = 0) (hI_24_0 : sx_I σ (b + 24) 0 = 0) (hI_37_2 : sx_I σ (b + 37) 2 = 0) (hI_40_0 : sx_I σ (b + 40) 0 = 0) (hI_40_8 : sx_I σ (b + 40) 8 = 0) (hR_0_0 : sx_R σ (b + 0) 0 = (some (b + 1))) (hR_0_2 : sx_R σ (b + 0) 2 = (some (b + 3))) (hR_0_4 : sx_R σ (b + 0) 4 = (some (b + 5))) (hR_0_5 : sx_R σ (b + 0) 5 = (some (b + 7))) (hR_1_3 : sx_R σ (b + 1) 3 = (some (b + 21))) (hR_3_0 : sx_R σ (b + 3) 0 = (some (b + 40))) (hR_5_0 : sx_R σ (b + 5) 0 = (some (b + 6))) (hR_21_1 : sx_R σ (b + 21) 1 = (some (b + 22))) (hR_21_2 : sx_R σ (b + 21) 2 = (some (b + 23))) (hR_21_3 : sx_R σ (b + 21) 3 = (some (b + 24))) (hR_37_0 : sx_R σ (b + 37) 0 = (some (b + 38))) (hR_37_1 : sx_R σ (b + 37) 1 = (some (b + 39))) (hR_40_1 : sx_R σ (b + 40) 1 = (some (b + 37))) (hR_40_2 : sx_R σ (b + 40) 2 = (some (b + 41))) (hR_40_7 : sx_R σ (b + 40) 7 = none) (hR_41_0 : sx_R σ (b + 41) 0 = (some (b + 42))) (hR_41_1 : sx_R σ (b + 41) 1 = (some (b + 44))) : Met l yL_start (.codeWith yL_start cL_start 5 (some .int) [(0, 10, 13, 13), (0, 10, 17, 15), (0, 10, 21, 24)] :: lw_g) { frames := 5, cells := 0, slots := 0, locals := 120 } (va_Pc [.ref (b + 0), .int 3, .int w1, .ref (b + 431)] (zx_w g σ)) (va_Qi (fun r u => r = 0 ∧ u = (ap b σ [(7, 2, 0), (7, 1, 0), (40, 8, 2), (5, 2, 0), (41, 19, 0), (41, 19, 0), (41, 15, 1), (41, 4, 2), (41, 16, (-1)), (37, 2, 2), (38, 1, 13), (41, 16, 13), (41, 7, 1), (41, 5, 1), (5, 2, 1), (41, 19, 0), (41, 18, (-1)), (41, 16, (-1)), (41, 15, 0), (41, 14, 0), (41, 13, 0), (41, 12, 0), (41, 10, (-1)), (41, 9, (-1)), (41, 8, 0), (41, 7, 0), (41, 6, ((w1.toInt64).toInt32)), (41, 5, 0), (41, 4, 1), (44, 1, 0), (42, 1, 0), (37, 2, 1), (38, 0, 0), (40, 5, 0), (40, 4, (-1)), (0, 7, 1)] [(431, 0, 0), (39, 1, ((10 * (((w1.toInt64).toInt32).toInt64)) + 1)), (41, 17, ((10 * (((w1.toInt64).toInt32).toInt64)) + 1)), (41, 17, 0), (41, 11, 0), (39, 0, (w1.toInt64))] [(6, 0, (some (b + 40))), (41, 3, (some (b + 37))), (41, 2, (some (b + 21))), (40, 3, (some (b + 21)))])) (zx_w g) (gx_Q g)) 0 0 (gx_Q g) := by
  refine z_metW (by decide) (Nat.le_of_ble_eq_true rfl) (fun p e s m below meth c B hr htab => ?_)
  refine z_eqs (σ' := (ap b σ [] [] [])) rfl ?_
  show zx p l e _ s m _ below meth c g 5 0 0 _ _ 0 [(0, .ref (b + 0)), (1, .int 3), (2, .int w1), (3, .ref (b + 431))] []
  refine z_aload_n B dL_start_0 rfl 3 rfl ?_
  refine z_iconst (v := 0) B dL_start_1 (by decide) ?_
  refine z_aload_n B dL_start_2 rfl 0 rfl ?_
  refine z_iload_n B dL_start_3 rfl 1 rfl ?_
  refine z_iload_n B dL_start_4 rfl 2 rfl ?_
  refine z_cVi (As := [.int 3, .int w1]) (rest := [.int 0, .ref (b + 431)]) B cw_L_20 cx_9 dL_start_5 (ci_X8_start_798 l (σ := (ap b σ [] [] [])) (b := b) (lyA hK) w1 q1_w1 q2_w1 (rI_at 0 7 hI_0_7) (rI_at 5 1 hI_5_1) (rI_at 5 2 hI_5_2) (rI_at 7 1 hI_7_1) (rI_at 7 2 hI_7_2) (rI_at 22 0 hI_22_0) (rI_at 23 0 hI_23_0) (rI_at 24 0 hI_24_0) (rI_at 37 2 hI_37_2) (rI_at 40 0 hI_40_0) (rI_at 40 8 hI_40_8) (rR_at 0 0 hR_0_0) (rR_at 0 2 hR_0_2) (rR_at 0 4 hR_0_4) (rR_at 0 5 hR_0_5) (rR_at 1 3 hR_1_3) (rR_at 3 0 hR_3_0) (rR_at 5 0 hR_5_0) (rR_at 21 1 hR_21_1) (rR_at 21 2 hR_21_2) (rR_at 21 3 hR_21_3) (rR_at 37 0 hR_37_0) (rR_at 37 1 hR_37_1) (rR_at 40 1 hR_40_1) (rR_at 40 2 hR_40_2) (rR_at 40 7 hR_40_7) (rR_at 41 0 hR_41_0) (rR_at 41 1 hR_41_1)) (lKA (hk_K hK 0 rfl rfl)) rfl (by decide) rfl (Nat.le_of_ble_eq_true rfl) (by decide) (fun r u hu => ?_)
  refine z_eqs (σ' := (ap b σ [(7, 2, 0), (7, 1, 0), (40, 8, 2), (5, 2, 0), (41, 19, 0), (41, 19, 0), (41, 15, 1), (41, 4, 2), (41, 16, (-1)), (37, 2, 2), (38, 1, 13), (41, 16, 13), (41, 7, 1), (41, 5, 1), (5, 2, 1), (41, 19, 0), (41, 18, (-1)), (41, 16, (-1)), (41, 15, 0), (41, 14, 0), (41, 13, 0), (41, 12, 0), (41, 10, (-1)), (41, 9, (-1)), (41, 8, 0), (41, 7, 0), (41, 6, ((w1.toInt64).toInt32)), (41, 5, 0), (41, 4, 1), (44, 1, 0), (42, 1, 0), (37, 2, 1), (38, 0, 0), (40, 5, 0), (40, 4, (-1)), (0, 7, 1)] [(39, 1, ((10 * (((w1.toInt64).toInt32).toInt64)) + 1)), (41, 17, ((10 * (((w1.toInt64).toInt32).toInt64)) + 1)), (41, 17, 0), (41, 11, 0), (39, 0, (w1.toInt64))] [(6, 0, (some (b + 40))), (41, 3, (some (b + 37))), (41, 2, (some (b + 21))), (40, 3, (some (b + 21)))])) (hu.2.trans ap_ap) ?_
  show zx p l e _ s m _ below meth c g 5 0 0 _ _ 8 [(0, .ref (b + 0)), (1, .int 3), (2, .int w1), (3, .ref (b + 431))] _
  refine z_seti (y := 0) hu.1 ?_
  refine z_i2l (v := 0) B dL_start_8 (by decide) ?_
  refine z_last (j := 0) (σ' := (ap b σ [(7, 2, 0), (7, 1, 0), (40, 8, 2), (5, 2, 0), (41, 19, 0), (41, 19, 0), (41, 15, 1), (41, 4, 2), (41, 16, (-1)), (37, 2, 2), (38, 1, 13), (41, 16, 13), (41, 7, 1), (41, 5, 1), (5, 2, 1), (41, 19, 0), (41, 18, (-1)), (41, 16, (-1)), (41, 15, 0), (41, 14, 0), (41, 13, 0), (41, 12, 0), (41, 10, (-1)), (41, 9, (-1)), (41, 8, 0), (41, 7, 0), (41, 6, ((w1.toInt64).toInt32)), (41, 5, 0), (41, 4, 1), (44, 1, 0), (42, 1, 0), (37, 2, 1), (38, 0, 0), (40, 5, 0), (40, 4, (-1)), (0, 7, 1)] [(431, 0, 0), (39, 1, ((10 * (((w1.toInt64).toInt32).toInt64)) + 1)), (41, 17, ((10 * (((w1.toInt64).toInt32).toInt64)) + 1)), (41, 17, 0), (41, 11, 0), (39, 0, (w1.toInt64))] [(6, 0, (some (b + 40))), (41, 3, (some (b + 37))), (41, 2, (some (b + 21))), (40, 3, (some (b + 21)))])) B (lKA (hk_K hK 431 rfl rfl)) (by decide) (in_of (lNA (hk_N hK 431 rfl rfl)) (show ¬ ((0 : Int32) < 0 ∨ 1 ≤ (0 : Int32).toNatClampNeg) by decide)) wJ_ap dL_start_9 ?_
  refine z_goto (tgt := 25) B dL_start_10 (by decide) ?_
  refine z_iconst (v := 0) B dL_start_25 (by decide) ?_
  exact z_iret B hr (by decide) (by decide) dL_start_26 ⟨rfl, rfl⟩
set_option maxRecDepth 100000 in
set_option maxHeartbeats 4000000 in
theorem ci_X9_start_800 (l : Launch) {g : gx_T} {σ : sx_T} {b : Nat} (hK : lay b σ) (w1 : Int32) (q1_w1 : (0 : Int) ≤ w1.toInt) (q2_w1 : w1.toInt ≤ (999 : Int)) (hI_405_6 : sx_I σ (b + 405) 6 = 0) (hI_405_16 : sx_I σ (b + 405) 16 = 0) (hI_406_60 : sx_I σ (b + 406) 60 = 0) (hI_407_60 : sx_I σ (b + 407) 60 = 0) (hI_412_0 : sx_I σ (b + 412) 0 = 0) (hI_413_0 : sx_I σ (b + 413) 0 = 0) (hR_405_3 : sx_R σ (b + 405) 3 = (some (b + 406))) (hR_405_4 : sx_R σ (b + 405) 4 = (some (b + 407))) (hR_405_7 : sx_R σ (b + 405) 7 = (some (b + 409))) (hR_405_8 : sx_R σ (b + 405) 8 = (some (b + 410))) (hR_405_9 : sx_R σ (b + 405) 9 = (some (b + 411))) (hR_405_10 : sx_R σ (b + 405) 10 = (some (b + 412))) (hR_405_11 : sx_R σ (b + 405) 11 = (some (b + 413))) (hR_405_12 : sx_R σ (b + 405) 12 = (some (b + 414))) (hR_405_13 : sx_R σ (b + 405) 13 = (some (b + 415))) (hR_405_14 : sx_R σ (b + 405) 14 = (some (b + 416))) (hR_405_15 : sx_R σ (b + 405) 15 = (some (b + 417))) (hR_405_42 : sx_R σ (b + 405) 42 = (some (b + 428))) : Met l yX9_start (.code yX9_start cX9_start 4 (some .int) :: lw_g) { frames := 6, cells := 0, slots := 0, locals := 154 } (va_Pc [.ref (b + 405), .int 3, .int w1] (zx_w g σ)) (va_Qi (fun r u => r = 0 ∧ u = (ap b σ [(412, 0, 1), (414, 0, 2), (405, 26, 1), (405, 37, 1), (405, 27, 2), (413, 0, 2), (416, 1, 13), (405, 28, 1), (405, 38, 1), (405, 48, (-1)), (405, 27, 1), (405, 29, ((w1.toInt64).toInt32)), (405, 26, 1), (405, 47, 1), (405, 39, 0), (405, 38, 0), (405, 37, 0), (405, 36, 0), (405, 35, 0), (405, 34, 0), (405, 32, 0), (405, 31, 0), (405, 30, 0), (405, 29, 0), (405, 28, 0), (405, 27, 0), (405, 26, 1), (428, 0, 0), (405, 45, 0), (405, 43, 0), (413, 0, 1), (416, 0, 0), (415, 0, (-1)), (411, 0, 0), (410, 0, (-1)), (409, 0, 3), (405, 6, 1), (405, 0, 0)] [(417, 1, ((10 * (((w1.toInt64).toInt32).toInt64)) + 1)), (417, 0, (w1.toInt64))] [])) (zx_w g) (gx_Q g)) 0 0 (gx_Q g) := by
  refine z_met (by decide) (Nat.le_of_ble_eq_true rfl) (fun p e s m below meth c B hr hin => ?_)
  refine z_eqs (σ' := (ap b σ [] [] [])) rfl ?_
  show zx p l e _ s m _ below meth c g 4 0 0 _ _ 0 [(0, .ref (b + 405)), (1, .int 3), (2, .int w1)] []
  refine z_aload_n B dX9_start_0 rfl 0 rfl ?_
  refine z_iload_n B dX9_start_1 rfl 1 rfl ?_
  refine z_iconst (v := 0) B dX9_start_2 (by decide) ?_
  refine z_iconst (v := 5) B dX9_start_3 (by decide) ?_
  refine z_cSi (As := [.int 3, .int 0, .int 5]) (rest := [.ref (b + 405)]) B cw_X9_96 dX9_start_4 (ci_X9_in_223 l (σ := (ap b σ [] [] [])) (b := b) (lyA hK) ) rfl (by decide) rfl (Nat.le_of_ble_eq_true rfl) (by decide) (fun r u hu => ?_)
  refine z_eqs (σ' := (ap b σ [] [] [])) hu.2 ?_
  show zx p l e _ s m _ below meth c g 4 0 0 _ _ 7 [(0, .ref (b + 405)), (1, .int 3), (2, .int w1)] _
  refine z_seti (y := 1) hu.1 ?_
  refine z_iload_n B dX9_start_7 rfl 2 rfl ?_
  refine z_sipush (v := (-999)) B dX9_start_8 (by decide) ?_
  refine z_sipush (v := 999) B dX9_start_11 (by decide) ?_
  refine z_cSi (As := [.int w1, .int (-999), .int 999]) (rest := [.int 1, .ref (b + 405)]) B cw_X9_96 dX9_start_14 (ci_X9_in_721 l (σ := (ap b σ [] [] [])) (b := b) (lyA hK) w1 q1_w1 q2_w1) rfl (by decide) rfl (Nat.le_of_ble_eq_true rfl) (by decide) (fun r u hu => ?_)
  refine z_eqs (σ' := (ap b σ [] [] [])) hu.2 ?_
  show zx p l e _ s m _ below meth c g 4 0 0 _ _ 17 [(0, .ref (b + 405)), (1, .int 3), (2, .int w1)] _
  refine z_seti (y := 1) hu.1 ?_
  refine z_aload_n B dX9_start_17 rfl 0 rfl ?_
  refine gf_X9_93 (x := 0) B (lKA (hk_K hK 405 rfl rfl)) (rI_at 405 6 hI_405_6) dX9_start_18 ?_
  refine z_bipush (v := 40) B dX9_start_21 (by decide) ?_
  refine z_icmp_ge (tgt := 30) B dX9_start_23 (by decide) (fun h => absurd h (by decide)) (fun _ => ?_)
  refine z_iconst (v := 1) B dX9_start_26 (by decide) ?_
  refine z_goto (tgt := 31) B dX9_start_27 (by decide) ?_
  refine z_cVi (As := [.int 1, .int 1, .int 1]) (rest := []) B cw_X9_259 cx_10 dX9_start_31 (ci_X9_needs___703 l (σ := (ap b σ [] [] [])) (b := b) (lyA hK) ) (lKA (hk_K hK 405 rfl rfl)) rfl (by decide) rfl (Nat.le_of_ble_eq_true rfl) (by decide) (fun r u hu => ?_)
  refine z_eqs (σ' := (ap b σ [(405, 0, 0)] [] [])) (hu.2.trans ap_ap) ?_
  show zx p l e _ s m _ below meth c g 4 0 0 _ _ 34 [(0, .ref (b + 405)), (1, .int 3), (2, .int w1)] _
  refine z_seti (y := 1) hu.1 ?_
  refine z_if_ne (tgt := 39) B dX9_start_34 (by decide) (fun _ => ?_) (fun h => absurd h (by decide))
  refine z_aload_n B dX9_start_39 rfl 0 rfl ?_
  refine z_iload_n B dX9_start_40 rfl 1 rfl ?_
  refine z_iload_n B dX9_start_41 rfl 2 rfl ?_
  refine z_iconst (v := (-1)) B dX9_start_42 (by decide) ?_
  refine z_iconst (v := (-1)) B dX9_start_43 (by decide) ?_
  refine z_cVi (As := [.int 3, .int w1, .int (-1), .int (-1)]) (rest := []) B cw_X9_168 cx_10 dX9_start_44 (ci_X9_begets_791 l (σ := (ap b σ [(405, 0, 0)] [] [])) (b := b) (lyA hK) w1 (rI_at 405 6 hI_405_6) (rI_at 413 0 hI_413_0) (rR_at 405 7 hR_405_7) (rR_at 405 8 hR_405_8) (rR_at 405 9 hR_405_9) (rR_at 405 11 hR_405_11) (rR_at 405 13 hR_405_13) (rR_at 405 14 hR_405_14) (rR_at 405 15 hR_405_15)) (lKA (hk_K hK 405 rfl rfl)) rfl (by decide) rfl (Nat.le_of_ble_eq_true rfl) (by decide) (fun r u hu => ?_)
  refine z_eqs (σ' := (ap b σ [(413, 0, 1), (416, 0, 0), (415, 0, (-1)), (411, 0, 0), (410, 0, (-1)), (409, 0, 3), (405, 6, 1), (405, 0, 0)] [(417, 0, (w1.toInt64))] [])) (hu.2.trans ap_ap) ?_
  show zx p l e _ s m _ below meth c g 4 0 0 _ _ 47 [(0, .ref (b + 405)), (1, .int 3), (2, .int w1)] _
  refine z_seti (y := 0) hu.1 ?_
  refine z_istore_n (lv' := [(3, .int 0), (0, .ref (b + 405)), (1, .int 3), (2, .int w1)]) B dX9_start_47 rfl (by decide) rfl ?_
  refine z_aload_n B dX9_start_48 rfl 1 rfl ?_
  refine z_iload_n B dX9_start_49 rfl 0 rfl ?_
  refine z_cVv (As := [.int 0]) (rest := []) B cw_X9_253 cx_10 dX9_start_50 (ci_X9_runs_795 l (σ := (ap b σ [(413, 0, 1), (416, 0, 0), (415, 0, (-1)), (411, 0, 0), (410, 0, (-1)), (409, 0, 3), (405, 6, 1), (405, 0, 0)] [(417, 0, (w1.toInt64))] [])) (b := b) (lyA hK) (w1.toInt64) (rI_at 405 16 hI_405_16) (rI_at 406 60 hI_406_60) (rI_at 407 60 hI_407_60) (rI_at 409 0 rfl) (rI_at 410 0 rfl) (rI_at 412 0 hI_412_0) (rI_at 413 0 rfl) (rI_at 416 0 rfl) (rJ_at 417 0 rfl) (rR_at 405 3 hR_405_3) (rR_at 405 4 hR_405_4) (rR_at 405 7 hR_405_7) (rR_at 405 8 hR_405_8) (rR_at 405 10 hR_405_10) (rR_at 405 11 hR_405_11) (rR_at 405 12 hR_405_12) (rR_at 405 14 hR_405_14) (rR_at 405 15 hR_405_15) (rR_at 405 42 hR_405_42)) (lKA (hk_K hK 405 rfl rfl)) rfl (by decide) rfl (Nat.le_of_ble_eq_true rfl) (by decide) (fun u hu => ?_)
  refine z_eqs (σ' := (ap b σ [(412, 0, 1), (414, 0, 2), (405, 26, 1), (405, 37, 1), (405, 27, 2), (413, 0, 2), (416, 1, 13), (405, 28, 1), (405, 38, 1), (405, 48, (-1)), (405, 27, 1), (405, 29, ((w1.toInt64).toInt32)), (405, 26, 1), (405, 47, 1), (405, 39, 0), (405, 38, 0), (405, 37, 0), (405, 36, 0), (405, 35, 0), (405, 34, 0), (405, 32, 0), (405, 31, 0), (405, 30, 0), (405, 29, 0), (405, 28, 0), (405, 27, 0), (405, 26, 1), (428, 0, 0), (405, 45, 0), (405, 43, 0), (413, 0, 1), (416, 0, 0), (415, 0, (-1)), (411, 0, 0), (410, 0, (-1)), (409, 0, 3), (405, 6, 1), (405, 0, 0)] [(417, 1, ((10 * (((w1.toInt64).toInt32).toInt64)) + 1)), (417, 0, (w1.toInt64))] [])) (hu.trans ap_ap) ?_
  show zx p l e _ s m _ below meth c g 4 0 0 _ _ 53 [(3, .int 0), (0, .ref (b + 405)), (1, .int 3), (2, .int w1)] _
  refine z_iload_n B dX9_start_53 rfl 0 rfl ?_
  exact z_iret B hr (by decide) (by decide) dX9_start_54 ⟨rfl, rfl⟩
set_option maxRecDepth 100000 in
set_option maxHeartbeats 4000000 in
theorem ci_X8_start_801 (l : Launch) (hlt : l.stackTraces = false) {g : gx_T} {σ : sx_T} {b : Nat} (hK : lay b σ) (w1 : Int32) (q1_w1 : (1000 : Int) ≤ w1.toInt) (q2_w1 : w1.toInt ≤ (2147483647 : Int)) (hR_0_0 : sx_R σ (b + 0) 0 = (some (b + 1))) (hR_1_3 : sx_R σ (b + 1) 3 = (some (b + 21))) : vx_Met l yX8_start (.code yX8_start cX8_start 5 (some .int) :: lw_g) { frames := 7, cells := 1, slots := 6, locals := 136 } (va_Pc [.ref (b + 0), .int 3, .int w1] (zx_w g σ)) (va_Qi (S := sx_T) (fun _ _ => False) (zx_w g) (gx_Q g)) (vx_X (fun u : sx_T => ∃ z, u = wx_Z σ z) (fun E u t => E = "java/lang/IllegalArgumentException" ∧ zx_h g u t.heap) (gx_Q g)) 1 6 (gx_Q g) := by
  refine z_metX (by decide) (Nat.le_of_ble_eq_true rfl) (fun p e s m below meth c B hr hin hout => ?_)
  refine z_eqs (σ' := (ap b σ [] [] [])) rfl ?_
  show zx p l e _ s m _ below meth c g 5 0 0 _ _ 0 [(0, .ref (b + 0)), (1, .int 3), (2, .int w1)] []
  refine z_aload_n B dX8_start_0 rfl 0 rfl ?_
  refine z_iload_n B dX8_start_1 rfl 1 rfl ?_
  refine z_cVq (As := [.int 3]) (rest := []) B cw_X8_64 cx_9 dX8_start_2 (ci_X8_programAt_220 l (σ := (ap b σ [] [] [])) (b := b) (lyA hK) (rR_at 0 0 hR_0_0) (rR_at 1 3 hR_1_3)) (lKA (hk_K hK 0 rfl rfl)) rfl (by decide) rfl (Nat.le_of_ble_eq_true rfl) (by decide) (fun r u hu => ?_)
  refine z_eqs (σ' := (ap b σ [] [] [])) hu.2 ?_
  show zx p l e _ s m _ below meth c g 5 0 0 _ _ 5 [(0, .ref (b + 0)), (1, .int 3), (2, .int w1)] _
  refine z_setr (y := (some (b + 21))) hu.1 ?_
  refine z_astore_n (lv' := [(3, .ref (b + 21)), (0, .ref (b + 0)), (1, .int 3), (2, .int w1)]) B dX8_start_5 rfl (by decide) rfl ?_
  refine z_aload_n B dX8_start_6 rfl 0 rfl ?_
  refine z_ifnonnull (r := (some (b + 21))) (tgt := 20) B dX8_start_7 (by decide) (fun _ _ => ?_) (fun h => nomatch h)
  refine z_iload_n B dX8_start_20 rfl 3 rfl ?_
  refine z_sipush (v := (-999)) B dX8_start_21 (by decide) ?_
  refine z_icmp_lt (tgt := 34) B dX8_start_24 (by decide) (fun h => absurd h (iv_nlt q1_w1 (by decide))) (fun _ => ?_)
  refine z_iload_n B dX8_start_27 rfl 3 rfl ?_
  refine z_sipush (v := 999) B dX8_start_28 (by decide) ?_
  refine z_icmp_le (tgt := 44) B dX8_start_31 (by decide) (fun h => absurd h (iv_nle q1_w1 (by decide))) (fun _ => ?_)
  exact z_throw B hlt hout (cls := "java/lang/IllegalArgumentException") (text := "input is out of range") tw_X8_83_139_87 dX8_start_34 dX8_start_37 dX8_start_38 dX8_start_40 dX8_start_43 (by decide) (by decide) (by decide) (by decide) (by decide) (by decide) (fun z => ⟨z, rfl⟩)
set_option maxRecDepth 100000 in
set_option maxHeartbeats 4000000 in
theorem ci_L_start_802 (l : Launch) (hlt : l.stackTraces = false) {g : gx_T} {σ : sx_T} {b : Nat} (hK : lay b σ) (w1 : Int32) (q1_w1 : (1000 : Int) ≤ w1.toInt) (q2_w1 : w1.toInt ≤ (2147483647 : Int)) (hR_0_0 : sx_R σ (b + 0) 0 = (some (b + 1))) (hR_1_3 : sx_R σ (b + 1) 3 = (some (b + 21))) : Met l yL_start (.codeWith yL_start cL_start 5 (some .int) [(0, 10, 13, 13), (0, 10, 17, 15), (0, 10, 21, 24)] :: lw_g) { frames := 8, cells := 1, slots := 6, locals := 160 } (va_Pc [.ref (b + 0), .int 3, .int w1, .ref (b + 431)] (zx_w g σ)) (va_Qi (fun r u => r = 2 ∧ ∃ z, u = (ap b (wx_Z σ z) [] [] [])) (zx_w g) (gx_Q g)) 1 6 (gx_Q g) := by
  refine z_metW (by decide) (Nat.le_of_ble_eq_true rfl) (fun p e s m below meth c B hr htab => ?_)
  refine z_eqs (σ' := (ap b σ [] [] [])) rfl ?_
  show zx p l e _ s m _ below meth c g 5 0 0 _ _ 0 [(0, .ref (b + 0)), (1, .int 3), (2, .int w1), (3, .ref (b + 431))] []
  refine z_aload_n B dL_start_0 rfl 3 rfl ?_
  refine z_iconst (v := 0) B dL_start_1 (by decide) ?_
  refine z_aload_n B dL_start_2 rfl 0 rfl ?_
  refine z_iload_n B dL_start_3 rfl 1 rfl ?_
  refine z_iload_n B dL_start_4 rfl 2 rfl ?_
  refine z_cXi (As := [.int 3, .int w1]) (rest := [.int 0, .ref (b + 431)]) B htab tc_start_5_IllegalArgumentException cw_L_20 cx_9 dL_start_5 (ci_X8_start_801 l hlt (σ := (ap b σ [] [] [])) (b := b) (lyA hK) w1 q1_w1 q2_w1 (rR_at 0 0 hR_0_0) (rR_at 1 3 hR_1_3)) (lKA (hk_K hK 0 rfl rfl)) rfl (by decide) rfl (Nat.le_of_ble_eq_true rfl) (by decide) (fun z q => ?_)
  refine z_eqs (σ' := (ap b (wx_Z σ z) [] [] [])) rfl ?_
  show zx p l e _ s m _ below meth c g 5 _ _ _ _ 17 [(0, .ref (b + 0)), (1, .int 3), (2, .int w1), (3, .ref (b + 431))] _
  refine z_astore (lv' := [(4, .ref q), (0, .ref (b + 0)), (1, .int 3), (2, .int w1), (3, .ref (b + 431))]) B dL_start_17 (by decide) rfl ?_
  refine z_iconst (v := 2) B dL_start_19 (by decide) ?_
  exact z_iret B hr (by decide) (by decide) dL_start_20 ⟨rfl, _, rfl⟩
set_option maxRecDepth 100000 in
set_option maxHeartbeats 4000000 in
theorem ci_X9_start_803 (l : Launch) {g : gx_T} {σ : sx_T} {b : Nat} (hK : lay b σ) (w1 : Int32) (q1_w1 : (1000 : Int) ≤ w1.toInt) (q2_w1 : w1.toInt ≤ (2147483647 : Int)) (hI_405_6 : sx_I σ (b + 405) 6 = 0) : Met l yX9_start (.code yX9_start cX9_start 4 (some .int) :: lw_g) { frames := 1, cells := 0, slots := 0, locals := 23 } (va_Pc [.ref (b + 405), .int 3, .int w1] (zx_w g σ)) (va_Qi (fun r u => r = 0 ∧ u = (ap b σ [(405, 0, 2)] [] [])) (zx_w g) (gx_Q g)) 0 0 (gx_Q g) := by
  refine z_met (by decide) (Nat.le_of_ble_eq_true rfl) (fun p e s m below meth c B hr hin => ?_)
  refine z_eqs (σ' := (ap b σ [] [] [])) rfl ?_
  show zx p l e _ s m _ below meth c g 4 0 0 _ _ 0 [(0, .ref (b + 405)), (1, .int 3), (2, .int w1)] []
  refine z_aload_n B dX9_start_0 rfl 0 rfl ?_
  refine z_iload_n B dX9_start_1 rfl 1 rfl ?_
  refine z_iconst (v := 0) B dX9_start_2 (by decide) ?_
  refine z_iconst (v := 5) B dX9_start_3 (by decide) ?_
  refine z_cSi (As := [.int 3, .int 0, .int 5]) (rest := [.ref (b + 405)]) B cw_X9_96 dX9_start_4 (ci_X9_in_223 l (σ := (ap b σ [] [] [])) (b := b) (lyA hK) ) rfl (by decide) rfl (Nat.le_of_ble_eq_true rfl) (by decide) (fun r u hu => ?_)
  refine z_eqs (σ' := (ap b σ [] [] [])) hu.2 ?_
  show zx p l e _ s m _ below meth c g 4 0 0 _ _ 7 [(0, .ref (b + 405)), (1, .int 3), (2, .int w1)] _
  refine z_seti (y := 1) hu.1 ?_
  refine z_iload_n B dX9_start_7 rfl 2 rfl ?_
  refine z_sipush (v := (-999)) B dX9_start_8 (by decide) ?_
  refine z_sipush (v := 999) B dX9_start_11 (by decide) ?_
  refine z_cSi (As := [.int w1, .int (-999), .int 999]) (rest := [.int 1, .ref (b + 405)]) B cw_X9_96 dX9_start_14 (ci_X9_in_657 l (σ := (ap b σ [] [] [])) (b := b) (lyA hK) w1 q1_w1 q2_w1) rfl (by decide) rfl (Nat.le_of_ble_eq_true rfl) (by decide) (fun r u hu => ?_)
  refine z_eqs (σ' := (ap b σ [] [] [])) hu.2 ?_
  show zx p l e _ s m _ below meth c g 4 0 0 _ _ 17 [(0, .ref (b + 405)), (1, .int 3), (2, .int w1)] _
  refine z_seti (y := 0) hu.1 ?_
  refine z_aload_n B dX9_start_17 rfl 0 rfl ?_
  refine gf_X9_93 (x := 0) B (lKA (hk_K hK 405 rfl rfl)) (rI_at 405 6 hI_405_6) dX9_start_18 ?_
  refine z_bipush (v := 40) B dX9_start_21 (by decide) ?_
  refine z_icmp_ge (tgt := 30) B dX9_start_23 (by decide) (fun h => absurd h (by decide)) (fun _ => ?_)
  refine z_iconst (v := 1) B dX9_start_26 (by decide) ?_
  refine z_goto (tgt := 31) B dX9_start_27 (by decide) ?_
  refine z_cVi (As := [.int 1, .int 0, .int 1]) (rest := []) B cw_X9_259 cx_10 dX9_start_31 (ci_X9_needs___661 l (σ := (ap b σ [] [] [])) (b := b) (lyA hK) ) (lKA (hk_K hK 405 rfl rfl)) rfl (by decide) rfl (Nat.le_of_ble_eq_true rfl) (by decide) (fun r u hu => ?_)
  refine z_eqs (σ' := (ap b σ [(405, 0, 2)] [] [])) (hu.2.trans ap_ap) ?_
  show zx p l e _ s m _ below meth c g 4 0 0 _ _ 34 [(0, .ref (b + 405)), (1, .int 3), (2, .int w1)] _
  refine z_seti (y := 0) hu.1 ?_
  refine z_if_ne (tgt := 39) B dX9_start_34 (by decide) (fun h => absurd (by decide) h) (fun _ => ?_)
  refine z_iconst (v := 0) B dX9_start_37 (by decide) ?_
  exact z_iret B hr (by decide) (by decide) dX9_start_38 ⟨rfl, rfl⟩
set_option maxRecDepth 100000 in
set_option maxHeartbeats 4000000 in
theorem ci_X8_start_804 (l : Launch) (hlt : l.stackTraces = false) {g : gx_T} {σ : sx_T} {b : Nat} (hK : lay b σ) (w1 : Int32) (q1_w1 : (-2147483648 : Int) ≤ w1.toInt) (q2_w1 : w1.toInt ≤ (-1000 : Int)) (hR_0_0 : sx_R σ (b + 0) 0 = (some (b + 1))) (hR_1_4 : sx_R σ (b + 1) 4 = (some (b + 25))) : vx_Met l yX8_start (.code yX8_start cX8_start 5 (some .int) :: lw_g) { frames := 7, cells := 1, slots := 6, locals := 136 } (va_Pc [.ref (b + 0), .int 4, .int w1] (zx_w g σ)) (va_Qi (S := sx_T) (fun _ _ => False) (zx_w g) (gx_Q g)) (vx_X (fun u : sx_T => ∃ z, u = wx_Z σ z) (fun E u t => E = "java/lang/IllegalArgumentException" ∧ zx_h g u t.heap) (gx_Q g)) 1 6 (gx_Q g) := by
  refine z_metX (by decide) (Nat.le_of_ble_eq_true rfl) (fun p e s m below meth c B hr hin hout => ?_)
  refine z_eqs (σ' := (ap b σ [] [] [])) rfl ?_
  show zx p l e _ s m _ below meth c g 5 0 0 _ _ 0 [(0, .ref (b + 0)), (1, .int 4), (2, .int w1)] []
  refine z_aload_n B dX8_start_0 rfl 0 rfl ?_
  refine z_iload_n B dX8_start_1 rfl 1 rfl ?_
  refine z_cVq (As := [.int 4]) (rest := []) B cw_X8_64 cx_9 dX8_start_2 (ci_X8_programAt_269 l (σ := (ap b σ [] [] [])) (b := b) (lyA hK) (rR_at 0 0 hR_0_0) (rR_at 1 4 hR_1_4)) (lKA (hk_K hK 0 rfl rfl)) rfl (by decide) rfl (Nat.le_of_ble_eq_true rfl) (by decide) (fun r u hu => ?_)
  refine z_eqs (σ' := (ap b σ [] [] [])) hu.2 ?_
  show zx p l e _ s m _ below meth c g 5 0 0 _ _ 5 [(0, .ref (b + 0)), (1, .int 4), (2, .int w1)] _
  refine z_setr (y := (some (b + 25))) hu.1 ?_
  refine z_astore_n (lv' := [(3, .ref (b + 25)), (0, .ref (b + 0)), (1, .int 4), (2, .int w1)]) B dX8_start_5 rfl (by decide) rfl ?_
  refine z_aload_n B dX8_start_6 rfl 0 rfl ?_
  refine z_ifnonnull (r := (some (b + 25))) (tgt := 20) B dX8_start_7 (by decide) (fun _ _ => ?_) (fun h => nomatch h)
  refine z_iload_n B dX8_start_20 rfl 3 rfl ?_
  refine z_sipush (v := (-999)) B dX8_start_21 (by decide) ?_
  refine z_icmp_lt (tgt := 34) B dX8_start_24 (by decide) (fun _ => ?_) (fun h => absurd (iv_lt q2_w1 (by decide)) h)
  exact z_throw B hlt hout (cls := "java/lang/IllegalArgumentException") (text := "input is out of range") tw_X8_83_139_87 dX8_start_34 dX8_start_37 dX8_start_38 dX8_start_40 dX8_start_43 (by decide) (by decide) (by decide) (by decide) (by decide) (by decide) (fun z => ⟨z, rfl⟩)
set_option maxRecDepth 100000 in
set_option maxHeartbeats 4000000 in
theorem ci_L_start_805 (l : Launch) (hlt : l.stackTraces = false) {g : gx_T} {σ : sx_T} {b : Nat} (hK : lay b σ) (w1 : Int32) (q1_w1 : (-2147483648 : Int) ≤ w1.toInt) (q2_w1 : w1.toInt ≤ (-1000 : Int)) (hR_0_0 : sx_R σ (b + 0) 0 = (some (b + 1))) (hR_1_4 : sx_R σ (b + 1) 4 = (some (b + 25))) : Met l yL_start (.codeWith yL_start cL_start 5 (some .int) [(0, 10, 13, 13), (0, 10, 17, 15), (0, 10, 21, 24)] :: lw_g) { frames := 8, cells := 1, slots := 6, locals := 160 } (va_Pc [.ref (b + 0), .int 4, .int w1, .ref (b + 431)] (zx_w g σ)) (va_Qi (fun r u => r = 2 ∧ ∃ z, u = (ap b (wx_Z σ z) [] [] [])) (zx_w g) (gx_Q g)) 1 6 (gx_Q g) := by
  refine z_metW (by decide) (Nat.le_of_ble_eq_true rfl) (fun p e s m below meth c B hr htab => ?_)
  refine z_eqs (σ' := (ap b σ [] [] [])) rfl ?_
  show zx p l e _ s m _ below meth c g 5 0 0 _ _ 0 [(0, .ref (b + 0)), (1, .int 4), (2, .int w1), (3, .ref (b + 431))] []
  refine z_aload_n B dL_start_0 rfl 3 rfl ?_
  refine z_iconst (v := 0) B dL_start_1 (by decide) ?_
  refine z_aload_n B dL_start_2 rfl 0 rfl ?_
  refine z_iload_n B dL_start_3 rfl 1 rfl ?_
  refine z_iload_n B dL_start_4 rfl 2 rfl ?_
  refine z_cXi (As := [.int 4, .int w1]) (rest := [.int 0, .ref (b + 431)]) B htab tc_start_5_IllegalArgumentException cw_L_20 cx_9 dL_start_5 (ci_X8_start_804 l hlt (σ := (ap b σ [] [] [])) (b := b) (lyA hK) w1 q1_w1 q2_w1 (rR_at 0 0 hR_0_0) (rR_at 1 4 hR_1_4)) (lKA (hk_K hK 0 rfl rfl)) rfl (by decide) rfl (Nat.le_of_ble_eq_true rfl) (by decide) (fun z q => ?_)
  refine z_eqs (σ' := (ap b (wx_Z σ z) [] [] [])) rfl ?_
  show zx p l e _ s m _ below meth c g 5 _ _ _ _ 17 [(0, .ref (b + 0)), (1, .int 4), (2, .int w1), (3, .ref (b + 431))] _
  refine z_astore (lv' := [(4, .ref q), (0, .ref (b + 0)), (1, .int 4), (2, .int w1), (3, .ref (b + 431))]) B dL_start_17 (by decide) rfl ?_
  refine z_iconst (v := 2) B dL_start_19 (by decide) ?_
  exact z_iret B hr (by decide) (by decide) dL_start_20 ⟨rfl, _, rfl⟩
set_option maxRecDepth 100000 in
set_option maxHeartbeats 4000000 in
theorem ci_X9_start_806 (l : Launch) {g : gx_T} {σ : sx_T} {b : Nat} (hK : lay b σ) (w1 : Int32) (q1_w1 : (-2147483648 : Int) ≤ w1.toInt) (q2_w1 : w1.toInt ≤ (-1000 : Int)) (hI_405_6 : sx_I σ (b + 405) 6 = 0) : Met l yX9_start (.code yX9_start cX9_start 4 (some .int) :: lw_g) { frames := 1, cells := 0, slots := 0, locals := 23 } (va_Pc [.ref (b + 405), .int 4, .int w1] (zx_w g σ)) (va_Qi (fun r u => r = 0 ∧ u = (ap b σ [(405, 0, 2)] [] [])) (zx_w g) (gx_Q g)) 0 0 (gx_Q g) := by
  refine z_met (by decide) (Nat.le_of_ble_eq_true rfl) (fun p e s m below meth c B hr hin => ?_)
  refine z_eqs (σ' := (ap b σ [] [] [])) rfl ?_
  show zx p l e _ s m _ below meth c g 4 0 0 _ _ 0 [(0, .ref (b + 405)), (1, .int 4), (2, .int w1)] []
  refine z_aload_n B dX9_start_0 rfl 0 rfl ?_
  refine z_iload_n B dX9_start_1 rfl 1 rfl ?_
  refine z_iconst (v := 0) B dX9_start_2 (by decide) ?_
  refine z_iconst (v := 5) B dX9_start_3 (by decide) ?_
  refine z_cSi (As := [.int 4, .int 0, .int 5]) (rest := [.ref (b + 405)]) B cw_X9_96 dX9_start_4 (ci_X9_in_272 l (σ := (ap b σ [] [] [])) (b := b) (lyA hK) ) rfl (by decide) rfl (Nat.le_of_ble_eq_true rfl) (by decide) (fun r u hu => ?_)
  refine z_eqs (σ' := (ap b σ [] [] [])) hu.2 ?_
  show zx p l e _ s m _ below meth c g 4 0 0 _ _ 7 [(0, .ref (b + 405)), (1, .int 4), (2, .int w1)] _
  refine z_seti (y := 1) hu.1 ?_
  refine z_iload_n B dX9_start_7 rfl 2 rfl ?_
  refine z_sipush (v := (-999)) B dX9_start_8 (by decide) ?_
  refine z_sipush (v := 999) B dX9_start_11 (by decide) ?_
  refine z_cSi (As := [.int w1, .int (-999), .int 999]) (rest := [.int 1, .ref (b + 405)]) B cw_X9_96 dX9_start_14 (ci_X9_in_651 l (σ := (ap b σ [] [] [])) (b := b) (lyA hK) w1 q1_w1 q2_w1) rfl (by decide) rfl (Nat.le_of_ble_eq_true rfl) (by decide) (fun r u hu => ?_)
  refine z_eqs (σ' := (ap b σ [] [] [])) hu.2 ?_
  show zx p l e _ s m _ below meth c g 4 0 0 _ _ 17 [(0, .ref (b + 405)), (1, .int 4), (2, .int w1)] _
  refine z_seti (y := 0) hu.1 ?_
  refine z_aload_n B dX9_start_17 rfl 0 rfl ?_
  refine gf_X9_93 (x := 0) B (lKA (hk_K hK 405 rfl rfl)) (rI_at 405 6 hI_405_6) dX9_start_18 ?_
  refine z_bipush (v := 40) B dX9_start_21 (by decide) ?_
  refine z_icmp_ge (tgt := 30) B dX9_start_23 (by decide) (fun h => absurd h (by decide)) (fun _ => ?_)
  refine z_iconst (v := 1) B dX9_start_26 (by decide) ?_
  refine z_goto (tgt := 31) B dX9_start_27 (by decide) ?_
  refine z_cVi (As := [.int 1, .int 0, .int 1]) (rest := []) B cw_X9_259 cx_10 dX9_start_31 (ci_X9_needs___661 l (σ := (ap b σ [] [] [])) (b := b) (lyA hK) ) (lKA (hk_K hK 405 rfl rfl)) rfl (by decide) rfl (Nat.le_of_ble_eq_true rfl) (by decide) (fun r u hu => ?_)
  refine z_eqs (σ' := (ap b σ [(405, 0, 2)] [] [])) (hu.2.trans ap_ap) ?_
  show zx p l e _ s m _ below meth c g 4 0 0 _ _ 34 [(0, .ref (b + 405)), (1, .int 4), (2, .int w1)] _
  refine z_seti (y := 0) hu.1 ?_
  refine z_if_ne (tgt := 39) B dX9_start_34 (by decide) (fun h => absurd (by decide) h) (fun _ => ?_)
  refine z_iconst (v := 0) B dX9_start_37 (by decide) ?_
  exact z_iret B hr (by decide) (by decide) dX9_start_38 ⟨rfl, rfl⟩
set_option maxRecDepth 100000 in
set_option maxHeartbeats 4000000 in
theorem ci_X5_begin_807 (l : Launch) {g : gx_T} {σ : sx_T} {b : Nat} (hK : lay b σ) (w1 : Int64)  (hI_37_2 : sx_I σ (b + 37) 2 = 1) (hJ_39_0 : sx_J σ (b + 39) 0 = w1) (hR_37_1 : sx_R σ (b + 37) 1 = (some (b + 39))) (hR_41_0 : sx_R σ (b + 41) 0 = (some (b + 42))) (hR_41_1 : sx_R σ (b + 41) 1 = (some (b + 44))) : Met l yX5_begin (.code yX5_begin cX5_begin 3 none :: lw_g) { frames := 1, cells := 0, slots := 0, locals := 21 } (va_Pc [.ref (b + 41), .ref (b + 25), .ref (b + 37)] (zx_w g σ)) (va_Qv (fun u => u = (ap b σ [(41, 19, 0), (41, 18, (-1)), (41, 16, (-1)), (41, 15, 0), (41, 14, 0), (41, 13, 0), (41, 12, 0), (41, 10, (-1)), (41, 9, (-1)), (41, 8, 0), (41, 7, 0), (41, 6, (w1.toInt32)), (41, 5, 0), (41, 4, 1), (44, 1, 0), (42, 1, 0)] [(41, 17, 0), (41, 11, 0)] [(41, 3, (some (b + 37))), (41, 2, (some (b + 25)))])) (zx_w g) (gx_Q g)) 0 0 (gx_Q g) := by
  refine z_met (by decide) (Nat.le_of_ble_eq_true rfl) (fun p e s m below meth c B hr hin => ?_)
  refine z_eqs (σ' := (ap b σ [] [] [])) rfl ?_
  show zx p l e _ s m _ below meth c g 3 0 0 _ _ 0 [(0, .ref (b + 41)), (1, .ref (b + 25)), (2, .ref (b + 37))] []
  refine z_aload_n B dX5_begin_0 rfl 0 rfl ?_
  refine z_aload_n B dX5_begin_1 rfl 1 rfl ?_
  refine pf_X5_25 (x := (some (b + 25))) (σ' := (ap b σ [] [] [(41, 2, (some (b + 25)))])) B (lKA (hk_K hK 41 rfl rfl)) wR_ap dX5_begin_2 ?_
  refine z_aload_n B dX5_begin_5 rfl 0 rfl ?_
  refine z_aload_n B dX5_begin_6 rfl 2 rfl ?_
  refine pf_X5_29 (x := (some (b + 37))) (σ' := (ap b σ [] [] [(41, 3, (some (b + 37))), (41, 2, (some (b + 25)))])) B (lKA (hk_K hK 41 rfl rfl)) wR_ap dX5_begin_7 ?_
  refine z_aload_n B dX5_begin_10 rfl 0 rfl ?_
  refine gf_X5_12 (x := (some (b + 42))) B (lKA (hk_K hK 41 rfl rfl)) (rR_at 41 0 hR_41_0) dX5_begin_11 ?_
  refine z_iconst (v := 0) B dX5_begin_14 (by decide) ?_
  refine pf_X5_33 (x := 0) (σ' := (ap b σ [(42, 1, 0)] [] [(41, 3, (some (b + 37))), (41, 2, (some (b + 25)))])) B (lKA (hk_K hK 42 rfl rfl)) wI_ap dX5_begin_15 ?_
  refine z_aload_n B dX5_begin_18 rfl 0 rfl ?_
  refine gf_X5_21 (x := (some (b + 44))) B (lKA (hk_K hK 41 rfl rfl)) (rR_at 41 1 hR_41_1) dX5_begin_19 ?_
  refine z_iconst (v := 0) B dX5_begin_22 (by decide) ?_
  refine pf_X5_37 (x := 0) (σ' := (ap b σ [(44, 1, 0), (42, 1, 0)] [] [(41, 3, (some (b + 37))), (41, 2, (some (b + 25)))])) B (lKA (hk_K hK 44 rfl rfl)) wI_ap dX5_begin_23 ?_
  refine z_aload_n B dX5_begin_26 rfl 0 rfl ?_
  refine z_iconst (v := 1) B dX5_begin_27 (by decide) ?_
  refine pf_X5_38 (x := 1) (σ' := (ap b σ [(41, 4, 1), (44, 1, 0), (42, 1, 0)] [] [(41, 3, (some (b + 37))), (41, 2, (some (b + 25)))])) B (lKA (hk_K hK 41 rfl rfl)) wI_ap dX5_begin_28 ?_
  refine z_aload_n B dX5_begin_31 rfl 0 rfl ?_
  refine z_iconst (v := 0) B dX5_begin_32 (by decide) ?_
  refine pf_X5_41 (x := 0) (σ' := (ap b σ [(41, 5, 0), (41, 4, 1), (44, 1, 0), (42, 1, 0)] [] [(41, 3, (some (b + 37))), (41, 2, (some (b + 25)))])) B (lKA (hk_K hK 41 rfl rfl)) wI_ap dX5_begin_33 ?_
  refine z_aload_n B dX5_begin_36 rfl 0 rfl ?_
  refine z_aload_n B dX5_begin_37 rfl 2 rfl ?_
  refine z_iconst (v := 0) B dX5_begin_38 (by decide) ?_
  refine z_cVl (As := [.int 0]) (rest := [.ref (b + 41)]) B cw_X5_44 cx_2 dX5_begin_39 (ci_X1_numberAt_664 l (σ := (ap b σ [(41, 5, 0), (41, 4, 1), (44, 1, 0), (42, 1, 0)] [] [(41, 3, (some (b + 37))), (41, 2, (some (b + 25)))])) (b := b) (lyA hK) w1 (rI_at 37 2 hI_37_2) (rJ_at 39 0 hJ_39_0) (rR_at 37 1 hR_37_1)) (lKA (hk_K hK 37 rfl rfl)) rfl (by decide) rfl (Nat.le_of_ble_eq_true rfl) (by decide) (fun r u hu => ?_)
  refine z_eqs (σ' := (ap b σ [(41, 5, 0), (41, 4, 1), (44, 1, 0), (42, 1, 0)] [] [(41, 3, (some (b + 37))), (41, 2, (some (b + 25)))])) hu.2 ?_
  show zx p l e _ s m _ below meth c g 3 0 0 _ _ 42 [(0, .ref (b + 41)), (1, .ref (b + 25)), (2, .ref (b + 37))] _
  refine z_setl (y := w1) hu.1 ?_
  refine z_l2i B dX5_begin_42 rfl ?_
  refine pf_X5_50 (x := (w1.toInt32)) (σ' := (ap b σ [(41, 6, (w1.toInt32)), (41, 5, 0), (41, 4, 1), (44, 1, 0), (42, 1, 0)] [] [(41, 3, (some (b + 37))), (41, 2, (some (b + 25)))])) B (lKA (hk_K hK 41 rfl rfl)) wI_ap dX5_begin_43 ?_
  refine z_aload_n B dX5_begin_46 rfl 0 rfl ?_
  refine z_iconst (v := 0) B dX5_begin_47 (by decide) ?_
  refine pf_X5_53 (x := 0) (σ' := (ap b σ [(41, 7, 0), (41, 6, (w1.toInt32)), (41, 5, 0), (41, 4, 1), (44, 1, 0), (42, 1, 0)] [] [(41, 3, (some (b + 37))), (41, 2, (some (b + 25)))])) B (lKA (hk_K hK 41 rfl rfl)) wI_ap dX5_begin_48 ?_
  refine z_aload_n B dX5_begin_51 rfl 0 rfl ?_
  refine z_iconst (v := 0) B dX5_begin_52 (by decide) ?_
  refine pf_X5_56 (x := 0) (σ' := (ap b σ [(41, 8, 0), (41, 7, 0), (41, 6, (w1.toInt32)), (41, 5, 0), (41, 4, 1), (44, 1, 0), (42, 1, 0)] [] [(41, 3, (some (b + 37))), (41, 2, (some (b + 25)))])) B (lKA (hk_K hK 41 rfl rfl)) wI_ap dX5_begin_53 ?_
  refine z_aload_n B dX5_begin_56 rfl 0 rfl ?_
  refine z_iconst (v := (-1)) B dX5_begin_57 (by decide) ?_
  refine pf_X5_59 (x := (-1)) (σ' := (ap b σ [(41, 9, (-1)), (41, 8, 0), (41, 7, 0), (41, 6, (w1.toInt32)), (41, 5, 0), (41, 4, 1), (44, 1, 0), (42, 1, 0)] [] [(41, 3, (some (b + 37))), (41, 2, (some (b + 25)))])) B (lKA (hk_K hK 41 rfl rfl)) wI_ap dX5_begin_58 ?_
  refine z_aload_n B dX5_begin_61 rfl 0 rfl ?_
  refine z_iconst (v := (-1)) B dX5_begin_62 (by decide) ?_
  refine pf_X5_62 (x := (-1)) (σ' := (ap b σ [(41, 10, (-1)), (41, 9, (-1)), (41, 8, 0), (41, 7, 0), (41, 6, (w1.toInt32)), (41, 5, 0), (41, 4, 1), (44, 1, 0), (42, 1, 0)] [] [(41, 3, (some (b + 37))), (41, 2, (some (b + 25)))])) B (lKA (hk_K hK 41 rfl rfl)) wI_ap dX5_begin_63 ?_
  refine z_aload_n B dX5_begin_66 rfl 0 rfl ?_
  refine z_lconst (v := 0) B dX5_begin_67 (by decide) ?_
  refine pf_X5_65 (x := 0) (σ' := (ap b σ [(41, 10, (-1)), (41, 9, (-1)), (41, 8, 0), (41, 7, 0), (41, 6, (w1.toInt32)), (41, 5, 0), (41, 4, 1), (44, 1, 0), (42, 1, 0)] [(41, 11, 0)] [(41, 3, (some (b + 37))), (41, 2, (some (b + 25)))])) B (lKA (hk_K hK 41 rfl rfl)) wJ_ap dX5_begin_68 ?_
  refine z_aload_n B dX5_begin_71 rfl 0 rfl ?_
  refine z_iconst (v := 0) B dX5_begin_72 (by decide) ?_
  refine pf_X5_69 (x := 0) (σ' := (ap b σ [(41, 12, 0), (41, 10, (-1)), (41, 9, (-1)), (41, 8, 0), (41, 7, 0), (41, 6, (w1.toInt32)), (41, 5, 0), (41, 4, 1), (44, 1, 0), (42, 1, 0)] [(41, 11, 0)] [(41, 3, (some (b + 37))), (41, 2, (some (b + 25)))])) B (by decide) (lKA (hk_K hK 41 rfl rfl)) wI_ap dX5_begin_73 ?_
  refine z_aload_n B dX5_begin_76 rfl 0 rfl ?_
  refine z_iconst (v := 0) B dX5_begin_77 (by decide) ?_
  refine pf_X5_73 (x := 0) (σ' := (ap b σ [(41, 13, 0), (41, 12, 0), (41, 10, (-1)), (41, 9, (-1)), (41, 8, 0), (41, 7, 0), (41, 6, (w1.toInt32)), (41, 5, 0), (41, 4, 1), (44, 1, 0), (42, 1, 0)] [(41, 11, 0)] [(41, 3, (some (b + 37))), (41, 2, (some (b + 25)))])) B (by decide) (lKA (hk_K hK 41 rfl rfl)) wI_ap dX5_begin_78 ?_
  refine z_aload_n B dX5_begin_81 rfl 0 rfl ?_
  refine z_iconst (v := 0) B dX5_begin_82 (by decide) ?_
  refine pf_X5_76 (x := 0) (σ' := (ap b σ [(41, 14, 0), (41, 13, 0), (41, 12, 0), (41, 10, (-1)), (41, 9, (-1)), (41, 8, 0), (41, 7, 0), (41, 6, (w1.toInt32)), (41, 5, 0), (41, 4, 1), (44, 1, 0), (42, 1, 0)] [(41, 11, 0)] [(41, 3, (some (b + 37))), (41, 2, (some (b + 25)))])) B (lKA (hk_K hK 41 rfl rfl)) wI_ap dX5_begin_83 ?_
  refine z_aload_n B dX5_begin_86 rfl 0 rfl ?_
  refine z_iconst (v := 0) B dX5_begin_87 (by decide) ?_
  refine pf_X5_79 (x := 0) (σ' := (ap b σ [(41, 15, 0), (41, 14, 0), (41, 13, 0), (41, 12, 0), (41, 10, (-1)), (41, 9, (-1)), (41, 8, 0), (41, 7, 0), (41, 6, (w1.toInt32)), (41, 5, 0), (41, 4, 1), (44, 1, 0), (42, 1, 0)] [(41, 11, 0)] [(41, 3, (some (b + 37))), (41, 2, (some (b + 25)))])) B (by decide) (lKA (hk_K hK 41 rfl rfl)) wI_ap dX5_begin_88 ?_
  refine z_aload_n B dX5_begin_91 rfl 0 rfl ?_
  refine z_iconst (v := (-1)) B dX5_begin_92 (by decide) ?_
  refine pf_X5_82 (x := (-1)) (σ' := (ap b σ [(41, 16, (-1)), (41, 15, 0), (41, 14, 0), (41, 13, 0), (41, 12, 0), (41, 10, (-1)), (41, 9, (-1)), (41, 8, 0), (41, 7, 0), (41, 6, (w1.toInt32)), (41, 5, 0), (41, 4, 1), (44, 1, 0), (42, 1, 0)] [(41, 11, 0)] [(41, 3, (some (b + 37))), (41, 2, (some (b + 25)))])) B (lKA (hk_K hK 41 rfl rfl)) wI_ap dX5_begin_93 ?_
  refine z_aload_n B dX5_begin_96 rfl 0 rfl ?_
  refine z_lconst (v := 0) B dX5_begin_97 (by decide) ?_
  refine pf_X5_85 (x := 0) (σ' := (ap b σ [(41, 16, (-1)), (41, 15, 0), (41, 14, 0), (41, 13, 0), (41, 12, 0), (41, 10, (-1)), (41, 9, (-1)), (41, 8, 0), (41, 7, 0), (41, 6, (w1.toInt32)), (41, 5, 0), (41, 4, 1), (44, 1, 0), (42, 1, 0)] [(41, 17, 0), (41, 11, 0)] [(41, 3, (some (b + 37))), (41, 2, (some (b + 25)))])) B (lKA (hk_K hK 41 rfl rfl)) wJ_ap dX5_begin_98 ?_
  refine z_aload_n B dX5_begin_101 rfl 0 rfl ?_
  refine z_iconst (v := (-1)) B dX5_begin_102 (by decide) ?_
  refine pf_X5_88 (x := (-1)) (σ' := (ap b σ [(41, 18, (-1)), (41, 16, (-1)), (41, 15, 0), (41, 14, 0), (41, 13, 0), (41, 12, 0), (41, 10, (-1)), (41, 9, (-1)), (41, 8, 0), (41, 7, 0), (41, 6, (w1.toInt32)), (41, 5, 0), (41, 4, 1), (44, 1, 0), (42, 1, 0)] [(41, 17, 0), (41, 11, 0)] [(41, 3, (some (b + 37))), (41, 2, (some (b + 25)))])) B (lKA (hk_K hK 41 rfl rfl)) wI_ap dX5_begin_103 ?_
  refine z_aload_n B dX5_begin_106 rfl 0 rfl ?_
  refine z_iconst (v := 0) B dX5_begin_107 (by decide) ?_
  refine pf_X5_91 (x := 0) (σ' := (ap b σ [(41, 19, 0), (41, 18, (-1)), (41, 16, (-1)), (41, 15, 0), (41, 14, 0), (41, 13, 0), (41, 12, 0), (41, 10, (-1)), (41, 9, (-1)), (41, 8, 0), (41, 7, 0), (41, 6, (w1.toInt32)), (41, 5, 0), (41, 4, 1), (44, 1, 0), (42, 1, 0)] [(41, 17, 0), (41, 11, 0)] [(41, 3, (some (b + 37))), (41, 2, (some (b + 25)))])) B (by decide) (lKA (hk_K hK 41 rfl rfl)) wI_ap dX5_begin_108 ?_
  exact z_vret B hr (by decide) (by decide) dX5_begin_111 rfl
set_option maxRecDepth 100000 in
set_option maxHeartbeats 4000000 in
theorem ci_X8_open_808 (l : Launch) {g : gx_T} {σ : sx_T} {b : Nat} (hK : lay b σ) (w1 : Int32)  (hI_0_7 : sx_I σ (b + 0) 7 = 0) (hI_37_2 : sx_I σ (b + 37) 2 = 0) (hI_40_0 : sx_I σ (b + 40) 0 = 0) (hR_0_2 : sx_R σ (b + 0) 2 = (some (b + 3))) (hR_3_0 : sx_R σ (b + 3) 0 = (some (b + 40))) (hR_37_0 : sx_R σ (b + 37) 0 = (some (b + 38))) (hR_37_1 : sx_R σ (b + 37) 1 = (some (b + 39))) (hR_40_1 : sx_R σ (b + 40) 1 = (some (b + 37))) (hR_40_2 : sx_R σ (b + 40) 2 = (some (b + 41))) (hR_41_0 : sx_R σ (b + 41) 0 = (some (b + 42))) (hR_41_1 : sx_R σ (b + 41) 1 = (some (b + 44))) : Met l yX8_open (.code yX8_open cX8_open 6 (some (.object "Loomkeeper$Flow")) :: lw_g) { frames := 2, cells := 0, slots := 0, locals := 43 } (va_Pc [.ref (b + 0), .ref (b + 25), .int w1, .int (-1), .int (-1)] (zx_w g σ)) (va_Qq (fun r u => r = (some (b + 40)) ∧ u = (ap b σ [(41, 19, 0), (41, 18, (-1)), (41, 16, (-1)), (41, 15, 0), (41, 14, 0), (41, 13, 0), (41, 12, 0), (41, 10, (-1)), (41, 9, (-1)), (41, 8, 0), (41, 7, 0), (41, 6, ((w1.toInt64).toInt32)), (41, 5, 0), (41, 4, 1), (44, 1, 0), (42, 1, 0), (37, 2, 1), (38, 0, 0), (40, 5, 0), (40, 4, (-1)), (0, 7, 1)] [(41, 17, 0), (41, 11, 0), (39, 0, (w1.toInt64))] [(41, 3, (some (b + 37))), (41, 2, (some (b + 25))), (40, 3, (some (b + 25)))])) (zx_w g) (gx_Q g)) 0 0 (gx_Q g) := by
  refine z_met (by decide) (Nat.le_of_ble_eq_true rfl) (fun p e s m below meth c B hr hin => ?_)
  refine z_eqs (σ' := (ap b σ [] [] [])) rfl ?_
  show zx p l e _ s m _ below meth c g 6 0 0 _ _ 0 [(0, .ref (b + 0)), (1, .ref (b + 25)), (2, .int w1), (3, .int (-1)), (4, .int (-1))] []
  refine z_aload_n B dX8_open_0 rfl 1 rfl ?_
  refine z_ifnull (r := (some (b + 25))) (tgt := 23) B dX8_open_1 (by decide) (fun h => nomatch h) (fun _ _ => ?_)
  refine z_aload_n B dX8_open_4 rfl 0 rfl ?_
  refine gf_X8_96 (x := 0) B (lKA (hk_K hK 0 rfl rfl)) (rI_at 0 7 hI_0_7) dX8_open_5 ?_
  refine z_if_lt (tgt := 23) B dX8_open_8 (by decide) (fun h => absurd h (by decide)) (fun _ => ?_)
  refine z_aload_n B dX8_open_11 rfl 0 rfl ?_
  refine gf_X8_96 (x := 0) B (lKA (hk_K hK 0 rfl rfl)) (rI_at 0 7 hI_0_7) dX8_open_12 ?_
  refine z_aload_n B dX8_open_15 rfl 0 rfl ?_
  refine gf_X8_21 (x := (some (b + 3))) B (lKA (hk_K hK 0 rfl rfl)) (rR_at 0 2 hR_0_2) dX8_open_16 ?_
  refine z_alen (kd := 15) (ti := 3) (v := 40) B (lKA (hk_K hK 3 rfl rfl)) (by decide) rfl (congrArg Int32.ofNat (lNA (hk_N hK 3 rfl rfl))) dX8_open_19 ?_
  refine z_icmp_lt (tgt := 25) B dX8_open_20 (by decide) (fun _ => ?_) (fun h => absurd (by decide) h)
  refine z_aload_n B dX8_open_25 rfl 0 rfl ?_
  refine gf_X8_21 (x := (some (b + 3))) B (lKA (hk_K hK 0 rfl rfl)) (rR_at 0 2 hR_0_2) dX8_open_26 ?_
  refine z_aload_n B dX8_open_29 rfl 0 rfl ?_
  refine gf_X8_96 (x := 0) B (lKA (hk_K hK 0 rfl rfl)) (rI_at 0 7 hI_0_7) dX8_open_30 ?_
  refine z_qald (j := 0) (kd := 15) (ti := 3) (r := (some (b + 40))) B (lKA (hk_K hK 3 rfl rfl)) (by decide) rfl (by decide) (in_of (lNA (hk_N hK 3 rfl rfl)) (show ¬ ((0 : Int32) < 0 ∨ 40 ≤ (0 : Int32).toNatClampNeg) by decide)) (rR_at 3 0 hR_3_0) dX8_open_33 ?_
  refine z_astore (lv' := [(5, .ref (b + 40)), (0, .ref (b + 0)), (1, .ref (b + 25)), (2, .int w1), (3, .int (-1)), (4, .int (-1))]) B dX8_open_34 (by decide) rfl ?_
  refine z_aload B dX8_open_36 0 rfl ?_
  refine z_ifnonnull (r := (some (b + 40))) (tgt := 43) B dX8_open_38 (by decide) (fun _ _ => ?_) (fun h => nomatch h)
  refine z_aload_n B dX8_open_43 rfl 1 rfl ?_
  refine z_dup B dX8_open_44 rfl ?_
  refine gf_X8_96 (x := 0) B (lKA (hk_K hK 0 rfl rfl)) (rI_at 0 7 hI_0_7) dX8_open_45 ?_
  refine z_iconst (v := 1) B dX8_open_48 (by decide) ?_
  refine z_iadd B dX8_open_49 ?_
  refine z_seti (y := 1) (by decide) ?_
  refine pf_X8_96 (x := 1) (σ' := (ap b σ [(0, 7, 1)] [] [])) B (lKA (hk_K hK 0 rfl rfl)) wI_ap dX8_open_50 ?_
  refine z_aload B dX8_open_53 0 rfl ?_
  refine z_aload_n B dX8_open_55 rfl 2 rfl ?_
  refine pf_X8_103 (x := (some (b + 25))) (σ' := (ap b σ [(0, 7, 1)] [] [(40, 3, (some (b + 25)))])) B (lKA (hk_K hK 40 rfl rfl)) wR_ap dX8_open_56 ?_
  refine z_aload B dX8_open_59 0 rfl ?_
  refine z_iload_n B dX8_open_61 rfl 4 rfl ?_
  refine pf_X8_259 (x := (-1)) (σ' := (ap b σ [(40, 4, (-1)), (0, 7, 1)] [] [(40, 3, (some (b + 25)))])) B (lKA (hk_K hK 40 rfl rfl)) wI_ap dX8_open_62 ?_
  refine z_aload B dX8_open_65 0 rfl ?_
  refine z_iload B dX8_open_67 5 rfl ?_
  refine z_iconst (v := (-1)) B dX8_open_69 (by decide) ?_
  refine z_icmp_ne (tgt := 81) B dX8_open_70 (by decide) (fun h => absurd (by decide) h) (fun _ => ?_)
  refine z_aload B dX8_open_73 0 rfl ?_
  refine gf_X8_150 (x := 0) B (lKA (hk_K hK 40 rfl rfl)) (rI_at 40 0 hI_40_0) dX8_open_75 ?_
  refine z_goto (tgt := 83) B dX8_open_78 (by decide) ?_
  refine pf_X8_406 (x := 0) (σ' := (ap b σ [(40, 5, 0), (40, 4, (-1)), (0, 7, 1)] [] [(40, 3, (some (b + 25)))])) B (lKA (hk_K hK 40 rfl rfl)) wI_ap dX8_open_83 ?_
  refine z_aload B dX8_open_86 0 rfl ?_
  refine gf_X8_179 (x := (some (b + 37))) B (lKA (hk_K hK 40 rfl rfl)) (rR_at 40 1 hR_40_1) dX8_open_88 ?_
  refine z_iconst (v := 0) B dX8_open_91 (by decide) ?_
  refine z_iload_n B dX8_open_92 rfl 3 rfl ?_
  refine z_i2l B dX8_open_93 rfl ?_
  refine z_cVv (As := [.int 0, .long (w1.toInt64)]) (rest := []) B cw_X8_333 cx_2 dX8_open_94 (ci_X1_add_663 l (σ := (ap b σ [(40, 5, 0), (40, 4, (-1)), (0, 7, 1)] [] [(40, 3, (some (b + 25)))])) (b := b) (lyA hK) (w1.toInt64) (rI_at 37 2 hI_37_2) (rR_at 37 0 hR_37_0) (rR_at 37 1 hR_37_1)) (lKA (hk_K hK 37 rfl rfl)) rfl (by decide) rfl (Nat.le_of_ble_eq_true rfl) (by decide) (fun u hu => ?_)
  refine z_eqs (σ' := (ap b σ [(37, 2, 1), (38, 0, 0), (40, 5, 0), (40, 4, (-1)), (0, 7, 1)] [(39, 0, (w1.toInt64))] [(40, 3, (some (b + 25)))])) (hu.trans ap_ap) ?_
  show zx p l e _ s m _ below meth c g 6 0 0 _ _ 97 [(5, .ref (b + 40)), (0, .ref (b + 0)), (1, .ref (b + 25)), (2, .int w1), (3, .int (-1)), (4, .int (-1))] _
  refine z_aload B dX8_open_97 0 rfl ?_
  refine gf_X8_249 (x := (some (b + 41))) B (lKA (hk_K hK 40 rfl rfl)) (rR_at 40 2 hR_40_2) dX8_open_99 ?_
  refine z_aload_n B dX8_open_102 rfl 2 rfl ?_
  refine z_aload B dX8_open_103 0 rfl ?_
  refine gf_X8_179 (x := (some (b + 37))) B (lKA (hk_K hK 40 rfl rfl)) (rR_at 40 1 hR_40_1) dX8_open_105 ?_
  refine z_cVv (As := [.ref (b + 25), .ref (b + 37)]) (rest := []) B cw_X8_286 cx_6 dX8_open_108 (ci_X5_begin_807 l (σ := (ap b σ [(37, 2, 1), (38, 0, 0), (40, 5, 0), (40, 4, (-1)), (0, 7, 1)] [(39, 0, (w1.toInt64))] [(40, 3, (some (b + 25)))])) (b := b) (lyA hK) (w1.toInt64) (rI_at 37 2 rfl) (rJ_at 39 0 rfl) (rR_at 37 1 hR_37_1) (rR_at 41 0 hR_41_0) (rR_at 41 1 hR_41_1)) (lKA (hk_K hK 41 rfl rfl)) rfl (by decide) rfl (Nat.le_of_ble_eq_true rfl) (by decide) (fun u hu => ?_)
  refine z_eqs (σ' := (ap b σ [(41, 19, 0), (41, 18, (-1)), (41, 16, (-1)), (41, 15, 0), (41, 14, 0), (41, 13, 0), (41, 12, 0), (41, 10, (-1)), (41, 9, (-1)), (41, 8, 0), (41, 7, 0), (41, 6, ((w1.toInt64).toInt32)), (41, 5, 0), (41, 4, 1), (44, 1, 0), (42, 1, 0), (37, 2, 1), (38, 0, 0), (40, 5, 0), (40, 4, (-1)), (0, 7, 1)] [(41, 17, 0), (41, 11, 0), (39, 0, (w1.toInt64))] [(41, 3, (some (b + 37))), (41, 2, (some (b + 25))), (40, 3, (some (b + 25)))])) (hu.trans ap_ap) ?_
  show zx p l e _ s m _ below meth c g 6 0 0 _ _ 111 [(5, .ref (b + 40)), (0, .ref (b + 0)), (1, .ref (b + 25)), (2, .int w1), (3, .int (-1)), (4, .int (-1))] _
  refine z_aload B dX8_open_111 0 rfl ?_
  exact z_qret (r := (some (b + 40))) B hr (by decide) (by decide) dX8_open_113 ⟨rfl, rfl⟩
set_option maxRecDepth 100000 in
set_option maxHeartbeats 4000000 in
theorem ci_X4_operation_809 (l : Launch) {g : gx_T} {σ : sx_T} {b : Nat} (hK : lay b σ)   (hI_26_0 : sx_I σ (b + 26) 0 = 0) (hR_25_1 : sx_R σ (b + 25) 1 = (some (b + 26))) : Met l yX4_operation (.code yX4_operation cX4_operation 2 (some .int) :: lw_g) { frames := 0, cells := 0, slots := 0, locals := 0 } (va_Pc [.ref (b + 25), .int 0] (zx_w g σ)) (va_Qi (fun r u => r = 0 ∧ u = σ) (zx_w g) (gx_Q g)) 0 0 (gx_Q g) := by
  refine z_met (by decide) (Nat.le_of_ble_eq_true rfl) (fun p e s m below meth c B hr hin => ?_)
  refine z_eqs (σ' := (ap b σ [] [] [])) rfl ?_
  show zx p l e _ s m _ below meth c g 2 0 0 _ _ 0 [(0, .ref (b + 25)), (1, .int 0)] []
  refine z_iload_n B dX4_operation_0 rfl 1 rfl ?_
  refine z_if_lt (tgt := 22) B dX4_operation_1 (by decide) (fun h => absurd h (by decide)) (fun _ => ?_)
  refine z_iload_n B dX4_operation_4 rfl 1 rfl ?_
  refine z_aload_n B dX4_operation_5 rfl 0 rfl ?_
  refine gf_X4_9 (x := (some (b + 26))) B (lKA (hk_K hK 25 rfl rfl)) (rR_at 25 1 hR_25_1) dX4_operation_6 ?_
  refine z_alen (kd := 13) (ti := 1) (v := 20) B (lKA (hk_K hK 26 rfl rfl)) (by decide) rfl (congrArg Int32.ofNat (lNA (hk_N hK 26 rfl rfl))) dX4_operation_9 ?_
  refine z_icmp_ge (tgt := 22) B dX4_operation_10 (by decide) (fun h => absurd h (by decide)) (fun _ => ?_)
  refine z_aload_n B dX4_operation_13 rfl 0 rfl ?_
  refine gf_X4_9 (x := (some (b + 26))) B (lKA (hk_K hK 25 rfl rfl)) (rR_at 25 1 hR_25_1) dX4_operation_14 ?_
  refine z_iload_n B dX4_operation_17 rfl 1 rfl ?_
  refine z_iald (j := 0) (x := 0) B (lKA (hk_K hK 26 rfl rfl)) (by decide) (in_of (lNA (hk_N hK 26 rfl rfl)) (show ¬ ((0 : Int32) < 0 ∨ 20 ≤ (0 : Int32).toNatClampNeg) by decide)) (rI_at 26 0 hI_26_0) dX4_operation_18 ?_
  refine z_goto (tgt := 23) B dX4_operation_19 (by decide) ?_
  exact z_iret B hr (by decide) (by decide) dX4_operation_23 ⟨rfl, rfl⟩
set_option maxRecDepth 100000 in
set_option maxHeartbeats 4000000 in
theorem ci_X4_first_810 (l : Launch) {g : gx_T} {σ : sx_T} {b : Nat} (hK : lay b σ)   (hI_27_0 : sx_I σ (b + 27) 0 = 0) (hR_25_2 : sx_R σ (b + 25) 2 = (some (b + 27))) : Met l yX4_first (.code yX4_first cX4_first 2 (some .int) :: lw_g) { frames := 0, cells := 0, slots := 0, locals := 0 } (va_Pc [.ref (b + 25), .int 0] (zx_w g σ)) (va_Qi (fun r u => r = 0 ∧ u = σ) (zx_w g) (gx_Q g)) 0 0 (gx_Q g) := by
  refine z_met (by decide) (Nat.le_of_ble_eq_true rfl) (fun p e s m below meth c B hr hin => ?_)
  refine z_eqs (σ' := (ap b σ [] [] [])) rfl ?_
  show zx p l e _ s m _ below meth c g 2 0 0 _ _ 0 [(0, .ref (b + 25)), (1, .int 0)] []
  refine z_iload_n B dX4_first_0 rfl 1 rfl ?_
  refine z_if_lt (tgt := 22) B dX4_first_1 (by decide) (fun h => absurd h (by decide)) (fun _ => ?_)
  refine z_iload_n B dX4_first_4 rfl 1 rfl ?_
  refine z_aload_n B dX4_first_5 rfl 0 rfl ?_
  refine gf_X4_15 (x := (some (b + 27))) B (lKA (hk_K hK 25 rfl rfl)) (rR_at 25 2 hR_25_2) dX4_first_6 ?_
  refine z_alen (kd := 13) (ti := 1) (v := 20) B (lKA (hk_K hK 27 rfl rfl)) (by decide) rfl (congrArg Int32.ofNat (lNA (hk_N hK 27 rfl rfl))) dX4_first_9 ?_
  refine z_icmp_ge (tgt := 22) B dX4_first_10 (by decide) (fun h => absurd h (by decide)) (fun _ => ?_)
  refine z_aload_n B dX4_first_13 rfl 0 rfl ?_
  refine gf_X4_15 (x := (some (b + 27))) B (lKA (hk_K hK 25 rfl rfl)) (rR_at 25 2 hR_25_2) dX4_first_14 ?_
  refine z_iload_n B dX4_first_17 rfl 1 rfl ?_
  refine z_iald (j := 0) (x := 0) B (lKA (hk_K hK 27 rfl rfl)) (by decide) (in_of (lNA (hk_N hK 27 rfl rfl)) (show ¬ ((0 : Int32) < 0 ∨ 20 ≤ (0 : Int32).toNatClampNeg) by decide)) (rI_at 27 0 hI_27_0) dX4_first_18 ?_
  refine z_goto (tgt := 23) B dX4_first_19 (by decide) ?_
  exact z_iret B hr (by decide) (by decide) dX4_first_23 ⟨rfl, rfl⟩
set_option maxRecDepth 100000 in
set_option maxHeartbeats 4000000 in
theorem ci_X4_second_811 (l : Launch) {g : gx_T} {σ : sx_T} {b : Nat} (hK : lay b σ)   (hI_28_0 : sx_I σ (b + 28) 0 = 0) (hR_25_3 : sx_R σ (b + 25) 3 = (some (b + 28))) : Met l yX4_second (.code yX4_second cX4_second 2 (some .int) :: lw_g) { frames := 0, cells := 0, slots := 0, locals := 0 } (va_Pc [.ref (b + 25), .int 0] (zx_w g σ)) (va_Qi (fun r u => r = 0 ∧ u = σ) (zx_w g) (gx_Q g)) 0 0 (gx_Q g) := by
  refine z_met (by decide) (Nat.le_of_ble_eq_true rfl) (fun p e s m below meth c B hr hin => ?_)
  refine z_eqs (σ' := (ap b σ [] [] [])) rfl ?_
  show zx p l e _ s m _ below meth c g 2 0 0 _ _ 0 [(0, .ref (b + 25)), (1, .int 0)] []
  refine z_iload_n B dX4_second_0 rfl 1 rfl ?_
  refine z_if_lt (tgt := 22) B dX4_second_1 (by decide) (fun h => absurd h (by decide)) (fun _ => ?_)
  refine z_iload_n B dX4_second_4 rfl 1 rfl ?_
  refine z_aload_n B dX4_second_5 rfl 0 rfl ?_
  refine gf_X4_18 (x := (some (b + 28))) B (lKA (hk_K hK 25 rfl rfl)) (rR_at 25 3 hR_25_3) dX4_second_6 ?_
  refine z_alen (kd := 13) (ti := 1) (v := 20) B (lKA (hk_K hK 28 rfl rfl)) (by decide) rfl (congrArg Int32.ofNat (lNA (hk_N hK 28 rfl rfl))) dX4_second_9 ?_
  refine z_icmp_ge (tgt := 22) B dX4_second_10 (by decide) (fun h => absurd h (by decide)) (fun _ => ?_)
  refine z_aload_n B dX4_second_13 rfl 0 rfl ?_
  refine gf_X4_18 (x := (some (b + 28))) B (lKA (hk_K hK 25 rfl rfl)) (rR_at 25 3 hR_25_3) dX4_second_14 ?_
  refine z_iload_n B dX4_second_17 rfl 1 rfl ?_
  refine z_iald (j := 0) (x := 0) B (lKA (hk_K hK 28 rfl rfl)) (by decide) (in_of (lNA (hk_N hK 28 rfl rfl)) (show ¬ ((0 : Int32) < 0 ∨ 20 ≤ (0 : Int32).toNatClampNeg) by decide)) (rI_at 28 0 hI_28_0) dX4_second_18 ?_
  refine z_goto (tgt := 23) B dX4_second_19 (by decide) ?_
  exact z_iret B hr (by decide) (by decide) dX4_second_23 ⟨rfl, rfl⟩
set_option maxRecDepth 100000 in
set_option maxHeartbeats 4000000 in
theorem ci_X5_step_812 (l : Launch) {g : gx_T} {σ : sx_T} {b : Nat} (hK : lay b σ) (w1 : Int32)  (hI_26_0 : sx_I σ (b + 26) 0 = 0) (hI_27_0 : sx_I σ (b + 27) 0 = 0) (hI_28_0 : sx_I σ (b + 28) 0 = 0) (hI_41_5 : sx_I σ (b + 41) 5 = 0) (hI_41_6 : sx_I σ (b + 41) 6 = w1) (hI_41_7 : sx_I σ (b + 41) 7 = 0) (hR_25_1 : sx_R σ (b + 25) 1 = (some (b + 26))) (hR_25_2 : sx_R σ (b + 25) 2 = (some (b + 27))) (hR_25_3 : sx_R σ (b + 25) 3 = (some (b + 28))) (hR_41_2 : sx_R σ (b + 41) 2 = (some (b + 25))) : Met l yX5_step (.code yX5_step cX5_step 4 none :: lw_g) { frames := 1, cells := 0, slots := 0, locals := 23 } (va_Pc [.ref (b + 41)] (zx_w g σ)) (va_Qv (fun u => u = (ap b σ [(41, 16, 13), (41, 7, 1), (41, 5, 1)] [(41, 17, ((10 * (w1.toInt64)) + 1))] [])) (zx_w g) (gx_Q g)) 0 0 (gx_Q g) := by
  refine z_met (by decide) (Nat.le_of_ble_eq_true rfl) (fun p e s m below meth c B hr hin => ?_)
  refine z_eqs (σ' := (ap b σ [] [] [])) rfl ?_
  show zx p l e _ s m _ below meth c g 4 0 0 _ _ 0 [(0, .ref (b + 41))] []
  refine z_aload_n B dX5_step_0 rfl 0 rfl ?_
  refine gf_X5_25 (x := (some (b + 25))) B (lKA (hk_K hK 41 rfl rfl)) (rR_at 41 2 hR_41_2) dX5_step_1 ?_
  refine z_aload_n B dX5_step_4 rfl 0 rfl ?_
  refine gf_X5_41 (x := 0) B (lKA (hk_K hK 41 rfl rfl)) (rI_at 41 5 hI_41_5) dX5_step_5 ?_
  refine z_cVi (As := [.int 0]) (rest := []) B cw_X5_155 cx_5 dX5_step_8 (ci_X4_operation_809 l (σ := (ap b σ [] [] [])) (b := b) (lyA hK) (rI_at 26 0 hI_26_0) (rR_at 25 1 hR_25_1)) (lKA (hk_K hK 25 rfl rfl)) rfl (by decide) rfl (Nat.le_of_ble_eq_true rfl) (by decide) (fun r u hu => ?_)
  refine z_eqs (σ' := (ap b σ [] [] [])) hu.2 ?_
  show zx p l e _ s m _ below meth c g 4 0 0 _ _ 11 [(0, .ref (b + 41))] _
  refine z_seti (y := 0) hu.1 ?_
  refine z_istore_n (lv' := [(1, .int 0), (0, .ref (b + 41))]) B dX5_step_11 rfl (by decide) rfl ?_
  refine z_aload_n B dX5_step_12 rfl 1 rfl ?_
  refine gf_X5_25 (x := (some (b + 25))) B (lKA (hk_K hK 41 rfl rfl)) (rR_at 41 2 hR_41_2) dX5_step_13 ?_
  refine z_aload_n B dX5_step_16 rfl 1 rfl ?_
  refine gf_X5_41 (x := 0) B (lKA (hk_K hK 41 rfl rfl)) (rI_at 41 5 hI_41_5) dX5_step_17 ?_
  refine z_cVi (As := [.int 0]) (rest := []) B cw_X5_160 cx_5 dX5_step_20 (ci_X4_first_810 l (σ := (ap b σ [] [] [])) (b := b) (lyA hK) (rI_at 27 0 hI_27_0) (rR_at 25 2 hR_25_2)) (lKA (hk_K hK 25 rfl rfl)) rfl (by decide) rfl (Nat.le_of_ble_eq_true rfl) (by decide) (fun r u hu => ?_)
  refine z_eqs (σ' := (ap b σ [] [] [])) hu.2 ?_
  show zx p l e _ s m _ below meth c g 4 0 0 _ _ 23 [(1, .int 0), (0, .ref (b + 41))] _
  refine z_seti (y := 0) hu.1 ?_
  refine z_istore_n (lv' := [(2, .int 0), (1, .int 0), (0, .ref (b + 41))]) B dX5_step_23 rfl (by decide) rfl ?_
  refine z_aload_n B dX5_step_24 rfl 2 rfl ?_
  refine gf_X5_25 (x := (some (b + 25))) B (lKA (hk_K hK 41 rfl rfl)) (rR_at 41 2 hR_41_2) dX5_step_25 ?_
  refine z_aload_n B dX5_step_28 rfl 2 rfl ?_
  refine gf_X5_41 (x := 0) B (lKA (hk_K hK 41 rfl rfl)) (rI_at 41 5 hI_41_5) dX5_step_29 ?_
  refine z_cVi (As := [.int 0]) (rest := []) B cw_X5_163 cx_5 dX5_step_32 (ci_X4_second_811 l (σ := (ap b σ [] [] [])) (b := b) (lyA hK) (rI_at 28 0 hI_28_0) (rR_at 25 3 hR_25_3)) (lKA (hk_K hK 25 rfl rfl)) rfl (by decide) rfl (Nat.le_of_ble_eq_true rfl) (by decide) (fun r u hu => ?_)
  refine z_eqs (σ' := (ap b σ [] [] [])) hu.2 ?_
  show zx p l e _ s m _ below meth c g 4 0 0 _ _ 35 [(2, .int 0), (1, .int 0), (0, .ref (b + 41))] _
  refine z_seti (y := 0) hu.1 ?_
  refine z_istore_n (lv' := [(3, .int 0), (2, .int 0), (1, .int 0), (0, .ref (b + 41))]) B dX5_step_35 rfl (by decide) rfl ?_
  refine z_aload_n B dX5_step_36 rfl 3 rfl ?_
  refine z_aload_n B dX5_step_37 rfl 3 rfl ?_
  refine gf_X5_41 (x := 0) B (lKA (hk_K hK 41 rfl rfl)) (rI_at 41 5 hI_41_5) dX5_step_38 ?_
  refine z_iconst (v := 1) B dX5_step_41 (by decide) ?_
  refine z_iadd B dX5_step_42 ?_
  refine z_seti (y := 1) (by decide) ?_
  refine z_bipush (v := 20) B dX5_step_43 (by decide) ?_
  refine z_irem B dX5_step_45 (by decide) ?_
  refine z_seti (y := 1) (by decide) ?_
  refine pf_X5_41 (x := 1) (σ' := (ap b σ [(41, 5, 1)] [] [])) B (lKA (hk_K hK 41 rfl rfl)) wI_ap dX5_step_46 ?_
  refine z_aload_n B dX5_step_49 rfl 3 rfl ?_
  refine z_dup B dX5_step_50 rfl ?_
  refine gf_X5_53 (x := 0) B (lKA (hk_K hK 41 rfl rfl)) (rI_at 41 7 hI_41_7) dX5_step_51 ?_
  refine z_iconst (v := 1) B dX5_step_54 (by decide) ?_
  refine z_iadd B dX5_step_55 ?_
  refine z_seti (y := 1) (by decide) ?_
  refine pf_X5_53 (x := 1) (σ' := (ap b σ [(41, 7, 1), (41, 5, 1)] [] [])) B (lKA (hk_K hK 41 rfl rfl)) wI_ap dX5_step_56 ?_
  refine z_aload_n B dX5_step_59 rfl 3 rfl ?_
  refine gf_X5_53 (x := 1) B (lKA (hk_K hK 41 rfl rfl)) (rI_at 41 7 rfl) dX5_step_60 ?_
  refine z_bipush (v := 60) B dX5_step_63 (by decide) ?_
  refine z_icmp_gt (tgt := 77) B dX5_step_65 (by decide) (fun h => absurd h (by decide)) (fun _ => ?_)
  refine z_aload_n B dX5_step_68 rfl 3 rfl ?_
  refine z_iload_n B dX5_step_69 rfl 2 rfl ?_
  refine z_iload_n B dX5_step_70 rfl 1 rfl ?_
  refine z_cVi (As := [.int 0, .int 0]) (rest := []) B cw_X5_166 cx_6 dX5_step_71 (ci_X5_isRefused_674 l (σ := (ap b σ [(41, 7, 1), (41, 5, 1)] [] [])) (b := b) (lyA hK) ) (lKA (hk_K hK 41 rfl rfl)) rfl (by decide) rfl (Nat.le_of_ble_eq_true rfl) (by decide) (fun r u hu => ?_)
  refine z_eqs (σ' := (ap b σ [(41, 7, 1), (41, 5, 1)] [] [])) hu.2 ?_
  show zx p l e _ s m _ below meth c g 4 0 0 _ _ 74 [(3, .int 0), (2, .int 0), (1, .int 0), (0, .ref (b + 41))] _
  refine z_seti (y := 0) hu.1 ?_
  refine z_if_eq (tgt := 82) B dX5_step_74 (by decide) (fun _ => ?_) (fun h => absurd (by decide) h)
  refine z_iload_n B dX5_step_82 rfl 2 rfl ?_
  refine z_tableIn (tgt := 276) B dX5_step_83 (by decide) (by decide) (show _ = some (193 : Int) by decide) (by decide) ?_
  refine z_aload_n B dX5_step_276 rfl 3 rfl ?_
  refine z_bipush (v := 13) B dX5_step_277 (by decide) ?_
  refine z_ldc2 (v := 10) B dX5_step_279 wg_370 ?_
  refine z_aload_n B dX5_step_282 rfl 3 rfl ?_
  refine gf_X5_50 (x := w1) B (lKA (hk_K hK 41 rfl rfl)) (rI_at 41 6 hI_41_6) dX5_step_283 ?_
  refine z_i2l B dX5_step_286 rfl ?_
  refine z_lmul B dX5_step_287 ?_
  refine z_lconst (v := 1) B dX5_step_288 (by decide) ?_
  refine z_ladd B dX5_step_289 ?_
  refine z_cVv (As := [.int 13, .long ((10 * (w1.toInt64)) + 1)]) (rest := []) B cw_X5_114 cx_6 dX5_step_290 (ci_X5_want_675 l (σ := (ap b σ [(41, 7, 1), (41, 5, 1)] [] [])) (b := b) (lyA hK) ((10 * (w1.toInt64)) + 1)) (lKA (hk_K hK 41 rfl rfl)) rfl (by decide) rfl (Nat.le_of_ble_eq_true rfl) (by decide) (fun u hu => ?_)
  refine z_eqs (σ' := (ap b σ [(41, 16, 13), (41, 7, 1), (41, 5, 1)] [(41, 17, ((10 * (w1.toInt64)) + 1))] [])) (hu.trans ap_ap) ?_
  show zx p l e _ s m _ below meth c g 4 0 0 _ _ 293 [(3, .int 0), (2, .int 0), (1, .int 0), (0, .ref (b + 41))] _
  refine z_goto (tgt := 302) B dX5_step_293 (by decide) ?_
  exact z_vret B hr (by decide) (by decide) dX5_step_302 rfl
set_option maxRecDepth 100000 in
set_option maxHeartbeats 4000000 in
theorem ci_X5_advance_813 (l : Launch) {g : gx_T} {σ : sx_T} {b : Nat} (hK : lay b σ) (w1 : Int32)  (hI_26_0 : sx_I σ (b + 26) 0 = 0) (hI_27_0 : sx_I σ (b + 27) 0 = 0) (hI_28_0 : sx_I σ (b + 28) 0 = 0) (hI_41_4 : sx_I σ (b + 41) 4 = 1) (hI_41_5 : sx_I σ (b + 41) 5 = 0) (hI_41_6 : sx_I σ (b + 41) 6 = w1) (hI_41_7 : sx_I σ (b + 41) 7 = 0) (hI_41_8 : sx_I σ (b + 41) 8 = 0) (hI_41_14 : sx_I σ (b + 41) 14 = 0) (hI_41_15 : sx_I σ (b + 41) 15 = 0) (hI_41_16 : sx_I σ (b + 41) 16 = (-1)) (hI_41_19 : sx_I σ (b + 41) 19 = 0) (hR_25_1 : sx_R σ (b + 25) 1 = (some (b + 26))) (hR_25_2 : sx_R σ (b + 25) 2 = (some (b + 27))) (hR_25_3 : sx_R σ (b + 25) 3 = (some (b + 28))) (hR_41_2 : sx_R σ (b + 41) 2 = (some (b + 25))) : Met l yX5_advance (.code yX5_advance cX5_advance 5 none :: lw_g) { frames := 2, cells := 0, slots := 0, locals := 46 } (va_Pc [.ref (b + 41), .int 1] (zx_w g σ)) (va_Qv (fun u => u = (ap b σ [(41, 16, 13), (41, 7, 1), (41, 5, 1)] [(41, 17, ((10 * (w1.toInt64)) + 1))] [])) (zx_w g) (gx_Q g)) 0 0 (gx_Q g) := by
  refine z_met (by decide) (Nat.le_of_ble_eq_true rfl) (fun p e s m below meth c B hr hin => ?_)
  refine z_eqs (σ' := (ap b σ [] [] [])) rfl ?_
  show zx p l e _ s m _ below meth c g 5 0 0 _ _ 0 [(0, .ref (b + 41)), (1, .int 1)] []
  refine z_iconst (v := 1) B dX5_advance_0 (by decide) ?_
  refine z_istore_n (lv' := [(2, .int 1), (0, .ref (b + 41)), (1, .int 1)]) B dX5_advance_1 rfl (by decide) rfl ?_
  refine z_iconst (v := 0) B dX5_advance_2 (by decide) ?_
  refine z_istore_n (lv' := [(3, .int 0), (2, .int 1), (0, .ref (b + 41)), (1, .int 1)]) B dX5_advance_3 rfl (by decide) rfl ?_
  refine z_iload_n B dX5_advance_4 rfl 0 rfl ?_
  refine z_ldc (v := 1000000) B dX5_advance_5 wg_355 ?_
  refine z_icmp_ge (tgt := 122) B dX5_advance_7 (by decide) (fun h => absurd h (by decide)) (fun _ => ?_)
  refine z_iload_n B dX5_advance_10 rfl 1 rfl ?_
  refine z_if_eq (tgt := 122) B dX5_advance_11 (by decide) (fun h => absurd h (by decide)) (fun _ => ?_)
  refine z_aload_n B dX5_advance_14 rfl 2 rfl ?_
  refine gf_X5_38 (x := 1) B (lKA (hk_K hK 41 rfl rfl)) (rI_at 41 4 hI_41_4) dX5_advance_15 ?_
  refine z_iload_n B dX5_advance_18 rfl 3 rfl ?_
  refine z_icmp_ge (tgt := 26) B dX5_advance_19 (by decide) (fun _ => ?_) (fun h => absurd (by decide) h)
  refine z_iconst (v := 0) B dX5_advance_26 (by decide) ?_
  refine z_istore (lv' := [(4, .int 0), (3, .int 0), (2, .int 1), (0, .ref (b + 41)), (1, .int 1)]) B dX5_advance_27 (by decide) rfl ?_
  refine z_aload_n B dX5_advance_29 rfl 3 rfl ?_
  refine gf_X5_91 (x := 0) B (lKA (hk_K hK 41 rfl rfl)) (rI_at 41 19 hI_41_19) dX5_advance_30 ?_
  refine z_if_eq (tgt := 41) B dX5_advance_33 (by decide) (fun _ => ?_) (fun h => absurd (by decide) h)
  refine z_aload_n B dX5_advance_41 rfl 3 rfl ?_
  refine gf_X5_82 (x := (-1)) B (lKA (hk_K hK 41 rfl rfl)) (rI_at 41 16 hI_41_16) dX5_advance_42 ?_
  refine z_iconst (v := (-1)) B dX5_advance_45 (by decide) ?_
  refine z_icmp_eq (tgt := 61) B dX5_advance_46 (by decide) (fun _ => ?_) (fun h => absurd (by decide) h)
  refine z_aload_n B dX5_advance_61 rfl 3 rfl ?_
  refine gf_X5_79 (x := 0) B (lKA (hk_K hK 41 rfl rfl)) (rI_at 41 15 hI_41_15) dX5_advance_62 ?_
  refine z_if_eq (tgt := 79) B dX5_advance_65 (by decide) (fun _ => ?_) (fun h => absurd (by decide) h)
  refine z_aload_n B dX5_advance_79 rfl 3 rfl ?_
  refine gf_X5_56 (x := 0) B (lKA (hk_K hK 41 rfl rfl)) (rI_at 41 8 hI_41_8) dX5_advance_80 ?_
  refine z_if_eq (tgt := 98) B dX5_advance_83 (by decide) (fun _ => ?_) (fun h => absurd (by decide) h)
  refine z_aload_n B dX5_advance_98 rfl 3 rfl ?_
  refine gf_X5_76 (x := 0) B (lKA (hk_K hK 41 rfl rfl)) (rI_at 41 14 hI_41_14) dX5_advance_99 ?_
  refine z_if_eq (tgt := 112) B dX5_advance_102 (by decide) (fun _ => ?_) (fun h => absurd (by decide) h)
  refine z_aload_n B dX5_advance_112 rfl 3 rfl ?_
  refine z_cVv (As := []) (rest := []) B cw_X5_105 cx_6 dX5_advance_113 (ci_X5_step_812 l (σ := (ap b σ [] [] [])) (b := b) (lyA hK) w1 (rI_at 26 0 hI_26_0) (rI_at 27 0 hI_27_0) (rI_at 28 0 hI_28_0) (rI_at 41 5 hI_41_5) (rI_at 41 6 hI_41_6) (rI_at 41 7 hI_41_7) (rR_at 25 1 hR_25_1) (rR_at 25 2 hR_25_2) (rR_at 25 3 hR_25_3) (rR_at 41 2 hR_41_2)) (lKA (hk_K hK 41 rfl rfl)) rfl (by decide) rfl (Nat.le_of_ble_eq_true rfl) (by decide) (fun u hu => ?_)
  refine z_eqs (σ' := (ap b σ [(41, 16, 13), (41, 7, 1), (41, 5, 1)] [(41, 17, ((10 * (w1.toInt64)) + 1))] [])) (hu.trans ap_ap) ?_
  show zx p l e _ s m _ below meth c g 5 0 0 _ _ 116 [(4, .int 0), (3, .int 0), (2, .int 1), (0, .ref (b + 41)), (1, .int 1)] _
  refine z_iinc (v := 1) (lv' := [(3, .int 1), (4, .int 0), (2, .int 1), (0, .ref (b + 41)), (1, .int 1)]) B dX5_advance_116 1 rfl (by decide) (by decide) rfl ?_
  refine z_goto (tgt := 4) B dX5_advance_119 (by decide) ?_
  refine z_iload_n B dX5_advance_4 rfl 0 rfl ?_
  refine z_ldc (v := 1000000) B dX5_advance_5 wg_355 ?_
  refine z_icmp_ge (tgt := 122) B dX5_advance_7 (by decide) (fun h => absurd h (by decide)) (fun _ => ?_)
  refine z_iload_n B dX5_advance_10 rfl 2 rfl ?_
  refine z_if_eq (tgt := 122) B dX5_advance_11 (by decide) (fun h => absurd h (by decide)) (fun _ => ?_)
  refine z_aload_n B dX5_advance_14 rfl 3 rfl ?_
  refine gf_X5_38 (x := 1) B (lKA (hk_K hK 41 rfl rfl)) (rI_at 41 4 hI_41_4) dX5_advance_15 ?_
  refine z_iload_n B dX5_advance_18 rfl 4 rfl ?_
  refine z_icmp_ge (tgt := 26) B dX5_advance_19 (by decide) (fun _ => ?_) (fun h => absurd (by decide) h)
  refine z_iconst (v := 0) B dX5_advance_26 (by decide) ?_
  refine z_istore (lv' := [(4, .int 0), (3, .int 1), (2, .int 1), (0, .ref (b + 41)), (1, .int 1)]) B dX5_advance_27 (by decide) rfl ?_
  refine z_aload_n B dX5_advance_29 rfl 3 rfl ?_
  refine gf_X5_91 (x := 0) B (lKA (hk_K hK 41 rfl rfl)) (rI_at 41 19 hI_41_19) dX5_advance_30 ?_
  refine z_if_eq (tgt := 41) B dX5_advance_33 (by decide) (fun _ => ?_) (fun h => absurd (by decide) h)
  refine z_aload_n B dX5_advance_41 rfl 3 rfl ?_
  refine gf_X5_82 (x := 13) B (lKA (hk_K hK 41 rfl rfl)) (rI_at 41 16 rfl) dX5_advance_42 ?_
  refine z_iconst (v := (-1)) B dX5_advance_45 (by decide) ?_
  refine z_icmp_eq (tgt := 61) B dX5_advance_46 (by decide) (fun h => absurd h (by decide)) (fun _ => ?_)
  refine z_iload B dX5_advance_49 0 rfl ?_
  refine z_istore_n (lv' := [(2, .int 0), (4, .int 0), (3, .int 1), (0, .ref (b + 41)), (1, .int 1)]) B dX5_advance_51 rfl (by decide) rfl ?_
  refine z_aload_n B dX5_advance_52 rfl 3 rfl ?_
  refine z_iload B dX5_advance_53 1 rfl ?_
  refine z_cVv (As := [.int 0]) (rest := []) B cw_X5_95 cx_6 dX5_advance_55 (ci_X5_takeWanted_677 l (σ := (ap b σ [(41, 16, 13), (41, 7, 1), (41, 5, 1)] [(41, 17, ((10 * (w1.toInt64)) + 1))] [])) (b := b) (lyA hK) ) (lKA (hk_K hK 41 rfl rfl)) rfl (by decide) rfl (Nat.le_of_ble_eq_true rfl) (by decide) (fun u hu => ?_)
  refine z_eqs (σ' := (ap b σ [(41, 16, 13), (41, 7, 1), (41, 5, 1)] [(41, 17, ((10 * (w1.toInt64)) + 1))] [])) hu ?_
  show zx p l e _ s m _ below meth c g 5 0 0 _ _ 58 [(2, .int 0), (4, .int 0), (3, .int 1), (0, .ref (b + 41)), (1, .int 1)] _
  refine z_goto (tgt := 116) B dX5_advance_58 (by decide) ?_
  refine z_iinc (v := 2) (lv' := [(3, .int 2), (2, .int 0), (4, .int 0), (0, .ref (b + 41)), (1, .int 1)]) B dX5_advance_116 2 rfl (by decide) (by decide) rfl ?_
  refine z_goto (tgt := 4) B dX5_advance_119 (by decide) ?_
  refine z_iload_n B dX5_advance_4 rfl 0 rfl ?_
  refine z_ldc (v := 1000000) B dX5_advance_5 wg_355 ?_
  refine z_icmp_ge (tgt := 122) B dX5_advance_7 (by decide) (fun h => absurd h (by decide)) (fun _ => ?_)
  refine z_iload_n B dX5_advance_10 rfl 1 rfl ?_
  refine z_if_eq (tgt := 122) B dX5_advance_11 (by decide) (fun _ => ?_) (fun h => absurd (by decide) h)
  exact z_vret B hr (by decide) (by decide) dX5_advance_122 rfl
set_option maxRecDepth 100000 in
set_option maxHeartbeats 4000000 in
theorem ci_X8_goOn_814 (l : Launch) {g : gx_T} {σ : sx_T} {b : Nat} (hK : lay b σ) (w1 : Int32) (q1_w1 : (-999 : Int) ≤ w1.toInt) (q2_w1 : w1.toInt ≤ (-1 : Int)) (hI_5_1 : sx_I σ (b + 5) 1 = 0) (hI_5_2 : sx_I σ (b + 5) 2 = 0) (hI_7_1 : sx_I σ (b + 7) 1 = 0) (hI_7_2 : sx_I σ (b + 7) 2 = 0) (hI_26_0 : sx_I σ (b + 26) 0 = 0) (hI_27_0 : sx_I σ (b + 27) 0 = 0) (hI_28_0 : sx_I σ (b + 28) 0 = 0) (hI_37_2 : sx_I σ (b + 37) 2 = 1) (hI_40_4 : sx_I σ (b + 40) 4 = (-1)) (hI_40_8 : sx_I σ (b + 40) 8 = 0) (hI_41_4 : sx_I σ (b + 41) 4 = 1) (hI_41_5 : sx_I σ (b + 41) 5 = 0) (hI_41_6 : sx_I σ (b + 41) 6 = w1) (hI_41_7 : sx_I σ (b + 41) 7 = 0) (hI_41_8 : sx_I σ (b + 41) 8 = 0) (hI_41_14 : sx_I σ (b + 41) 14 = 0) (hI_41_15 : sx_I σ (b + 41) 15 = 0) (hI_41_16 : sx_I σ (b + 41) 16 = (-1)) (hI_41_18 : sx_I σ (b + 41) 18 = (-1)) (hI_41_19 : sx_I σ (b + 41) 19 = 0) (hR_0_4 : sx_R σ (b + 0) 4 = (some (b + 5))) (hR_0_5 : sx_R σ (b + 0) 5 = (some (b + 7))) (hR_5_0 : sx_R σ (b + 5) 0 = (some (b + 6))) (hR_25_1 : sx_R σ (b + 25) 1 = (some (b + 26))) (hR_25_2 : sx_R σ (b + 25) 2 = (some (b + 27))) (hR_25_3 : sx_R σ (b + 25) 3 = (some (b + 28))) (hR_37_0 : sx_R σ (b + 37) 0 = (some (b + 38))) (hR_37_1 : sx_R σ (b + 37) 1 = (some (b + 39))) (hR_40_1 : sx_R σ (b + 40) 1 = (some (b + 37))) (hR_40_2 : sx_R σ (b + 40) 2 = (some (b + 41))) (hR_40_7 : sx_R σ (b + 40) 7 = none) (hR_41_2 : sx_R σ (b + 41) 2 = (some (b + 25))) (hR_41_3 : sx_R σ (b + 41) 3 = (some (b + 37))) : Met l yX8_goOn (.code yX8_goOn cX8_goOn 5 none :: lw_g) { frames := 3, cells := 0, slots := 0, locals := 72 } (va_Pc [.ref (b + 0), .ref (b + 40)] (zx_w g σ)) (va_Qv (fun u => u = (ap b σ [(7, 2, 0), (7, 1, 0), (40, 8, 2), (5, 2, 0), (41, 19, 0), (41, 19, 0), (41, 15, 1), (41, 4, 2), (41, 16, (-1)), (37, 2, 2), (38, 1, 13), (41, 16, 13), (41, 7, 1), (41, 5, 1), (5, 2, 1)] [(39, 1, ((10 * (w1.toInt64)) + 1)), (41, 17, ((10 * (w1.toInt64)) + 1))] [(6, 0, (some (b + 40)))])) (zx_w g) (gx_Q g)) 0 0 (gx_Q g) := by
  refine z_met (by decide) (Nat.le_of_ble_eq_true rfl) (fun p e s m below meth c B hr hin => ?_)
  refine z_eqs (σ' := (ap b σ [] [] [])) rfl ?_
  show zx p l e _ s m _ below meth c g 5 0 0 _ _ 0 [(0, .ref (b + 0)), (1, .ref (b + 40))] []
  refine z_aload_n B dX8_goOn_0 rfl 0 rfl ?_
  refine gf_X8_35 (x := (some (b + 5))) B (lKA (hk_K hK 0 rfl rfl)) (rR_at 0 4 hR_0_4) dX8_goOn_1 ?_
  refine z_aload_n B dX8_goOn_4 rfl 1 rfl ?_
  refine z_cVv (As := [.ref (b + 40)]) (rest := []) B cw_X8_337 cx_3 dX8_goOn_5 (ci_X2_addLast_667 l (σ := (ap b σ [] [] [])) (b := b) (lyA hK) (rI_at 5 2 hI_5_2) (rR_at 5 0 hR_5_0)) (lKA (hk_K hK 5 rfl rfl)) rfl (by decide) rfl (Nat.le_of_ble_eq_true rfl) (by decide) (fun u hu => ?_)
  refine z_eqs (σ' := (ap b σ [(5, 2, 1)] [] [(6, 0, (some (b + 40)))])) (hu.trans ap_ap) ?_
  show zx p l e _ s m _ below meth c g 5 0 0 _ _ 8 [(0, .ref (b + 0)), (1, .ref (b + 40))] _
  refine z_iconst (v := 0) B dX8_goOn_8 (by decide) ?_
  refine z_istore_n (lv' := [(2, .int 0), (0, .ref (b + 0)), (1, .ref (b + 40))]) B dX8_goOn_9 rfl (by decide) rfl ?_
  refine z_iload_n B dX8_goOn_10 rfl 0 rfl ?_
  refine z_ldcw (v := 1000000) B dX8_goOn_11 wg_515 ?_
  refine z_icmp_ge (tgt := 126) B dX8_goOn_14 (by decide) (fun h => absurd h (by decide)) (fun _ => ?_)
  refine z_aload_n B dX8_goOn_17 rfl 1 rfl ?_
  refine gf_X8_35 (x := (some (b + 5))) B (lKA (hk_K hK 0 rfl rfl)) (rR_at 0 4 hR_0_4) dX8_goOn_18 ?_
  refine z_cVi (As := []) (rest := []) B cw_X8_341 cx_3 dX8_goOn_21 (ci_X2_isEmpty_668 l (σ := (ap b σ [(5, 2, 1)] [] [(6, 0, (some (b + 40)))])) (b := b) (lyA hK) (rI_at 5 1 hI_5_1) (rI_at 5 2 rfl)) (lKA (hk_K hK 5 rfl rfl)) rfl (by decide) rfl (Nat.le_of_ble_eq_true rfl) (by decide) (fun r u hu => ?_)
  refine z_eqs (σ' := (ap b σ [(5, 2, 1)] [] [(6, 0, (some (b + 40)))])) hu.2 ?_
  show zx p l e _ s m _ below meth c g 5 0 0 _ _ 24 [(2, .int 0), (0, .ref (b + 0)), (1, .ref (b + 40))] _
  refine z_seti (y := 0) hu.1 ?_
  refine z_if_eq (tgt := 41) B dX8_goOn_24 (by decide) (fun _ => ?_) (fun h => absurd (by decide) h)
  refine z_aload_n B dX8_goOn_41 rfl 1 rfl ?_
  refine gf_X8_35 (x := (some (b + 5))) B (lKA (hk_K hK 0 rfl rfl)) (rR_at 0 4 hR_0_4) dX8_goOn_42 ?_
  refine z_cVq (As := []) (rest := []) B cw_X8_348 cx_3 dX8_goOn_45 (ci_X2_last_669 l (σ := (ap b σ [(5, 2, 1)] [] [(6, 0, (some (b + 40)))])) (b := b) (lyA hK) (rI_at 5 1 hI_5_1) (rI_at 5 2 rfl) (rR_at 5 0 hR_5_0) (rR_at 6 0 rfl)) (lKA (hk_K hK 5 rfl rfl)) rfl (by decide) rfl (Nat.le_of_ble_eq_true rfl) (by decide) (fun r u hu => ?_)
  refine z_eqs (σ' := (ap b σ [(5, 2, 1)] [] [(6, 0, (some (b + 40)))])) hu.2 ?_
  show zx p l e _ s m _ below meth c g 5 0 0 _ _ 48 [(2, .int 0), (0, .ref (b + 0)), (1, .ref (b + 40))] _
  refine z_setr (y := (some (b + 40))) hu.1 ?_
  refine z_astore_n (lv' := [(3, .ref (b + 40)), (2, .int 0), (0, .ref (b + 0)), (1, .ref (b + 40))]) B dX8_goOn_48 rfl (by decide) rfl ?_
  refine z_aload_n B dX8_goOn_49 rfl 0 rfl ?_
  refine z_ifnonnull (r := (some (b + 40))) (tgt := 54) B dX8_goOn_50 (by decide) (fun _ _ => ?_) (fun h => nomatch h)
  refine z_aload_n B dX8_goOn_54 rfl 0 rfl ?_
  refine gf_X8_249 (x := (some (b + 41))) B (lKA (hk_K hK 40 rfl rfl)) (rR_at 40 2 hR_40_2) dX8_goOn_55 ?_
  refine z_aload_n B dX8_goOn_58 rfl 0 rfl ?_
  refine gf_X8_179 (x := (some (b + 37))) B (lKA (hk_K hK 40 rfl rfl)) (rR_at 40 1 hR_40_1) dX8_goOn_59 ?_
  refine z_cVi (As := []) (rest := [.ref (b + 41)]) B cw_X8_183 cx_2 dX8_goOn_62 (ci_X1_size_670 l (σ := (ap b σ [(5, 2, 1)] [] [(6, 0, (some (b + 40)))])) (b := b) (lyA hK) (rI_at 37 2 hI_37_2)) (lKA (hk_K hK 37 rfl rfl)) rfl (by decide) rfl (Nat.le_of_ble_eq_true rfl) (by decide) (fun r u hu => ?_)
  refine z_eqs (σ' := (ap b σ [(5, 2, 1)] [] [(6, 0, (some (b + 40)))])) hu.2 ?_
  show zx p l e _ s m _ below meth c g 5 0 0 _ _ 65 [(3, .ref (b + 40)), (2, .int 0), (0, .ref (b + 0)), (1, .ref (b + 40))] _
  refine z_seti (y := 1) hu.1 ?_
  refine z_cVv (As := [.int 1]) (rest := []) B cw_X8_289 cx_6 dX8_goOn_65 (ci_X5_advance_813 l (σ := (ap b σ [(5, 2, 1)] [] [(6, 0, (some (b + 40)))])) (b := b) (lyA hK) w1 (rI_at 26 0 hI_26_0) (rI_at 27 0 hI_27_0) (rI_at 28 0 hI_28_0) (rI_at 41 4 hI_41_4) (rI_at 41 5 hI_41_5) (rI_at 41 6 hI_41_6) (rI_at 41 7 hI_41_7) (rI_at 41 8 hI_41_8) (rI_at 41 14 hI_41_14) (rI_at 41 15 hI_41_15) (rI_at 41 16 hI_41_16) (rI_at 41 19 hI_41_19) (rR_at 25 1 hR_25_1) (rR_at 25 2 hR_25_2) (rR_at 25 3 hR_25_3) (rR_at 41 2 hR_41_2)) (lKA (hk_K hK 41 rfl rfl)) rfl (by decide) rfl (Nat.le_of_ble_eq_true rfl) (by decide) (fun u hu => ?_)
  refine z_eqs (σ' := (ap b σ [(41, 16, 13), (41, 7, 1), (41, 5, 1), (5, 2, 1)] [(41, 17, ((10 * (w1.toInt64)) + 1))] [(6, 0, (some (b + 40)))])) (hu.trans ap_ap) ?_
  show zx p l e _ s m _ below meth c g 5 0 0 _ _ 68 [(3, .ref (b + 40)), (2, .int 0), (0, .ref (b + 0)), (1, .ref (b + 40))] _
  refine z_aload_n B dX8_goOn_68 rfl 0 rfl ?_
  refine z_cVv (As := []) (rest := []) B cw_X8_351 cx_1 dX8_goOn_69 (ci_X0_letGo_679 l (σ := (ap b σ [(41, 16, 13), (41, 7, 1), (41, 5, 1), (5, 2, 1)] [(41, 17, ((10 * (w1.toInt64)) + 1))] [(6, 0, (some (b + 40)))])) (b := b) (lyA hK) (rR_at 40 7 hR_40_7)) (lKA (hk_K hK 40 rfl rfl)) rfl (by decide) rfl (Nat.le_of_ble_eq_true rfl) (by decide) (fun u hu => ?_)
  refine z_eqs (σ' := (ap b σ [(41, 16, 13), (41, 7, 1), (41, 5, 1), (5, 2, 1)] [(41, 17, ((10 * (w1.toInt64)) + 1))] [(6, 0, (some (b + 40)))])) hu ?_
  show zx p l e _ s m _ below meth c g 5 0 0 _ _ 72 [(3, .ref (b + 40)), (2, .int 0), (0, .ref (b + 0)), (1, .ref (b + 40))] _
  refine z_aload_n B dX8_goOn_72 rfl 0 rfl ?_
  refine gf_X8_249 (x := (some (b + 41))) B (lKA (hk_K hK 40 rfl rfl)) (rR_at 40 2 hR_40_2) dX8_goOn_73 ?_
  refine z_cVi (As := []) (rest := []) B cw_X8_354 cx_6 dX8_goOn_76 (ci_X5_wantsEvent_680 l (σ := (ap b σ [(41, 16, 13), (41, 7, 1), (41, 5, 1), (5, 2, 1)] [(41, 17, ((10 * (w1.toInt64)) + 1))] [(6, 0, (some (b + 40)))])) (b := b) (lyA hK) (rI_at 41 16 rfl) (rI_at 41 19 hI_41_19)) (lKA (hk_K hK 41 rfl rfl)) rfl (by decide) rfl (Nat.le_of_ble_eq_true rfl) (by decide) (fun r u hu => ?_)
  refine z_eqs (σ' := (ap b σ [(41, 16, 13), (41, 7, 1), (41, 5, 1), (5, 2, 1)] [(41, 17, ((10 * (w1.toInt64)) + 1))] [(6, 0, (some (b + 40)))])) hu.2 ?_
  show zx p l e _ s m _ below meth c g 5 0 0 _ _ 79 [(3, .ref (b + 40)), (2, .int 0), (0, .ref (b + 0)), (1, .ref (b + 40))] _
  refine z_seti (y := 1) hu.1 ?_
  refine z_if_eq (tgt := 115) B dX8_goOn_79 (by decide) (fun h => absurd h (by decide)) (fun _ => ?_)
  refine z_aload_n B dX8_goOn_82 rfl 2 rfl ?_
  refine z_aload_n B dX8_goOn_83 rfl 0 rfl ?_
  refine z_cVq (As := [.ref (b + 40)]) (rest := []) B cw_X8_357 cx_9 dX8_goOn_84 (ci_X8_make_684 l (σ := (ap b σ [(41, 16, 13), (41, 7, 1), (41, 5, 1), (5, 2, 1)] [(41, 17, ((10 * (w1.toInt64)) + 1))] [(6, 0, (some (b + 40)))])) (b := b) (lyA hK) ((10 * (w1.toInt64)) + 1) (rI_at 37 2 hI_37_2) (rI_at 40 4 hI_40_4) (rI_at 41 16 rfl) (rJ_at 41 17 rfl) (rR_at 37 0 hR_37_0) (rR_at 37 1 hR_37_1) (rR_at 40 1 hR_40_1) (rR_at 40 2 hR_40_2)) (lKA (hk_K hK 0 rfl rfl)) rfl (by decide) rfl (Nat.le_of_ble_eq_true rfl) (by decide) (fun r u hu => ?_)
  refine z_eqs (σ' := (ap b σ [(37, 2, 2), (38, 1, 13), (41, 16, 13), (41, 7, 1), (41, 5, 1), (5, 2, 1)] [(39, 1, ((10 * (w1.toInt64)) + 1)), (41, 17, ((10 * (w1.toInt64)) + 1))] [(6, 0, (some (b + 40)))])) (hu.2.trans ap_ap) ?_
  show zx p l e _ s m _ below meth c g 5 0 0 _ _ 87 [(3, .ref (b + 40)), (2, .int 0), (0, .ref (b + 0)), (1, .ref (b + 40))] _
  refine z_setr (y := none) hu.1 ?_
  refine z_qstore (r := none) (lv' := [(4, .null), (3, .ref (b + 40)), (2, .int 0), (0, .ref (b + 0)), (1, .ref (b + 40))]) B dX8_goOn_87 (by decide) rfl ?_
  refine z_aload_n B dX8_goOn_89 rfl 1 rfl ?_
  refine gf_X8_249 (x := (some (b + 41))) B (lKA (hk_K hK 40 rfl rfl)) (rR_at 40 2 hR_40_2) dX8_goOn_90 ?_
  refine z_aload_n B dX8_goOn_93 rfl 1 rfl ?_
  refine gf_X8_179 (x := (some (b + 37))) B (lKA (hk_K hK 40 rfl rfl)) (rR_at 40 1 hR_40_1) dX8_goOn_94 ?_
  refine z_cVi (As := []) (rest := [.ref (b + 41)]) B cw_X8_183 cx_2 dX8_goOn_97 (ci_X1_size_685 l (σ := (ap b σ [(37, 2, 2), (38, 1, 13), (41, 16, 13), (41, 7, 1), (41, 5, 1), (5, 2, 1)] [(39, 1, ((10 * (w1.toInt64)) + 1)), (41, 17, ((10 * (w1.toInt64)) + 1))] [(6, 0, (some (b + 40)))])) (b := b) (lyA hK) (rI_at 37 2 rfl)) (lKA (hk_K hK 37 rfl rfl)) rfl (by decide) rfl (Nat.le_of_ble_eq_true rfl) (by decide) (fun r u hu => ?_)
  refine z_eqs (σ' := (ap b σ [(37, 2, 2), (38, 1, 13), (41, 16, 13), (41, 7, 1), (41, 5, 1), (5, 2, 1)] [(39, 1, ((10 * (w1.toInt64)) + 1)), (41, 17, ((10 * (w1.toInt64)) + 1))] [(6, 0, (some (b + 40)))])) hu.2 ?_
  show zx p l e _ s m _ below meth c g 5 0 0 _ _ 100 [(4, .null), (3, .ref (b + 40)), (2, .int 0), (0, .ref (b + 0)), (1, .ref (b + 40))] _
  refine z_seti (y := 2) hu.1 ?_
  refine z_cVv (As := [.int 2]) (rest := []) B cw_X8_289 cx_6 dX8_goOn_100 (ci_X5_advance_690 l (σ := (ap b σ [(37, 2, 2), (38, 1, 13), (41, 16, 13), (41, 7, 1), (41, 5, 1), (5, 2, 1)] [(39, 1, ((10 * (w1.toInt64)) + 1)), (41, 17, ((10 * (w1.toInt64)) + 1))] [(6, 0, (some (b + 40)))])) (b := b) (lyA hK) ((10 * (w1.toInt64)) + 1) (iv_ladd (c := 1) (n := 1) rfl (iv_lmul (c := 10) (n := 10) rfl (by decide) (iv_i2l q1_w1 q2_w1).1 (iv_i2l q1_w1 q2_w1).2 (by decide) (by decide)).1 (iv_lmul (c := 10) (n := 10) rfl (by decide) (iv_i2l q1_w1 q2_w1).1 (iv_i2l q1_w1 q2_w1).2 (by decide) (by decide)).2 (by decide) (by decide)).1 (iv_ladd (c := 1) (n := 1) rfl (iv_lmul (c := 10) (n := 10) rfl (by decide) (iv_i2l q1_w1 q2_w1).1 (iv_i2l q1_w1 q2_w1).2 (by decide) (by decide)).1 (iv_lmul (c := 10) (n := 10) rfl (by decide) (iv_i2l q1_w1 q2_w1).1 (iv_i2l q1_w1 q2_w1).2 (by decide) (by decide)).2 (by decide) (by decide)).2 (rI_at 37 2 rfl) (rI_at 38 1 rfl) (rI_at 41 4 hI_41_4) (rI_at 41 16 rfl) (rI_at 41 19 hI_41_19) (rJ_at 39 1 rfl) (rJ_at 41 17 rfl) (rR_at 37 0 hR_37_0) (rR_at 37 1 hR_37_1) (rR_at 41 3 hR_41_3)) (lKA (hk_K hK 41 rfl rfl)) rfl (by decide) rfl (Nat.le_of_ble_eq_true rfl) (by decide) (fun u hu => ?_)
  refine z_eqs (σ' := (ap b σ [(41, 19, 0), (41, 15, 1), (41, 4, 2), (41, 16, (-1)), (37, 2, 2), (38, 1, 13), (41, 16, 13), (41, 7, 1), (41, 5, 1), (5, 2, 1)] [(39, 1, ((10 * (w1.toInt64)) + 1)), (41, 17, ((10 * (w1.toInt64)) + 1))] [(6, 0, (some (b + 40)))])) (hu.trans ap_ap) ?_
  show zx p l e _ s m _ below meth c g 5 0 0 _ _ 103 [(4, .null), (3, .ref (b + 40)), (2, .int 0), (0, .ref (b + 0)), (1, .ref (b + 40))] _
  refine z_aload_n B dX8_goOn_103 rfl 3 rfl ?_
  refine gf_X8_35 (x := (some (b + 5))) B (lKA (hk_K hK 0 rfl rfl)) (rR_at 0 4 hR_0_4) dX8_goOn_104 ?_
  refine z_qload (r := none) B dX8_goOn_107 0 rfl ?_
  refine z_cVv (As := [.null]) (rest := []) B cw_X8_337 cx_3 dX8_goOn_109 (ci_X2_addLast_691 l (σ := (ap b σ [(41, 19, 0), (41, 15, 1), (41, 4, 2), (41, 16, (-1)), (37, 2, 2), (38, 1, 13), (41, 16, 13), (41, 7, 1), (41, 5, 1), (5, 2, 1)] [(39, 1, ((10 * (w1.toInt64)) + 1)), (41, 17, ((10 * (w1.toInt64)) + 1))] [(6, 0, (some (b + 40)))])) (b := b) (lyA hK) ) (lKA (hk_K hK 5 rfl rfl)) rfl (by decide) rfl (Nat.le_of_ble_eq_true rfl) (by decide) (fun u hu => ?_)
  refine z_eqs (σ' := (ap b σ [(41, 19, 0), (41, 15, 1), (41, 4, 2), (41, 16, (-1)), (37, 2, 2), (38, 1, 13), (41, 16, 13), (41, 7, 1), (41, 5, 1), (5, 2, 1)] [(39, 1, ((10 * (w1.toInt64)) + 1)), (41, 17, ((10 * (w1.toInt64)) + 1))] [(6, 0, (some (b + 40)))])) hu ?_
  show zx p l e _ s m _ below meth c g 5 0 0 _ _ 112 [(4, .null), (3, .ref (b + 40)), (2, .int 0), (0, .ref (b + 0)), (1, .ref (b + 40))] _
  refine z_goto (tgt := 120) B dX8_goOn_112 (by decide) ?_
  refine z_iinc (v := 1) (lv' := [(2, .int 1), (4, .null), (3, .ref (b + 40)), (0, .ref (b + 0)), (1, .ref (b + 40))]) B dX8_goOn_120 2 rfl (by decide) (by decide) rfl ?_
  refine z_goto (tgt := 10) B dX8_goOn_123 (by decide) ?_
  refine z_iload_n B dX8_goOn_10 rfl 0 rfl ?_
  refine z_ldcw (v := 1000000) B dX8_goOn_11 wg_515 ?_
  refine z_icmp_ge (tgt := 126) B dX8_goOn_14 (by decide) (fun h => absurd h (by decide)) (fun _ => ?_)
  refine z_aload_n B dX8_goOn_17 rfl 3 rfl ?_
  refine gf_X8_35 (x := (some (b + 5))) B (lKA (hk_K hK 0 rfl rfl)) (rR_at 0 4 hR_0_4) dX8_goOn_18 ?_
  refine z_cVi (As := []) (rest := []) B cw_X8_341 cx_3 dX8_goOn_21 (ci_X2_isEmpty_668 l (σ := (ap b σ [(41, 19, 0), (41, 15, 1), (41, 4, 2), (41, 16, (-1)), (37, 2, 2), (38, 1, 13), (41, 16, 13), (41, 7, 1), (41, 5, 1), (5, 2, 1)] [(39, 1, ((10 * (w1.toInt64)) + 1)), (41, 17, ((10 * (w1.toInt64)) + 1))] [(6, 0, (some (b + 40)))])) (b := b) (lyA hK) (rI_at 5 1 hI_5_1) (rI_at 5 2 rfl)) (lKA (hk_K hK 5 rfl rfl)) rfl (by decide) rfl (Nat.le_of_ble_eq_true rfl) (by decide) (fun r u hu => ?_)
  refine z_eqs (σ' := (ap b σ [(41, 19, 0), (41, 15, 1), (41, 4, 2), (41, 16, (-1)), (37, 2, 2), (38, 1, 13), (41, 16, 13), (41, 7, 1), (41, 5, 1), (5, 2, 1)] [(39, 1, ((10 * (w1.toInt64)) + 1)), (41, 17, ((10 * (w1.toInt64)) + 1))] [(6, 0, (some (b + 40)))])) hu.2 ?_
  show zx p l e _ s m _ below meth c g 5 0 0 _ _ 24 [(2, .int 1), (4, .null), (3, .ref (b + 40)), (0, .ref (b + 0)), (1, .ref (b + 40))] _
  refine z_seti (y := 0) hu.1 ?_
  refine z_if_eq (tgt := 41) B dX8_goOn_24 (by decide) (fun _ => ?_) (fun h => absurd (by decide) h)
  refine z_aload_n B dX8_goOn_41 rfl 3 rfl ?_
  refine gf_X8_35 (x := (some (b + 5))) B (lKA (hk_K hK 0 rfl rfl)) (rR_at 0 4 hR_0_4) dX8_goOn_42 ?_
  refine z_cVq (As := []) (rest := []) B cw_X8_348 cx_3 dX8_goOn_45 (ci_X2_last_669 l (σ := (ap b σ [(41, 19, 0), (41, 15, 1), (41, 4, 2), (41, 16, (-1)), (37, 2, 2), (38, 1, 13), (41, 16, 13), (41, 7, 1), (41, 5, 1), (5, 2, 1)] [(39, 1, ((10 * (w1.toInt64)) + 1)), (41, 17, ((10 * (w1.toInt64)) + 1))] [(6, 0, (some (b + 40)))])) (b := b) (lyA hK) (rI_at 5 1 hI_5_1) (rI_at 5 2 rfl) (rR_at 5 0 hR_5_0) (rR_at 6 0 rfl)) (lKA (hk_K hK 5 rfl rfl)) rfl (by decide) rfl (Nat.le_of_ble_eq_true rfl) (by decide) (fun r u hu => ?_)
  refine z_eqs (σ' := (ap b σ [(41, 19, 0), (41, 15, 1), (41, 4, 2), (41, 16, (-1)), (37, 2, 2), (38, 1, 13), (41, 16, 13), (41, 7, 1), (41, 5, 1), (5, 2, 1)] [(39, 1, ((10 * (w1.toInt64)) + 1)), (41, 17, ((10 * (w1.toInt64)) + 1))] [(6, 0, (some (b + 40)))])) hu.2 ?_
  show zx p l e _ s m _ below meth c g 5 0 0 _ _ 48 [(2, .int 1), (4, .null), (3, .ref (b + 40)), (0, .ref (b + 0)), (1, .ref (b + 40))] _
  refine z_setr (y := (some (b + 40))) hu.1 ?_
  refine z_astore_n (lv' := [(3, .ref (b + 40)), (2, .int 1), (4, .null), (0, .ref (b + 0)), (1, .ref (b + 40))]) B dX8_goOn_48 rfl (by decide) rfl ?_
  refine z_aload_n B dX8_goOn_49 rfl 0 rfl ?_
  refine z_ifnonnull (r := (some (b + 40))) (tgt := 54) B dX8_goOn_50 (by decide) (fun _ _ => ?_) (fun h => nomatch h)
  refine z_aload_n B dX8_goOn_54 rfl 0 rfl ?_
  refine gf_X8_249 (x := (some (b + 41))) B (lKA (hk_K hK 40 rfl rfl)) (rR_at 40 2 hR_40_2) dX8_goOn_55 ?_
  refine z_aload_n B dX8_goOn_58 rfl 0 rfl ?_
  refine gf_X8_179 (x := (some (b + 37))) B (lKA (hk_K hK 40 rfl rfl)) (rR_at 40 1 hR_40_1) dX8_goOn_59 ?_
  refine z_cVi (As := []) (rest := [.ref (b + 41)]) B cw_X8_183 cx_2 dX8_goOn_62 (ci_X1_size_685 l (σ := (ap b σ [(41, 19, 0), (41, 15, 1), (41, 4, 2), (41, 16, (-1)), (37, 2, 2), (38, 1, 13), (41, 16, 13), (41, 7, 1), (41, 5, 1), (5, 2, 1)] [(39, 1, ((10 * (w1.toInt64)) + 1)), (41, 17, ((10 * (w1.toInt64)) + 1))] [(6, 0, (some (b + 40)))])) (b := b) (lyA hK) (rI_at 37 2 rfl)) (lKA (hk_K hK 37 rfl rfl)) rfl (by decide) rfl (Nat.le_of_ble_eq_true rfl) (by decide) (fun r u hu => ?_)
  refine z_eqs (σ' := (ap b σ [(41, 19, 0), (41, 15, 1), (41, 4, 2), (41, 16, (-1)), (37, 2, 2), (38, 1, 13), (41, 16, 13), (41, 7, 1), (41, 5, 1), (5, 2, 1)] [(39, 1, ((10 * (w1.toInt64)) + 1)), (41, 17, ((10 * (w1.toInt64)) + 1))] [(6, 0, (some (b + 40)))])) hu.2 ?_
  show zx p l e _ s m _ below meth c g 5 0 0 _ _ 65 [(3, .ref (b + 40)), (2, .int 1), (4, .null), (0, .ref (b + 0)), (1, .ref (b + 40))] _
  refine z_seti (y := 2) hu.1 ?_
  refine z_cVv (As := [.int 2]) (rest := []) B cw_X8_289 cx_6 dX8_goOn_65 (ci_X5_advance_692 l (σ := (ap b σ [(41, 19, 0), (41, 15, 1), (41, 4, 2), (41, 16, (-1)), (37, 2, 2), (38, 1, 13), (41, 16, 13), (41, 7, 1), (41, 5, 1), (5, 2, 1)] [(39, 1, ((10 * (w1.toInt64)) + 1)), (41, 17, ((10 * (w1.toInt64)) + 1))] [(6, 0, (some (b + 40)))])) (b := b) (lyA hK) (rI_at 41 4 rfl) (rI_at 41 15 rfl) (rI_at 41 16 rfl) (rI_at 41 19 rfl)) (lKA (hk_K hK 41 rfl rfl)) rfl (by decide) rfl (Nat.le_of_ble_eq_true rfl) (by decide) (fun u hu => ?_)
  refine z_eqs (σ' := (ap b σ [(41, 19, 0), (41, 19, 0), (41, 15, 1), (41, 4, 2), (41, 16, (-1)), (37, 2, 2), (38, 1, 13), (41, 16, 13), (41, 7, 1), (41, 5, 1), (5, 2, 1)] [(39, 1, ((10 * (w1.toInt64)) + 1)), (41, 17, ((10 * (w1.toInt64)) + 1))] [(6, 0, (some (b + 40)))])) (hu.trans ap_ap) ?_
  show zx p l e _ s m _ below meth c g 5 0 0 _ _ 68 [(3, .ref (b + 40)), (2, .int 1), (4, .null), (0, .ref (b + 0)), (1, .ref (b + 40))] _
  refine z_aload_n B dX8_goOn_68 rfl 0 rfl ?_
  refine z_cVv (As := []) (rest := []) B cw_X8_351 cx_1 dX8_goOn_69 (ci_X0_letGo_679 l (σ := (ap b σ [(41, 19, 0), (41, 19, 0), (41, 15, 1), (41, 4, 2), (41, 16, (-1)), (37, 2, 2), (38, 1, 13), (41, 16, 13), (41, 7, 1), (41, 5, 1), (5, 2, 1)] [(39, 1, ((10 * (w1.toInt64)) + 1)), (41, 17, ((10 * (w1.toInt64)) + 1))] [(6, 0, (some (b + 40)))])) (b := b) (lyA hK) (rR_at 40 7 hR_40_7)) (lKA (hk_K hK 40 rfl rfl)) rfl (by decide) rfl (Nat.le_of_ble_eq_true rfl) (by decide) (fun u hu => ?_)
  refine z_eqs (σ' := (ap b σ [(41, 19, 0), (41, 19, 0), (41, 15, 1), (41, 4, 2), (41, 16, (-1)), (37, 2, 2), (38, 1, 13), (41, 16, 13), (41, 7, 1), (41, 5, 1), (5, 2, 1)] [(39, 1, ((10 * (w1.toInt64)) + 1)), (41, 17, ((10 * (w1.toInt64)) + 1))] [(6, 0, (some (b + 40)))])) hu ?_
  show zx p l e _ s m _ below meth c g 5 0 0 _ _ 72 [(3, .ref (b + 40)), (2, .int 1), (4, .null), (0, .ref (b + 0)), (1, .ref (b + 40))] _
  refine z_aload_n B dX8_goOn_72 rfl 0 rfl ?_
  refine gf_X8_249 (x := (some (b + 41))) B (lKA (hk_K hK 40 rfl rfl)) (rR_at 40 2 hR_40_2) dX8_goOn_73 ?_
  refine z_cVi (As := []) (rest := []) B cw_X8_354 cx_6 dX8_goOn_76 (ci_X5_wantsEvent_693 l (σ := (ap b σ [(41, 19, 0), (41, 19, 0), (41, 15, 1), (41, 4, 2), (41, 16, (-1)), (37, 2, 2), (38, 1, 13), (41, 16, 13), (41, 7, 1), (41, 5, 1), (5, 2, 1)] [(39, 1, ((10 * (w1.toInt64)) + 1)), (41, 17, ((10 * (w1.toInt64)) + 1))] [(6, 0, (some (b + 40)))])) (b := b) (lyA hK) (rI_at 41 16 rfl) (rI_at 41 19 rfl)) (lKA (hk_K hK 41 rfl rfl)) rfl (by decide) rfl (Nat.le_of_ble_eq_true rfl) (by decide) (fun r u hu => ?_)
  refine z_eqs (σ' := (ap b σ [(41, 19, 0), (41, 19, 0), (41, 15, 1), (41, 4, 2), (41, 16, (-1)), (37, 2, 2), (38, 1, 13), (41, 16, 13), (41, 7, 1), (41, 5, 1), (5, 2, 1)] [(39, 1, ((10 * (w1.toInt64)) + 1)), (41, 17, ((10 * (w1.toInt64)) + 1))] [(6, 0, (some (b + 40)))])) hu.2 ?_
  show zx p l e _ s m _ below meth c g 5 0 0 _ _ 79 [(3, .ref (b + 40)), (2, .int 1), (4, .null), (0, .ref (b + 0)), (1, .ref (b + 40))] _
  refine z_seti (y := 0) hu.1 ?_
  refine z_if_eq (tgt := 115) B dX8_goOn_79 (by decide) (fun _ => ?_) (fun h => absurd (by decide) h)
  refine z_aload_n B dX8_goOn_115 rfl 3 rfl ?_
  refine z_aload_n B dX8_goOn_116 rfl 0 rfl ?_
  refine z_cVv (As := [.ref (b + 40)]) (rest := []) B cw_X8_361 cx_9 dX8_goOn_117 (ci_X8_leave_695 l (σ := (ap b σ [(41, 19, 0), (41, 19, 0), (41, 15, 1), (41, 4, 2), (41, 16, (-1)), (37, 2, 2), (38, 1, 13), (41, 16, 13), (41, 7, 1), (41, 5, 1), (5, 2, 1)] [(39, 1, ((10 * (w1.toInt64)) + 1)), (41, 17, ((10 * (w1.toInt64)) + 1))] [(6, 0, (some (b + 40)))])) (b := b) (lyA hK) (rI_at 5 1 hI_5_1) (rI_at 5 2 rfl) (rI_at 37 2 rfl) (rI_at 40 8 hI_40_8) (rI_at 41 18 hI_41_18) (rI_at 41 19 rfl) (rR_at 0 4 hR_0_4) (rR_at 40 1 hR_40_1) (rR_at 40 2 hR_40_2)) (lKA (hk_K hK 0 rfl rfl)) rfl (by decide) rfl (Nat.le_of_ble_eq_true rfl) (by decide) (fun u hu => ?_)
  refine z_eqs (σ' := (ap b σ [(40, 8, 2), (5, 2, 0), (41, 19, 0), (41, 19, 0), (41, 15, 1), (41, 4, 2), (41, 16, (-1)), (37, 2, 2), (38, 1, 13), (41, 16, 13), (41, 7, 1), (41, 5, 1), (5, 2, 1)] [(39, 1, ((10 * (w1.toInt64)) + 1)), (41, 17, ((10 * (w1.toInt64)) + 1))] [(6, 0, (some (b + 40)))])) (hu.trans ap_ap) ?_
  show zx p l e _ s m _ below meth c g 5 0 0 _ _ 120 [(3, .ref (b + 40)), (2, .int 1), (4, .null), (0, .ref (b + 0)), (1, .ref (b + 40))] _
  refine z_iinc (v := 2) (lv' := [(2, .int 2), (3, .ref (b + 40)), (4, .null), (0, .ref (b + 0)), (1, .ref (b + 40))]) B dX8_goOn_120 1 rfl (by decide) (by decide) rfl ?_
  refine z_goto (tgt := 10) B dX8_goOn_123 (by decide) ?_
  refine z_iload_n B dX8_goOn_10 rfl 0 rfl ?_
  refine z_ldcw (v := 1000000) B dX8_goOn_11 wg_515 ?_
  refine z_icmp_ge (tgt := 126) B dX8_goOn_14 (by decide) (fun h => absurd h (by decide)) (fun _ => ?_)
  refine z_aload_n B dX8_goOn_17 rfl 3 rfl ?_
  refine gf_X8_35 (x := (some (b + 5))) B (lKA (hk_K hK 0 rfl rfl)) (rR_at 0 4 hR_0_4) dX8_goOn_18 ?_
  refine z_cVi (As := []) (rest := []) B cw_X8_341 cx_3 dX8_goOn_21 (ci_X2_isEmpty_696 l (σ := (ap b σ [(40, 8, 2), (5, 2, 0), (41, 19, 0), (41, 19, 0), (41, 15, 1), (41, 4, 2), (41, 16, (-1)), (37, 2, 2), (38, 1, 13), (41, 16, 13), (41, 7, 1), (41, 5, 1), (5, 2, 1)] [(39, 1, ((10 * (w1.toInt64)) + 1)), (41, 17, ((10 * (w1.toInt64)) + 1))] [(6, 0, (some (b + 40)))])) (b := b) (lyA hK) (rI_at 5 1 hI_5_1) (rI_at 5 2 rfl)) (lKA (hk_K hK 5 rfl rfl)) rfl (by decide) rfl (Nat.le_of_ble_eq_true rfl) (by decide) (fun r u hu => ?_)
  refine z_eqs (σ' := (ap b σ [(40, 8, 2), (5, 2, 0), (41, 19, 0), (41, 19, 0), (41, 15, 1), (41, 4, 2), (41, 16, (-1)), (37, 2, 2), (38, 1, 13), (41, 16, 13), (41, 7, 1), (41, 5, 1), (5, 2, 1)] [(39, 1, ((10 * (w1.toInt64)) + 1)), (41, 17, ((10 * (w1.toInt64)) + 1))] [(6, 0, (some (b + 40)))])) hu.2 ?_
  show zx p l e _ s m _ below meth c g 5 0 0 _ _ 24 [(2, .int 2), (3, .ref (b + 40)), (4, .null), (0, .ref (b + 0)), (1, .ref (b + 40))] _
  refine z_seti (y := 1) hu.1 ?_
  refine z_if_eq (tgt := 41) B dX8_goOn_24 (by decide) (fun h => absurd h (by decide)) (fun _ => ?_)
  refine z_aload_n B dX8_goOn_27 rfl 3 rfl ?_
  refine gf_X8_35 (x := (some (b + 5))) B (lKA (hk_K hK 0 rfl rfl)) (rR_at 0 4 hR_0_4) dX8_goOn_28 ?_
  refine z_aload_n B dX8_goOn_31 rfl 3 rfl ?_
  refine gf_X8_39 (x := (some (b + 7))) B (lKA (hk_K hK 0 rfl rfl)) (rR_at 0 5 hR_0_5) dX8_goOn_32 ?_
  refine z_cVq (As := []) (rest := [.ref (b + 5)]) B cw_X8_344 cx_3 dX8_goOn_35 (ci_X2_removeFirst_697 l (σ := (ap b σ [(40, 8, 2), (5, 2, 0), (41, 19, 0), (41, 19, 0), (41, 15, 1), (41, 4, 2), (41, 16, (-1)), (37, 2, 2), (38, 1, 13), (41, 16, 13), (41, 7, 1), (41, 5, 1), (5, 2, 1)] [(39, 1, ((10 * (w1.toInt64)) + 1)), (41, 17, ((10 * (w1.toInt64)) + 1))] [(6, 0, (some (b + 40)))])) (b := b) (lyA hK) (rI_at 7 1 hI_7_1) (rI_at 7 2 hI_7_2)) (lKA (hk_K hK 7 rfl rfl)) rfl (by decide) rfl (Nat.le_of_ble_eq_true rfl) (by decide) (fun r u hu => ?_)
  refine z_eqs (σ' := (ap b σ [(7, 2, 0), (7, 1, 0), (40, 8, 2), (5, 2, 0), (41, 19, 0), (41, 19, 0), (41, 15, 1), (41, 4, 2), (41, 16, (-1)), (37, 2, 2), (38, 1, 13), (41, 16, 13), (41, 7, 1), (41, 5, 1), (5, 2, 1)] [(39, 1, ((10 * (w1.toInt64)) + 1)), (41, 17, ((10 * (w1.toInt64)) + 1))] [(6, 0, (some (b + 40)))])) (hu.2.trans ap_ap) ?_
  show zx p l e _ s m _ below meth c g 5 0 0 _ _ 38 [(2, .int 2), (3, .ref (b + 40)), (4, .null), (0, .ref (b + 0)), (1, .ref (b + 40))] _
  refine z_setr (y := none) hu.1 ?_
  refine z_cVv (As := [.null]) (rest := []) B cw_X8_337 cx_3 dX8_goOn_38 (ci_X2_addLast_691 l (σ := (ap b σ [(7, 2, 0), (7, 1, 0), (40, 8, 2), (5, 2, 0), (41, 19, 0), (41, 19, 0), (41, 15, 1), (41, 4, 2), (41, 16, (-1)), (37, 2, 2), (38, 1, 13), (41, 16, 13), (41, 7, 1), (41, 5, 1), (5, 2, 1)] [(39, 1, ((10 * (w1.toInt64)) + 1)), (41, 17, ((10 * (w1.toInt64)) + 1))] [(6, 0, (some (b + 40)))])) (b := b) (lyA hK) ) (lKA (hk_K hK 5 rfl rfl)) rfl (by decide) rfl (Nat.le_of_ble_eq_true rfl) (by decide) (fun u hu => ?_)
  refine z_eqs (σ' := (ap b σ [(7, 2, 0), (7, 1, 0), (40, 8, 2), (5, 2, 0), (41, 19, 0), (41, 19, 0), (41, 15, 1), (41, 4, 2), (41, 16, (-1)), (37, 2, 2), (38, 1, 13), (41, 16, 13), (41, 7, 1), (41, 5, 1), (5, 2, 1)] [(39, 1, ((10 * (w1.toInt64)) + 1)), (41, 17, ((10 * (w1.toInt64)) + 1))] [(6, 0, (some (b + 40)))])) hu ?_
  show zx p l e _ s m _ below meth c g 5 0 0 _ _ 41 [(2, .int 2), (3, .ref (b + 40)), (4, .null), (0, .ref (b + 0)), (1, .ref (b + 40))] _
  refine z_aload_n B dX8_goOn_41 rfl 3 rfl ?_
  refine gf_X8_35 (x := (some (b + 5))) B (lKA (hk_K hK 0 rfl rfl)) (rR_at 0 4 hR_0_4) dX8_goOn_42 ?_
  refine z_cVq (As := []) (rest := []) B cw_X8_348 cx_3 dX8_goOn_45 (ci_X2_last_698 l (σ := (ap b σ [(7, 2, 0), (7, 1, 0), (40, 8, 2), (5, 2, 0), (41, 19, 0), (41, 19, 0), (41, 15, 1), (41, 4, 2), (41, 16, (-1)), (37, 2, 2), (38, 1, 13), (41, 16, 13), (41, 7, 1), (41, 5, 1), (5, 2, 1)] [(39, 1, ((10 * (w1.toInt64)) + 1)), (41, 17, ((10 * (w1.toInt64)) + 1))] [(6, 0, (some (b + 40)))])) (b := b) (lyA hK) (rI_at 5 1 hI_5_1) (rI_at 5 2 rfl)) (lKA (hk_K hK 5 rfl rfl)) rfl (by decide) rfl (Nat.le_of_ble_eq_true rfl) (by decide) (fun r u hu => ?_)
  refine z_eqs (σ' := (ap b σ [(7, 2, 0), (7, 1, 0), (40, 8, 2), (5, 2, 0), (41, 19, 0), (41, 19, 0), (41, 15, 1), (41, 4, 2), (41, 16, (-1)), (37, 2, 2), (38, 1, 13), (41, 16, 13), (41, 7, 1), (41, 5, 1), (5, 2, 1)] [(39, 1, ((10 * (w1.toInt64)) + 1)), (41, 17, ((10 * (w1.toInt64)) + 1))] [(6, 0, (some (b + 40)))])) hu.2 ?_
  show zx p l e _ s m _ below meth c g 5 0 0 _ _ 48 [(2, .int 2), (3, .ref (b + 40)), (4, .null), (0, .ref (b + 0)), (1, .ref (b + 40))] _
  refine z_setr (y := none) hu.1 ?_
  refine z_qstore_n (r := none) (lv' := [(3, .null), (2, .int 2), (4, .null), (0, .ref (b + 0)), (1, .ref (b + 40))]) B dX8_goOn_48 rfl (by decide) rfl ?_
  refine z_qload_n (r := none) B dX8_goOn_49 rfl 0 rfl ?_
  refine z_ifnonnull (r := none) (tgt := 54) B dX8_goOn_50 (by decide) (fun a h => nomatch h) (fun _ => ?_)
  exact z_vret B hr (by decide) (by decide) dX8_goOn_53 rfl
set_option maxRecDepth 100000 in
set_option maxHeartbeats 4000000 in
theorem ci_X8_start_815 (l : Launch) {g : gx_T} {σ : sx_T} {b : Nat} (hK : lay b σ) (w1 : Int32) (q1_w1 : (-999 : Int) ≤ w1.toInt) (q2_w1 : w1.toInt ≤ (-1 : Int)) (hI_0_7 : sx_I σ (b + 0) 7 = 0) (hI_5_1 : sx_I σ (b + 5) 1 = 0) (hI_5_2 : sx_I σ (b + 5) 2 = 0) (hI_7_1 : sx_I σ (b + 7) 1 = 0) (hI_7_2 : sx_I σ (b + 7) 2 = 0) (hI_26_0 : sx_I σ (b + 26) 0 = 0) (hI_27_0 : sx_I σ (b + 27) 0 = 0) (hI_28_0 : sx_I σ (b + 28) 0 = 0) (hI_37_2 : sx_I σ (b + 37) 2 = 0) (hI_40_0 : sx_I σ (b + 40) 0 = 0) (hI_40_8 : sx_I σ (b + 40) 8 = 0) (hR_0_0 : sx_R σ (b + 0) 0 = (some (b + 1))) (hR_0_2 : sx_R σ (b + 0) 2 = (some (b + 3))) (hR_0_4 : sx_R σ (b + 0) 4 = (some (b + 5))) (hR_0_5 : sx_R σ (b + 0) 5 = (some (b + 7))) (hR_1_4 : sx_R σ (b + 1) 4 = (some (b + 25))) (hR_3_0 : sx_R σ (b + 3) 0 = (some (b + 40))) (hR_5_0 : sx_R σ (b + 5) 0 = (some (b + 6))) (hR_25_1 : sx_R σ (b + 25) 1 = (some (b + 26))) (hR_25_2 : sx_R σ (b + 25) 2 = (some (b + 27))) (hR_25_3 : sx_R σ (b + 25) 3 = (some (b + 28))) (hR_37_0 : sx_R σ (b + 37) 0 = (some (b + 38))) (hR_37_1 : sx_R σ (b + 37) 1 = (some (b + 39))) (hR_40_1 : sx_R σ (b + 40) 1 = (some (b + 37))) (hR_40_2 : sx_R σ (b + 40) 2 = (some (b + 41))) (hR_40_7 : sx_R σ (b + 40) 7 = none) (hR_41_0 : sx_R σ (b + 41) 0 = (some (b + 42))) (hR_41_1 : sx_R σ (b + 41) 1 = (some (b + 44))) : Met l yX8_start (.code yX8_start cX8_start 5 (some .int) :: lw_g) { frames := 4, cells := 0, slots := 0, locals := 96 } (va_Pc [.ref (b + 0), .int 4, .int w1] (zx_w g σ)) (va_Qi (fun r u => r = 0 ∧ u = (ap b σ [(7, 2, 0), (7, 1, 0), (40, 8, 2), (5, 2, 0), (41, 19, 0), (41, 19, 0), (41, 15, 1), (41, 4, 2), (41, 16, (-1)), (37, 2, 2), (38, 1, 13), (41, 16, 13), (41, 7, 1), (41, 5, 1), (5, 2, 1), (41, 19, 0), (41, 18, (-1)), (41, 16, (-1)), (41, 15, 0), (41, 14, 0), (41, 13, 0), (41, 12, 0), (41, 10, (-1)), (41, 9, (-1)), (41, 8, 0), (41, 7, 0), (41, 6, ((w1.toInt64).toInt32)), (41, 5, 0), (41, 4, 1), (44, 1, 0), (42, 1, 0), (37, 2, 1), (38, 0, 0), (40, 5, 0), (40, 4, (-1)), (0, 7, 1)] [(39, 1, ((10 * (((w1.toInt64).toInt32).toInt64)) + 1)), (41, 17, ((10 * (((w1.toInt64).toInt32).toInt64)) + 1)), (41, 17, 0), (41, 11, 0), (39, 0, (w1.toInt64))] [(6, 0, (some (b + 40))), (41, 3, (some (b + 37))), (41, 2, (some (b + 25))), (40, 3, (some (b + 25)))])) (zx_w g) (gx_Q g)) 0 0 (gx_Q g) := by
  refine z_met (by decide) (Nat.le_of_ble_eq_true rfl) (fun p e s m below meth c B hr hin => ?_)
  refine z_eqs (σ' := (ap b σ [] [] [])) rfl ?_
  show zx p l e _ s m _ below meth c g 5 0 0 _ _ 0 [(0, .ref (b + 0)), (1, .int 4), (2, .int w1)] []
  refine z_aload_n B dX8_start_0 rfl 0 rfl ?_
  refine z_iload_n B dX8_start_1 rfl 1 rfl ?_
  refine z_cVq (As := [.int 4]) (rest := []) B cw_X8_64 cx_9 dX8_start_2 (ci_X8_programAt_269 l (σ := (ap b σ [] [] [])) (b := b) (lyA hK) (rR_at 0 0 hR_0_0) (rR_at 1 4 hR_1_4)) (lKA (hk_K hK 0 rfl rfl)) rfl (by decide) rfl (Nat.le_of_ble_eq_true rfl) (by decide) (fun r u hu => ?_)
  refine z_eqs (σ' := (ap b σ [] [] [])) hu.2 ?_
  show zx p l e _ s m _ below meth c g 5 0 0 _ _ 5 [(0, .ref (b + 0)), (1, .int 4), (2, .int w1)] _
  refine z_setr (y := (some (b + 25))) hu.1 ?_
  refine z_astore_n (lv' := [(3, .ref (b + 25)), (0, .ref (b + 0)), (1, .int 4), (2, .int w1)]) B dX8_start_5 rfl (by decide) rfl ?_
  refine z_aload_n B dX8_start_6 rfl 0 rfl ?_
  refine z_ifnonnull (r := (some (b + 25))) (tgt := 20) B dX8_start_7 (by decide) (fun _ _ => ?_) (fun h => nomatch h)
  refine z_iload_n B dX8_start_20 rfl 3 rfl ?_
  refine z_sipush (v := (-999)) B dX8_start_21 (by decide) ?_
  refine z_icmp_lt (tgt := 34) B dX8_start_24 (by decide) (fun h => absurd h (iv_nlt q1_w1 (by decide))) (fun _ => ?_)
  refine z_iload_n B dX8_start_27 rfl 3 rfl ?_
  refine z_sipush (v := 999) B dX8_start_28 (by decide) ?_
  refine z_icmp_le (tgt := 44) B dX8_start_31 (by decide) (fun _ => ?_) (fun h => absurd (iv_le q2_w1 (by decide)) h)
  refine z_aload_n B dX8_start_44 rfl 1 rfl ?_
  refine z_aload_n B dX8_start_45 rfl 0 rfl ?_
  refine z_iload_n B dX8_start_46 rfl 3 rfl ?_
  refine z_iconst (v := (-1)) B dX8_start_47 (by decide) ?_
  refine z_iconst (v := (-1)) B dX8_start_48 (by decide) ?_
  refine z_cVq (As := [.ref (b + 25), .int w1, .int (-1), .int (-1)]) (rest := []) B cw_X8_141 cx_9 dX8_start_49 (ci_X8_open_808 l (σ := (ap b σ [] [] [])) (b := b) (lyA hK) w1 (rI_at 0 7 hI_0_7) (rI_at 37 2 hI_37_2) (rI_at 40 0 hI_40_0) (rR_at 0 2 hR_0_2) (rR_at 3 0 hR_3_0) (rR_at 37 0 hR_37_0) (rR_at 37 1 hR_37_1) (rR_at 40 1 hR_40_1) (rR_at 40 2 hR_40_2) (rR_at 41 0 hR_41_0) (rR_at 41 1 hR_41_1)) (lKA (hk_K hK 0 rfl rfl)) rfl (by decide) rfl (Nat.le_of_ble_eq_true rfl) (by decide) (fun r u hu => ?_)
  refine z_eqs (σ' := (ap b σ [(41, 19, 0), (41, 18, (-1)), (41, 16, (-1)), (41, 15, 0), (41, 14, 0), (41, 13, 0), (41, 12, 0), (41, 10, (-1)), (41, 9, (-1)), (41, 8, 0), (41, 7, 0), (41, 6, ((w1.toInt64).toInt32)), (41, 5, 0), (41, 4, 1), (44, 1, 0), (42, 1, 0), (37, 2, 1), (38, 0, 0), (40, 5, 0), (40, 4, (-1)), (0, 7, 1)] [(41, 17, 0), (41, 11, 0), (39, 0, (w1.toInt64))] [(41, 3, (some (b + 37))), (41, 2, (some (b + 25))), (40, 3, (some (b + 25)))])) (hu.2.trans ap_ap) ?_
  show zx p l e _ s m _ below meth c g 5 0 0 _ _ 52 [(3, .ref (b + 25)), (0, .ref (b + 0)), (1, .int 4), (2, .int w1)] _
  refine z_setr (y := (some (b + 40))) hu.1 ?_
  refine z_astore (lv' := [(4, .ref (b + 40)), (3, .ref (b + 25)), (0, .ref (b + 0)), (1, .int 4), (2, .int w1)]) B dX8_start_52 (by decide) rfl ?_
  refine z_aload B dX8_start_54 0 rfl ?_
  refine z_ifnonnull (r := (some (b + 40))) (tgt := 69) B dX8_start_56 (by decide) (fun _ _ => ?_) (fun h => nomatch h)
  refine z_aload_n B dX8_start_69 rfl 2 rfl ?_
  refine z_aload B dX8_start_70 0 rfl ?_
  refine z_cVv (As := [.ref (b + 40)]) (rest := []) B cw_X8_111 cx_9 dX8_start_72 (ci_X8_goOn_814 l (σ := (ap b σ [(41, 19, 0), (41, 18, (-1)), (41, 16, (-1)), (41, 15, 0), (41, 14, 0), (41, 13, 0), (41, 12, 0), (41, 10, (-1)), (41, 9, (-1)), (41, 8, 0), (41, 7, 0), (41, 6, ((w1.toInt64).toInt32)), (41, 5, 0), (41, 4, 1), (44, 1, 0), (42, 1, 0), (37, 2, 1), (38, 0, 0), (40, 5, 0), (40, 4, (-1)), (0, 7, 1)] [(41, 17, 0), (41, 11, 0), (39, 0, (w1.toInt64))] [(41, 3, (some (b + 37))), (41, 2, (some (b + 25))), (40, 3, (some (b + 25)))])) (b := b) (lyA hK) ((w1.toInt64).toInt32) (iv_l2i (iv_i2l q1_w1 q2_w1).1 (iv_i2l q1_w1 q2_w1).2 (by decide) (by decide)).1 (iv_l2i (iv_i2l q1_w1 q2_w1).1 (iv_i2l q1_w1 q2_w1).2 (by decide) (by decide)).2 (rI_at 5 1 hI_5_1) (rI_at 5 2 hI_5_2) (rI_at 7 1 hI_7_1) (rI_at 7 2 hI_7_2) (rI_at 26 0 hI_26_0) (rI_at 27 0 hI_27_0) (rI_at 28 0 hI_28_0) (rI_at 37 2 rfl) (rI_at 40 4 rfl) (rI_at 40 8 hI_40_8) (rI_at 41 4 rfl) (rI_at 41 5 rfl) (rI_at 41 6 rfl) (rI_at 41 7 rfl) (rI_at 41 8 rfl) (rI_at 41 14 rfl) (rI_at 41 15 rfl) (rI_at 41 16 rfl) (rI_at 41 18 rfl) (rI_at 41 19 rfl) (rR_at 0 4 hR_0_4) (rR_at 0 5 hR_0_5) (rR_at 5 0 hR_5_0) (rR_at 25 1 hR_25_1) (rR_at 25 2 hR_25_2) (rR_at 25 3 hR_25_3) (rR_at 37 0 hR_37_0) (rR_at 37 1 hR_37_1) (rR_at 40 1 hR_40_1) (rR_at 40 2 hR_40_2) (rR_at 40 7 hR_40_7) (rR_at 41 2 rfl) (rR_at 41 3 rfl)) (lKA (hk_K hK 0 rfl rfl)) rfl (by decide) rfl (Nat.le_of_ble_eq_true rfl) (by decide) (fun u hu => ?_)
  refine z_eqs (σ' := (ap b σ [(7, 2, 0), (7, 1, 0), (40, 8, 2), (5, 2, 0), (41, 19, 0), (41, 19, 0), (41, 15, 1), (41, 4, 2), (41, 16, (-1)), (37, 2, 2), (38, 1, 13), (41, 16, 13), (41, 7, 1), (41, 5, 1), (5, 2, 1), (41, 19, 0), (41, 18, (-1)), (41, 16, (-1)), (41, 15, 0), (41, 14, 0), (41, 13, 0), (41, 12, 0), (41, 10, (-1)), (41, 9, (-1)), (41, 8, 0), (41, 7, 0), (41, 6, ((w1.toInt64).toInt32)), (41, 5, 0), (41, 4, 1), (44, 1, 0), (42, 1, 0), (37, 2, 1), (38, 0, 0), (40, 5, 0), (40, 4, (-1)), (0, 7, 1)] [(39, 1, ((10 * (((w1.toInt64).toInt32).toInt64)) + 1)), (41, 17, ((10 * (((w1.toInt64).toInt32).toInt64)) + 1)), (41, 17, 0), (41, 11, 0), (39, 0, (w1.toInt64))] [(6, 0, (some (b + 40))), (41, 3, (some (b + 37))), (41, 2, (some (b + 25))), (40, 3, (some (b + 25)))])) (hu.trans ap_ap) ?_
  show zx p l e _ s m _ below meth c g 5 0 0 _ _ 75 [(4, .ref (b + 40)), (3, .ref (b + 25)), (0, .ref (b + 0)), (1, .int 4), (2, .int w1)] _
  refine z_aload B dX8_start_75 0 rfl ?_
  refine gf_X8_150 (x := 0) B (lKA (hk_K hK 40 rfl rfl)) (rI_at 40 0 hI_40_0) dX8_start_77 ?_
  exact z_iret B hr (by decide) (by decide) dX8_start_80 ⟨rfl, rfl⟩
set_option maxRecDepth 100000 in
set_option maxHeartbeats 4000000 in
theorem ci_L_start_816 (l : Launch) {g : gx_T} {σ : sx_T} {b : Nat} (hK : lay b σ) (w1 : Int32) (q1_w1 : (-999 : Int) ≤ w1.toInt) (q2_w1 : w1.toInt ≤ (-1 : Int)) (hI_0_7 : sx_I σ (b + 0) 7 = 0) (hI_5_1 : sx_I σ (b + 5) 1 = 0) (hI_5_2 : sx_I σ (b + 5) 2 = 0) (hI_7_1 : sx_I σ (b + 7) 1 = 0) (hI_7_2 : sx_I σ (b + 7) 2 = 0) (hI_26_0 : sx_I σ (b + 26) 0 = 0) (hI_27_0 : sx_I σ (b + 27) 0 = 0) (hI_28_0 : sx_I σ (b + 28) 0 = 0) (hI_37_2 : sx_I σ (b + 37) 2 = 0) (hI_40_0 : sx_I σ (b + 40) 0 = 0) (hI_40_8 : sx_I σ (b + 40) 8 = 0) (hR_0_0 : sx_R σ (b + 0) 0 = (some (b + 1))) (hR_0_2 : sx_R σ (b + 0) 2 = (some (b + 3))) (hR_0_4 : sx_R σ (b + 0) 4 = (some (b + 5))) (hR_0_5 : sx_R σ (b + 0) 5 = (some (b + 7))) (hR_1_4 : sx_R σ (b + 1) 4 = (some (b + 25))) (hR_3_0 : sx_R σ (b + 3) 0 = (some (b + 40))) (hR_5_0 : sx_R σ (b + 5) 0 = (some (b + 6))) (hR_25_1 : sx_R σ (b + 25) 1 = (some (b + 26))) (hR_25_2 : sx_R σ (b + 25) 2 = (some (b + 27))) (hR_25_3 : sx_R σ (b + 25) 3 = (some (b + 28))) (hR_37_0 : sx_R σ (b + 37) 0 = (some (b + 38))) (hR_37_1 : sx_R σ (b + 37) 1 = (some (b + 39))) (hR_40_1 : sx_R σ (b + 40) 1 = (some (b + 37))) (hR_40_2 : sx_R σ (b + 40) 2 = (some (b + 41))) (hR_40_7 : sx_R σ (b + 40) 7 = none) (hR_41_0 : sx_R σ (b + 41) 0 = (some (b + 42))) (hR_41_1 : sx_R σ (b + 41) 1 = (some (b + 44))) : Met l yL_start (.codeWith yL_start cL_start 5 (some .int) [(0, 10, 13, 13), (0, 10, 17, 15), (0, 10, 21, 24)] :: lw_g) { frames := 5, cells := 0, slots := 0, locals := 120 } (va_Pc [.ref (b + 0), .int 4, .int w1, .ref (b + 431)] (zx_w g σ)) (va_Qi (fun r u => r = 0 ∧ u = (ap b σ [(7, 2, 0), (7, 1, 0), (40, 8, 2), (5, 2, 0), (41, 19, 0), (41, 19, 0), (41, 15, 1), (41, 4, 2), (41, 16, (-1)), (37, 2, 2), (38, 1, 13), (41, 16, 13), (41, 7, 1), (41, 5, 1), (5, 2, 1), (41, 19, 0), (41, 18, (-1)), (41, 16, (-1)), (41, 15, 0), (41, 14, 0), (41, 13, 0), (41, 12, 0), (41, 10, (-1)), (41, 9, (-1)), (41, 8, 0), (41, 7, 0), (41, 6, ((w1.toInt64).toInt32)), (41, 5, 0), (41, 4, 1), (44, 1, 0), (42, 1, 0), (37, 2, 1), (38, 0, 0), (40, 5, 0), (40, 4, (-1)), (0, 7, 1)] [(431, 0, 0), (39, 1, ((10 * (((w1.toInt64).toInt32).toInt64)) + 1)), (41, 17, ((10 * (((w1.toInt64).toInt32).toInt64)) + 1)), (41, 17, 0), (41, 11, 0), (39, 0, (w1.toInt64))] [(6, 0, (some (b + 40))), (41, 3, (some (b + 37))), (41, 2, (some (b + 25))), (40, 3, (some (b + 25)))])) (zx_w g) (gx_Q g)) 0 0 (gx_Q g) := by
  refine z_metW (by decide) (Nat.le_of_ble_eq_true rfl) (fun p e s m below meth c B hr htab => ?_)
  refine z_eqs (σ' := (ap b σ [] [] [])) rfl ?_
  show zx p l e _ s m _ below meth c g 5 0 0 _ _ 0 [(0, .ref (b + 0)), (1, .int 4), (2, .int w1), (3, .ref (b + 431))] []
  refine z_aload_n B dL_start_0 rfl 3 rfl ?_
  refine z_iconst (v := 0) B dL_start_1 (by decide) ?_
  refine z_aload_n B dL_start_2 rfl 0 rfl ?_
  refine z_iload_n B dL_start_3 rfl 1 rfl ?_
  refine z_iload_n B dL_start_4 rfl 2 rfl ?_
  refine z_cVi (As := [.int 4, .int w1]) (rest := [.int 0, .ref (b + 431)]) B cw_L_20 cx_9 dL_start_5 (ci_X8_start_815 l (σ := (ap b σ [] [] [])) (b := b) (lyA hK) w1 q1_w1 q2_w1 (rI_at 0 7 hI_0_7) (rI_at 5 1 hI_5_1) (rI_at 5 2 hI_5_2) (rI_at 7 1 hI_7_1) (rI_at 7 2 hI_7_2) (rI_at 26 0 hI_26_0) (rI_at 27 0 hI_27_0) (rI_at 28 0 hI_28_0) (rI_at 37 2 hI_37_2) (rI_at 40 0 hI_40_0) (rI_at 40 8 hI_40_8) (rR_at 0 0 hR_0_0) (rR_at 0 2 hR_0_2) (rR_at 0 4 hR_0_4) (rR_at 0 5 hR_0_5) (rR_at 1 4 hR_1_4) (rR_at 3 0 hR_3_0) (rR_at 5 0 hR_5_0) (rR_at 25 1 hR_25_1) (rR_at 25 2 hR_25_2) (rR_at 25 3 hR_25_3) (rR_at 37 0 hR_37_0) (rR_at 37 1 hR_37_1) (rR_at 40 1 hR_40_1) (rR_at 40 2 hR_40_2) (rR_at 40 7 hR_40_7) (rR_at 41 0 hR_41_0) (rR_at 41 1 hR_41_1)) (lKA (hk_K hK 0 rfl rfl)) rfl (by decide) rfl (Nat.le_of_ble_eq_true rfl) (by decide) (fun r u hu => ?_)
  refine z_eqs (σ' := (ap b σ [(7, 2, 0), (7, 1, 0), (40, 8, 2), (5, 2, 0), (41, 19, 0), (41, 19, 0), (41, 15, 1), (41, 4, 2), (41, 16, (-1)), (37, 2, 2), (38, 1, 13), (41, 16, 13), (41, 7, 1), (41, 5, 1), (5, 2, 1), (41, 19, 0), (41, 18, (-1)), (41, 16, (-1)), (41, 15, 0), (41, 14, 0), (41, 13, 0), (41, 12, 0), (41, 10, (-1)), (41, 9, (-1)), (41, 8, 0), (41, 7, 0), (41, 6, ((w1.toInt64).toInt32)), (41, 5, 0), (41, 4, 1), (44, 1, 0), (42, 1, 0), (37, 2, 1), (38, 0, 0), (40, 5, 0), (40, 4, (-1)), (0, 7, 1)] [(39, 1, ((10 * (((w1.toInt64).toInt32).toInt64)) + 1)), (41, 17, ((10 * (((w1.toInt64).toInt32).toInt64)) + 1)), (41, 17, 0), (41, 11, 0), (39, 0, (w1.toInt64))] [(6, 0, (some (b + 40))), (41, 3, (some (b + 37))), (41, 2, (some (b + 25))), (40, 3, (some (b + 25)))])) (hu.2.trans ap_ap) ?_
  show zx p l e _ s m _ below meth c g 5 0 0 _ _ 8 [(0, .ref (b + 0)), (1, .int 4), (2, .int w1), (3, .ref (b + 431))] _
  refine z_seti (y := 0) hu.1 ?_
  refine z_i2l (v := 0) B dL_start_8 (by decide) ?_
  refine z_last (j := 0) (σ' := (ap b σ [(7, 2, 0), (7, 1, 0), (40, 8, 2), (5, 2, 0), (41, 19, 0), (41, 19, 0), (41, 15, 1), (41, 4, 2), (41, 16, (-1)), (37, 2, 2), (38, 1, 13), (41, 16, 13), (41, 7, 1), (41, 5, 1), (5, 2, 1), (41, 19, 0), (41, 18, (-1)), (41, 16, (-1)), (41, 15, 0), (41, 14, 0), (41, 13, 0), (41, 12, 0), (41, 10, (-1)), (41, 9, (-1)), (41, 8, 0), (41, 7, 0), (41, 6, ((w1.toInt64).toInt32)), (41, 5, 0), (41, 4, 1), (44, 1, 0), (42, 1, 0), (37, 2, 1), (38, 0, 0), (40, 5, 0), (40, 4, (-1)), (0, 7, 1)] [(431, 0, 0), (39, 1, ((10 * (((w1.toInt64).toInt32).toInt64)) + 1)), (41, 17, ((10 * (((w1.toInt64).toInt32).toInt64)) + 1)), (41, 17, 0), (41, 11, 0), (39, 0, (w1.toInt64))] [(6, 0, (some (b + 40))), (41, 3, (some (b + 37))), (41, 2, (some (b + 25))), (40, 3, (some (b + 25)))])) B (lKA (hk_K hK 431 rfl rfl)) (by decide) (in_of (lNA (hk_N hK 431 rfl rfl)) (show ¬ ((0 : Int32) < 0 ∨ 1 ≤ (0 : Int32).toNatClampNeg) by decide)) wJ_ap dL_start_9 ?_
  refine z_goto (tgt := 25) B dL_start_10 (by decide) ?_
  refine z_iconst (v := 0) B dL_start_25 (by decide) ?_
  exact z_iret B hr (by decide) (by decide) dL_start_26 ⟨rfl, rfl⟩
