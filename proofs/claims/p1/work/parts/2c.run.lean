set_option maxRecDepth 100000 in
set_option maxHeartbeats 4000000 in
theorem ci_X4_second_492 (l : Launch) {g : gx_T} {σ : sx_T} {b : Nat} (hK : lay b σ) (w1 : Int32) (q1_w1 : (0 : Int) ≤ w1.toInt) (q2_w1 : w1.toInt ≤ (19 : Int)) (hR_17_3 : sx_R σ (b + 17) 3 = (some (b + 20))) : Met l yX4_second (.code yX4_second cX4_second 2 (some .int) :: lw_g) { frames := 0, cells := 0, slots := 0, locals := 0 } (va_Pc [.ref (b + 17), .int w1] (zx_w g σ)) (va_Qi (fun r u => ∃ y3 : Int32, r = y3 ∧ u = σ) (zx_w g) (gx_Q g)) 0 0 (gx_Q g) := by
  refine z_met (by decide) (Nat.le_of_ble_eq_true rfl) (fun p e s m below meth c B hr hin => ?_)
  refine z_eqs (σ' := (ap b σ [] [] [])) rfl ?_
  show zx p l e _ s m _ below meth c g 2 0 0 _ _ 0 [(0, .ref (b + 17)), (1, .int w1)] []
  refine z_iload_n B dX4_second_0 rfl 1 rfl ?_
  refine z_if_lt (tgt := 22) B dX4_second_1 (by decide) (fun h => absurd h (iv_nlt q1_w1 (by decide))) (fun _ => ?_)
  refine z_iload_n B dX4_second_4 rfl 1 rfl ?_
  refine z_aload_n B dX4_second_5 rfl 0 rfl ?_
  refine gf_X4_18 (x := (some (b + 20))) B (lKA (hk_K hK 17 rfl rfl)) (rR_at 17 3 hR_17_3) dX4_second_6 ?_
  refine z_alen (kd := 13) (ti := 1) (v := 20) B (lKA (hk_K hK 20 rfl rfl)) (by decide) rfl (congrArg Int32.ofNat (lNA (hk_N hK 20 rfl rfl))) dX4_second_9 ?_
  refine z_icmp_ge (tgt := 22) B dX4_second_10 (by decide) (fun h => absurd h (iv_nge q2_w1 (by decide))) (fun _ => ?_)
  refine z_aload_n B dX4_second_13 rfl 0 rfl ?_
  refine gf_X4_18 (x := (some (b + 20))) B (lKA (hk_K hK 17 rfl rfl)) (rR_at 17 3 hR_17_3) dX4_second_14 ?_
  refine z_iload_n B dX4_second_17 rfl 1 rfl ?_
  refine z_iald (j := w1.toNatClampNeg) B (lKA (hk_K hK 20 rfl rfl)) rfl (in_of (lNA (hk_N hK 20 rfl rfl)) (iv_in q1_w1 q2_w1 (by decide) (by decide))) rfl dX4_second_18 ?_
  refine z_topi (fun y3 e_y3 => ?_)
  refine z_goto (tgt := 23) B dX4_second_19 (by decide) ?_
  exact z_iret B hr (by decide) (by decide) dX4_second_23 ⟨y3, rfl, rfl⟩
set_option maxRecDepth 100000 in
set_option maxHeartbeats 4000000 in
theorem ci_X8_check_493 (l : Launch) {g : gx_T} {σ : sx_T} {b : Nat} (hK : lay b σ) (w1 : Int32) (w2 : Int32) (w3 : Int32) (w4 : Int32) (q1_w1 : (0 : Int) ≤ w1.toInt) (q2_w1 : w1.toInt ≤ (19 : Int)) (q1_w2 : (0 : Int) ≤ w2.toInt) (q2_w2 : w2.toInt ≤ (17 : Int)) (q1_w3 : (0 : Int) ≤ w3.toInt) (q2_w3 : w3.toInt ≤ (99 : Int)) (q1_w4 : (0 : Int) ≤ w4.toInt) (q2_w4 : w4.toInt ≤ (99 : Int)) (hI_0_7 : sx_I σ (b + 0) 7 = 0) (hR_0_0 : sx_R σ (b + 0) 0 = (some (b + 1))) (hR_1_2 : sx_R σ (b + 1) 2 = (some (b + 17))) (hR_17_1 : sx_R σ (b + 17) 1 = (some (b + 18))) (hR_17_2 : sx_R σ (b + 17) 2 = (some (b + 19))) (hR_17_3 : sx_R σ (b + 17) 3 = (some (b + 20))) : Met l yX8_check (.code yX8_check cX8_check 13 (some .int) :: lw_g) { frames := 2, cells := 0, slots := 0, locals := 43 } (va_Pc [.ref (b + 0), .int 2, .int w1, .int w2, .int w3, .int w4] (zx_w g σ)) (va_Qi (fun r u => ∃ y1 y2 y3 : Int32, r = 0 ∧ u = (ap b (wx_I (ap b (wx_I (ap b (wx_I (ap b (ap b (wx_I (ap b (wx_I (ap b (wx_I (ap b (ap b σ [] [] []) [] [] []) (b + 18) w1.toNatClampNeg w2) [] [] []) (b + 19) w1.toNatClampNeg w3) [] [] []) (b + 20) w1.toNatClampNeg w4) [] [] []) [] [] []) (b + 18) w1.toNatClampNeg y1) [] [] []) (b + 19) w1.toNatClampNeg y2) [] [] []) (b + 20) w1.toNatClampNeg y3) [] [] [])) (zx_w g) (gx_Q g)) 0 0 (gx_Q g) := by
  refine z_met (by decide) (Nat.le_of_ble_eq_true rfl) (fun p e s m below meth c B hr hin => ?_)
  refine z_eqs (σ' := (ap b σ [] [] [])) rfl ?_
  show zx p l e _ s m _ below meth c g 13 0 0 _ _ 0 [(0, .ref (b + 0)), (1, .int 2), (2, .int w1), (3, .int w2), (4, .int w3), (5, .int w4)] []
  refine z_aload_n B dX8_check_0 rfl 0 rfl ?_
  refine z_iload_n B dX8_check_1 rfl 1 rfl ?_
  refine z_cVq (As := [.int 2]) (rest := []) B cw_X8_64 cx_9 dX8_check_2 (ci_X8_programAt_171 l (σ := (ap b σ [] [] [])) (b := b) (lyA hK) (rR_at 0 0 hR_0_0) (rR_at 1 2 hR_1_2)) (lKA (hk_K hK 0 rfl rfl)) rfl (by decide) rfl (Nat.le_of_ble_eq_true rfl) (by decide) (fun r u hu => ?_)
  refine z_eqs (σ' := (ap b σ [] [] [])) hu.2 ?_
  show zx p l e _ s m _ below meth c g 13 0 0 _ _ 5 [(0, .ref (b + 0)), (1, .int 2), (2, .int w1), (3, .int w2), (4, .int w3), (5, .int w4)] _
  refine z_setr (y := (some (b + 17))) hu.1 ?_
  refine z_astore (lv' := [(6, .ref (b + 17)), (0, .ref (b + 0)), (1, .int 2), (2, .int w1), (3, .int w2), (4, .int w3), (5, .int w4)]) B dX8_check_5 (by decide) rfl ?_
  refine z_aload B dX8_check_7 0 rfl ?_
  refine z_ifnull (r := (some (b + 17))) (tgt := 21) B dX8_check_9 (by decide) (fun h => nomatch h) (fun _ _ => ?_)
  refine z_iload_n B dX8_check_12 rfl 3 rfl ?_
  refine z_bipush (v := 20) B dX8_check_13 (by decide) ?_
  refine z_cSi (As := [.int w1, .int 20]) (rest := []) B cw_X8_68 dX8_check_15 (ci_X8_isBelow_64 l (σ := (ap b σ [] [] [])) (b := b) (lyA hK) w1 q1_w1 q2_w1) rfl (by decide) rfl (Nat.le_of_ble_eq_true rfl) (by decide) (fun r u hu => ?_)
  refine z_eqs (σ' := (ap b σ [] [] [])) hu.2 ?_
  show zx p l e _ s m _ below meth c g 13 0 0 _ _ 18 [(6, .ref (b + 17)), (0, .ref (b + 0)), (1, .int 2), (2, .int w1), (3, .int w2), (4, .int w3), (5, .int w4)] _
  refine z_seti (y := 1) hu.1 ?_
  refine z_if_ne (tgt := 31) B dX8_check_18 (by decide) (fun _ => ?_) (fun h => absurd h (by decide))
  refine z_iload_n B dX8_check_31 rfl 4 rfl ?_
  refine z_iload B dX8_check_32 5 rfl ?_
  refine z_iload B dX8_check_34 6 rfl ?_
  refine z_cSi (As := [.int w2, .int w3, .int w4]) (rest := []) B cw_X8_79 dX8_check_36 (ci_X8_isStep_85 l (σ := (ap b σ [] [] [])) (b := b) (lyA hK) w2 w3 w4 q1_w2 q2_w2 q1_w3 q2_w3 q1_w4 q2_w4) rfl (by decide) rfl (Nat.le_of_ble_eq_true rfl) (by decide) (fun r u hu => ?_)
  refine z_eqs (σ' := (ap b σ [] [] [])) hu.2 ?_
  show zx p l e _ s m _ below meth c g 13 0 0 _ _ 39 [(6, .ref (b + 17)), (0, .ref (b + 0)), (1, .int 2), (2, .int w1), (3, .int w2), (4, .int w3), (5, .int w4)] _
  refine z_seti (y := 1) hu.1 ?_
  refine z_if_ne (tgt := 52) B dX8_check_39 (by decide) (fun _ => ?_) (fun h => absurd h (by decide))
  refine z_aload B dX8_check_52 0 rfl ?_
  refine z_iload_n B dX8_check_54 rfl 3 rfl ?_
  refine z_cVi (As := [.int w1]) (rest := []) B cw_X8_119 cx_5 dX8_check_55 (ci_X4_operation_490 l (σ := (ap b σ [] [] [])) (b := b) (lyA hK) w1 q1_w1 q2_w1 (rR_at 17 1 hR_17_1)) (lKA (hk_K hK 17 rfl rfl)) rfl (by decide) rfl (Nat.le_of_ble_eq_true rfl) (by decide) (fun r u hu => ?_)
  obtain ⟨y1, hu⟩ := hu
  refine z_eqs (σ' := (ap b σ [] [] [])) hu.2 ?_
  show zx p l e _ s m _ below meth c g 13 0 0 _ _ 58 [(6, .ref (b + 17)), (0, .ref (b + 0)), (1, .int 2), (2, .int w1), (3, .int w2), (4, .int w3), (5, .int w4)] _
  refine z_seti (y := y1) hu.1 ?_
  refine z_istore (lv' := [(7, .int y1), (6, .ref (b + 17)), (0, .ref (b + 0)), (1, .int 2), (2, .int w1), (3, .int w2), (4, .int w3), (5, .int w4)]) B dX8_check_58 (by decide) rfl ?_
  refine z_aload B dX8_check_60 1 rfl ?_
  refine z_iload_n B dX8_check_62 rfl 4 rfl ?_
  refine z_cVi (As := [.int w1]) (rest := []) B cw_X8_123 cx_5 dX8_check_63 (ci_X4_first_491 l (σ := (ap b σ [] [] [])) (b := b) (lyA hK) w1 q1_w1 q2_w1 (rR_at 17 2 hR_17_2)) (lKA (hk_K hK 17 rfl rfl)) rfl (by decide) rfl (Nat.le_of_ble_eq_true rfl) (by decide) (fun r u hu => ?_)
  obtain ⟨y2, hu⟩ := hu
  refine z_eqs (σ' := (ap b σ [] [] [])) hu.2 ?_
  show zx p l e _ s m _ below meth c g 13 0 0 _ _ 66 [(7, .int y1), (6, .ref (b + 17)), (0, .ref (b + 0)), (1, .int 2), (2, .int w1), (3, .int w2), (4, .int w3), (5, .int w4)] _
  refine z_seti (y := y2) hu.1 ?_
  refine z_istore (lv' := [(8, .int y2), (7, .int y1), (6, .ref (b + 17)), (0, .ref (b + 0)), (1, .int 2), (2, .int w1), (3, .int w2), (4, .int w3), (5, .int w4)]) B dX8_check_66 (by decide) rfl ?_
  refine z_aload B dX8_check_68 2 rfl ?_
  refine z_iload_n B dX8_check_70 rfl 5 rfl ?_
  refine z_cVi (As := [.int w1]) (rest := []) B cw_X8_126 cx_5 dX8_check_71 (ci_X4_second_492 l (σ := (ap b σ [] [] [])) (b := b) (lyA hK) w1 q1_w1 q2_w1 (rR_at 17 3 hR_17_3)) (lKA (hk_K hK 17 rfl rfl)) rfl (by decide) rfl (Nat.le_of_ble_eq_true rfl) (by decide) (fun r u hu => ?_)
  obtain ⟨y3, hu⟩ := hu
  refine z_eqs (σ' := (ap b σ [] [] [])) hu.2 ?_
  show zx p l e _ s m _ below meth c g 13 0 0 _ _ 74 [(8, .int y2), (7, .int y1), (6, .ref (b + 17)), (0, .ref (b + 0)), (1, .int 2), (2, .int w1), (3, .int w2), (4, .int w3), (5, .int w4)] _
  refine z_seti (y := y3) hu.1 ?_
  refine z_istore (lv' := [(9, .int y3), (8, .int y2), (7, .int y1), (6, .ref (b + 17)), (0, .ref (b + 0)), (1, .int 2), (2, .int w1), (3, .int w2), (4, .int w3), (5, .int w4)]) B dX8_check_74 (by decide) rfl ?_
  refine z_aload B dX8_check_76 3 rfl ?_
  refine z_iload_n B dX8_check_78 rfl 6 rfl ?_
  refine z_iload_n B dX8_check_79 rfl 7 rfl ?_
  refine z_iload B dX8_check_80 8 rfl ?_
  refine z_iload B dX8_check_82 9 rfl ?_
  refine z_cVv (As := [.int w1, .int w2, .int w3, .int w4]) (rest := []) B cw_X8_88 cx_5 dX8_check_84 (ci_X4_put_193 l (σ := (ap b σ [] [] [])) (b := b) (lyA hK) w1 w2 w3 w4 q1_w1 q2_w1 (rR_at 17 1 hR_17_1) (rR_at 17 2 hR_17_2) (rR_at 17 3 hR_17_3)) (lKA (hk_K hK 17 rfl rfl)) rfl (by decide) rfl (Nat.le_of_ble_eq_true rfl) (by decide) (fun u hu => ?_)
  refine z_eqs (σ' := (ap b (wx_I (ap b (wx_I (ap b (wx_I (ap b (ap b σ [] [] []) [] [] []) (b + 18) w1.toNatClampNeg w2) [] [] []) (b + 19) w1.toNatClampNeg w3) [] [] []) (b + 20) w1.toNatClampNeg w4) [] [] [])) hu ?_
  show zx p l e _ s m _ below meth c g 13 0 0 _ _ 87 [(9, .int y3), (8, .int y2), (7, .int y1), (6, .ref (b + 17)), (0, .ref (b + 0)), (1, .int 2), (2, .int w1), (3, .int w2), (4, .int w3), (5, .int w4)] _
  refine z_iconst (v := 0) B dX8_check_87 (by decide) ?_
  refine z_istore (lv' := [(10, .int 0), (9, .int y3), (8, .int y2), (7, .int y1), (6, .ref (b + 17)), (0, .ref (b + 0)), (1, .int 2), (2, .int w1), (3, .int w2), (4, .int w3), (5, .int w4)]) B dX8_check_88 (by decide) rfl ?_
  refine z_iconst (v := 0) B dX8_check_90 (by decide) ?_
  refine z_istore (lv' := [(11, .int 0), (10, .int 0), (9, .int y3), (8, .int y2), (7, .int y1), (6, .ref (b + 17)), (0, .ref (b + 0)), (1, .int 2), (2, .int w1), (3, .int w2), (4, .int w3), (5, .int w4)]) B dX8_check_91 (by decide) rfl ?_
  refine z_iload B dX8_check_93 0 rfl ?_
  refine z_aload_n B dX8_check_95 rfl 6 rfl ?_
  refine gf_X8_96 (x := 0) B (lKA (lKW (lKA (lKW (lKA (lKW (lKA (lKA (hk_K hK 0 rfl rfl))))))))) (rI_at 0 7 ((ux_a (by omega)).trans (rI_at 0 7 ((ux_a (by omega)).trans (rI_at 0 7 ((ux_a (by omega)).trans (rI_at 0 7 (rI_at 0 7 hI_0_7)))))))) dX8_check_96 ?_
  refine z_icmp_ge (tgt := 154) B dX8_check_99 (by decide) (fun _ => ?_) (fun h => absurd (by decide) h)
  refine z_aload B dX8_check_154 5 rfl ?_
  refine z_iload_n B dX8_check_156 rfl 8 rfl ?_
  refine z_iload B dX8_check_157 4 rfl ?_
  refine z_iload B dX8_check_159 3 rfl ?_
  refine z_iload B dX8_check_161 2 rfl ?_
  refine z_cVv (As := [.int w1, .int y1, .int y2, .int y3]) (rest := []) B cw_X8_88 cx_5 dX8_check_163 (ci_X4_put_193 l (σ := (ap b (wx_I (ap b (wx_I (ap b (wx_I (ap b (ap b σ [] [] []) [] [] []) (b + 18) w1.toNatClampNeg w2) [] [] []) (b + 19) w1.toNatClampNeg w3) [] [] []) (b + 20) w1.toNatClampNeg w4) [] [] [])) (b := b) (lyA (lyW (lyA (lyW (lyA (lyW (lyA (lyA hK)))))))) w1 y1 y2 y3 q1_w1 q2_w1 (rR_at 17 1 (rR_w (rR_at 17 1 (rR_w (rR_at 17 1 (rR_w (rR_at 17 1 (rR_at 17 1 hR_17_1)))))))) (rR_at 17 2 (rR_w (rR_at 17 2 (rR_w (rR_at 17 2 (rR_w (rR_at 17 2 (rR_at 17 2 hR_17_2)))))))) (rR_at 17 3 (rR_w (rR_at 17 3 (rR_w (rR_at 17 3 (rR_w (rR_at 17 3 (rR_at 17 3 hR_17_3))))))))) (lKA (lKW (lKA (lKW (lKA (lKW (lKA (lKA (hk_K hK 17 rfl rfl))))))))) rfl (by decide) rfl (Nat.le_of_ble_eq_true rfl) (by decide) (fun u hu => ?_)
  refine z_eqs (σ' := (ap b (wx_I (ap b (wx_I (ap b (wx_I (ap b (ap b (wx_I (ap b (wx_I (ap b (wx_I (ap b (ap b σ [] [] []) [] [] []) (b + 18) w1.toNatClampNeg w2) [] [] []) (b + 19) w1.toNatClampNeg w3) [] [] []) (b + 20) w1.toNatClampNeg w4) [] [] []) [] [] []) (b + 18) w1.toNatClampNeg y1) [] [] []) (b + 19) w1.toNatClampNeg y2) [] [] []) (b + 20) w1.toNatClampNeg y3) [] [] [])) hu ?_
  show zx p l e _ s m _ below meth c g 13 0 0 _ _ 166 [(11, .int 0), (10, .int 0), (9, .int y3), (8, .int y2), (7, .int y1), (6, .ref (b + 17)), (0, .ref (b + 0)), (1, .int 2), (2, .int w1), (3, .int w2), (4, .int w3), (5, .int w4)] _
  refine z_iload B dX8_check_166 1 rfl ?_
  exact z_iret B hr (by decide) (by decide) dX8_check_168 ⟨y1, y2, y3, rfl, rfl⟩
set_option maxRecDepth 100000 in
set_option maxHeartbeats 4000000 in
theorem ci_L_check_494 (l : Launch) {g : gx_T} {σ : sx_T} {b : Nat} (hK : lay b σ) (w1 : Int32) (w2 : Int32) (w3 : Int32) (w4 : Int32) (q1_w1 : (0 : Int) ≤ w1.toInt) (q2_w1 : w1.toInt ≤ (19 : Int)) (q1_w2 : (0 : Int) ≤ w2.toInt) (q2_w2 : w2.toInt ≤ (17 : Int)) (q1_w3 : (0 : Int) ≤ w3.toInt) (q2_w3 : w3.toInt ≤ (99 : Int)) (q1_w4 : (0 : Int) ≤ w4.toInt) (q2_w4 : w4.toInt ≤ (99 : Int)) (hI_0_7 : sx_I σ (b + 0) 7 = 0) (hR_0_0 : sx_R σ (b + 0) 0 = (some (b + 1))) (hR_1_2 : sx_R σ (b + 1) 2 = (some (b + 17))) (hR_17_1 : sx_R σ (b + 17) 1 = (some (b + 18))) (hR_17_2 : sx_R σ (b + 17) 2 = (some (b + 19))) (hR_17_3 : sx_R σ (b + 17) 3 = (some (b + 20))) : Met l yL_check (.codeWith yL_check cL_check 8 (some .int) [(0, 16, 19, 13), (0, 16, 23, 15)] :: lw_g) { frames := 3, cells := 0, slots := 0, locals := 75 } (va_Pc [.ref (b + 0), .int 2, .int w1, .int w2, .int w3, .int w4, .ref (b + 431)] (zx_w g σ)) (va_Qi (fun r u => ∃ y1 y2 y3 : Int32, r = 0 ∧ u = (ap b (wx_I (ap b (wx_I (ap b (wx_I (ap b (ap b (wx_I (ap b (wx_I (ap b (wx_I (ap b (ap b (ap b σ [] [] []) [] [] []) [] [] []) (b + 18) w1.toNatClampNeg w2) [] [] []) (b + 19) w1.toNatClampNeg w3) [] [] []) (b + 20) w1.toNatClampNeg w4) [] [] []) [] [] []) (b + 18) w1.toNatClampNeg y1) [] [] []) (b + 19) w1.toNatClampNeg y2) [] [] []) (b + 20) w1.toNatClampNeg y3) [] [(431, 0, 0)] [])) (zx_w g) (gx_Q g)) 0 0 (gx_Q g) := by
  refine z_metW (by decide) (Nat.le_of_ble_eq_true rfl) (fun p e s m below meth c B hr htab => ?_)
  refine z_eqs (σ' := (ap b σ [] [] [])) rfl ?_
  show zx p l e _ s m _ below meth c g 8 0 0 _ _ 0 [(0, .ref (b + 0)), (1, .int 2), (2, .int w1), (3, .int w2), (4, .int w3), (5, .int w4), (6, .ref (b + 431))] []
  refine z_aload B dL_check_0 6 rfl ?_
  refine z_iconst (v := 0) B dL_check_2 (by decide) ?_
  refine z_aload_n B dL_check_3 rfl 0 rfl ?_
  refine z_iload_n B dL_check_4 rfl 1 rfl ?_
  refine z_iload_n B dL_check_5 rfl 2 rfl ?_
  refine z_iload_n B dL_check_6 rfl 3 rfl ?_
  refine z_iload B dL_check_7 4 rfl ?_
  refine z_iload B dL_check_9 5 rfl ?_
  refine z_cVi (As := [.int 2, .int w1, .int w2, .int w3, .int w4]) (rest := [.int 0, .ref (b + 431)]) B cw_L_17 cx_9 dL_check_11 (ci_X8_check_493 l (σ := (ap b σ [] [] [])) (b := b) (lyA hK) w1 w2 w3 w4 q1_w1 q2_w1 q1_w2 q2_w2 q1_w3 q2_w3 q1_w4 q2_w4 (rI_at 0 7 hI_0_7) (rR_at 0 0 hR_0_0) (rR_at 1 2 hR_1_2) (rR_at 17 1 hR_17_1) (rR_at 17 2 hR_17_2) (rR_at 17 3 hR_17_3)) (lKA (hk_K hK 0 rfl rfl)) rfl (by decide) rfl (Nat.le_of_ble_eq_true rfl) (by decide) (fun r u hu => ?_)
  obtain ⟨y1, y2, y3, hu⟩ := hu
  refine z_eqs (σ' := (ap b (wx_I (ap b (wx_I (ap b (wx_I (ap b (ap b (wx_I (ap b (wx_I (ap b (wx_I (ap b (ap b (ap b σ [] [] []) [] [] []) [] [] []) (b + 18) w1.toNatClampNeg w2) [] [] []) (b + 19) w1.toNatClampNeg w3) [] [] []) (b + 20) w1.toNatClampNeg w4) [] [] []) [] [] []) (b + 18) w1.toNatClampNeg y1) [] [] []) (b + 19) w1.toNatClampNeg y2) [] [] []) (b + 20) w1.toNatClampNeg y3) [] [] [])) hu.2 ?_
  show zx p l e _ s m _ below meth c g 8 0 0 _ _ 14 [(0, .ref (b + 0)), (1, .int 2), (2, .int w1), (3, .int w2), (4, .int w3), (5, .int w4), (6, .ref (b + 431))] _
  refine z_seti (y := 0) hu.1 ?_
  refine z_i2l (v := 0) B dL_check_14 (by decide) ?_
  refine z_last (j := 0) (σ' := (ap b (wx_I (ap b (wx_I (ap b (wx_I (ap b (ap b (wx_I (ap b (wx_I (ap b (wx_I (ap b (ap b (ap b σ [] [] []) [] [] []) [] [] []) (b + 18) w1.toNatClampNeg w2) [] [] []) (b + 19) w1.toNatClampNeg w3) [] [] []) (b + 20) w1.toNatClampNeg w4) [] [] []) [] [] []) (b + 18) w1.toNatClampNeg y1) [] [] []) (b + 19) w1.toNatClampNeg y2) [] [] []) (b + 20) w1.toNatClampNeg y3) [] [(431, 0, 0)] [])) B (lKA (lKW (lKA (lKW (lKA (lKW (lKA (lKA (lKW (lKA (lKW (lKA (lKW (lKA (lKA (lKA (hk_K hK 431 rfl rfl))))))))))))))))) (by decide) (in_of (lNA (lNW (lNA (lNW (lNA (lNW (lNA (lNA (lNW (lNA (lNW (lNA (lNW (lNA (lNA (lNA (hk_N hK 431 rfl rfl))))))))))))))))) (show ¬ ((0 : Int32) < 0 ∨ 1 ≤ (0 : Int32).toNatClampNeg) by decide)) wJ_ap dL_check_15 ?_
  refine z_goto (tgt := 27) B dL_check_16 (by decide) ?_
  refine z_iconst (v := 0) B dL_check_27 (by decide) ?_
  exact z_iret B hr (by decide) (by decide) dL_check_28 ⟨y1, y2, y3, rfl, rfl⟩
set_option maxRecDepth 100000 in
set_option maxHeartbeats 4000000 in
theorem ci_X9_check_495 (l : Launch) {g : gx_T} {σ : sx_T} {b : Nat} (hK : lay b σ) (w1 : Int32) (w2 : Int32) (w3 : Int32) (w4 : Int32) (q1_w1 : (0 : Int) ≤ w1.toInt) (q2_w1 : w1.toInt ≤ (19 : Int)) (q1_w2 : (0 : Int) ≤ w2.toInt) (q2_w2 : w2.toInt ≤ (17 : Int)) (q1_w3 : (0 : Int) ≤ w3.toInt) (q2_w3 : w3.toInt ≤ (99 : Int)) (q1_w4 : (0 : Int) ≤ w4.toInt) (q2_w4 : w4.toInt ≤ (99 : Int)) (hI_405_6 : sx_I σ (b + 405) 6 = 0) (hR_405_3 : sx_R σ (b + 405) 3 = (some (b + 406))) (hR_405_4 : sx_R σ (b + 405) 4 = (some (b + 407))) (hR_405_5 : sx_R σ (b + 405) 5 = (some (b + 408))) : Met l yX9_check (.code yX9_check cX9_check 11 (some .int) :: lw_g) { frames := 2, cells := 0, slots := 0, locals := 44 } (va_Pc [.ref (b + 405), .int 2, .int w1, .int w2, .int w3, .int w4] (zx_w g σ)) (va_Qi (fun r u => ∃ y4 y5 y6 : Int32, r = 0 ∧ u = (ap b (wx_I (ap b (wx_I (ap b (wx_I (ap b (ap b (wx_I (ap b (wx_I (ap b (wx_I (ap b (ap b σ [(405, 0, 0)] [] []) [] [] []) (b + 406) (40 + w1).toNatClampNeg w2) [] [] []) (b + 407) (40 + w1).toNatClampNeg w3) [] [] []) (b + 408) (40 + w1).toNatClampNeg w4) [] [] []) [] [] []) (b + 406) (40 + w1).toNatClampNeg y4) [] [] []) (b + 407) (40 + w1).toNatClampNeg y5) [] [] []) (b + 408) (40 + w1).toNatClampNeg y6) [] [] [])) (zx_w g) (gx_Q g)) 0 0 (gx_Q g) := by
  refine z_met (by decide) (Nat.le_of_ble_eq_true rfl) (fun p e s m below meth c B hr hin => ?_)
  refine z_eqs (σ' := (ap b σ [] [] [])) rfl ?_
  show zx p l e _ s m _ below meth c g 11 0 0 _ _ 0 [(0, .ref (b + 405)), (1, .int 2), (2, .int w1), (3, .int w2), (4, .int w3), (5, .int w4)] []
  refine z_aload_n B dX9_check_0 rfl 0 rfl ?_
  refine z_iload_n B dX9_check_1 rfl 1 rfl ?_
  refine z_iload_n B dX9_check_2 rfl 2 rfl ?_
  refine z_cSi (As := [.int 2, .int w1]) (rest := [.ref (b + 405)]) B cw_X9_238 dX9_check_3 (ci_X9_isStep_185 l (σ := (ap b σ [] [] [])) (b := b) (lyA hK) w1 q1_w1 q2_w1) rfl (by decide) rfl (Nat.le_of_ble_eq_true rfl) (by decide) (fun r u hu => ?_)
  refine z_eqs (σ' := (ap b σ [] [] [])) hu.2 ?_
  show zx p l e _ s m _ below meth c g 11 0 0 _ _ 6 [(0, .ref (b + 405)), (1, .int 2), (2, .int w1), (3, .int w2), (4, .int w3), (5, .int w4)] _
  refine z_seti (y := 1) hu.1 ?_
  refine z_iload_n B dX9_check_6 rfl 3 rfl ?_
  refine z_iload B dX9_check_7 4 rfl ?_
  refine z_iload B dX9_check_9 5 rfl ?_
  refine z_cSi (As := [.int w2, .int w3, .int w4]) (rest := [.int 1, .ref (b + 405)]) B cw_X9_242 dX9_check_11 (ci_X9_isOperation_39 l (σ := (ap b σ [] [] [])) (b := b) (lyA hK) w2 w3 w4 q1_w2 q2_w2 q1_w3 q2_w3 q1_w4 q2_w4) rfl (by decide) rfl (Nat.le_of_ble_eq_true rfl) (by decide) (fun r u hu => ?_)
  refine z_eqs (σ' := (ap b σ [] [] [])) hu.2 ?_
  show zx p l e _ s m _ below meth c g 11 0 0 _ _ 14 [(0, .ref (b + 405)), (1, .int 2), (2, .int w1), (3, .int w2), (4, .int w3), (5, .int w4)] _
  refine z_seti (y := 1) hu.1 ?_
  refine z_cVi (As := [.int 1, .int 1]) (rest := []) B cw_X9_245 cx_10 dX9_check_14 (ci_X9_needs__91 l (σ := (ap b σ [] [] [])) (b := b) (lyA hK) ) (lKA (hk_K hK 405 rfl rfl)) rfl (by decide) rfl (Nat.le_of_ble_eq_true rfl) (by decide) (fun r u hu => ?_)
  refine z_eqs (σ' := (ap b σ [(405, 0, 0)] [] [])) (hu.2.trans ap_ap) ?_
  show zx p l e _ s m _ below meth c g 11 0 0 _ _ 17 [(0, .ref (b + 405)), (1, .int 2), (2, .int w1), (3, .int w2), (4, .int w3), (5, .int w4)] _
  refine z_seti (y := 1) hu.1 ?_
  refine z_if_ne (tgt := 22) B dX9_check_17 (by decide) (fun _ => ?_) (fun h => absurd h (by decide))
  refine z_bipush (v := 20) B dX9_check_22 (by decide) ?_
  refine z_iload_n B dX9_check_24 rfl 1 rfl ?_
  refine z_imul B dX9_check_25 ?_
  refine z_seti (y := 40) (by decide) ?_
  refine z_iload_n B dX9_check_26 rfl 2 rfl ?_
  refine z_iadd B dX9_check_27 ?_
  refine z_istore (lv' := [(6, .int (40 + w1)), (0, .ref (b + 405)), (1, .int 2), (2, .int w1), (3, .int w2), (4, .int w3), (5, .int w4)]) B dX9_check_28 (by decide) rfl ?_
  refine z_aload_n B dX9_check_30 rfl 1 rfl ?_
  refine gf_X9_13 (x := (some (b + 406))) B (lKA (hk_K hK 405 rfl rfl)) (rR_at 405 3 hR_405_3) dX9_check_31 ?_
  refine z_iload B dX9_check_34 0 rfl ?_
  refine z_iald (j := (40 + w1).toNatClampNeg) B (lKA (hk_K hK 406 rfl rfl)) rfl (in_of (lNA (hk_N hK 406 rfl rfl)) (iv_inadd q1_w1 q2_w1 (by decide) (by decide))) rfl dX9_check_36 ?_
  refine z_topi (fun y4 e_y4 => ?_)
  refine z_istore (lv' := [(7, .int y4), (6, .int (40 + w1)), (0, .ref (b + 405)), (1, .int 2), (2, .int w1), (3, .int w2), (4, .int w3), (5, .int w4)]) B dX9_check_37 (by decide) rfl ?_
  refine z_aload_n B dX9_check_39 rfl 2 rfl ?_
  refine gf_X9_17 (x := (some (b + 407))) B (lKA (hk_K hK 405 rfl rfl)) (rR_at 405 4 hR_405_4) dX9_check_40 ?_
  refine z_iload B dX9_check_43 1 rfl ?_
  refine z_iald (j := (40 + w1).toNatClampNeg) B (lKA (hk_K hK 407 rfl rfl)) rfl (in_of (lNA (hk_N hK 407 rfl rfl)) (iv_inadd q1_w1 q2_w1 (by decide) (by decide))) rfl dX9_check_45 ?_
  refine z_topi (fun y5 e_y5 => ?_)
  refine z_istore (lv' := [(8, .int y5), (7, .int y4), (6, .int (40 + w1)), (0, .ref (b + 405)), (1, .int 2), (2, .int w1), (3, .int w2), (4, .int w3), (5, .int w4)]) B dX9_check_46 (by decide) rfl ?_
  refine z_aload_n B dX9_check_48 rfl 3 rfl ?_
  refine gf_X9_20 (x := (some (b + 408))) B (lKA (hk_K hK 405 rfl rfl)) (rR_at 405 5 hR_405_5) dX9_check_49 ?_
  refine z_iload B dX9_check_52 2 rfl ?_
  refine z_iald (j := (40 + w1).toNatClampNeg) B (lKA (hk_K hK 408 rfl rfl)) rfl (in_of (lNA (hk_N hK 408 rfl rfl)) (iv_inadd q1_w1 q2_w1 (by decide) (by decide))) rfl dX9_check_54 ?_
  refine z_topi (fun y6 e_y6 => ?_)
  refine z_istore (lv' := [(9, .int y6), (8, .int y5), (7, .int y4), (6, .int (40 + w1)), (0, .ref (b + 405)), (1, .int 2), (2, .int w1), (3, .int w2), (4, .int w3), (5, .int w4)]) B dX9_check_55 (by decide) rfl ?_
  refine z_aload_n B dX9_check_57 rfl 4 rfl ?_
  refine z_iload_n B dX9_check_58 rfl 5 rfl ?_
  refine z_iload_n B dX9_check_59 rfl 6 rfl ?_
  refine z_iload_n B dX9_check_60 rfl 7 rfl ?_
  refine z_iload B dX9_check_61 8 rfl ?_
  refine z_iload B dX9_check_63 9 rfl ?_
  refine z_cVv (As := [.int 2, .int w1, .int w2, .int w3, .int w4]) (rest := []) B cw_X9_249 cx_10 dX9_check_65 (ci_X9_lays_198 l (σ := (ap b σ [(405, 0, 0)] [] [])) (b := b) (lyA hK) w1 w2 w3 w4 q1_w1 q2_w1 (rR_at 405 3 hR_405_3) (rR_at 405 4 hR_405_4) (rR_at 405 5 hR_405_5)) (lKA (hk_K hK 405 rfl rfl)) rfl (by decide) rfl (Nat.le_of_ble_eq_true rfl) (by decide) (fun u hu => ?_)
  refine z_eqs (σ' := (ap b (wx_I (ap b (wx_I (ap b (wx_I (ap b (ap b σ [(405, 0, 0)] [] []) [] [] []) (b + 406) (40 + w1).toNatClampNeg w2) [] [] []) (b + 407) (40 + w1).toNatClampNeg w3) [] [] []) (b + 408) (40 + w1).toNatClampNeg w4) [] [] [])) hu ?_
  show zx p l e _ s m _ below meth c g 11 0 0 _ _ 68 [(9, .int y6), (8, .int y5), (7, .int y4), (6, .int (40 + w1)), (0, .ref (b + 405)), (1, .int 2), (2, .int w1), (3, .int w2), (4, .int w3), (5, .int w4)] _
  refine z_aload_n B dX9_check_68 rfl 4 rfl ?_
  refine z_iload_n B dX9_check_69 rfl 5 rfl ?_
  refine z_cVi (As := [.int 2]) (rest := []) B cw_X9_256 cx_10 dX9_check_70 (ci_X9_unfit_199 l (σ := (ap b (wx_I (ap b (wx_I (ap b (wx_I (ap b (ap b σ [(405, 0, 0)] [] []) [] [] []) (b + 406) (40 + w1).toNatClampNeg w2) [] [] []) (b + 407) (40 + w1).toNatClampNeg w3) [] [] []) (b + 408) (40 + w1).toNatClampNeg w4) [] [] [])) (b := b) (lyA (lyW (lyA (lyW (lyA (lyW (lyA (lyA hK)))))))) (rI_at 405 6 ((ux_a (by omega)).trans (rI_at 405 6 ((ux_a (by omega)).trans (rI_at 405 6 ((ux_a (by omega)).trans (rI_at 405 6 (rI_at 405 6 hI_405_6))))))))) (lKA (lKW (lKA (lKW (lKA (lKW (lKA (lKA (hk_K hK 405 rfl rfl))))))))) rfl (by decide) rfl (Nat.le_of_ble_eq_true rfl) (by decide) (fun r u hu => ?_)
  refine z_eqs (σ' := (ap b (wx_I (ap b (wx_I (ap b (wx_I (ap b (ap b σ [(405, 0, 0)] [] []) [] [] []) (b + 406) (40 + w1).toNatClampNeg w2) [] [] []) (b + 407) (40 + w1).toNatClampNeg w3) [] [] []) (b + 408) (40 + w1).toNatClampNeg w4) [] [] [])) hu.2 ?_
  show zx p l e _ s m _ below meth c g 11 0 0 _ _ 73 [(9, .int y6), (8, .int y5), (7, .int y4), (6, .int (40 + w1)), (0, .ref (b + 405)), (1, .int 2), (2, .int w1), (3, .int w2), (4, .int w3), (5, .int w4)] _
  refine z_seti (y := 0) hu.1 ?_
  refine z_istore (lv' := [(10, .int 0), (9, .int y6), (8, .int y5), (7, .int y4), (6, .int (40 + w1)), (0, .ref (b + 405)), (1, .int 2), (2, .int w1), (3, .int w2), (4, .int w3), (5, .int w4)]) B dX9_check_73 (by decide) rfl ?_
  refine z_aload_n B dX9_check_75 rfl 5 rfl ?_
  refine z_iload_n B dX9_check_76 rfl 6 rfl ?_
  refine z_iload_n B dX9_check_77 rfl 7 rfl ?_
  refine z_iload B dX9_check_78 3 rfl ?_
  refine z_iload B dX9_check_80 2 rfl ?_
  refine z_iload B dX9_check_82 1 rfl ?_
  refine z_cVv (As := [.int 2, .int w1, .int y4, .int y5, .int y6]) (rest := []) B cw_X9_249 cx_10 dX9_check_84 (ci_X9_lays_198 l (σ := (ap b (wx_I (ap b (wx_I (ap b (wx_I (ap b (ap b σ [(405, 0, 0)] [] []) [] [] []) (b + 406) (40 + w1).toNatClampNeg w2) [] [] []) (b + 407) (40 + w1).toNatClampNeg w3) [] [] []) (b + 408) (40 + w1).toNatClampNeg w4) [] [] [])) (b := b) (lyA (lyW (lyA (lyW (lyA (lyW (lyA (lyA hK)))))))) w1 y4 y5 y6 q1_w1 q2_w1 (rR_at 405 3 (rR_w (rR_at 405 3 (rR_w (rR_at 405 3 (rR_w (rR_at 405 3 (rR_at 405 3 hR_405_3)))))))) (rR_at 405 4 (rR_w (rR_at 405 4 (rR_w (rR_at 405 4 (rR_w (rR_at 405 4 (rR_at 405 4 hR_405_4)))))))) (rR_at 405 5 (rR_w (rR_at 405 5 (rR_w (rR_at 405 5 (rR_w (rR_at 405 5 (rR_at 405 5 hR_405_5))))))))) (lKA (lKW (lKA (lKW (lKA (lKW (lKA (lKA (hk_K hK 405 rfl rfl))))))))) rfl (by decide) rfl (Nat.le_of_ble_eq_true rfl) (by decide) (fun u hu => ?_)
  refine z_eqs (σ' := (ap b (wx_I (ap b (wx_I (ap b (wx_I (ap b (ap b (wx_I (ap b (wx_I (ap b (wx_I (ap b (ap b σ [(405, 0, 0)] [] []) [] [] []) (b + 406) (40 + w1).toNatClampNeg w2) [] [] []) (b + 407) (40 + w1).toNatClampNeg w3) [] [] []) (b + 408) (40 + w1).toNatClampNeg w4) [] [] []) [] [] []) (b + 406) (40 + w1).toNatClampNeg y4) [] [] []) (b + 407) (40 + w1).toNatClampNeg y5) [] [] []) (b + 408) (40 + w1).toNatClampNeg y6) [] [] [])) hu ?_
  show zx p l e _ s m _ below meth c g 11 0 0 _ _ 87 [(10, .int 0), (9, .int y6), (8, .int y5), (7, .int y4), (6, .int (40 + w1)), (0, .ref (b + 405)), (1, .int 2), (2, .int w1), (3, .int w2), (4, .int w3), (5, .int w4)] _
  refine z_iload B dX9_check_87 0 rfl ?_
  exact z_iret B hr (by decide) (by decide) dX9_check_89 ⟨y4, y5, y6, rfl, rfl⟩
set_option maxRecDepth 100000 in
set_option maxHeartbeats 4000000 in
theorem ci_X8_check_496 (l : Launch) (hlt : l.stackTraces = false) {g : gx_T} {σ : sx_T} {b : Nat} (hK : lay b σ) (w1 : Int32) (w2 : Int32) (w3 : Int32) (w4 : Int32) (q1_w1 : (0 : Int) ≤ w1.toInt) (q2_w1 : w1.toInt ≤ (19 : Int)) (q1_w2 : (0 : Int) ≤ w2.toInt) (q2_w2 : w2.toInt ≤ (17 : Int)) (q1_w3 : (0 : Int) ≤ w3.toInt) (q2_w3 : w3.toInt ≤ (99 : Int)) (q1_w4 : (100 : Int) ≤ w4.toInt) (q2_w4 : w4.toInt ≤ (2147483647 : Int)) (hR_0_0 : sx_R σ (b + 0) 0 = (some (b + 1))) (hR_1_2 : sx_R σ (b + 1) 2 = (some (b + 17))) : vx_Met l yX8_check (.code yX8_check cX8_check 13 (some .int) :: lw_g) { frames := 7, cells := 1, slots := 6, locals := 136 } (va_Pc [.ref (b + 0), .int 2, .int w1, .int w2, .int w3, .int w4] (zx_w g σ)) (va_Qi (S := sx_T) (fun _ _ => False) (zx_w g) (gx_Q g)) (vx_X (fun u : sx_T => ∃ z, u = wx_Z σ z) (fun E u t => E = "java/lang/IllegalArgumentException" ∧ zx_h g u t.heap) (gx_Q g)) 1 6 (gx_Q g) := by
  refine z_metX (by decide) (Nat.le_of_ble_eq_true rfl) (fun p e s m below meth c B hr hin hout => ?_)
  refine z_eqs (σ' := (ap b σ [] [] [])) rfl ?_
  show zx p l e _ s m _ below meth c g 13 0 0 _ _ 0 [(0, .ref (b + 0)), (1, .int 2), (2, .int w1), (3, .int w2), (4, .int w3), (5, .int w4)] []
  refine z_aload_n B dX8_check_0 rfl 0 rfl ?_
  refine z_iload_n B dX8_check_1 rfl 1 rfl ?_
  refine z_cVq (As := [.int 2]) (rest := []) B cw_X8_64 cx_9 dX8_check_2 (ci_X8_programAt_171 l (σ := (ap b σ [] [] [])) (b := b) (lyA hK) (rR_at 0 0 hR_0_0) (rR_at 1 2 hR_1_2)) (lKA (hk_K hK 0 rfl rfl)) rfl (by decide) rfl (Nat.le_of_ble_eq_true rfl) (by decide) (fun r u hu => ?_)
  refine z_eqs (σ' := (ap b σ [] [] [])) hu.2 ?_
  show zx p l e _ s m _ below meth c g 13 0 0 _ _ 5 [(0, .ref (b + 0)), (1, .int 2), (2, .int w1), (3, .int w2), (4, .int w3), (5, .int w4)] _
  refine z_setr (y := (some (b + 17))) hu.1 ?_
  refine z_astore (lv' := [(6, .ref (b + 17)), (0, .ref (b + 0)), (1, .int 2), (2, .int w1), (3, .int w2), (4, .int w3), (5, .int w4)]) B dX8_check_5 (by decide) rfl ?_
  refine z_aload B dX8_check_7 0 rfl ?_
  refine z_ifnull (r := (some (b + 17))) (tgt := 21) B dX8_check_9 (by decide) (fun h => nomatch h) (fun _ _ => ?_)
  refine z_iload_n B dX8_check_12 rfl 3 rfl ?_
  refine z_bipush (v := 20) B dX8_check_13 (by decide) ?_
  refine z_cSi (As := [.int w1, .int 20]) (rest := []) B cw_X8_68 dX8_check_15 (ci_X8_isBelow_64 l (σ := (ap b σ [] [] [])) (b := b) (lyA hK) w1 q1_w1 q2_w1) rfl (by decide) rfl (Nat.le_of_ble_eq_true rfl) (by decide) (fun r u hu => ?_)
  refine z_eqs (σ' := (ap b σ [] [] [])) hu.2 ?_
  show zx p l e _ s m _ below meth c g 13 0 0 _ _ 18 [(6, .ref (b + 17)), (0, .ref (b + 0)), (1, .int 2), (2, .int w1), (3, .int w2), (4, .int w3), (5, .int w4)] _
  refine z_seti (y := 1) hu.1 ?_
  refine z_if_ne (tgt := 31) B dX8_check_18 (by decide) (fun _ => ?_) (fun h => absurd h (by decide))
  refine z_iload_n B dX8_check_31 rfl 4 rfl ?_
  refine z_iload B dX8_check_32 5 rfl ?_
  refine z_iload B dX8_check_34 6 rfl ?_
  refine z_cSi (As := [.int w2, .int w3, .int w4]) (rest := []) B cw_X8_79 dX8_check_36 (ci_X8_isStep_97 l (σ := (ap b σ [] [] [])) (b := b) (lyA hK) w2 w3 w4 q1_w2 q2_w2 q1_w3 q2_w3 q1_w4 q2_w4) rfl (by decide) rfl (Nat.le_of_ble_eq_true rfl) (by decide) (fun r u hu => ?_)
  refine z_eqs (σ' := (ap b σ [] [] [])) hu.2 ?_
  show zx p l e _ s m _ below meth c g 13 0 0 _ _ 39 [(6, .ref (b + 17)), (0, .ref (b + 0)), (1, .int 2), (2, .int w1), (3, .int w2), (4, .int w3), (5, .int w4)] _
  refine z_seti (y := 0) hu.1 ?_
  refine z_if_ne (tgt := 52) B dX8_check_39 (by decide) (fun h => absurd (by decide) h) (fun _ => ?_)
  exact z_throw B hlt hout (cls := "java/lang/IllegalArgumentException") (text := "no such operation") tw_X8_83_85_87 dX8_check_42 dX8_check_45 dX8_check_46 dX8_check_48 dX8_check_51 (by decide) (by decide) (by decide) (by decide) (by decide) (by decide) (fun z => ⟨z, rfl⟩)
set_option maxRecDepth 100000 in
set_option maxHeartbeats 4000000 in
theorem ci_L_check_497 (l : Launch) (hlt : l.stackTraces = false) {g : gx_T} {σ : sx_T} {b : Nat} (hK : lay b σ) (w1 : Int32) (w2 : Int32) (w3 : Int32) (w4 : Int32) (q1_w1 : (0 : Int) ≤ w1.toInt) (q2_w1 : w1.toInt ≤ (19 : Int)) (q1_w2 : (0 : Int) ≤ w2.toInt) (q2_w2 : w2.toInt ≤ (17 : Int)) (q1_w3 : (0 : Int) ≤ w3.toInt) (q2_w3 : w3.toInt ≤ (99 : Int)) (q1_w4 : (100 : Int) ≤ w4.toInt) (q2_w4 : w4.toInt ≤ (2147483647 : Int)) (hR_0_0 : sx_R σ (b + 0) 0 = (some (b + 1))) (hR_1_2 : sx_R σ (b + 1) 2 = (some (b + 17))) : Met l yL_check (.codeWith yL_check cL_check 8 (some .int) [(0, 16, 19, 13), (0, 16, 23, 15)] :: lw_g) { frames := 8, cells := 1, slots := 6, locals := 168 } (va_Pc [.ref (b + 0), .int 2, .int w1, .int w2, .int w3, .int w4, .ref (b + 431)] (zx_w g σ)) (va_Qi (fun r u => r = 2 ∧ ∃ z, u = (ap b (wx_Z σ z) [] [] [])) (zx_w g) (gx_Q g)) 1 6 (gx_Q g) := by
  refine z_metW (by decide) (Nat.le_of_ble_eq_true rfl) (fun p e s m below meth c B hr htab => ?_)
  refine z_eqs (σ' := (ap b σ [] [] [])) rfl ?_
  show zx p l e _ s m _ below meth c g 8 0 0 _ _ 0 [(0, .ref (b + 0)), (1, .int 2), (2, .int w1), (3, .int w2), (4, .int w3), (5, .int w4), (6, .ref (b + 431))] []
  refine z_aload B dL_check_0 6 rfl ?_
  refine z_iconst (v := 0) B dL_check_2 (by decide) ?_
  refine z_aload_n B dL_check_3 rfl 0 rfl ?_
  refine z_iload_n B dL_check_4 rfl 1 rfl ?_
  refine z_iload_n B dL_check_5 rfl 2 rfl ?_
  refine z_iload_n B dL_check_6 rfl 3 rfl ?_
  refine z_iload B dL_check_7 4 rfl ?_
  refine z_iload B dL_check_9 5 rfl ?_
  refine z_cXi (As := [.int 2, .int w1, .int w2, .int w3, .int w4]) (rest := [.int 0, .ref (b + 431)]) B htab tc_check_11_IllegalArgumentException cw_L_17 cx_9 dL_check_11 (ci_X8_check_496 l hlt (σ := (ap b σ [] [] [])) (b := b) (lyA hK) w1 w2 w3 w4 q1_w1 q2_w1 q1_w2 q2_w2 q1_w3 q2_w3 q1_w4 q2_w4 (rR_at 0 0 hR_0_0) (rR_at 1 2 hR_1_2)) (lKA (hk_K hK 0 rfl rfl)) rfl (by decide) rfl (Nat.le_of_ble_eq_true rfl) (by decide) (fun z q => ?_)
  refine z_eqs (σ' := (ap b (wx_Z σ z) [] [] [])) rfl ?_
  show zx p l e _ s m _ below meth c g 8 _ _ _ _ 23 [(0, .ref (b + 0)), (1, .int 2), (2, .int w1), (3, .int w2), (4, .int w3), (5, .int w4), (6, .ref (b + 431))] _
  refine z_astore (lv' := [(7, .ref q), (0, .ref (b + 0)), (1, .int 2), (2, .int w1), (3, .int w2), (4, .int w3), (5, .int w4), (6, .ref (b + 431))]) B dL_check_23 (by decide) rfl ?_
  refine z_iconst (v := 2) B dL_check_25 (by decide) ?_
  exact z_iret B hr (by decide) (by decide) dL_check_26 ⟨rfl, _, rfl⟩
set_option maxRecDepth 100000 in
set_option maxHeartbeats 4000000 in
theorem ci_X9_check_498 (l : Launch) {g : gx_T} {σ : sx_T} {b : Nat} (hK : lay b σ) (w1 : Int32) (w2 : Int32) (w3 : Int32) (w4 : Int32) (q1_w1 : (0 : Int) ≤ w1.toInt) (q2_w1 : w1.toInt ≤ (19 : Int)) (q1_w2 : (0 : Int) ≤ w2.toInt) (q2_w2 : w2.toInt ≤ (17 : Int)) (q1_w3 : (0 : Int) ≤ w3.toInt) (q2_w3 : w3.toInt ≤ (99 : Int)) (q1_w4 : (100 : Int) ≤ w4.toInt) (q2_w4 : w4.toInt ≤ (2147483647 : Int))  : Met l yX9_check (.code yX9_check cX9_check 11 (some .int) :: lw_g) { frames := 2, cells := 0, slots := 0, locals := 44 } (va_Pc [.ref (b + 405), .int 2, .int w1, .int w2, .int w3, .int w4] (zx_w g σ)) (va_Qi (fun r u => r = 0 ∧ u = (ap b σ [(405, 0, 2)] [] [])) (zx_w g) (gx_Q g)) 0 0 (gx_Q g) := by
  refine z_met (by decide) (Nat.le_of_ble_eq_true rfl) (fun p e s m below meth c B hr hin => ?_)
  refine z_eqs (σ' := (ap b σ [] [] [])) rfl ?_
  show zx p l e _ s m _ below meth c g 11 0 0 _ _ 0 [(0, .ref (b + 405)), (1, .int 2), (2, .int w1), (3, .int w2), (4, .int w3), (5, .int w4)] []
  refine z_aload_n B dX9_check_0 rfl 0 rfl ?_
  refine z_iload_n B dX9_check_1 rfl 1 rfl ?_
  refine z_iload_n B dX9_check_2 rfl 2 rfl ?_
  refine z_cSi (As := [.int 2, .int w1]) (rest := [.ref (b + 405)]) B cw_X9_238 dX9_check_3 (ci_X9_isStep_185 l (σ := (ap b σ [] [] [])) (b := b) (lyA hK) w1 q1_w1 q2_w1) rfl (by decide) rfl (Nat.le_of_ble_eq_true rfl) (by decide) (fun r u hu => ?_)
  refine z_eqs (σ' := (ap b σ [] [] [])) hu.2 ?_
  show zx p l e _ s m _ below meth c g 11 0 0 _ _ 6 [(0, .ref (b + 405)), (1, .int 2), (2, .int w1), (3, .int w2), (4, .int w3), (5, .int w4)] _
  refine z_seti (y := 1) hu.1 ?_
  refine z_iload_n B dX9_check_6 rfl 3 rfl ?_
  refine z_iload B dX9_check_7 4 rfl ?_
  refine z_iload B dX9_check_9 5 rfl ?_
  refine z_cSi (As := [.int w2, .int w3, .int w4]) (rest := [.int 1, .ref (b + 405)]) B cw_X9_242 dX9_check_11 (ci_X9_isOperation_43 l (σ := (ap b σ [] [] [])) (b := b) (lyA hK) w2 w3 w4 q1_w2 q2_w2 q1_w3 q2_w3 q1_w4 q2_w4) rfl (by decide) rfl (Nat.le_of_ble_eq_true rfl) (by decide) (fun r u hu => ?_)
  refine z_eqs (σ' := (ap b σ [] [] [])) hu.2 ?_
  show zx p l e _ s m _ below meth c g 11 0 0 _ _ 14 [(0, .ref (b + 405)), (1, .int 2), (2, .int w1), (3, .int w2), (4, .int w3), (5, .int w4)] _
  refine z_seti (y := 0) hu.1 ?_
  refine z_cVi (As := [.int 1, .int 0]) (rest := []) B cw_X9_245 cx_10 dX9_check_14 (ci_X9_needs__71 l (σ := (ap b σ [] [] [])) (b := b) (lyA hK) ) (lKA (hk_K hK 405 rfl rfl)) rfl (by decide) rfl (Nat.le_of_ble_eq_true rfl) (by decide) (fun r u hu => ?_)
  refine z_eqs (σ' := (ap b σ [(405, 0, 2)] [] [])) (hu.2.trans ap_ap) ?_
  show zx p l e _ s m _ below meth c g 11 0 0 _ _ 17 [(0, .ref (b + 405)), (1, .int 2), (2, .int w1), (3, .int w2), (4, .int w3), (5, .int w4)] _
  refine z_seti (y := 0) hu.1 ?_
  refine z_if_ne (tgt := 22) B dX9_check_17 (by decide) (fun h => absurd (by decide) h) (fun _ => ?_)
  refine z_iconst (v := 0) B dX9_check_20 (by decide) ?_
  exact z_iret B hr (by decide) (by decide) dX9_check_21 ⟨rfl, rfl⟩
set_option maxRecDepth 100000 in
set_option maxHeartbeats 4000000 in
theorem ci_X8_check_499 (l : Launch) (hlt : l.stackTraces = false) {g : gx_T} {σ : sx_T} {b : Nat} (hK : lay b σ) (w1 : Int32) (w2 : Int32) (w3 : Int32) (w4 : Int32) (q1_w1 : (0 : Int) ≤ w1.toInt) (q2_w1 : w1.toInt ≤ (19 : Int)) (q1_w2 : (0 : Int) ≤ w2.toInt) (q2_w2 : w2.toInt ≤ (17 : Int)) (q1_w3 : (100 : Int) ≤ w3.toInt) (q2_w3 : w3.toInt ≤ (2147483647 : Int)) (hR_0_0 : sx_R σ (b + 0) 0 = (some (b + 1))) (hR_1_2 : sx_R σ (b + 1) 2 = (some (b + 17))) : vx_Met l yX8_check (.code yX8_check cX8_check 13 (some .int) :: lw_g) { frames := 7, cells := 1, slots := 6, locals := 136 } (va_Pc [.ref (b + 0), .int 2, .int w1, .int w2, .int w3, .int w4] (zx_w g σ)) (va_Qi (S := sx_T) (fun _ _ => False) (zx_w g) (gx_Q g)) (vx_X (fun u : sx_T => ∃ z, u = wx_Z σ z) (fun E u t => E = "java/lang/IllegalArgumentException" ∧ zx_h g u t.heap) (gx_Q g)) 1 6 (gx_Q g) := by
  refine z_metX (by decide) (Nat.le_of_ble_eq_true rfl) (fun p e s m below meth c B hr hin hout => ?_)
  refine z_eqs (σ' := (ap b σ [] [] [])) rfl ?_
  show zx p l e _ s m _ below meth c g 13 0 0 _ _ 0 [(0, .ref (b + 0)), (1, .int 2), (2, .int w1), (3, .int w2), (4, .int w3), (5, .int w4)] []
  refine z_aload_n B dX8_check_0 rfl 0 rfl ?_
  refine z_iload_n B dX8_check_1 rfl 1 rfl ?_
  refine z_cVq (As := [.int 2]) (rest := []) B cw_X8_64 cx_9 dX8_check_2 (ci_X8_programAt_171 l (σ := (ap b σ [] [] [])) (b := b) (lyA hK) (rR_at 0 0 hR_0_0) (rR_at 1 2 hR_1_2)) (lKA (hk_K hK 0 rfl rfl)) rfl (by decide) rfl (Nat.le_of_ble_eq_true rfl) (by decide) (fun r u hu => ?_)
  refine z_eqs (σ' := (ap b σ [] [] [])) hu.2 ?_
  show zx p l e _ s m _ below meth c g 13 0 0 _ _ 5 [(0, .ref (b + 0)), (1, .int 2), (2, .int w1), (3, .int w2), (4, .int w3), (5, .int w4)] _
  refine z_setr (y := (some (b + 17))) hu.1 ?_
  refine z_astore (lv' := [(6, .ref (b + 17)), (0, .ref (b + 0)), (1, .int 2), (2, .int w1), (3, .int w2), (4, .int w3), (5, .int w4)]) B dX8_check_5 (by decide) rfl ?_
  refine z_aload B dX8_check_7 0 rfl ?_
  refine z_ifnull (r := (some (b + 17))) (tgt := 21) B dX8_check_9 (by decide) (fun h => nomatch h) (fun _ _ => ?_)
  refine z_iload_n B dX8_check_12 rfl 3 rfl ?_
  refine z_bipush (v := 20) B dX8_check_13 (by decide) ?_
  refine z_cSi (As := [.int w1, .int 20]) (rest := []) B cw_X8_68 dX8_check_15 (ci_X8_isBelow_64 l (σ := (ap b σ [] [] [])) (b := b) (lyA hK) w1 q1_w1 q2_w1) rfl (by decide) rfl (Nat.le_of_ble_eq_true rfl) (by decide) (fun r u hu => ?_)
  refine z_eqs (σ' := (ap b σ [] [] [])) hu.2 ?_
  show zx p l e _ s m _ below meth c g 13 0 0 _ _ 18 [(6, .ref (b + 17)), (0, .ref (b + 0)), (1, .int 2), (2, .int w1), (3, .int w2), (4, .int w3), (5, .int w4)] _
  refine z_seti (y := 1) hu.1 ?_
  refine z_if_ne (tgt := 31) B dX8_check_18 (by decide) (fun _ => ?_) (fun h => absurd h (by decide))
  refine z_iload_n B dX8_check_31 rfl 4 rfl ?_
  refine z_iload B dX8_check_32 5 rfl ?_
  refine z_iload B dX8_check_34 6 rfl ?_
  refine z_cSi (As := [.int w2, .int w3, .int w4]) (rest := []) B cw_X8_79 dX8_check_36 (ci_X8_isStep_101 l (σ := (ap b σ [] [] [])) (b := b) (lyA hK) w2 w3 w4 q1_w2 q2_w2 q1_w3 q2_w3) rfl (by decide) rfl (Nat.le_of_ble_eq_true rfl) (by decide) (fun r u hu => ?_)
  refine z_eqs (σ' := (ap b σ [] [] [])) hu.2 ?_
  show zx p l e _ s m _ below meth c g 13 0 0 _ _ 39 [(6, .ref (b + 17)), (0, .ref (b + 0)), (1, .int 2), (2, .int w1), (3, .int w2), (4, .int w3), (5, .int w4)] _
  refine z_seti (y := 0) hu.1 ?_
  refine z_if_ne (tgt := 52) B dX8_check_39 (by decide) (fun h => absurd (by decide) h) (fun _ => ?_)
  exact z_throw B hlt hout (cls := "java/lang/IllegalArgumentException") (text := "no such operation") tw_X8_83_85_87 dX8_check_42 dX8_check_45 dX8_check_46 dX8_check_48 dX8_check_51 (by decide) (by decide) (by decide) (by decide) (by decide) (by decide) (fun z => ⟨z, rfl⟩)
set_option maxRecDepth 100000 in
set_option maxHeartbeats 4000000 in
theorem ci_L_check_500 (l : Launch) (hlt : l.stackTraces = false) {g : gx_T} {σ : sx_T} {b : Nat} (hK : lay b σ) (w1 : Int32) (w2 : Int32) (w3 : Int32) (w4 : Int32) (q1_w1 : (0 : Int) ≤ w1.toInt) (q2_w1 : w1.toInt ≤ (19 : Int)) (q1_w2 : (0 : Int) ≤ w2.toInt) (q2_w2 : w2.toInt ≤ (17 : Int)) (q1_w3 : (100 : Int) ≤ w3.toInt) (q2_w3 : w3.toInt ≤ (2147483647 : Int)) (hR_0_0 : sx_R σ (b + 0) 0 = (some (b + 1))) (hR_1_2 : sx_R σ (b + 1) 2 = (some (b + 17))) : Met l yL_check (.codeWith yL_check cL_check 8 (some .int) [(0, 16, 19, 13), (0, 16, 23, 15)] :: lw_g) { frames := 8, cells := 1, slots := 6, locals := 168 } (va_Pc [.ref (b + 0), .int 2, .int w1, .int w2, .int w3, .int w4, .ref (b + 431)] (zx_w g σ)) (va_Qi (fun r u => r = 2 ∧ ∃ z, u = (ap b (wx_Z σ z) [] [] [])) (zx_w g) (gx_Q g)) 1 6 (gx_Q g) := by
  refine z_metW (by decide) (Nat.le_of_ble_eq_true rfl) (fun p e s m below meth c B hr htab => ?_)
  refine z_eqs (σ' := (ap b σ [] [] [])) rfl ?_
  show zx p l e _ s m _ below meth c g 8 0 0 _ _ 0 [(0, .ref (b + 0)), (1, .int 2), (2, .int w1), (3, .int w2), (4, .int w3), (5, .int w4), (6, .ref (b + 431))] []
  refine z_aload B dL_check_0 6 rfl ?_
  refine z_iconst (v := 0) B dL_check_2 (by decide) ?_
  refine z_aload_n B dL_check_3 rfl 0 rfl ?_
  refine z_iload_n B dL_check_4 rfl 1 rfl ?_
  refine z_iload_n B dL_check_5 rfl 2 rfl ?_
  refine z_iload_n B dL_check_6 rfl 3 rfl ?_
  refine z_iload B dL_check_7 4 rfl ?_
  refine z_iload B dL_check_9 5 rfl ?_
  refine z_cXi (As := [.int 2, .int w1, .int w2, .int w3, .int w4]) (rest := [.int 0, .ref (b + 431)]) B htab tc_check_11_IllegalArgumentException cw_L_17 cx_9 dL_check_11 (ci_X8_check_499 l hlt (σ := (ap b σ [] [] [])) (b := b) (lyA hK) w1 w2 w3 w4 q1_w1 q2_w1 q1_w2 q2_w2 q1_w3 q2_w3 (rR_at 0 0 hR_0_0) (rR_at 1 2 hR_1_2)) (lKA (hk_K hK 0 rfl rfl)) rfl (by decide) rfl (Nat.le_of_ble_eq_true rfl) (by decide) (fun z q => ?_)
  refine z_eqs (σ' := (ap b (wx_Z σ z) [] [] [])) rfl ?_
  show zx p l e _ s m _ below meth c g 8 _ _ _ _ 23 [(0, .ref (b + 0)), (1, .int 2), (2, .int w1), (3, .int w2), (4, .int w3), (5, .int w4), (6, .ref (b + 431))] _
  refine z_astore (lv' := [(7, .ref q), (0, .ref (b + 0)), (1, .int 2), (2, .int w1), (3, .int w2), (4, .int w3), (5, .int w4), (6, .ref (b + 431))]) B dL_check_23 (by decide) rfl ?_
  refine z_iconst (v := 2) B dL_check_25 (by decide) ?_
  exact z_iret B hr (by decide) (by decide) dL_check_26 ⟨rfl, _, rfl⟩
set_option maxRecDepth 100000 in
set_option maxHeartbeats 4000000 in
theorem ci_X9_check_501 (l : Launch) {g : gx_T} {σ : sx_T} {b : Nat} (hK : lay b σ) (w1 : Int32) (w2 : Int32) (w3 : Int32) (w4 : Int32) (q1_w1 : (0 : Int) ≤ w1.toInt) (q2_w1 : w1.toInt ≤ (19 : Int)) (q1_w2 : (0 : Int) ≤ w2.toInt) (q2_w2 : w2.toInt ≤ (17 : Int)) (q1_w3 : (100 : Int) ≤ w3.toInt) (q2_w3 : w3.toInt ≤ (2147483647 : Int))  : Met l yX9_check (.code yX9_check cX9_check 11 (some .int) :: lw_g) { frames := 2, cells := 0, slots := 0, locals := 44 } (va_Pc [.ref (b + 405), .int 2, .int w1, .int w2, .int w3, .int w4] (zx_w g σ)) (va_Qi (fun r u => r = 0 ∧ u = (ap b σ [(405, 0, 2)] [] [])) (zx_w g) (gx_Q g)) 0 0 (gx_Q g) := by
  refine z_met (by decide) (Nat.le_of_ble_eq_true rfl) (fun p e s m below meth c B hr hin => ?_)
  refine z_eqs (σ' := (ap b σ [] [] [])) rfl ?_
  show zx p l e _ s m _ below meth c g 11 0 0 _ _ 0 [(0, .ref (b + 405)), (1, .int 2), (2, .int w1), (3, .int w2), (4, .int w3), (5, .int w4)] []
  refine z_aload_n B dX9_check_0 rfl 0 rfl ?_
  refine z_iload_n B dX9_check_1 rfl 1 rfl ?_
  refine z_iload_n B dX9_check_2 rfl 2 rfl ?_
  refine z_cSi (As := [.int 2, .int w1]) (rest := [.ref (b + 405)]) B cw_X9_238 dX9_check_3 (ci_X9_isStep_185 l (σ := (ap b σ [] [] [])) (b := b) (lyA hK) w1 q1_w1 q2_w1) rfl (by decide) rfl (Nat.le_of_ble_eq_true rfl) (by decide) (fun r u hu => ?_)
  refine z_eqs (σ' := (ap b σ [] [] [])) hu.2 ?_
  show zx p l e _ s m _ below meth c g 11 0 0 _ _ 6 [(0, .ref (b + 405)), (1, .int 2), (2, .int w1), (3, .int w2), (4, .int w3), (5, .int w4)] _
  refine z_seti (y := 1) hu.1 ?_
  refine z_iload_n B dX9_check_6 rfl 3 rfl ?_
  refine z_iload B dX9_check_7 4 rfl ?_
  refine z_iload B dX9_check_9 5 rfl ?_
  refine z_cSi (As := [.int w2, .int w3, .int w4]) (rest := [.int 1, .ref (b + 405)]) B cw_X9_242 dX9_check_11 (ci_X9_isOperation_45 l (σ := (ap b σ [] [] [])) (b := b) (lyA hK) w2 w3 w4 q1_w2 q2_w2 q1_w3 q2_w3) rfl (by decide) rfl (Nat.le_of_ble_eq_true rfl) (by decide) (fun r u hu => ?_)
  refine z_eqs (σ' := (ap b σ [] [] [])) hu.2 ?_
  show zx p l e _ s m _ below meth c g 11 0 0 _ _ 14 [(0, .ref (b + 405)), (1, .int 2), (2, .int w1), (3, .int w2), (4, .int w3), (5, .int w4)] _
  refine z_seti (y := 0) hu.1 ?_
  refine z_cVi (As := [.int 1, .int 0]) (rest := []) B cw_X9_245 cx_10 dX9_check_14 (ci_X9_needs__71 l (σ := (ap b σ [] [] [])) (b := b) (lyA hK) ) (lKA (hk_K hK 405 rfl rfl)) rfl (by decide) rfl (Nat.le_of_ble_eq_true rfl) (by decide) (fun r u hu => ?_)
  refine z_eqs (σ' := (ap b σ [(405, 0, 2)] [] [])) (hu.2.trans ap_ap) ?_
  show zx p l e _ s m _ below meth c g 11 0 0 _ _ 17 [(0, .ref (b + 405)), (1, .int 2), (2, .int w1), (3, .int w2), (4, .int w3), (5, .int w4)] _
  refine z_seti (y := 0) hu.1 ?_
  refine z_if_ne (tgt := 22) B dX9_check_17 (by decide) (fun h => absurd (by decide) h) (fun _ => ?_)
  refine z_iconst (v := 0) B dX9_check_20 (by decide) ?_
  exact z_iret B hr (by decide) (by decide) dX9_check_21 ⟨rfl, rfl⟩
set_option maxRecDepth 100000 in
set_option maxHeartbeats 4000000 in
theorem ci_X8_check_502 (l : Launch) (hlt : l.stackTraces = false) {g : gx_T} {σ : sx_T} {b : Nat} (hK : lay b σ) (w1 : Int32) (w2 : Int32) (w3 : Int32) (w4 : Int32) (q1_w1 : (0 : Int) ≤ w1.toInt) (q2_w1 : w1.toInt ≤ (19 : Int)) (q1_w2 : (18 : Int) ≤ w2.toInt) (q2_w2 : w2.toInt ≤ (2147483647 : Int)) (hR_0_0 : sx_R σ (b + 0) 0 = (some (b + 1))) (hR_1_2 : sx_R σ (b + 1) 2 = (some (b + 17))) : vx_Met l yX8_check (.code yX8_check cX8_check 13 (some .int) :: lw_g) { frames := 7, cells := 1, slots := 6, locals := 136 } (va_Pc [.ref (b + 0), .int 2, .int w1, .int w2, .int w3, .int w4] (zx_w g σ)) (va_Qi (S := sx_T) (fun _ _ => False) (zx_w g) (gx_Q g)) (vx_X (fun u : sx_T => ∃ z, u = wx_Z σ z) (fun E u t => E = "java/lang/IllegalArgumentException" ∧ zx_h g u t.heap) (gx_Q g)) 1 6 (gx_Q g) := by
  refine z_metX (by decide) (Nat.le_of_ble_eq_true rfl) (fun p e s m below meth c B hr hin hout => ?_)
  refine z_eqs (σ' := (ap b σ [] [] [])) rfl ?_
  show zx p l e _ s m _ below meth c g 13 0 0 _ _ 0 [(0, .ref (b + 0)), (1, .int 2), (2, .int w1), (3, .int w2), (4, .int w3), (5, .int w4)] []
  refine z_aload_n B dX8_check_0 rfl 0 rfl ?_
  refine z_iload_n B dX8_check_1 rfl 1 rfl ?_
  refine z_cVq (As := [.int 2]) (rest := []) B cw_X8_64 cx_9 dX8_check_2 (ci_X8_programAt_171 l (σ := (ap b σ [] [] [])) (b := b) (lyA hK) (rR_at 0 0 hR_0_0) (rR_at 1 2 hR_1_2)) (lKA (hk_K hK 0 rfl rfl)) rfl (by decide) rfl (Nat.le_of_ble_eq_true rfl) (by decide) (fun r u hu => ?_)
  refine z_eqs (σ' := (ap b σ [] [] [])) hu.2 ?_
  show zx p l e _ s m _ below meth c g 13 0 0 _ _ 5 [(0, .ref (b + 0)), (1, .int 2), (2, .int w1), (3, .int w2), (4, .int w3), (5, .int w4)] _
  refine z_setr (y := (some (b + 17))) hu.1 ?_
  refine z_astore (lv' := [(6, .ref (b + 17)), (0, .ref (b + 0)), (1, .int 2), (2, .int w1), (3, .int w2), (4, .int w3), (5, .int w4)]) B dX8_check_5 (by decide) rfl ?_
  refine z_aload B dX8_check_7 0 rfl ?_
  refine z_ifnull (r := (some (b + 17))) (tgt := 21) B dX8_check_9 (by decide) (fun h => nomatch h) (fun _ _ => ?_)
  refine z_iload_n B dX8_check_12 rfl 3 rfl ?_
  refine z_bipush (v := 20) B dX8_check_13 (by decide) ?_
  refine z_cSi (As := [.int w1, .int 20]) (rest := []) B cw_X8_68 dX8_check_15 (ci_X8_isBelow_64 l (σ := (ap b σ [] [] [])) (b := b) (lyA hK) w1 q1_w1 q2_w1) rfl (by decide) rfl (Nat.le_of_ble_eq_true rfl) (by decide) (fun r u hu => ?_)
  refine z_eqs (σ' := (ap b σ [] [] [])) hu.2 ?_
  show zx p l e _ s m _ below meth c g 13 0 0 _ _ 18 [(6, .ref (b + 17)), (0, .ref (b + 0)), (1, .int 2), (2, .int w1), (3, .int w2), (4, .int w3), (5, .int w4)] _
  refine z_seti (y := 1) hu.1 ?_
  refine z_if_ne (tgt := 31) B dX8_check_18 (by decide) (fun _ => ?_) (fun h => absurd h (by decide))
  refine z_iload_n B dX8_check_31 rfl 4 rfl ?_
  refine z_iload B dX8_check_32 5 rfl ?_
  refine z_iload B dX8_check_34 6 rfl ?_
  refine z_cSi (As := [.int w2, .int w3, .int w4]) (rest := []) B cw_X8_79 dX8_check_36 (ci_X8_isStep_106 l (σ := (ap b σ [] [] [])) (b := b) (lyA hK) w2 w3 w4 q1_w2 q2_w2) rfl (by decide) rfl (Nat.le_of_ble_eq_true rfl) (by decide) (fun r u hu => ?_)
  refine z_eqs (σ' := (ap b σ [] [] [])) hu.2 ?_
  show zx p l e _ s m _ below meth c g 13 0 0 _ _ 39 [(6, .ref (b + 17)), (0, .ref (b + 0)), (1, .int 2), (2, .int w1), (3, .int w2), (4, .int w3), (5, .int w4)] _
  refine z_seti (y := 0) hu.1 ?_
  refine z_if_ne (tgt := 52) B dX8_check_39 (by decide) (fun h => absurd (by decide) h) (fun _ => ?_)
  exact z_throw B hlt hout (cls := "java/lang/IllegalArgumentException") (text := "no such operation") tw_X8_83_85_87 dX8_check_42 dX8_check_45 dX8_check_46 dX8_check_48 dX8_check_51 (by decide) (by decide) (by decide) (by decide) (by decide) (by decide) (fun z => ⟨z, rfl⟩)
set_option maxRecDepth 100000 in
set_option maxHeartbeats 4000000 in
theorem ci_L_check_503 (l : Launch) (hlt : l.stackTraces = false) {g : gx_T} {σ : sx_T} {b : Nat} (hK : lay b σ) (w1 : Int32) (w2 : Int32) (w3 : Int32) (w4 : Int32) (q1_w1 : (0 : Int) ≤ w1.toInt) (q2_w1 : w1.toInt ≤ (19 : Int)) (q1_w2 : (18 : Int) ≤ w2.toInt) (q2_w2 : w2.toInt ≤ (2147483647 : Int)) (hR_0_0 : sx_R σ (b + 0) 0 = (some (b + 1))) (hR_1_2 : sx_R σ (b + 1) 2 = (some (b + 17))) : Met l yL_check (.codeWith yL_check cL_check 8 (some .int) [(0, 16, 19, 13), (0, 16, 23, 15)] :: lw_g) { frames := 8, cells := 1, slots := 6, locals := 168 } (va_Pc [.ref (b + 0), .int 2, .int w1, .int w2, .int w3, .int w4, .ref (b + 431)] (zx_w g σ)) (va_Qi (fun r u => r = 2 ∧ ∃ z, u = (ap b (wx_Z σ z) [] [] [])) (zx_w g) (gx_Q g)) 1 6 (gx_Q g) := by
  refine z_metW (by decide) (Nat.le_of_ble_eq_true rfl) (fun p e s m below meth c B hr htab => ?_)
  refine z_eqs (σ' := (ap b σ [] [] [])) rfl ?_
  show zx p l e _ s m _ below meth c g 8 0 0 _ _ 0 [(0, .ref (b + 0)), (1, .int 2), (2, .int w1), (3, .int w2), (4, .int w3), (5, .int w4), (6, .ref (b + 431))] []
  refine z_aload B dL_check_0 6 rfl ?_
  refine z_iconst (v := 0) B dL_check_2 (by decide) ?_
  refine z_aload_n B dL_check_3 rfl 0 rfl ?_
  refine z_iload_n B dL_check_4 rfl 1 rfl ?_
  refine z_iload_n B dL_check_5 rfl 2 rfl ?_
  refine z_iload_n B dL_check_6 rfl 3 rfl ?_
  refine z_iload B dL_check_7 4 rfl ?_
  refine z_iload B dL_check_9 5 rfl ?_
  refine z_cXi (As := [.int 2, .int w1, .int w2, .int w3, .int w4]) (rest := [.int 0, .ref (b + 431)]) B htab tc_check_11_IllegalArgumentException cw_L_17 cx_9 dL_check_11 (ci_X8_check_502 l hlt (σ := (ap b σ [] [] [])) (b := b) (lyA hK) w1 w2 w3 w4 q1_w1 q2_w1 q1_w2 q2_w2 (rR_at 0 0 hR_0_0) (rR_at 1 2 hR_1_2)) (lKA (hk_K hK 0 rfl rfl)) rfl (by decide) rfl (Nat.le_of_ble_eq_true rfl) (by decide) (fun z q => ?_)
  refine z_eqs (σ' := (ap b (wx_Z σ z) [] [] [])) rfl ?_
  show zx p l e _ s m _ below meth c g 8 _ _ _ _ 23 [(0, .ref (b + 0)), (1, .int 2), (2, .int w1), (3, .int w2), (4, .int w3), (5, .int w4), (6, .ref (b + 431))] _
  refine z_astore (lv' := [(7, .ref q), (0, .ref (b + 0)), (1, .int 2), (2, .int w1), (3, .int w2), (4, .int w3), (5, .int w4), (6, .ref (b + 431))]) B dL_check_23 (by decide) rfl ?_
  refine z_iconst (v := 2) B dL_check_25 (by decide) ?_
  exact z_iret B hr (by decide) (by decide) dL_check_26 ⟨rfl, _, rfl⟩
set_option maxRecDepth 100000 in
set_option maxHeartbeats 4000000 in
theorem ci_X9_check_504 (l : Launch) {g : gx_T} {σ : sx_T} {b : Nat} (hK : lay b σ) (w1 : Int32) (w2 : Int32) (w3 : Int32) (w4 : Int32) (q1_w1 : (0 : Int) ≤ w1.toInt) (q2_w1 : w1.toInt ≤ (19 : Int)) (q1_w2 : (18 : Int) ≤ w2.toInt) (q2_w2 : w2.toInt ≤ (2147483647 : Int))  : Met l yX9_check (.code yX9_check cX9_check 11 (some .int) :: lw_g) { frames := 2, cells := 0, slots := 0, locals := 44 } (va_Pc [.ref (b + 405), .int 2, .int w1, .int w2, .int w3, .int w4] (zx_w g σ)) (va_Qi (fun r u => r = 0 ∧ u = (ap b σ [(405, 0, 2)] [] [])) (zx_w g) (gx_Q g)) 0 0 (gx_Q g) := by
  refine z_met (by decide) (Nat.le_of_ble_eq_true rfl) (fun p e s m below meth c B hr hin => ?_)
  refine z_eqs (σ' := (ap b σ [] [] [])) rfl ?_
  show zx p l e _ s m _ below meth c g 11 0 0 _ _ 0 [(0, .ref (b + 405)), (1, .int 2), (2, .int w1), (3, .int w2), (4, .int w3), (5, .int w4)] []
  refine z_aload_n B dX9_check_0 rfl 0 rfl ?_
  refine z_iload_n B dX9_check_1 rfl 1 rfl ?_
  refine z_iload_n B dX9_check_2 rfl 2 rfl ?_
  refine z_cSi (As := [.int 2, .int w1]) (rest := [.ref (b + 405)]) B cw_X9_238 dX9_check_3 (ci_X9_isStep_185 l (σ := (ap b σ [] [] [])) (b := b) (lyA hK) w1 q1_w1 q2_w1) rfl (by decide) rfl (Nat.le_of_ble_eq_true rfl) (by decide) (fun r u hu => ?_)
  refine z_eqs (σ' := (ap b σ [] [] [])) hu.2 ?_
  show zx p l e _ s m _ below meth c g 11 0 0 _ _ 6 [(0, .ref (b + 405)), (1, .int 2), (2, .int w1), (3, .int w2), (4, .int w3), (5, .int w4)] _
  refine z_seti (y := 1) hu.1 ?_
  refine z_iload_n B dX9_check_6 rfl 3 rfl ?_
  refine z_iload B dX9_check_7 4 rfl ?_
  refine z_iload B dX9_check_9 5 rfl ?_
  refine z_cSi (As := [.int w2, .int w3, .int w4]) (rest := [.int 1, .ref (b + 405)]) B cw_X9_242 dX9_check_11 (ci_X9_isOperation_48 l (σ := (ap b σ [] [] [])) (b := b) (lyA hK) w2 w3 w4 q1_w2 q2_w2) rfl (by decide) rfl (Nat.le_of_ble_eq_true rfl) (by decide) (fun r u hu => ?_)
  refine z_eqs (σ' := (ap b σ [] [] [])) hu.2 ?_
  show zx p l e _ s m _ below meth c g 11 0 0 _ _ 14 [(0, .ref (b + 405)), (1, .int 2), (2, .int w1), (3, .int w2), (4, .int w3), (5, .int w4)] _
  refine z_seti (y := 0) hu.1 ?_
  refine z_cVi (As := [.int 1, .int 0]) (rest := []) B cw_X9_245 cx_10 dX9_check_14 (ci_X9_needs__71 l (σ := (ap b σ [] [] [])) (b := b) (lyA hK) ) (lKA (hk_K hK 405 rfl rfl)) rfl (by decide) rfl (Nat.le_of_ble_eq_true rfl) (by decide) (fun r u hu => ?_)
  refine z_eqs (σ' := (ap b σ [(405, 0, 2)] [] [])) (hu.2.trans ap_ap) ?_
  show zx p l e _ s m _ below meth c g 11 0 0 _ _ 17 [(0, .ref (b + 405)), (1, .int 2), (2, .int w1), (3, .int w2), (4, .int w3), (5, .int w4)] _
  refine z_seti (y := 0) hu.1 ?_
  refine z_if_ne (tgt := 22) B dX9_check_17 (by decide) (fun h => absurd (by decide) h) (fun _ => ?_)
  refine z_iconst (v := 0) B dX9_check_20 (by decide) ?_
  exact z_iret B hr (by decide) (by decide) dX9_check_21 ⟨rfl, rfl⟩
set_option maxRecDepth 100000 in
set_option maxHeartbeats 4000000 in
theorem ci_X8_check_505 (l : Launch) (hlt : l.stackTraces = false) {g : gx_T} {σ : sx_T} {b : Nat} (hK : lay b σ) (w1 : Int32) (w2 : Int32) (w3 : Int32) (w4 : Int32) (q1_w1 : (20 : Int) ≤ w1.toInt) (q2_w1 : w1.toInt ≤ (2147483647 : Int)) (hR_0_0 : sx_R σ (b + 0) 0 = (some (b + 1))) (hR_1_2 : sx_R σ (b + 1) 2 = (some (b + 17))) : vx_Met l yX8_check (.code yX8_check cX8_check 13 (some .int) :: lw_g) { frames := 7, cells := 1, slots := 6, locals := 136 } (va_Pc [.ref (b + 0), .int 2, .int w1, .int w2, .int w3, .int w4] (zx_w g σ)) (va_Qi (S := sx_T) (fun _ _ => False) (zx_w g) (gx_Q g)) (vx_X (fun u : sx_T => ∃ z, u = wx_Z σ z) (fun E u t => E = "java/lang/IndexOutOfBoundsException" ∧ zx_h g u t.heap) (gx_Q g)) 1 6 (gx_Q g) := by
  refine z_metX (by decide) (Nat.le_of_ble_eq_true rfl) (fun p e s m below meth c B hr hin hout => ?_)
  refine z_eqs (σ' := (ap b σ [] [] [])) rfl ?_
  show zx p l e _ s m _ below meth c g 13 0 0 _ _ 0 [(0, .ref (b + 0)), (1, .int 2), (2, .int w1), (3, .int w2), (4, .int w3), (5, .int w4)] []
  refine z_aload_n B dX8_check_0 rfl 0 rfl ?_
  refine z_iload_n B dX8_check_1 rfl 1 rfl ?_
  refine z_cVq (As := [.int 2]) (rest := []) B cw_X8_64 cx_9 dX8_check_2 (ci_X8_programAt_171 l (σ := (ap b σ [] [] [])) (b := b) (lyA hK) (rR_at 0 0 hR_0_0) (rR_at 1 2 hR_1_2)) (lKA (hk_K hK 0 rfl rfl)) rfl (by decide) rfl (Nat.le_of_ble_eq_true rfl) (by decide) (fun r u hu => ?_)
  refine z_eqs (σ' := (ap b σ [] [] [])) hu.2 ?_
  show zx p l e _ s m _ below meth c g 13 0 0 _ _ 5 [(0, .ref (b + 0)), (1, .int 2), (2, .int w1), (3, .int w2), (4, .int w3), (5, .int w4)] _
  refine z_setr (y := (some (b + 17))) hu.1 ?_
  refine z_astore (lv' := [(6, .ref (b + 17)), (0, .ref (b + 0)), (1, .int 2), (2, .int w1), (3, .int w2), (4, .int w3), (5, .int w4)]) B dX8_check_5 (by decide) rfl ?_
  refine z_aload B dX8_check_7 0 rfl ?_
  refine z_ifnull (r := (some (b + 17))) (tgt := 21) B dX8_check_9 (by decide) (fun h => nomatch h) (fun _ _ => ?_)
  refine z_iload_n B dX8_check_12 rfl 3 rfl ?_
  refine z_bipush (v := 20) B dX8_check_13 (by decide) ?_
  refine z_cSi (As := [.int w1, .int 20]) (rest := []) B cw_X8_68 dX8_check_15 (ci_X8_isBelow_110 l (σ := (ap b σ [] [] [])) (b := b) (lyA hK) w1 q1_w1 q2_w1) rfl (by decide) rfl (Nat.le_of_ble_eq_true rfl) (by decide) (fun r u hu => ?_)
  refine z_eqs (σ' := (ap b σ [] [] [])) hu.2 ?_
  show zx p l e _ s m _ below meth c g 13 0 0 _ _ 18 [(6, .ref (b + 17)), (0, .ref (b + 0)), (1, .int 2), (2, .int w1), (3, .int w2), (4, .int w3), (5, .int w4)] _
  refine z_seti (y := 0) hu.1 ?_
  refine z_if_ne (tgt := 31) B dX8_check_18 (by decide) (fun h => absurd (by decide) h) (fun _ => ?_)
  exact z_throw B hlt hout (cls := "java/lang/IndexOutOfBoundsException") (text := "no such step") tw_X8_72_74_76 dX8_check_21 dX8_check_24 dX8_check_25 dX8_check_27 dX8_check_30 (by decide) (by decide) (by decide) (by decide) (by decide) (by decide) (fun z => ⟨z, rfl⟩)
set_option maxRecDepth 100000 in
set_option maxHeartbeats 4000000 in
theorem ci_L_check_506 (l : Launch) (hlt : l.stackTraces = false) {g : gx_T} {σ : sx_T} {b : Nat} (hK : lay b σ) (w1 : Int32) (w2 : Int32) (w3 : Int32) (w4 : Int32) (q1_w1 : (20 : Int) ≤ w1.toInt) (q2_w1 : w1.toInt ≤ (2147483647 : Int)) (hR_0_0 : sx_R σ (b + 0) 0 = (some (b + 1))) (hR_1_2 : sx_R σ (b + 1) 2 = (some (b + 17))) : Met l yL_check (.codeWith yL_check cL_check 8 (some .int) [(0, 16, 19, 13), (0, 16, 23, 15)] :: lw_g) { frames := 8, cells := 1, slots := 6, locals := 168 } (va_Pc [.ref (b + 0), .int 2, .int w1, .int w2, .int w3, .int w4, .ref (b + 431)] (zx_w g σ)) (va_Qi (fun r u => r = 1 ∧ ∃ z, u = (ap b (wx_Z σ z) [] [] [])) (zx_w g) (gx_Q g)) 1 6 (gx_Q g) := by
  refine z_metW (by decide) (Nat.le_of_ble_eq_true rfl) (fun p e s m below meth c B hr htab => ?_)
  refine z_eqs (σ' := (ap b σ [] [] [])) rfl ?_
  show zx p l e _ s m _ below meth c g 8 0 0 _ _ 0 [(0, .ref (b + 0)), (1, .int 2), (2, .int w1), (3, .int w2), (4, .int w3), (5, .int w4), (6, .ref (b + 431))] []
  refine z_aload B dL_check_0 6 rfl ?_
  refine z_iconst (v := 0) B dL_check_2 (by decide) ?_
  refine z_aload_n B dL_check_3 rfl 0 rfl ?_
  refine z_iload_n B dL_check_4 rfl 1 rfl ?_
  refine z_iload_n B dL_check_5 rfl 2 rfl ?_
  refine z_iload_n B dL_check_6 rfl 3 rfl ?_
  refine z_iload B dL_check_7 4 rfl ?_
  refine z_iload B dL_check_9 5 rfl ?_
  refine z_cXi (As := [.int 2, .int w1, .int w2, .int w3, .int w4]) (rest := [.int 0, .ref (b + 431)]) B htab tc_check_11_IndexOutOfBoundsException cw_L_17 cx_9 dL_check_11 (ci_X8_check_505 l hlt (σ := (ap b σ [] [] [])) (b := b) (lyA hK) w1 w2 w3 w4 q1_w1 q2_w1 (rR_at 0 0 hR_0_0) (rR_at 1 2 hR_1_2)) (lKA (hk_K hK 0 rfl rfl)) rfl (by decide) rfl (Nat.le_of_ble_eq_true rfl) (by decide) (fun z q => ?_)
  refine z_eqs (σ' := (ap b (wx_Z σ z) [] [] [])) rfl ?_
  show zx p l e _ s m _ below meth c g 8 _ _ _ _ 19 [(0, .ref (b + 0)), (1, .int 2), (2, .int w1), (3, .int w2), (4, .int w3), (5, .int w4), (6, .ref (b + 431))] _
  refine z_astore (lv' := [(7, .ref q), (0, .ref (b + 0)), (1, .int 2), (2, .int w1), (3, .int w2), (4, .int w3), (5, .int w4), (6, .ref (b + 431))]) B dL_check_19 (by decide) rfl ?_
  refine z_iconst (v := 1) B dL_check_21 (by decide) ?_
  exact z_iret B hr (by decide) (by decide) dL_check_22 ⟨rfl, _, rfl⟩
set_option maxRecDepth 100000 in
set_option maxHeartbeats 4000000 in
theorem ci_X9_check_507 (l : Launch) {g : gx_T} {σ : sx_T} {b : Nat} (hK : lay b σ) (w1 : Int32) (w2 : Int32) (w3 : Int32) (w4 : Int32) (q1_w1 : (20 : Int) ≤ w1.toInt) (q2_w1 : w1.toInt ≤ (2147483647 : Int)) (q1_w2 : (-2147483648 : Int) ≤ w2.toInt) (q2_w2 : w2.toInt ≤ (-1 : Int))  : Met l yX9_check (.code yX9_check cX9_check 11 (some .int) :: lw_g) { frames := 2, cells := 0, slots := 0, locals := 44 } (va_Pc [.ref (b + 405), .int 2, .int w1, .int w2, .int w3, .int w4] (zx_w g σ)) (va_Qi (fun r u => r = 0 ∧ u = (ap b σ [(405, 0, 1)] [] [])) (zx_w g) (gx_Q g)) 0 0 (gx_Q g) := by
  refine z_met (by decide) (Nat.le_of_ble_eq_true rfl) (fun p e s m below meth c B hr hin => ?_)
  refine z_eqs (σ' := (ap b σ [] [] [])) rfl ?_
  show zx p l e _ s m _ below meth c g 11 0 0 _ _ 0 [(0, .ref (b + 405)), (1, .int 2), (2, .int w1), (3, .int w2), (4, .int w3), (5, .int w4)] []
  refine z_aload_n B dX9_check_0 rfl 0 rfl ?_
  refine z_iload_n B dX9_check_1 rfl 1 rfl ?_
  refine z_iload_n B dX9_check_2 rfl 2 rfl ?_
  refine z_cSi (As := [.int 2, .int w1]) (rest := [.ref (b + 405)]) B cw_X9_238 dX9_check_3 (ci_X9_isStep_212 l (σ := (ap b σ [] [] [])) (b := b) (lyA hK) w1 q1_w1 q2_w1) rfl (by decide) rfl (Nat.le_of_ble_eq_true rfl) (by decide) (fun r u hu => ?_)
  refine z_eqs (σ' := (ap b σ [] [] [])) hu.2 ?_
  show zx p l e _ s m _ below meth c g 11 0 0 _ _ 6 [(0, .ref (b + 405)), (1, .int 2), (2, .int w1), (3, .int w2), (4, .int w3), (5, .int w4)] _
  refine z_seti (y := 0) hu.1 ?_
  refine z_iload_n B dX9_check_6 rfl 3 rfl ?_
  refine z_iload B dX9_check_7 4 rfl ?_
  refine z_iload B dX9_check_9 5 rfl ?_
  refine z_cSi (As := [.int w2, .int w3, .int w4]) (rest := [.int 0, .ref (b + 405)]) B cw_X9_242 dX9_check_11 (ci_X9_isOperation_28 l (σ := (ap b σ [] [] [])) (b := b) (lyA hK) w2 w3 w4 q1_w2 q2_w2) rfl (by decide) rfl (Nat.le_of_ble_eq_true rfl) (by decide) (fun r u hu => ?_)
  refine z_eqs (σ' := (ap b σ [] [] [])) hu.2 ?_
  show zx p l e _ s m _ below meth c g 11 0 0 _ _ 14 [(0, .ref (b + 405)), (1, .int 2), (2, .int w1), (3, .int w2), (4, .int w3), (5, .int w4)] _
  refine z_seti (y := 0) hu.1 ?_
  refine z_cVi (As := [.int 0, .int 0]) (rest := []) B cw_X9_245 cx_10 dX9_check_14 (ci_X9_needs__29 l (σ := (ap b σ [] [] [])) (b := b) (lyA hK) ) (lKA (hk_K hK 405 rfl rfl)) rfl (by decide) rfl (Nat.le_of_ble_eq_true rfl) (by decide) (fun r u hu => ?_)
  refine z_eqs (σ' := (ap b σ [(405, 0, 1)] [] [])) (hu.2.trans ap_ap) ?_
  show zx p l e _ s m _ below meth c g 11 0 0 _ _ 17 [(0, .ref (b + 405)), (1, .int 2), (2, .int w1), (3, .int w2), (4, .int w3), (5, .int w4)] _
  refine z_seti (y := 0) hu.1 ?_
  refine z_if_ne (tgt := 22) B dX9_check_17 (by decide) (fun h => absurd (by decide) h) (fun _ => ?_)
  refine z_iconst (v := 0) B dX9_check_20 (by decide) ?_
  exact z_iret B hr (by decide) (by decide) dX9_check_21 ⟨rfl, rfl⟩
set_option maxRecDepth 100000 in
set_option maxHeartbeats 4000000 in
theorem ci_X9_check_508 (l : Launch) {g : gx_T} {σ : sx_T} {b : Nat} (hK : lay b σ) (w1 : Int32) (w2 : Int32) (w3 : Int32) (w4 : Int32) (q1_w1 : (20 : Int) ≤ w1.toInt) (q2_w1 : w1.toInt ≤ (2147483647 : Int)) (q1_w2 : (0 : Int) ≤ w2.toInt) (q2_w2 : w2.toInt ≤ (17 : Int)) (q1_w3 : (-2147483648 : Int) ≤ w3.toInt) (q2_w3 : w3.toInt ≤ (-1 : Int))  : Met l yX9_check (.code yX9_check cX9_check 11 (some .int) :: lw_g) { frames := 2, cells := 0, slots := 0, locals := 44 } (va_Pc [.ref (b + 405), .int 2, .int w1, .int w2, .int w3, .int w4] (zx_w g σ)) (va_Qi (fun r u => r = 0 ∧ u = (ap b σ [(405, 0, 1)] [] [])) (zx_w g) (gx_Q g)) 0 0 (gx_Q g) := by
  refine z_met (by decide) (Nat.le_of_ble_eq_true rfl) (fun p e s m below meth c B hr hin => ?_)
  refine z_eqs (σ' := (ap b σ [] [] [])) rfl ?_
  show zx p l e _ s m _ below meth c g 11 0 0 _ _ 0 [(0, .ref (b + 405)), (1, .int 2), (2, .int w1), (3, .int w2), (4, .int w3), (5, .int w4)] []
  refine z_aload_n B dX9_check_0 rfl 0 rfl ?_
  refine z_iload_n B dX9_check_1 rfl 1 rfl ?_
  refine z_iload_n B dX9_check_2 rfl 2 rfl ?_
  refine z_cSi (As := [.int 2, .int w1]) (rest := [.ref (b + 405)]) B cw_X9_238 dX9_check_3 (ci_X9_isStep_212 l (σ := (ap b σ [] [] [])) (b := b) (lyA hK) w1 q1_w1 q2_w1) rfl (by decide) rfl (Nat.le_of_ble_eq_true rfl) (by decide) (fun r u hu => ?_)
  refine z_eqs (σ' := (ap b σ [] [] [])) hu.2 ?_
  show zx p l e _ s m _ below meth c g 11 0 0 _ _ 6 [(0, .ref (b + 405)), (1, .int 2), (2, .int w1), (3, .int w2), (4, .int w3), (5, .int w4)] _
  refine z_seti (y := 0) hu.1 ?_
  refine z_iload_n B dX9_check_6 rfl 3 rfl ?_
  refine z_iload B dX9_check_7 4 rfl ?_
  refine z_iload B dX9_check_9 5 rfl ?_
  refine z_cSi (As := [.int w2, .int w3, .int w4]) (rest := [.int 0, .ref (b + 405)]) B cw_X9_242 dX9_check_11 (ci_X9_isOperation_34 l (σ := (ap b σ [] [] [])) (b := b) (lyA hK) w2 w3 w4 q1_w2 q2_w2 q1_w3 q2_w3) rfl (by decide) rfl (Nat.le_of_ble_eq_true rfl) (by decide) (fun r u hu => ?_)
  refine z_eqs (σ' := (ap b σ [] [] [])) hu.2 ?_
  show zx p l e _ s m _ below meth c g 11 0 0 _ _ 14 [(0, .ref (b + 405)), (1, .int 2), (2, .int w1), (3, .int w2), (4, .int w3), (5, .int w4)] _
  refine z_seti (y := 0) hu.1 ?_
  refine z_cVi (As := [.int 0, .int 0]) (rest := []) B cw_X9_245 cx_10 dX9_check_14 (ci_X9_needs__29 l (σ := (ap b σ [] [] [])) (b := b) (lyA hK) ) (lKA (hk_K hK 405 rfl rfl)) rfl (by decide) rfl (Nat.le_of_ble_eq_true rfl) (by decide) (fun r u hu => ?_)
  refine z_eqs (σ' := (ap b σ [(405, 0, 1)] [] [])) (hu.2.trans ap_ap) ?_
  show zx p l e _ s m _ below meth c g 11 0 0 _ _ 17 [(0, .ref (b + 405)), (1, .int 2), (2, .int w1), (3, .int w2), (4, .int w3), (5, .int w4)] _
  refine z_seti (y := 0) hu.1 ?_
  refine z_if_ne (tgt := 22) B dX9_check_17 (by decide) (fun h => absurd (by decide) h) (fun _ => ?_)
  refine z_iconst (v := 0) B dX9_check_20 (by decide) ?_
  exact z_iret B hr (by decide) (by decide) dX9_check_21 ⟨rfl, rfl⟩
set_option maxRecDepth 100000 in
set_option maxHeartbeats 4000000 in
theorem ci_X9_check_509 (l : Launch) {g : gx_T} {σ : sx_T} {b : Nat} (hK : lay b σ) (w1 : Int32) (w2 : Int32) (w3 : Int32) (w4 : Int32) (q1_w1 : (20 : Int) ≤ w1.toInt) (q2_w1 : w1.toInt ≤ (2147483647 : Int)) (q1_w2 : (0 : Int) ≤ w2.toInt) (q2_w2 : w2.toInt ≤ (17 : Int)) (q1_w3 : (0 : Int) ≤ w3.toInt) (q2_w3 : w3.toInt ≤ (99 : Int)) (q1_w4 : (-2147483648 : Int) ≤ w4.toInt) (q2_w4 : w4.toInt ≤ (-1 : Int))  : Met l yX9_check (.code yX9_check cX9_check 11 (some .int) :: lw_g) { frames := 2, cells := 0, slots := 0, locals := 44 } (va_Pc [.ref (b + 405), .int 2, .int w1, .int w2, .int w3, .int w4] (zx_w g σ)) (va_Qi (fun r u => r = 0 ∧ u = (ap b σ [(405, 0, 1)] [] [])) (zx_w g) (gx_Q g)) 0 0 (gx_Q g) := by
  refine z_met (by decide) (Nat.le_of_ble_eq_true rfl) (fun p e s m below meth c B hr hin => ?_)
  refine z_eqs (σ' := (ap b σ [] [] [])) rfl ?_
  show zx p l e _ s m _ below meth c g 11 0 0 _ _ 0 [(0, .ref (b + 405)), (1, .int 2), (2, .int w1), (3, .int w2), (4, .int w3), (5, .int w4)] []
  refine z_aload_n B dX9_check_0 rfl 0 rfl ?_
  refine z_iload_n B dX9_check_1 rfl 1 rfl ?_
  refine z_iload_n B dX9_check_2 rfl 2 rfl ?_
  refine z_cSi (As := [.int 2, .int w1]) (rest := [.ref (b + 405)]) B cw_X9_238 dX9_check_3 (ci_X9_isStep_212 l (σ := (ap b σ [] [] [])) (b := b) (lyA hK) w1 q1_w1 q2_w1) rfl (by decide) rfl (Nat.le_of_ble_eq_true rfl) (by decide) (fun r u hu => ?_)
  refine z_eqs (σ' := (ap b σ [] [] [])) hu.2 ?_
  show zx p l e _ s m _ below meth c g 11 0 0 _ _ 6 [(0, .ref (b + 405)), (1, .int 2), (2, .int w1), (3, .int w2), (4, .int w3), (5, .int w4)] _
  refine z_seti (y := 0) hu.1 ?_
  refine z_iload_n B dX9_check_6 rfl 3 rfl ?_
  refine z_iload B dX9_check_7 4 rfl ?_
  refine z_iload B dX9_check_9 5 rfl ?_
  refine z_cSi (As := [.int w2, .int w3, .int w4]) (rest := [.int 0, .ref (b + 405)]) B cw_X9_242 dX9_check_11 (ci_X9_isOperation_37 l (σ := (ap b σ [] [] [])) (b := b) (lyA hK) w2 w3 w4 q1_w2 q2_w2 q1_w3 q2_w3 q1_w4 q2_w4) rfl (by decide) rfl (Nat.le_of_ble_eq_true rfl) (by decide) (fun r u hu => ?_)
  refine z_eqs (σ' := (ap b σ [] [] [])) hu.2 ?_
  show zx p l e _ s m _ below meth c g 11 0 0 _ _ 14 [(0, .ref (b + 405)), (1, .int 2), (2, .int w1), (3, .int w2), (4, .int w3), (5, .int w4)] _
  refine z_seti (y := 0) hu.1 ?_
  refine z_cVi (As := [.int 0, .int 0]) (rest := []) B cw_X9_245 cx_10 dX9_check_14 (ci_X9_needs__29 l (σ := (ap b σ [] [] [])) (b := b) (lyA hK) ) (lKA (hk_K hK 405 rfl rfl)) rfl (by decide) rfl (Nat.le_of_ble_eq_true rfl) (by decide) (fun r u hu => ?_)
  refine z_eqs (σ' := (ap b σ [(405, 0, 1)] [] [])) (hu.2.trans ap_ap) ?_
  show zx p l e _ s m _ below meth c g 11 0 0 _ _ 17 [(0, .ref (b + 405)), (1, .int 2), (2, .int w1), (3, .int w2), (4, .int w3), (5, .int w4)] _
  refine z_seti (y := 0) hu.1 ?_
  refine z_if_ne (tgt := 22) B dX9_check_17 (by decide) (fun h => absurd (by decide) h) (fun _ => ?_)
  refine z_iconst (v := 0) B dX9_check_20 (by decide) ?_
  exact z_iret B hr (by decide) (by decide) dX9_check_21 ⟨rfl, rfl⟩
set_option maxRecDepth 100000 in
set_option maxHeartbeats 4000000 in
theorem ci_X9_check_510 (l : Launch) {g : gx_T} {σ : sx_T} {b : Nat} (hK : lay b σ) (w1 : Int32) (w2 : Int32) (w3 : Int32) (w4 : Int32) (q1_w1 : (20 : Int) ≤ w1.toInt) (q2_w1 : w1.toInt ≤ (2147483647 : Int)) (q1_w2 : (0 : Int) ≤ w2.toInt) (q2_w2 : w2.toInt ≤ (17 : Int)) (q1_w3 : (0 : Int) ≤ w3.toInt) (q2_w3 : w3.toInt ≤ (99 : Int)) (q1_w4 : (0 : Int) ≤ w4.toInt) (q2_w4 : w4.toInt ≤ (99 : Int))  : Met l yX9_check (.code yX9_check cX9_check 11 (some .int) :: lw_g) { frames := 2, cells := 0, slots := 0, locals := 44 } (va_Pc [.ref (b + 405), .int 2, .int w1, .int w2, .int w3, .int w4] (zx_w g σ)) (va_Qi (fun r u => r = 0 ∧ u = (ap b σ [(405, 0, 1)] [] [])) (zx_w g) (gx_Q g)) 0 0 (gx_Q g) := by
  refine z_met (by decide) (Nat.le_of_ble_eq_true rfl) (fun p e s m below meth c B hr hin => ?_)
  refine z_eqs (σ' := (ap b σ [] [] [])) rfl ?_
  show zx p l e _ s m _ below meth c g 11 0 0 _ _ 0 [(0, .ref (b + 405)), (1, .int 2), (2, .int w1), (3, .int w2), (4, .int w3), (5, .int w4)] []
  refine z_aload_n B dX9_check_0 rfl 0 rfl ?_
  refine z_iload_n B dX9_check_1 rfl 1 rfl ?_
  refine z_iload_n B dX9_check_2 rfl 2 rfl ?_
  refine z_cSi (As := [.int 2, .int w1]) (rest := [.ref (b + 405)]) B cw_X9_238 dX9_check_3 (ci_X9_isStep_212 l (σ := (ap b σ [] [] [])) (b := b) (lyA hK) w1 q1_w1 q2_w1) rfl (by decide) rfl (Nat.le_of_ble_eq_true rfl) (by decide) (fun r u hu => ?_)
  refine z_eqs (σ' := (ap b σ [] [] [])) hu.2 ?_
  show zx p l e _ s m _ below meth c g 11 0 0 _ _ 6 [(0, .ref (b + 405)), (1, .int 2), (2, .int w1), (3, .int w2), (4, .int w3), (5, .int w4)] _
  refine z_seti (y := 0) hu.1 ?_
  refine z_iload_n B dX9_check_6 rfl 3 rfl ?_
  refine z_iload B dX9_check_7 4 rfl ?_
  refine z_iload B dX9_check_9 5 rfl ?_
  refine z_cSi (As := [.int w2, .int w3, .int w4]) (rest := [.int 0, .ref (b + 405)]) B cw_X9_242 dX9_check_11 (ci_X9_isOperation_39 l (σ := (ap b σ [] [] [])) (b := b) (lyA hK) w2 w3 w4 q1_w2 q2_w2 q1_w3 q2_w3 q1_w4 q2_w4) rfl (by decide) rfl (Nat.le_of_ble_eq_true rfl) (by decide) (fun r u hu => ?_)
  refine z_eqs (σ' := (ap b σ [] [] [])) hu.2 ?_
  show zx p l e _ s m _ below meth c g 11 0 0 _ _ 14 [(0, .ref (b + 405)), (1, .int 2), (2, .int w1), (3, .int w2), (4, .int w3), (5, .int w4)] _
  refine z_seti (y := 1) hu.1 ?_
  refine z_cVi (As := [.int 0, .int 1]) (rest := []) B cw_X9_245 cx_10 dX9_check_14 (ci_X9_needs__40 l (σ := (ap b σ [] [] [])) (b := b) (lyA hK) ) (lKA (hk_K hK 405 rfl rfl)) rfl (by decide) rfl (Nat.le_of_ble_eq_true rfl) (by decide) (fun r u hu => ?_)
  refine z_eqs (σ' := (ap b σ [(405, 0, 1)] [] [])) (hu.2.trans ap_ap) ?_
  show zx p l e _ s m _ below meth c g 11 0 0 _ _ 17 [(0, .ref (b + 405)), (1, .int 2), (2, .int w1), (3, .int w2), (4, .int w3), (5, .int w4)] _
  refine z_seti (y := 0) hu.1 ?_
  refine z_if_ne (tgt := 22) B dX9_check_17 (by decide) (fun h => absurd (by decide) h) (fun _ => ?_)
  refine z_iconst (v := 0) B dX9_check_20 (by decide) ?_
  exact z_iret B hr (by decide) (by decide) dX9_check_21 ⟨rfl, rfl⟩
set_option maxRecDepth 100000 in
set_option maxHeartbeats 4000000 in
theorem ci_X9_check_511 (l : Launch) {g : gx_T} {σ : sx_T} {b : Nat} (hK : lay b σ) (w1 : Int32) (w2 : Int32) (w3 : Int32) (w4 : Int32) (q1_w1 : (20 : Int) ≤ w1.toInt) (q2_w1 : w1.toInt ≤ (2147483647 : Int)) (q1_w2 : (0 : Int) ≤ w2.toInt) (q2_w2 : w2.toInt ≤ (17 : Int)) (q1_w3 : (0 : Int) ≤ w3.toInt) (q2_w3 : w3.toInt ≤ (99 : Int)) (q1_w4 : (100 : Int) ≤ w4.toInt) (q2_w4 : w4.toInt ≤ (2147483647 : Int))  : Met l yX9_check (.code yX9_check cX9_check 11 (some .int) :: lw_g) { frames := 2, cells := 0, slots := 0, locals := 44 } (va_Pc [.ref (b + 405), .int 2, .int w1, .int w2, .int w3, .int w4] (zx_w g σ)) (va_Qi (fun r u => r = 0 ∧ u = (ap b σ [(405, 0, 1)] [] [])) (zx_w g) (gx_Q g)) 0 0 (gx_Q g) := by
  refine z_met (by decide) (Nat.le_of_ble_eq_true rfl) (fun p e s m below meth c B hr hin => ?_)
  refine z_eqs (σ' := (ap b σ [] [] [])) rfl ?_
  show zx p l e _ s m _ below meth c g 11 0 0 _ _ 0 [(0, .ref (b + 405)), (1, .int 2), (2, .int w1), (3, .int w2), (4, .int w3), (5, .int w4)] []
  refine z_aload_n B dX9_check_0 rfl 0 rfl ?_
  refine z_iload_n B dX9_check_1 rfl 1 rfl ?_
  refine z_iload_n B dX9_check_2 rfl 2 rfl ?_
  refine z_cSi (As := [.int 2, .int w1]) (rest := [.ref (b + 405)]) B cw_X9_238 dX9_check_3 (ci_X9_isStep_212 l (σ := (ap b σ [] [] [])) (b := b) (lyA hK) w1 q1_w1 q2_w1) rfl (by decide) rfl (Nat.le_of_ble_eq_true rfl) (by decide) (fun r u hu => ?_)
  refine z_eqs (σ' := (ap b σ [] [] [])) hu.2 ?_
  show zx p l e _ s m _ below meth c g 11 0 0 _ _ 6 [(0, .ref (b + 405)), (1, .int 2), (2, .int w1), (3, .int w2), (4, .int w3), (5, .int w4)] _
  refine z_seti (y := 0) hu.1 ?_
  refine z_iload_n B dX9_check_6 rfl 3 rfl ?_
  refine z_iload B dX9_check_7 4 rfl ?_
  refine z_iload B dX9_check_9 5 rfl ?_
  refine z_cSi (As := [.int w2, .int w3, .int w4]) (rest := [.int 0, .ref (b + 405)]) B cw_X9_242 dX9_check_11 (ci_X9_isOperation_43 l (σ := (ap b σ [] [] [])) (b := b) (lyA hK) w2 w3 w4 q1_w2 q2_w2 q1_w3 q2_w3 q1_w4 q2_w4) rfl (by decide) rfl (Nat.le_of_ble_eq_true rfl) (by decide) (fun r u hu => ?_)
  refine z_eqs (σ' := (ap b σ [] [] [])) hu.2 ?_
  show zx p l e _ s m _ below meth c g 11 0 0 _ _ 14 [(0, .ref (b + 405)), (1, .int 2), (2, .int w1), (3, .int w2), (4, .int w3), (5, .int w4)] _
  refine z_seti (y := 0) hu.1 ?_
  refine z_cVi (As := [.int 0, .int 0]) (rest := []) B cw_X9_245 cx_10 dX9_check_14 (ci_X9_needs__29 l (σ := (ap b σ [] [] [])) (b := b) (lyA hK) ) (lKA (hk_K hK 405 rfl rfl)) rfl (by decide) rfl (Nat.le_of_ble_eq_true rfl) (by decide) (fun r u hu => ?_)
  refine z_eqs (σ' := (ap b σ [(405, 0, 1)] [] [])) (hu.2.trans ap_ap) ?_
  show zx p l e _ s m _ below meth c g 11 0 0 _ _ 17 [(0, .ref (b + 405)), (1, .int 2), (2, .int w1), (3, .int w2), (4, .int w3), (5, .int w4)] _
  refine z_seti (y := 0) hu.1 ?_
  refine z_if_ne (tgt := 22) B dX9_check_17 (by decide) (fun h => absurd (by decide) h) (fun _ => ?_)
  refine z_iconst (v := 0) B dX9_check_20 (by decide) ?_
  exact z_iret B hr (by decide) (by decide) dX9_check_21 ⟨rfl, rfl⟩
set_option maxRecDepth 100000 in
set_option maxHeartbeats 4000000 in
theorem ci_X9_check_512 (l : Launch) {g : gx_T} {σ : sx_T} {b : Nat} (hK : lay b σ) (w1 : Int32) (w2 : Int32) (w3 : Int32) (w4 : Int32) (q1_w1 : (20 : Int) ≤ w1.toInt) (q2_w1 : w1.toInt ≤ (2147483647 : Int)) (q1_w2 : (0 : Int) ≤ w2.toInt) (q2_w2 : w2.toInt ≤ (17 : Int)) (q1_w3 : (100 : Int) ≤ w3.toInt) (q2_w3 : w3.toInt ≤ (2147483647 : Int))  : Met l yX9_check (.code yX9_check cX9_check 11 (some .int) :: lw_g) { frames := 2, cells := 0, slots := 0, locals := 44 } (va_Pc [.ref (b + 405), .int 2, .int w1, .int w2, .int w3, .int w4] (zx_w g σ)) (va_Qi (fun r u => r = 0 ∧ u = (ap b σ [(405, 0, 1)] [] [])) (zx_w g) (gx_Q g)) 0 0 (gx_Q g) := by
  refine z_met (by decide) (Nat.le_of_ble_eq_true rfl) (fun p e s m below meth c B hr hin => ?_)
  refine z_eqs (σ' := (ap b σ [] [] [])) rfl ?_
  show zx p l e _ s m _ below meth c g 11 0 0 _ _ 0 [(0, .ref (b + 405)), (1, .int 2), (2, .int w1), (3, .int w2), (4, .int w3), (5, .int w4)] []
  refine z_aload_n B dX9_check_0 rfl 0 rfl ?_
  refine z_iload_n B dX9_check_1 rfl 1 rfl ?_
  refine z_iload_n B dX9_check_2 rfl 2 rfl ?_
  refine z_cSi (As := [.int 2, .int w1]) (rest := [.ref (b + 405)]) B cw_X9_238 dX9_check_3 (ci_X9_isStep_212 l (σ := (ap b σ [] [] [])) (b := b) (lyA hK) w1 q1_w1 q2_w1) rfl (by decide) rfl (Nat.le_of_ble_eq_true rfl) (by decide) (fun r u hu => ?_)
  refine z_eqs (σ' := (ap b σ [] [] [])) hu.2 ?_
  show zx p l e _ s m _ below meth c g 11 0 0 _ _ 6 [(0, .ref (b + 405)), (1, .int 2), (2, .int w1), (3, .int w2), (4, .int w3), (5, .int w4)] _
  refine z_seti (y := 0) hu.1 ?_
  refine z_iload_n B dX9_check_6 rfl 3 rfl ?_
  refine z_iload B dX9_check_7 4 rfl ?_
  refine z_iload B dX9_check_9 5 rfl ?_
  refine z_cSi (As := [.int w2, .int w3, .int w4]) (rest := [.int 0, .ref (b + 405)]) B cw_X9_242 dX9_check_11 (ci_X9_isOperation_45 l (σ := (ap b σ [] [] [])) (b := b) (lyA hK) w2 w3 w4 q1_w2 q2_w2 q1_w3 q2_w3) rfl (by decide) rfl (Nat.le_of_ble_eq_true rfl) (by decide) (fun r u hu => ?_)
  refine z_eqs (σ' := (ap b σ [] [] [])) hu.2 ?_
  show zx p l e _ s m _ below meth c g 11 0 0 _ _ 14 [(0, .ref (b + 405)), (1, .int 2), (2, .int w1), (3, .int w2), (4, .int w3), (5, .int w4)] _
  refine z_seti (y := 0) hu.1 ?_
  refine z_cVi (As := [.int 0, .int 0]) (rest := []) B cw_X9_245 cx_10 dX9_check_14 (ci_X9_needs__29 l (σ := (ap b σ [] [] [])) (b := b) (lyA hK) ) (lKA (hk_K hK 405 rfl rfl)) rfl (by decide) rfl (Nat.le_of_ble_eq_true rfl) (by decide) (fun r u hu => ?_)
  refine z_eqs (σ' := (ap b σ [(405, 0, 1)] [] [])) (hu.2.trans ap_ap) ?_
  show zx p l e _ s m _ below meth c g 11 0 0 _ _ 17 [(0, .ref (b + 405)), (1, .int 2), (2, .int w1), (3, .int w2), (4, .int w3), (5, .int w4)] _
  refine z_seti (y := 0) hu.1 ?_
  refine z_if_ne (tgt := 22) B dX9_check_17 (by decide) (fun h => absurd (by decide) h) (fun _ => ?_)
  refine z_iconst (v := 0) B dX9_check_20 (by decide) ?_
  exact z_iret B hr (by decide) (by decide) dX9_check_21 ⟨rfl, rfl⟩
set_option maxRecDepth 100000 in
set_option maxHeartbeats 4000000 in
theorem ci_X9_check_513 (l : Launch) {g : gx_T} {σ : sx_T} {b : Nat} (hK : lay b σ) (w1 : Int32) (w2 : Int32) (w3 : Int32) (w4 : Int32) (q1_w1 : (20 : Int) ≤ w1.toInt) (q2_w1 : w1.toInt ≤ (2147483647 : Int)) (q1_w2 : (18 : Int) ≤ w2.toInt) (q2_w2 : w2.toInt ≤ (2147483647 : Int))  : Met l yX9_check (.code yX9_check cX9_check 11 (some .int) :: lw_g) { frames := 2, cells := 0, slots := 0, locals := 44 } (va_Pc [.ref (b + 405), .int 2, .int w1, .int w2, .int w3, .int w4] (zx_w g σ)) (va_Qi (fun r u => r = 0 ∧ u = (ap b σ [(405, 0, 1)] [] [])) (zx_w g) (gx_Q g)) 0 0 (gx_Q g) := by
  refine z_met (by decide) (Nat.le_of_ble_eq_true rfl) (fun p e s m below meth c B hr hin => ?_)
  refine z_eqs (σ' := (ap b σ [] [] [])) rfl ?_
  show zx p l e _ s m _ below meth c g 11 0 0 _ _ 0 [(0, .ref (b + 405)), (1, .int 2), (2, .int w1), (3, .int w2), (4, .int w3), (5, .int w4)] []
  refine z_aload_n B dX9_check_0 rfl 0 rfl ?_
  refine z_iload_n B dX9_check_1 rfl 1 rfl ?_
  refine z_iload_n B dX9_check_2 rfl 2 rfl ?_
  refine z_cSi (As := [.int 2, .int w1]) (rest := [.ref (b + 405)]) B cw_X9_238 dX9_check_3 (ci_X9_isStep_212 l (σ := (ap b σ [] [] [])) (b := b) (lyA hK) w1 q1_w1 q2_w1) rfl (by decide) rfl (Nat.le_of_ble_eq_true rfl) (by decide) (fun r u hu => ?_)
  refine z_eqs (σ' := (ap b σ [] [] [])) hu.2 ?_
  show zx p l e _ s m _ below meth c g 11 0 0 _ _ 6 [(0, .ref (b + 405)), (1, .int 2), (2, .int w1), (3, .int w2), (4, .int w3), (5, .int w4)] _
  refine z_seti (y := 0) hu.1 ?_
  refine z_iload_n B dX9_check_6 rfl 3 rfl ?_
  refine z_iload B dX9_check_7 4 rfl ?_
  refine z_iload B dX9_check_9 5 rfl ?_
  refine z_cSi (As := [.int w2, .int w3, .int w4]) (rest := [.int 0, .ref (b + 405)]) B cw_X9_242 dX9_check_11 (ci_X9_isOperation_48 l (σ := (ap b σ [] [] [])) (b := b) (lyA hK) w2 w3 w4 q1_w2 q2_w2) rfl (by decide) rfl (Nat.le_of_ble_eq_true rfl) (by decide) (fun r u hu => ?_)
  refine z_eqs (σ' := (ap b σ [] [] [])) hu.2 ?_
  show zx p l e _ s m _ below meth c g 11 0 0 _ _ 14 [(0, .ref (b + 405)), (1, .int 2), (2, .int w1), (3, .int w2), (4, .int w3), (5, .int w4)] _
  refine z_seti (y := 0) hu.1 ?_
  refine z_cVi (As := [.int 0, .int 0]) (rest := []) B cw_X9_245 cx_10 dX9_check_14 (ci_X9_needs__29 l (σ := (ap b σ [] [] [])) (b := b) (lyA hK) ) (lKA (hk_K hK 405 rfl rfl)) rfl (by decide) rfl (Nat.le_of_ble_eq_true rfl) (by decide) (fun r u hu => ?_)
  refine z_eqs (σ' := (ap b σ [(405, 0, 1)] [] [])) (hu.2.trans ap_ap) ?_
  show zx p l e _ s m _ below meth c g 11 0 0 _ _ 17 [(0, .ref (b + 405)), (1, .int 2), (2, .int w1), (3, .int w2), (4, .int w3), (5, .int w4)] _
  refine z_seti (y := 0) hu.1 ?_
  refine z_if_ne (tgt := 22) B dX9_check_17 (by decide) (fun h => absurd (by decide) h) (fun _ => ?_)
  refine z_iconst (v := 0) B dX9_check_20 (by decide) ?_
  exact z_iret B hr (by decide) (by decide) dX9_check_21 ⟨rfl, rfl⟩
set_option maxRecDepth 100000 in
set_option maxHeartbeats 4000000 in
theorem ci_X8_check_514 (l : Launch) (hlt : l.stackTraces = false) {g : gx_T} {σ : sx_T} {b : Nat} (hK : lay b σ) (w1 : Int32) (w2 : Int32) (w3 : Int32) (w4 : Int32) (q1_w1 : (-2147483648 : Int) ≤ w1.toInt) (q2_w1 : w1.toInt ≤ (-1 : Int)) (hR_0_0 : sx_R σ (b + 0) 0 = (some (b + 1))) (hR_1_3 : sx_R σ (b + 1) 3 = (some (b + 21))) : vx_Met l yX8_check (.code yX8_check cX8_check 13 (some .int) :: lw_g) { frames := 7, cells := 1, slots := 6, locals := 136 } (va_Pc [.ref (b + 0), .int 3, .int w1, .int w2, .int w3, .int w4] (zx_w g σ)) (va_Qi (S := sx_T) (fun _ _ => False) (zx_w g) (gx_Q g)) (vx_X (fun u : sx_T => ∃ z, u = wx_Z σ z) (fun E u t => E = "java/lang/IndexOutOfBoundsException" ∧ zx_h g u t.heap) (gx_Q g)) 1 6 (gx_Q g) := by
  refine z_metX (by decide) (Nat.le_of_ble_eq_true rfl) (fun p e s m below meth c B hr hin hout => ?_)
  refine z_eqs (σ' := (ap b σ [] [] [])) rfl ?_
  show zx p l e _ s m _ below meth c g 13 0 0 _ _ 0 [(0, .ref (b + 0)), (1, .int 3), (2, .int w1), (3, .int w2), (4, .int w3), (5, .int w4)] []
  refine z_aload_n B dX8_check_0 rfl 0 rfl ?_
  refine z_iload_n B dX8_check_1 rfl 1 rfl ?_
  refine z_cVq (As := [.int 3]) (rest := []) B cw_X8_64 cx_9 dX8_check_2 (ci_X8_programAt_220 l (σ := (ap b σ [] [] [])) (b := b) (lyA hK) (rR_at 0 0 hR_0_0) (rR_at 1 3 hR_1_3)) (lKA (hk_K hK 0 rfl rfl)) rfl (by decide) rfl (Nat.le_of_ble_eq_true rfl) (by decide) (fun r u hu => ?_)
  refine z_eqs (σ' := (ap b σ [] [] [])) hu.2 ?_
  show zx p l e _ s m _ below meth c g 13 0 0 _ _ 5 [(0, .ref (b + 0)), (1, .int 3), (2, .int w1), (3, .int w2), (4, .int w3), (5, .int w4)] _
  refine z_setr (y := (some (b + 21))) hu.1 ?_
  refine z_astore (lv' := [(6, .ref (b + 21)), (0, .ref (b + 0)), (1, .int 3), (2, .int w1), (3, .int w2), (4, .int w3), (5, .int w4)]) B dX8_check_5 (by decide) rfl ?_
  refine z_aload B dX8_check_7 0 rfl ?_
  refine z_ifnull (r := (some (b + 21))) (tgt := 21) B dX8_check_9 (by decide) (fun h => nomatch h) (fun _ _ => ?_)
  refine z_iload_n B dX8_check_12 rfl 3 rfl ?_
  refine z_bipush (v := 20) B dX8_check_13 (by decide) ?_
  refine z_cSi (As := [.int w1, .int 20]) (rest := []) B cw_X8_68 dX8_check_15 (ci_X8_isBelow_51 l (σ := (ap b σ [] [] [])) (b := b) (lyA hK) w1 q1_w1 q2_w1) rfl (by decide) rfl (Nat.le_of_ble_eq_true rfl) (by decide) (fun r u hu => ?_)
  refine z_eqs (σ' := (ap b σ [] [] [])) hu.2 ?_
  show zx p l e _ s m _ below meth c g 13 0 0 _ _ 18 [(6, .ref (b + 21)), (0, .ref (b + 0)), (1, .int 3), (2, .int w1), (3, .int w2), (4, .int w3), (5, .int w4)] _
  refine z_seti (y := 0) hu.1 ?_
  refine z_if_ne (tgt := 31) B dX8_check_18 (by decide) (fun h => absurd (by decide) h) (fun _ => ?_)
  exact z_throw B hlt hout (cls := "java/lang/IndexOutOfBoundsException") (text := "no such step") tw_X8_72_74_76 dX8_check_21 dX8_check_24 dX8_check_25 dX8_check_27 dX8_check_30 (by decide) (by decide) (by decide) (by decide) (by decide) (by decide) (fun z => ⟨z, rfl⟩)
set_option maxRecDepth 100000 in
set_option maxHeartbeats 4000000 in
theorem ci_L_check_515 (l : Launch) (hlt : l.stackTraces = false) {g : gx_T} {σ : sx_T} {b : Nat} (hK : lay b σ) (w1 : Int32) (w2 : Int32) (w3 : Int32) (w4 : Int32) (q1_w1 : (-2147483648 : Int) ≤ w1.toInt) (q2_w1 : w1.toInt ≤ (-1 : Int)) (hR_0_0 : sx_R σ (b + 0) 0 = (some (b + 1))) (hR_1_3 : sx_R σ (b + 1) 3 = (some (b + 21))) : Met l yL_check (.codeWith yL_check cL_check 8 (some .int) [(0, 16, 19, 13), (0, 16, 23, 15)] :: lw_g) { frames := 8, cells := 1, slots := 6, locals := 168 } (va_Pc [.ref (b + 0), .int 3, .int w1, .int w2, .int w3, .int w4, .ref (b + 431)] (zx_w g σ)) (va_Qi (fun r u => r = 1 ∧ ∃ z, u = (ap b (wx_Z σ z) [] [] [])) (zx_w g) (gx_Q g)) 1 6 (gx_Q g) := by
  refine z_metW (by decide) (Nat.le_of_ble_eq_true rfl) (fun p e s m below meth c B hr htab => ?_)
  refine z_eqs (σ' := (ap b σ [] [] [])) rfl ?_
  show zx p l e _ s m _ below meth c g 8 0 0 _ _ 0 [(0, .ref (b + 0)), (1, .int 3), (2, .int w1), (3, .int w2), (4, .int w3), (5, .int w4), (6, .ref (b + 431))] []
  refine z_aload B dL_check_0 6 rfl ?_
  refine z_iconst (v := 0) B dL_check_2 (by decide) ?_
  refine z_aload_n B dL_check_3 rfl 0 rfl ?_
  refine z_iload_n B dL_check_4 rfl 1 rfl ?_
  refine z_iload_n B dL_check_5 rfl 2 rfl ?_
  refine z_iload_n B dL_check_6 rfl 3 rfl ?_
  refine z_iload B dL_check_7 4 rfl ?_
  refine z_iload B dL_check_9 5 rfl ?_
  refine z_cXi (As := [.int 3, .int w1, .int w2, .int w3, .int w4]) (rest := [.int 0, .ref (b + 431)]) B htab tc_check_11_IndexOutOfBoundsException cw_L_17 cx_9 dL_check_11 (ci_X8_check_514 l hlt (σ := (ap b σ [] [] [])) (b := b) (lyA hK) w1 w2 w3 w4 q1_w1 q2_w1 (rR_at 0 0 hR_0_0) (rR_at 1 3 hR_1_3)) (lKA (hk_K hK 0 rfl rfl)) rfl (by decide) rfl (Nat.le_of_ble_eq_true rfl) (by decide) (fun z q => ?_)
  refine z_eqs (σ' := (ap b (wx_Z σ z) [] [] [])) rfl ?_
  show zx p l e _ s m _ below meth c g 8 _ _ _ _ 19 [(0, .ref (b + 0)), (1, .int 3), (2, .int w1), (3, .int w2), (4, .int w3), (5, .int w4), (6, .ref (b + 431))] _
  refine z_astore (lv' := [(7, .ref q), (0, .ref (b + 0)), (1, .int 3), (2, .int w1), (3, .int w2), (4, .int w3), (5, .int w4), (6, .ref (b + 431))]) B dL_check_19 (by decide) rfl ?_
  refine z_iconst (v := 1) B dL_check_21 (by decide) ?_
  exact z_iret B hr (by decide) (by decide) dL_check_22 ⟨rfl, _, rfl⟩
set_option maxRecDepth 100000 in
set_option maxHeartbeats 4000000 in
theorem ci_X9_check_516 (l : Launch) {g : gx_T} {σ : sx_T} {b : Nat} (hK : lay b σ) (w1 : Int32) (w2 : Int32) (w3 : Int32) (w4 : Int32) (q1_w1 : (-2147483648 : Int) ≤ w1.toInt) (q2_w1 : w1.toInt ≤ (-1 : Int)) (q1_w2 : (-2147483648 : Int) ≤ w2.toInt) (q2_w2 : w2.toInt ≤ (-1 : Int))  : Met l yX9_check (.code yX9_check cX9_check 11 (some .int) :: lw_g) { frames := 2, cells := 0, slots := 0, locals := 44 } (va_Pc [.ref (b + 405), .int 3, .int w1, .int w2, .int w3, .int w4] (zx_w g σ)) (va_Qi (fun r u => r = 0 ∧ u = (ap b σ [(405, 0, 1)] [] [])) (zx_w g) (gx_Q g)) 0 0 (gx_Q g) := by
  refine z_met (by decide) (Nat.le_of_ble_eq_true rfl) (fun p e s m below meth c B hr hin => ?_)
  refine z_eqs (σ' := (ap b σ [] [] [])) rfl ?_
  show zx p l e _ s m _ below meth c g 11 0 0 _ _ 0 [(0, .ref (b + 405)), (1, .int 3), (2, .int w1), (3, .int w2), (4, .int w3), (5, .int w4)] []
  refine z_aload_n B dX9_check_0 rfl 0 rfl ?_
  refine z_iload_n B dX9_check_1 rfl 1 rfl ?_
  refine z_iload_n B dX9_check_2 rfl 2 rfl ?_
  refine z_cSi (As := [.int 3, .int w1]) (rest := [.ref (b + 405)]) B cw_X9_238 dX9_check_3 (ci_X9_isStep_224 l (σ := (ap b σ [] [] [])) (b := b) (lyA hK) w1 q1_w1 q2_w1) rfl (by decide) rfl (Nat.le_of_ble_eq_true rfl) (by decide) (fun r u hu => ?_)
  refine z_eqs (σ' := (ap b σ [] [] [])) hu.2 ?_
  show zx p l e _ s m _ below meth c g 11 0 0 _ _ 6 [(0, .ref (b + 405)), (1, .int 3), (2, .int w1), (3, .int w2), (4, .int w3), (5, .int w4)] _
  refine z_seti (y := 0) hu.1 ?_
  refine z_iload_n B dX9_check_6 rfl 3 rfl ?_
  refine z_iload B dX9_check_7 4 rfl ?_
  refine z_iload B dX9_check_9 5 rfl ?_
  refine z_cSi (As := [.int w2, .int w3, .int w4]) (rest := [.int 0, .ref (b + 405)]) B cw_X9_242 dX9_check_11 (ci_X9_isOperation_28 l (σ := (ap b σ [] [] [])) (b := b) (lyA hK) w2 w3 w4 q1_w2 q2_w2) rfl (by decide) rfl (Nat.le_of_ble_eq_true rfl) (by decide) (fun r u hu => ?_)
  refine z_eqs (σ' := (ap b σ [] [] [])) hu.2 ?_
  show zx p l e _ s m _ below meth c g 11 0 0 _ _ 14 [(0, .ref (b + 405)), (1, .int 3), (2, .int w1), (3, .int w2), (4, .int w3), (5, .int w4)] _
  refine z_seti (y := 0) hu.1 ?_
  refine z_cVi (As := [.int 0, .int 0]) (rest := []) B cw_X9_245 cx_10 dX9_check_14 (ci_X9_needs__29 l (σ := (ap b σ [] [] [])) (b := b) (lyA hK) ) (lKA (hk_K hK 405 rfl rfl)) rfl (by decide) rfl (Nat.le_of_ble_eq_true rfl) (by decide) (fun r u hu => ?_)
  refine z_eqs (σ' := (ap b σ [(405, 0, 1)] [] [])) (hu.2.trans ap_ap) ?_
  show zx p l e _ s m _ below meth c g 11 0 0 _ _ 17 [(0, .ref (b + 405)), (1, .int 3), (2, .int w1), (3, .int w2), (4, .int w3), (5, .int w4)] _
  refine z_seti (y := 0) hu.1 ?_
  refine z_if_ne (tgt := 22) B dX9_check_17 (by decide) (fun h => absurd (by decide) h) (fun _ => ?_)
  refine z_iconst (v := 0) B dX9_check_20 (by decide) ?_
  exact z_iret B hr (by decide) (by decide) dX9_check_21 ⟨rfl, rfl⟩
set_option maxRecDepth 100000 in
set_option maxHeartbeats 4000000 in
theorem ci_X9_check_517 (l : Launch) {g : gx_T} {σ : sx_T} {b : Nat} (hK : lay b σ) (w1 : Int32) (w2 : Int32) (w3 : Int32) (w4 : Int32) (q1_w1 : (-2147483648 : Int) ≤ w1.toInt) (q2_w1 : w1.toInt ≤ (-1 : Int)) (q1_w2 : (0 : Int) ≤ w2.toInt) (q2_w2 : w2.toInt ≤ (17 : Int)) (q1_w3 : (-2147483648 : Int) ≤ w3.toInt) (q2_w3 : w3.toInt ≤ (-1 : Int))  : Met l yX9_check (.code yX9_check cX9_check 11 (some .int) :: lw_g) { frames := 2, cells := 0, slots := 0, locals := 44 } (va_Pc [.ref (b + 405), .int 3, .int w1, .int w2, .int w3, .int w4] (zx_w g σ)) (va_Qi (fun r u => r = 0 ∧ u = (ap b σ [(405, 0, 1)] [] [])) (zx_w g) (gx_Q g)) 0 0 (gx_Q g) := by
  refine z_met (by decide) (Nat.le_of_ble_eq_true rfl) (fun p e s m below meth c B hr hin => ?_)
  refine z_eqs (σ' := (ap b σ [] [] [])) rfl ?_
  show zx p l e _ s m _ below meth c g 11 0 0 _ _ 0 [(0, .ref (b + 405)), (1, .int 3), (2, .int w1), (3, .int w2), (4, .int w3), (5, .int w4)] []
  refine z_aload_n B dX9_check_0 rfl 0 rfl ?_
  refine z_iload_n B dX9_check_1 rfl 1 rfl ?_
  refine z_iload_n B dX9_check_2 rfl 2 rfl ?_
  refine z_cSi (As := [.int 3, .int w1]) (rest := [.ref (b + 405)]) B cw_X9_238 dX9_check_3 (ci_X9_isStep_224 l (σ := (ap b σ [] [] [])) (b := b) (lyA hK) w1 q1_w1 q2_w1) rfl (by decide) rfl (Nat.le_of_ble_eq_true rfl) (by decide) (fun r u hu => ?_)
  refine z_eqs (σ' := (ap b σ [] [] [])) hu.2 ?_
  show zx p l e _ s m _ below meth c g 11 0 0 _ _ 6 [(0, .ref (b + 405)), (1, .int 3), (2, .int w1), (3, .int w2), (4, .int w3), (5, .int w4)] _
  refine z_seti (y := 0) hu.1 ?_
  refine z_iload_n B dX9_check_6 rfl 3 rfl ?_
  refine z_iload B dX9_check_7 4 rfl ?_
  refine z_iload B dX9_check_9 5 rfl ?_
  refine z_cSi (As := [.int w2, .int w3, .int w4]) (rest := [.int 0, .ref (b + 405)]) B cw_X9_242 dX9_check_11 (ci_X9_isOperation_34 l (σ := (ap b σ [] [] [])) (b := b) (lyA hK) w2 w3 w4 q1_w2 q2_w2 q1_w3 q2_w3) rfl (by decide) rfl (Nat.le_of_ble_eq_true rfl) (by decide) (fun r u hu => ?_)
  refine z_eqs (σ' := (ap b σ [] [] [])) hu.2 ?_
  show zx p l e _ s m _ below meth c g 11 0 0 _ _ 14 [(0, .ref (b + 405)), (1, .int 3), (2, .int w1), (3, .int w2), (4, .int w3), (5, .int w4)] _
  refine z_seti (y := 0) hu.1 ?_
  refine z_cVi (As := [.int 0, .int 0]) (rest := []) B cw_X9_245 cx_10 dX9_check_14 (ci_X9_needs__29 l (σ := (ap b σ [] [] [])) (b := b) (lyA hK) ) (lKA (hk_K hK 405 rfl rfl)) rfl (by decide) rfl (Nat.le_of_ble_eq_true rfl) (by decide) (fun r u hu => ?_)
  refine z_eqs (σ' := (ap b σ [(405, 0, 1)] [] [])) (hu.2.trans ap_ap) ?_
  show zx p l e _ s m _ below meth c g 11 0 0 _ _ 17 [(0, .ref (b + 405)), (1, .int 3), (2, .int w1), (3, .int w2), (4, .int w3), (5, .int w4)] _
  refine z_seti (y := 0) hu.1 ?_
  refine z_if_ne (tgt := 22) B dX9_check_17 (by decide) (fun h => absurd (by decide) h) (fun _ => ?_)
  refine z_iconst (v := 0) B dX9_check_20 (by decide) ?_
  exact z_iret B hr (by decide) (by decide) dX9_check_21 ⟨rfl, rfl⟩
set_option maxRecDepth 100000 in
set_option maxHeartbeats 4000000 in
theorem ci_X9_check_518 (l : Launch) {g : gx_T} {σ : sx_T} {b : Nat} (hK : lay b σ) (w1 : Int32) (w2 : Int32) (w3 : Int32) (w4 : Int32) (q1_w1 : (-2147483648 : Int) ≤ w1.toInt) (q2_w1 : w1.toInt ≤ (-1 : Int)) (q1_w2 : (0 : Int) ≤ w2.toInt) (q2_w2 : w2.toInt ≤ (17 : Int)) (q1_w3 : (0 : Int) ≤ w3.toInt) (q2_w3 : w3.toInt ≤ (99 : Int)) (q1_w4 : (-2147483648 : Int) ≤ w4.toInt) (q2_w4 : w4.toInt ≤ (-1 : Int))  : Met l yX9_check (.code yX9_check cX9_check 11 (some .int) :: lw_g) { frames := 2, cells := 0, slots := 0, locals := 44 } (va_Pc [.ref (b + 405), .int 3, .int w1, .int w2, .int w3, .int w4] (zx_w g σ)) (va_Qi (fun r u => r = 0 ∧ u = (ap b σ [(405, 0, 1)] [] [])) (zx_w g) (gx_Q g)) 0 0 (gx_Q g) := by
  refine z_met (by decide) (Nat.le_of_ble_eq_true rfl) (fun p e s m below meth c B hr hin => ?_)
  refine z_eqs (σ' := (ap b σ [] [] [])) rfl ?_
  show zx p l e _ s m _ below meth c g 11 0 0 _ _ 0 [(0, .ref (b + 405)), (1, .int 3), (2, .int w1), (3, .int w2), (4, .int w3), (5, .int w4)] []
  refine z_aload_n B dX9_check_0 rfl 0 rfl ?_
  refine z_iload_n B dX9_check_1 rfl 1 rfl ?_
  refine z_iload_n B dX9_check_2 rfl 2 rfl ?_
  refine z_cSi (As := [.int 3, .int w1]) (rest := [.ref (b + 405)]) B cw_X9_238 dX9_check_3 (ci_X9_isStep_224 l (σ := (ap b σ [] [] [])) (b := b) (lyA hK) w1 q1_w1 q2_w1) rfl (by decide) rfl (Nat.le_of_ble_eq_true rfl) (by decide) (fun r u hu => ?_)
  refine z_eqs (σ' := (ap b σ [] [] [])) hu.2 ?_
  show zx p l e _ s m _ below meth c g 11 0 0 _ _ 6 [(0, .ref (b + 405)), (1, .int 3), (2, .int w1), (3, .int w2), (4, .int w3), (5, .int w4)] _
  refine z_seti (y := 0) hu.1 ?_
  refine z_iload_n B dX9_check_6 rfl 3 rfl ?_
  refine z_iload B dX9_check_7 4 rfl ?_
  refine z_iload B dX9_check_9 5 rfl ?_
  refine z_cSi (As := [.int w2, .int w3, .int w4]) (rest := [.int 0, .ref (b + 405)]) B cw_X9_242 dX9_check_11 (ci_X9_isOperation_37 l (σ := (ap b σ [] [] [])) (b := b) (lyA hK) w2 w3 w4 q1_w2 q2_w2 q1_w3 q2_w3 q1_w4 q2_w4) rfl (by decide) rfl (Nat.le_of_ble_eq_true rfl) (by decide) (fun r u hu => ?_)
  refine z_eqs (σ' := (ap b σ [] [] [])) hu.2 ?_
  show zx p l e _ s m _ below meth c g 11 0 0 _ _ 14 [(0, .ref (b + 405)), (1, .int 3), (2, .int w1), (3, .int w2), (4, .int w3), (5, .int w4)] _
  refine z_seti (y := 0) hu.1 ?_
  refine z_cVi (As := [.int 0, .int 0]) (rest := []) B cw_X9_245 cx_10 dX9_check_14 (ci_X9_needs__29 l (σ := (ap b σ [] [] [])) (b := b) (lyA hK) ) (lKA (hk_K hK 405 rfl rfl)) rfl (by decide) rfl (Nat.le_of_ble_eq_true rfl) (by decide) (fun r u hu => ?_)
  refine z_eqs (σ' := (ap b σ [(405, 0, 1)] [] [])) (hu.2.trans ap_ap) ?_
  show zx p l e _ s m _ below meth c g 11 0 0 _ _ 17 [(0, .ref (b + 405)), (1, .int 3), (2, .int w1), (3, .int w2), (4, .int w3), (5, .int w4)] _
  refine z_seti (y := 0) hu.1 ?_
  refine z_if_ne (tgt := 22) B dX9_check_17 (by decide) (fun h => absurd (by decide) h) (fun _ => ?_)
  refine z_iconst (v := 0) B dX9_check_20 (by decide) ?_
  exact z_iret B hr (by decide) (by decide) dX9_check_21 ⟨rfl, rfl⟩
set_option maxRecDepth 100000 in
set_option maxHeartbeats 4000000 in
theorem ci_X9_check_519 (l : Launch) {g : gx_T} {σ : sx_T} {b : Nat} (hK : lay b σ) (w1 : Int32) (w2 : Int32) (w3 : Int32) (w4 : Int32) (q1_w1 : (-2147483648 : Int) ≤ w1.toInt) (q2_w1 : w1.toInt ≤ (-1 : Int)) (q1_w2 : (0 : Int) ≤ w2.toInt) (q2_w2 : w2.toInt ≤ (17 : Int)) (q1_w3 : (0 : Int) ≤ w3.toInt) (q2_w3 : w3.toInt ≤ (99 : Int)) (q1_w4 : (0 : Int) ≤ w4.toInt) (q2_w4 : w4.toInt ≤ (99 : Int))  : Met l yX9_check (.code yX9_check cX9_check 11 (some .int) :: lw_g) { frames := 2, cells := 0, slots := 0, locals := 44 } (va_Pc [.ref (b + 405), .int 3, .int w1, .int w2, .int w3, .int w4] (zx_w g σ)) (va_Qi (fun r u => r = 0 ∧ u = (ap b σ [(405, 0, 1)] [] [])) (zx_w g) (gx_Q g)) 0 0 (gx_Q g) := by
  refine z_met (by decide) (Nat.le_of_ble_eq_true rfl) (fun p e s m below meth c B hr hin => ?_)
  refine z_eqs (σ' := (ap b σ [] [] [])) rfl ?_
  show zx p l e _ s m _ below meth c g 11 0 0 _ _ 0 [(0, .ref (b + 405)), (1, .int 3), (2, .int w1), (3, .int w2), (4, .int w3), (5, .int w4)] []
  refine z_aload_n B dX9_check_0 rfl 0 rfl ?_
  refine z_iload_n B dX9_check_1 rfl 1 rfl ?_
  refine z_iload_n B dX9_check_2 rfl 2 rfl ?_
  refine z_cSi (As := [.int 3, .int w1]) (rest := [.ref (b + 405)]) B cw_X9_238 dX9_check_3 (ci_X9_isStep_224 l (σ := (ap b σ [] [] [])) (b := b) (lyA hK) w1 q1_w1 q2_w1) rfl (by decide) rfl (Nat.le_of_ble_eq_true rfl) (by decide) (fun r u hu => ?_)
  refine z_eqs (σ' := (ap b σ [] [] [])) hu.2 ?_
  show zx p l e _ s m _ below meth c g 11 0 0 _ _ 6 [(0, .ref (b + 405)), (1, .int 3), (2, .int w1), (3, .int w2), (4, .int w3), (5, .int w4)] _
  refine z_seti (y := 0) hu.1 ?_
  refine z_iload_n B dX9_check_6 rfl 3 rfl ?_
  refine z_iload B dX9_check_7 4 rfl ?_
  refine z_iload B dX9_check_9 5 rfl ?_
  refine z_cSi (As := [.int w2, .int w3, .int w4]) (rest := [.int 0, .ref (b + 405)]) B cw_X9_242 dX9_check_11 (ci_X9_isOperation_39 l (σ := (ap b σ [] [] [])) (b := b) (lyA hK) w2 w3 w4 q1_w2 q2_w2 q1_w3 q2_w3 q1_w4 q2_w4) rfl (by decide) rfl (Nat.le_of_ble_eq_true rfl) (by decide) (fun r u hu => ?_)
  refine z_eqs (σ' := (ap b σ [] [] [])) hu.2 ?_
  show zx p l e _ s m _ below meth c g 11 0 0 _ _ 14 [(0, .ref (b + 405)), (1, .int 3), (2, .int w1), (3, .int w2), (4, .int w3), (5, .int w4)] _
  refine z_seti (y := 1) hu.1 ?_
  refine z_cVi (As := [.int 0, .int 1]) (rest := []) B cw_X9_245 cx_10 dX9_check_14 (ci_X9_needs__40 l (σ := (ap b σ [] [] [])) (b := b) (lyA hK) ) (lKA (hk_K hK 405 rfl rfl)) rfl (by decide) rfl (Nat.le_of_ble_eq_true rfl) (by decide) (fun r u hu => ?_)
  refine z_eqs (σ' := (ap b σ [(405, 0, 1)] [] [])) (hu.2.trans ap_ap) ?_
  show zx p l e _ s m _ below meth c g 11 0 0 _ _ 17 [(0, .ref (b + 405)), (1, .int 3), (2, .int w1), (3, .int w2), (4, .int w3), (5, .int w4)] _
  refine z_seti (y := 0) hu.1 ?_
  refine z_if_ne (tgt := 22) B dX9_check_17 (by decide) (fun h => absurd (by decide) h) (fun _ => ?_)
  refine z_iconst (v := 0) B dX9_check_20 (by decide) ?_
  exact z_iret B hr (by decide) (by decide) dX9_check_21 ⟨rfl, rfl⟩
set_option maxRecDepth 100000 in
set_option maxHeartbeats 4000000 in
theorem ci_X9_check_520 (l : Launch) {g : gx_T} {σ : sx_T} {b : Nat} (hK : lay b σ) (w1 : Int32) (w2 : Int32) (w3 : Int32) (w4 : Int32) (q1_w1 : (-2147483648 : Int) ≤ w1.toInt) (q2_w1 : w1.toInt ≤ (-1 : Int)) (q1_w2 : (0 : Int) ≤ w2.toInt) (q2_w2 : w2.toInt ≤ (17 : Int)) (q1_w3 : (0 : Int) ≤ w3.toInt) (q2_w3 : w3.toInt ≤ (99 : Int)) (q1_w4 : (100 : Int) ≤ w4.toInt) (q2_w4 : w4.toInt ≤ (2147483647 : Int))  : Met l yX9_check (.code yX9_check cX9_check 11 (some .int) :: lw_g) { frames := 2, cells := 0, slots := 0, locals := 44 } (va_Pc [.ref (b + 405), .int 3, .int w1, .int w2, .int w3, .int w4] (zx_w g σ)) (va_Qi (fun r u => r = 0 ∧ u = (ap b σ [(405, 0, 1)] [] [])) (zx_w g) (gx_Q g)) 0 0 (gx_Q g) := by
  refine z_met (by decide) (Nat.le_of_ble_eq_true rfl) (fun p e s m below meth c B hr hin => ?_)
  refine z_eqs (σ' := (ap b σ [] [] [])) rfl ?_
  show zx p l e _ s m _ below meth c g 11 0 0 _ _ 0 [(0, .ref (b + 405)), (1, .int 3), (2, .int w1), (3, .int w2), (4, .int w3), (5, .int w4)] []
  refine z_aload_n B dX9_check_0 rfl 0 rfl ?_
  refine z_iload_n B dX9_check_1 rfl 1 rfl ?_
  refine z_iload_n B dX9_check_2 rfl 2 rfl ?_
  refine z_cSi (As := [.int 3, .int w1]) (rest := [.ref (b + 405)]) B cw_X9_238 dX9_check_3 (ci_X9_isStep_224 l (σ := (ap b σ [] [] [])) (b := b) (lyA hK) w1 q1_w1 q2_w1) rfl (by decide) rfl (Nat.le_of_ble_eq_true rfl) (by decide) (fun r u hu => ?_)
  refine z_eqs (σ' := (ap b σ [] [] [])) hu.2 ?_
  show zx p l e _ s m _ below meth c g 11 0 0 _ _ 6 [(0, .ref (b + 405)), (1, .int 3), (2, .int w1), (3, .int w2), (4, .int w3), (5, .int w4)] _
  refine z_seti (y := 0) hu.1 ?_
  refine z_iload_n B dX9_check_6 rfl 3 rfl ?_
  refine z_iload B dX9_check_7 4 rfl ?_
  refine z_iload B dX9_check_9 5 rfl ?_
  refine z_cSi (As := [.int w2, .int w3, .int w4]) (rest := [.int 0, .ref (b + 405)]) B cw_X9_242 dX9_check_11 (ci_X9_isOperation_43 l (σ := (ap b σ [] [] [])) (b := b) (lyA hK) w2 w3 w4 q1_w2 q2_w2 q1_w3 q2_w3 q1_w4 q2_w4) rfl (by decide) rfl (Nat.le_of_ble_eq_true rfl) (by decide) (fun r u hu => ?_)
  refine z_eqs (σ' := (ap b σ [] [] [])) hu.2 ?_
  show zx p l e _ s m _ below meth c g 11 0 0 _ _ 14 [(0, .ref (b + 405)), (1, .int 3), (2, .int w1), (3, .int w2), (4, .int w3), (5, .int w4)] _
  refine z_seti (y := 0) hu.1 ?_
  refine z_cVi (As := [.int 0, .int 0]) (rest := []) B cw_X9_245 cx_10 dX9_check_14 (ci_X9_needs__29 l (σ := (ap b σ [] [] [])) (b := b) (lyA hK) ) (lKA (hk_K hK 405 rfl rfl)) rfl (by decide) rfl (Nat.le_of_ble_eq_true rfl) (by decide) (fun r u hu => ?_)
  refine z_eqs (σ' := (ap b σ [(405, 0, 1)] [] [])) (hu.2.trans ap_ap) ?_
  show zx p l e _ s m _ below meth c g 11 0 0 _ _ 17 [(0, .ref (b + 405)), (1, .int 3), (2, .int w1), (3, .int w2), (4, .int w3), (5, .int w4)] _
  refine z_seti (y := 0) hu.1 ?_
  refine z_if_ne (tgt := 22) B dX9_check_17 (by decide) (fun h => absurd (by decide) h) (fun _ => ?_)
  refine z_iconst (v := 0) B dX9_check_20 (by decide) ?_
  exact z_iret B hr (by decide) (by decide) dX9_check_21 ⟨rfl, rfl⟩
set_option maxRecDepth 100000 in
set_option maxHeartbeats 4000000 in
theorem ci_X9_check_521 (l : Launch) {g : gx_T} {σ : sx_T} {b : Nat} (hK : lay b σ) (w1 : Int32) (w2 : Int32) (w3 : Int32) (w4 : Int32) (q1_w1 : (-2147483648 : Int) ≤ w1.toInt) (q2_w1 : w1.toInt ≤ (-1 : Int)) (q1_w2 : (0 : Int) ≤ w2.toInt) (q2_w2 : w2.toInt ≤ (17 : Int)) (q1_w3 : (100 : Int) ≤ w3.toInt) (q2_w3 : w3.toInt ≤ (2147483647 : Int))  : Met l yX9_check (.code yX9_check cX9_check 11 (some .int) :: lw_g) { frames := 2, cells := 0, slots := 0, locals := 44 } (va_Pc [.ref (b + 405), .int 3, .int w1, .int w2, .int w3, .int w4] (zx_w g σ)) (va_Qi (fun r u => r = 0 ∧ u = (ap b σ [(405, 0, 1)] [] [])) (zx_w g) (gx_Q g)) 0 0 (gx_Q g) := by
  refine z_met (by decide) (Nat.le_of_ble_eq_true rfl) (fun p e s m below meth c B hr hin => ?_)
  refine z_eqs (σ' := (ap b σ [] [] [])) rfl ?_
  show zx p l e _ s m _ below meth c g 11 0 0 _ _ 0 [(0, .ref (b + 405)), (1, .int 3), (2, .int w1), (3, .int w2), (4, .int w3), (5, .int w4)] []
  refine z_aload_n B dX9_check_0 rfl 0 rfl ?_
  refine z_iload_n B dX9_check_1 rfl 1 rfl ?_
  refine z_iload_n B dX9_check_2 rfl 2 rfl ?_
  refine z_cSi (As := [.int 3, .int w1]) (rest := [.ref (b + 405)]) B cw_X9_238 dX9_check_3 (ci_X9_isStep_224 l (σ := (ap b σ [] [] [])) (b := b) (lyA hK) w1 q1_w1 q2_w1) rfl (by decide) rfl (Nat.le_of_ble_eq_true rfl) (by decide) (fun r u hu => ?_)
  refine z_eqs (σ' := (ap b σ [] [] [])) hu.2 ?_
  show zx p l e _ s m _ below meth c g 11 0 0 _ _ 6 [(0, .ref (b + 405)), (1, .int 3), (2, .int w1), (3, .int w2), (4, .int w3), (5, .int w4)] _
  refine z_seti (y := 0) hu.1 ?_
  refine z_iload_n B dX9_check_6 rfl 3 rfl ?_
  refine z_iload B dX9_check_7 4 rfl ?_
  refine z_iload B dX9_check_9 5 rfl ?_
  refine z_cSi (As := [.int w2, .int w3, .int w4]) (rest := [.int 0, .ref (b + 405)]) B cw_X9_242 dX9_check_11 (ci_X9_isOperation_45 l (σ := (ap b σ [] [] [])) (b := b) (lyA hK) w2 w3 w4 q1_w2 q2_w2 q1_w3 q2_w3) rfl (by decide) rfl (Nat.le_of_ble_eq_true rfl) (by decide) (fun r u hu => ?_)
  refine z_eqs (σ' := (ap b σ [] [] [])) hu.2 ?_
  show zx p l e _ s m _ below meth c g 11 0 0 _ _ 14 [(0, .ref (b + 405)), (1, .int 3), (2, .int w1), (3, .int w2), (4, .int w3), (5, .int w4)] _
  refine z_seti (y := 0) hu.1 ?_
  refine z_cVi (As := [.int 0, .int 0]) (rest := []) B cw_X9_245 cx_10 dX9_check_14 (ci_X9_needs__29 l (σ := (ap b σ [] [] [])) (b := b) (lyA hK) ) (lKA (hk_K hK 405 rfl rfl)) rfl (by decide) rfl (Nat.le_of_ble_eq_true rfl) (by decide) (fun r u hu => ?_)
  refine z_eqs (σ' := (ap b σ [(405, 0, 1)] [] [])) (hu.2.trans ap_ap) ?_
  show zx p l e _ s m _ below meth c g 11 0 0 _ _ 17 [(0, .ref (b + 405)), (1, .int 3), (2, .int w1), (3, .int w2), (4, .int w3), (5, .int w4)] _
  refine z_seti (y := 0) hu.1 ?_
  refine z_if_ne (tgt := 22) B dX9_check_17 (by decide) (fun h => absurd (by decide) h) (fun _ => ?_)
  refine z_iconst (v := 0) B dX9_check_20 (by decide) ?_
  exact z_iret B hr (by decide) (by decide) dX9_check_21 ⟨rfl, rfl⟩
set_option maxRecDepth 100000 in
set_option maxHeartbeats 4000000 in
theorem ci_X9_check_522 (l : Launch) {g : gx_T} {σ : sx_T} {b : Nat} (hK : lay b σ) (w1 : Int32) (w2 : Int32) (w3 : Int32) (w4 : Int32) (q1_w1 : (-2147483648 : Int) ≤ w1.toInt) (q2_w1 : w1.toInt ≤ (-1 : Int)) (q1_w2 : (18 : Int) ≤ w2.toInt) (q2_w2 : w2.toInt ≤ (2147483647 : Int))  : Met l yX9_check (.code yX9_check cX9_check 11 (some .int) :: lw_g) { frames := 2, cells := 0, slots := 0, locals := 44 } (va_Pc [.ref (b + 405), .int 3, .int w1, .int w2, .int w3, .int w4] (zx_w g σ)) (va_Qi (fun r u => r = 0 ∧ u = (ap b σ [(405, 0, 1)] [] [])) (zx_w g) (gx_Q g)) 0 0 (gx_Q g) := by
  refine z_met (by decide) (Nat.le_of_ble_eq_true rfl) (fun p e s m below meth c B hr hin => ?_)
  refine z_eqs (σ' := (ap b σ [] [] [])) rfl ?_
  show zx p l e _ s m _ below meth c g 11 0 0 _ _ 0 [(0, .ref (b + 405)), (1, .int 3), (2, .int w1), (3, .int w2), (4, .int w3), (5, .int w4)] []
  refine z_aload_n B dX9_check_0 rfl 0 rfl ?_
  refine z_iload_n B dX9_check_1 rfl 1 rfl ?_
  refine z_iload_n B dX9_check_2 rfl 2 rfl ?_
  refine z_cSi (As := [.int 3, .int w1]) (rest := [.ref (b + 405)]) B cw_X9_238 dX9_check_3 (ci_X9_isStep_224 l (σ := (ap b σ [] [] [])) (b := b) (lyA hK) w1 q1_w1 q2_w1) rfl (by decide) rfl (Nat.le_of_ble_eq_true rfl) (by decide) (fun r u hu => ?_)
  refine z_eqs (σ' := (ap b σ [] [] [])) hu.2 ?_
  show zx p l e _ s m _ below meth c g 11 0 0 _ _ 6 [(0, .ref (b + 405)), (1, .int 3), (2, .int w1), (3, .int w2), (4, .int w3), (5, .int w4)] _
  refine z_seti (y := 0) hu.1 ?_
  refine z_iload_n B dX9_check_6 rfl 3 rfl ?_
  refine z_iload B dX9_check_7 4 rfl ?_
  refine z_iload B dX9_check_9 5 rfl ?_
  refine z_cSi (As := [.int w2, .int w3, .int w4]) (rest := [.int 0, .ref (b + 405)]) B cw_X9_242 dX9_check_11 (ci_X9_isOperation_48 l (σ := (ap b σ [] [] [])) (b := b) (lyA hK) w2 w3 w4 q1_w2 q2_w2) rfl (by decide) rfl (Nat.le_of_ble_eq_true rfl) (by decide) (fun r u hu => ?_)
  refine z_eqs (σ' := (ap b σ [] [] [])) hu.2 ?_
  show zx p l e _ s m _ below meth c g 11 0 0 _ _ 14 [(0, .ref (b + 405)), (1, .int 3), (2, .int w1), (3, .int w2), (4, .int w3), (5, .int w4)] _
  refine z_seti (y := 0) hu.1 ?_
  refine z_cVi (As := [.int 0, .int 0]) (rest := []) B cw_X9_245 cx_10 dX9_check_14 (ci_X9_needs__29 l (σ := (ap b σ [] [] [])) (b := b) (lyA hK) ) (lKA (hk_K hK 405 rfl rfl)) rfl (by decide) rfl (Nat.le_of_ble_eq_true rfl) (by decide) (fun r u hu => ?_)
  refine z_eqs (σ' := (ap b σ [(405, 0, 1)] [] [])) (hu.2.trans ap_ap) ?_
  show zx p l e _ s m _ below meth c g 11 0 0 _ _ 17 [(0, .ref (b + 405)), (1, .int 3), (2, .int w1), (3, .int w2), (4, .int w3), (5, .int w4)] _
  refine z_seti (y := 0) hu.1 ?_
  refine z_if_ne (tgt := 22) B dX9_check_17 (by decide) (fun h => absurd (by decide) h) (fun _ => ?_)
  refine z_iconst (v := 0) B dX9_check_20 (by decide) ?_
  exact z_iret B hr (by decide) (by decide) dX9_check_21 ⟨rfl, rfl⟩
set_option maxRecDepth 100000 in
set_option maxHeartbeats 4000000 in
theorem ci_X8_check_523 (l : Launch) (hlt : l.stackTraces = false) {g : gx_T} {σ : sx_T} {b : Nat} (hK : lay b σ) (w1 : Int32) (w2 : Int32) (w3 : Int32) (w4 : Int32) (q1_w1 : (0 : Int) ≤ w1.toInt) (q2_w1 : w1.toInt ≤ (19 : Int)) (q1_w2 : (-2147483648 : Int) ≤ w2.toInt) (q2_w2 : w2.toInt ≤ (-1 : Int)) (hR_0_0 : sx_R σ (b + 0) 0 = (some (b + 1))) (hR_1_3 : sx_R σ (b + 1) 3 = (some (b + 21))) : vx_Met l yX8_check (.code yX8_check cX8_check 13 (some .int) :: lw_g) { frames := 7, cells := 1, slots := 6, locals := 136 } (va_Pc [.ref (b + 0), .int 3, .int w1, .int w2, .int w3, .int w4] (zx_w g σ)) (va_Qi (S := sx_T) (fun _ _ => False) (zx_w g) (gx_Q g)) (vx_X (fun u : sx_T => ∃ z, u = wx_Z σ z) (fun E u t => E = "java/lang/IllegalArgumentException" ∧ zx_h g u t.heap) (gx_Q g)) 1 6 (gx_Q g) := by
  refine z_metX (by decide) (Nat.le_of_ble_eq_true rfl) (fun p e s m below meth c B hr hin hout => ?_)
  refine z_eqs (σ' := (ap b σ [] [] [])) rfl ?_
  show zx p l e _ s m _ below meth c g 13 0 0 _ _ 0 [(0, .ref (b + 0)), (1, .int 3), (2, .int w1), (3, .int w2), (4, .int w3), (5, .int w4)] []
  refine z_aload_n B dX8_check_0 rfl 0 rfl ?_
  refine z_iload_n B dX8_check_1 rfl 1 rfl ?_
  refine z_cVq (As := [.int 3]) (rest := []) B cw_X8_64 cx_9 dX8_check_2 (ci_X8_programAt_220 l (σ := (ap b σ [] [] [])) (b := b) (lyA hK) (rR_at 0 0 hR_0_0) (rR_at 1 3 hR_1_3)) (lKA (hk_K hK 0 rfl rfl)) rfl (by decide) rfl (Nat.le_of_ble_eq_true rfl) (by decide) (fun r u hu => ?_)
  refine z_eqs (σ' := (ap b σ [] [] [])) hu.2 ?_
  show zx p l e _ s m _ below meth c g 13 0 0 _ _ 5 [(0, .ref (b + 0)), (1, .int 3), (2, .int w1), (3, .int w2), (4, .int w3), (5, .int w4)] _
  refine z_setr (y := (some (b + 21))) hu.1 ?_
  refine z_astore (lv' := [(6, .ref (b + 21)), (0, .ref (b + 0)), (1, .int 3), (2, .int w1), (3, .int w2), (4, .int w3), (5, .int w4)]) B dX8_check_5 (by decide) rfl ?_
  refine z_aload B dX8_check_7 0 rfl ?_
  refine z_ifnull (r := (some (b + 21))) (tgt := 21) B dX8_check_9 (by decide) (fun h => nomatch h) (fun _ _ => ?_)
  refine z_iload_n B dX8_check_12 rfl 3 rfl ?_
  refine z_bipush (v := 20) B dX8_check_13 (by decide) ?_
  refine z_cSi (As := [.int w1, .int 20]) (rest := []) B cw_X8_68 dX8_check_15 (ci_X8_isBelow_64 l (σ := (ap b σ [] [] [])) (b := b) (lyA hK) w1 q1_w1 q2_w1) rfl (by decide) rfl (Nat.le_of_ble_eq_true rfl) (by decide) (fun r u hu => ?_)
  refine z_eqs (σ' := (ap b σ [] [] [])) hu.2 ?_
  show zx p l e _ s m _ below meth c g 13 0 0 _ _ 18 [(6, .ref (b + 21)), (0, .ref (b + 0)), (1, .int 3), (2, .int w1), (3, .int w2), (4, .int w3), (5, .int w4)] _
  refine z_seti (y := 1) hu.1 ?_
  refine z_if_ne (tgt := 31) B dX8_check_18 (by decide) (fun _ => ?_) (fun h => absurd h (by decide))
  refine z_iload_n B dX8_check_31 rfl 4 rfl ?_
  refine z_iload B dX8_check_32 5 rfl ?_
  refine z_iload B dX8_check_34 6 rfl ?_
  refine z_cSi (As := [.int w2, .int w3, .int w4]) (rest := []) B cw_X8_79 dX8_check_36 (ci_X8_isStep_66 l (σ := (ap b σ [] [] [])) (b := b) (lyA hK) w2 w3 w4 q1_w2 q2_w2) rfl (by decide) rfl (Nat.le_of_ble_eq_true rfl) (by decide) (fun r u hu => ?_)
  refine z_eqs (σ' := (ap b σ [] [] [])) hu.2 ?_
  show zx p l e _ s m _ below meth c g 13 0 0 _ _ 39 [(6, .ref (b + 21)), (0, .ref (b + 0)), (1, .int 3), (2, .int w1), (3, .int w2), (4, .int w3), (5, .int w4)] _
  refine z_seti (y := 0) hu.1 ?_
  refine z_if_ne (tgt := 52) B dX8_check_39 (by decide) (fun h => absurd (by decide) h) (fun _ => ?_)
  exact z_throw B hlt hout (cls := "java/lang/IllegalArgumentException") (text := "no such operation") tw_X8_83_85_87 dX8_check_42 dX8_check_45 dX8_check_46 dX8_check_48 dX8_check_51 (by decide) (by decide) (by decide) (by decide) (by decide) (by decide) (fun z => ⟨z, rfl⟩)
set_option maxRecDepth 100000 in
set_option maxHeartbeats 4000000 in
theorem ci_L_check_524 (l : Launch) (hlt : l.stackTraces = false) {g : gx_T} {σ : sx_T} {b : Nat} (hK : lay b σ) (w1 : Int32) (w2 : Int32) (w3 : Int32) (w4 : Int32) (q1_w1 : (0 : Int) ≤ w1.toInt) (q2_w1 : w1.toInt ≤ (19 : Int)) (q1_w2 : (-2147483648 : Int) ≤ w2.toInt) (q2_w2 : w2.toInt ≤ (-1 : Int)) (hR_0_0 : sx_R σ (b + 0) 0 = (some (b + 1))) (hR_1_3 : sx_R σ (b + 1) 3 = (some (b + 21))) : Met l yL_check (.codeWith yL_check cL_check 8 (some .int) [(0, 16, 19, 13), (0, 16, 23, 15)] :: lw_g) { frames := 8, cells := 1, slots := 6, locals := 168 } (va_Pc [.ref (b + 0), .int 3, .int w1, .int w2, .int w3, .int w4, .ref (b + 431)] (zx_w g σ)) (va_Qi (fun r u => r = 2 ∧ ∃ z, u = (ap b (wx_Z σ z) [] [] [])) (zx_w g) (gx_Q g)) 1 6 (gx_Q g) := by
  refine z_metW (by decide) (Nat.le_of_ble_eq_true rfl) (fun p e s m below meth c B hr htab => ?_)
  refine z_eqs (σ' := (ap b σ [] [] [])) rfl ?_
  show zx p l e _ s m _ below meth c g 8 0 0 _ _ 0 [(0, .ref (b + 0)), (1, .int 3), (2, .int w1), (3, .int w2), (4, .int w3), (5, .int w4), (6, .ref (b + 431))] []
  refine z_aload B dL_check_0 6 rfl ?_
  refine z_iconst (v := 0) B dL_check_2 (by decide) ?_
  refine z_aload_n B dL_check_3 rfl 0 rfl ?_
  refine z_iload_n B dL_check_4 rfl 1 rfl ?_
  refine z_iload_n B dL_check_5 rfl 2 rfl ?_
  refine z_iload_n B dL_check_6 rfl 3 rfl ?_
  refine z_iload B dL_check_7 4 rfl ?_
  refine z_iload B dL_check_9 5 rfl ?_
  refine z_cXi (As := [.int 3, .int w1, .int w2, .int w3, .int w4]) (rest := [.int 0, .ref (b + 431)]) B htab tc_check_11_IllegalArgumentException cw_L_17 cx_9 dL_check_11 (ci_X8_check_523 l hlt (σ := (ap b σ [] [] [])) (b := b) (lyA hK) w1 w2 w3 w4 q1_w1 q2_w1 q1_w2 q2_w2 (rR_at 0 0 hR_0_0) (rR_at 1 3 hR_1_3)) (lKA (hk_K hK 0 rfl rfl)) rfl (by decide) rfl (Nat.le_of_ble_eq_true rfl) (by decide) (fun z q => ?_)
  refine z_eqs (σ' := (ap b (wx_Z σ z) [] [] [])) rfl ?_
  show zx p l e _ s m _ below meth c g 8 _ _ _ _ 23 [(0, .ref (b + 0)), (1, .int 3), (2, .int w1), (3, .int w2), (4, .int w3), (5, .int w4), (6, .ref (b + 431))] _
  refine z_astore (lv' := [(7, .ref q), (0, .ref (b + 0)), (1, .int 3), (2, .int w1), (3, .int w2), (4, .int w3), (5, .int w4), (6, .ref (b + 431))]) B dL_check_23 (by decide) rfl ?_
  refine z_iconst (v := 2) B dL_check_25 (by decide) ?_
  exact z_iret B hr (by decide) (by decide) dL_check_26 ⟨rfl, _, rfl⟩
set_option maxRecDepth 100000 in
set_option maxHeartbeats 4000000 in
theorem ci_X9_check_525 (l : Launch) {g : gx_T} {σ : sx_T} {b : Nat} (hK : lay b σ) (w1 : Int32) (w2 : Int32) (w3 : Int32) (w4 : Int32) (q1_w1 : (0 : Int) ≤ w1.toInt) (q2_w1 : w1.toInt ≤ (19 : Int)) (q1_w2 : (-2147483648 : Int) ≤ w2.toInt) (q2_w2 : w2.toInt ≤ (-1 : Int))  : Met l yX9_check (.code yX9_check cX9_check 11 (some .int) :: lw_g) { frames := 2, cells := 0, slots := 0, locals := 44 } (va_Pc [.ref (b + 405), .int 3, .int w1, .int w2, .int w3, .int w4] (zx_w g σ)) (va_Qi (fun r u => r = 0 ∧ u = (ap b σ [(405, 0, 2)] [] [])) (zx_w g) (gx_Q g)) 0 0 (gx_Q g) := by
  refine z_met (by decide) (Nat.le_of_ble_eq_true rfl) (fun p e s m below meth c B hr hin => ?_)
  refine z_eqs (σ' := (ap b σ [] [] [])) rfl ?_
  show zx p l e _ s m _ below meth c g 11 0 0 _ _ 0 [(0, .ref (b + 405)), (1, .int 3), (2, .int w1), (3, .int w2), (4, .int w3), (5, .int w4)] []
  refine z_aload_n B dX9_check_0 rfl 0 rfl ?_
  refine z_iload_n B dX9_check_1 rfl 1 rfl ?_
  refine z_iload_n B dX9_check_2 rfl 2 rfl ?_
  refine z_cSi (As := [.int 3, .int w1]) (rest := [.ref (b + 405)]) B cw_X9_238 dX9_check_3 (ci_X9_isStep_234 l (σ := (ap b σ [] [] [])) (b := b) (lyA hK) w1 q1_w1 q2_w1) rfl (by decide) rfl (Nat.le_of_ble_eq_true rfl) (by decide) (fun r u hu => ?_)
  refine z_eqs (σ' := (ap b σ [] [] [])) hu.2 ?_
  show zx p l e _ s m _ below meth c g 11 0 0 _ _ 6 [(0, .ref (b + 405)), (1, .int 3), (2, .int w1), (3, .int w2), (4, .int w3), (5, .int w4)] _
  refine z_seti (y := 1) hu.1 ?_
  refine z_iload_n B dX9_check_6 rfl 3 rfl ?_
  refine z_iload B dX9_check_7 4 rfl ?_
  refine z_iload B dX9_check_9 5 rfl ?_
  refine z_cSi (As := [.int w2, .int w3, .int w4]) (rest := [.int 1, .ref (b + 405)]) B cw_X9_242 dX9_check_11 (ci_X9_isOperation_28 l (σ := (ap b σ [] [] [])) (b := b) (lyA hK) w2 w3 w4 q1_w2 q2_w2) rfl (by decide) rfl (Nat.le_of_ble_eq_true rfl) (by decide) (fun r u hu => ?_)
  refine z_eqs (σ' := (ap b σ [] [] [])) hu.2 ?_
  show zx p l e _ s m _ below meth c g 11 0 0 _ _ 14 [(0, .ref (b + 405)), (1, .int 3), (2, .int w1), (3, .int w2), (4, .int w3), (5, .int w4)] _
  refine z_seti (y := 0) hu.1 ?_
  refine z_cVi (As := [.int 1, .int 0]) (rest := []) B cw_X9_245 cx_10 dX9_check_14 (ci_X9_needs__71 l (σ := (ap b σ [] [] [])) (b := b) (lyA hK) ) (lKA (hk_K hK 405 rfl rfl)) rfl (by decide) rfl (Nat.le_of_ble_eq_true rfl) (by decide) (fun r u hu => ?_)
  refine z_eqs (σ' := (ap b σ [(405, 0, 2)] [] [])) (hu.2.trans ap_ap) ?_
  show zx p l e _ s m _ below meth c g 11 0 0 _ _ 17 [(0, .ref (b + 405)), (1, .int 3), (2, .int w1), (3, .int w2), (4, .int w3), (5, .int w4)] _
  refine z_seti (y := 0) hu.1 ?_
  refine z_if_ne (tgt := 22) B dX9_check_17 (by decide) (fun h => absurd (by decide) h) (fun _ => ?_)
  refine z_iconst (v := 0) B dX9_check_20 (by decide) ?_
  exact z_iret B hr (by decide) (by decide) dX9_check_21 ⟨rfl, rfl⟩
set_option maxRecDepth 100000 in
set_option maxHeartbeats 4000000 in
theorem ci_X8_check_526 (l : Launch) (hlt : l.stackTraces = false) {g : gx_T} {σ : sx_T} {b : Nat} (hK : lay b σ) (w1 : Int32) (w2 : Int32) (w3 : Int32) (w4 : Int32) (q1_w1 : (0 : Int) ≤ w1.toInt) (q2_w1 : w1.toInt ≤ (19 : Int)) (q1_w2 : (0 : Int) ≤ w2.toInt) (q2_w2 : w2.toInt ≤ (17 : Int)) (q1_w3 : (-2147483648 : Int) ≤ w3.toInt) (q2_w3 : w3.toInt ≤ (-1 : Int)) (hR_0_0 : sx_R σ (b + 0) 0 = (some (b + 1))) (hR_1_3 : sx_R σ (b + 1) 3 = (some (b + 21))) : vx_Met l yX8_check (.code yX8_check cX8_check 13 (some .int) :: lw_g) { frames := 7, cells := 1, slots := 6, locals := 136 } (va_Pc [.ref (b + 0), .int 3, .int w1, .int w2, .int w3, .int w4] (zx_w g σ)) (va_Qi (S := sx_T) (fun _ _ => False) (zx_w g) (gx_Q g)) (vx_X (fun u : sx_T => ∃ z, u = wx_Z σ z) (fun E u t => E = "java/lang/IllegalArgumentException" ∧ zx_h g u t.heap) (gx_Q g)) 1 6 (gx_Q g) := by
  refine z_metX (by decide) (Nat.le_of_ble_eq_true rfl) (fun p e s m below meth c B hr hin hout => ?_)
  refine z_eqs (σ' := (ap b σ [] [] [])) rfl ?_
  show zx p l e _ s m _ below meth c g 13 0 0 _ _ 0 [(0, .ref (b + 0)), (1, .int 3), (2, .int w1), (3, .int w2), (4, .int w3), (5, .int w4)] []
  refine z_aload_n B dX8_check_0 rfl 0 rfl ?_
  refine z_iload_n B dX8_check_1 rfl 1 rfl ?_
  refine z_cVq (As := [.int 3]) (rest := []) B cw_X8_64 cx_9 dX8_check_2 (ci_X8_programAt_220 l (σ := (ap b σ [] [] [])) (b := b) (lyA hK) (rR_at 0 0 hR_0_0) (rR_at 1 3 hR_1_3)) (lKA (hk_K hK 0 rfl rfl)) rfl (by decide) rfl (Nat.le_of_ble_eq_true rfl) (by decide) (fun r u hu => ?_)
  refine z_eqs (σ' := (ap b σ [] [] [])) hu.2 ?_
  show zx p l e _ s m _ below meth c g 13 0 0 _ _ 5 [(0, .ref (b + 0)), (1, .int 3), (2, .int w1), (3, .int w2), (4, .int w3), (5, .int w4)] _
  refine z_setr (y := (some (b + 21))) hu.1 ?_
  refine z_astore (lv' := [(6, .ref (b + 21)), (0, .ref (b + 0)), (1, .int 3), (2, .int w1), (3, .int w2), (4, .int w3), (5, .int w4)]) B dX8_check_5 (by decide) rfl ?_
  refine z_aload B dX8_check_7 0 rfl ?_
  refine z_ifnull (r := (some (b + 21))) (tgt := 21) B dX8_check_9 (by decide) (fun h => nomatch h) (fun _ _ => ?_)
  refine z_iload_n B dX8_check_12 rfl 3 rfl ?_
  refine z_bipush (v := 20) B dX8_check_13 (by decide) ?_
  refine z_cSi (As := [.int w1, .int 20]) (rest := []) B cw_X8_68 dX8_check_15 (ci_X8_isBelow_64 l (σ := (ap b σ [] [] [])) (b := b) (lyA hK) w1 q1_w1 q2_w1) rfl (by decide) rfl (Nat.le_of_ble_eq_true rfl) (by decide) (fun r u hu => ?_)
  refine z_eqs (σ' := (ap b σ [] [] [])) hu.2 ?_
  show zx p l e _ s m _ below meth c g 13 0 0 _ _ 18 [(6, .ref (b + 21)), (0, .ref (b + 0)), (1, .int 3), (2, .int w1), (3, .int w2), (4, .int w3), (5, .int w4)] _
  refine z_seti (y := 1) hu.1 ?_
  refine z_if_ne (tgt := 31) B dX8_check_18 (by decide) (fun _ => ?_) (fun h => absurd h (by decide))
  refine z_iload_n B dX8_check_31 rfl 4 rfl ?_
  refine z_iload B dX8_check_32 5 rfl ?_
  refine z_iload B dX8_check_34 6 rfl ?_
  refine z_cSi (As := [.int w2, .int w3, .int w4]) (rest := []) B cw_X8_79 dX8_check_36 (ci_X8_isStep_76 l (σ := (ap b σ [] [] [])) (b := b) (lyA hK) w2 w3 w4 q1_w2 q2_w2 q1_w3 q2_w3) rfl (by decide) rfl (Nat.le_of_ble_eq_true rfl) (by decide) (fun r u hu => ?_)
  refine z_eqs (σ' := (ap b σ [] [] [])) hu.2 ?_
  show zx p l e _ s m _ below meth c g 13 0 0 _ _ 39 [(6, .ref (b + 21)), (0, .ref (b + 0)), (1, .int 3), (2, .int w1), (3, .int w2), (4, .int w3), (5, .int w4)] _
  refine z_seti (y := 0) hu.1 ?_
  refine z_if_ne (tgt := 52) B dX8_check_39 (by decide) (fun h => absurd (by decide) h) (fun _ => ?_)
  exact z_throw B hlt hout (cls := "java/lang/IllegalArgumentException") (text := "no such operation") tw_X8_83_85_87 dX8_check_42 dX8_check_45 dX8_check_46 dX8_check_48 dX8_check_51 (by decide) (by decide) (by decide) (by decide) (by decide) (by decide) (fun z => ⟨z, rfl⟩)
set_option maxRecDepth 100000 in
set_option maxHeartbeats 4000000 in
theorem ci_L_check_527 (l : Launch) (hlt : l.stackTraces = false) {g : gx_T} {σ : sx_T} {b : Nat} (hK : lay b σ) (w1 : Int32) (w2 : Int32) (w3 : Int32) (w4 : Int32) (q1_w1 : (0 : Int) ≤ w1.toInt) (q2_w1 : w1.toInt ≤ (19 : Int)) (q1_w2 : (0 : Int) ≤ w2.toInt) (q2_w2 : w2.toInt ≤ (17 : Int)) (q1_w3 : (-2147483648 : Int) ≤ w3.toInt) (q2_w3 : w3.toInt ≤ (-1 : Int)) (hR_0_0 : sx_R σ (b + 0) 0 = (some (b + 1))) (hR_1_3 : sx_R σ (b + 1) 3 = (some (b + 21))) : Met l yL_check (.codeWith yL_check cL_check 8 (some .int) [(0, 16, 19, 13), (0, 16, 23, 15)] :: lw_g) { frames := 8, cells := 1, slots := 6, locals := 168 } (va_Pc [.ref (b + 0), .int 3, .int w1, .int w2, .int w3, .int w4, .ref (b + 431)] (zx_w g σ)) (va_Qi (fun r u => r = 2 ∧ ∃ z, u = (ap b (wx_Z σ z) [] [] [])) (zx_w g) (gx_Q g)) 1 6 (gx_Q g) := by
  refine z_metW (by decide) (Nat.le_of_ble_eq_true rfl) (fun p e s m below meth c B hr htab => ?_)
  refine z_eqs (σ' := (ap b σ [] [] [])) rfl ?_
  show zx p l e _ s m _ below meth c g 8 0 0 _ _ 0 [(0, .ref (b + 0)), (1, .int 3), (2, .int w1), (3, .int w2), (4, .int w3), (5, .int w4), (6, .ref (b + 431))] []
  refine z_aload B dL_check_0 6 rfl ?_
  refine z_iconst (v := 0) B dL_check_2 (by decide) ?_
  refine z_aload_n B dL_check_3 rfl 0 rfl ?_
  refine z_iload_n B dL_check_4 rfl 1 rfl ?_
  refine z_iload_n B dL_check_5 rfl 2 rfl ?_
  refine z_iload_n B dL_check_6 rfl 3 rfl ?_
  refine z_iload B dL_check_7 4 rfl ?_
  refine z_iload B dL_check_9 5 rfl ?_
  refine z_cXi (As := [.int 3, .int w1, .int w2, .int w3, .int w4]) (rest := [.int 0, .ref (b + 431)]) B htab tc_check_11_IllegalArgumentException cw_L_17 cx_9 dL_check_11 (ci_X8_check_526 l hlt (σ := (ap b σ [] [] [])) (b := b) (lyA hK) w1 w2 w3 w4 q1_w1 q2_w1 q1_w2 q2_w2 q1_w3 q2_w3 (rR_at 0 0 hR_0_0) (rR_at 1 3 hR_1_3)) (lKA (hk_K hK 0 rfl rfl)) rfl (by decide) rfl (Nat.le_of_ble_eq_true rfl) (by decide) (fun z q => ?_)
  refine z_eqs (σ' := (ap b (wx_Z σ z) [] [] [])) rfl ?_
  show zx p l e _ s m _ below meth c g 8 _ _ _ _ 23 [(0, .ref (b + 0)), (1, .int 3), (2, .int w1), (3, .int w2), (4, .int w3), (5, .int w4), (6, .ref (b + 431))] _
  refine z_astore (lv' := [(7, .ref q), (0, .ref (b + 0)), (1, .int 3), (2, .int w1), (3, .int w2), (4, .int w3), (5, .int w4), (6, .ref (b + 431))]) B dL_check_23 (by decide) rfl ?_
  refine z_iconst (v := 2) B dL_check_25 (by decide) ?_
  exact z_iret B hr (by decide) (by decide) dL_check_26 ⟨rfl, _, rfl⟩
set_option maxRecDepth 100000 in
set_option maxHeartbeats 4000000 in
theorem ci_X9_check_528 (l : Launch) {g : gx_T} {σ : sx_T} {b : Nat} (hK : lay b σ) (w1 : Int32) (w2 : Int32) (w3 : Int32) (w4 : Int32) (q1_w1 : (0 : Int) ≤ w1.toInt) (q2_w1 : w1.toInt ≤ (19 : Int)) (q1_w2 : (0 : Int) ≤ w2.toInt) (q2_w2 : w2.toInt ≤ (17 : Int)) (q1_w3 : (-2147483648 : Int) ≤ w3.toInt) (q2_w3 : w3.toInt ≤ (-1 : Int))  : Met l yX9_check (.code yX9_check cX9_check 11 (some .int) :: lw_g) { frames := 2, cells := 0, slots := 0, locals := 44 } (va_Pc [.ref (b + 405), .int 3, .int w1, .int w2, .int w3, .int w4] (zx_w g σ)) (va_Qi (fun r u => r = 0 ∧ u = (ap b σ [(405, 0, 2)] [] [])) (zx_w g) (gx_Q g)) 0 0 (gx_Q g) := by
  refine z_met (by decide) (Nat.le_of_ble_eq_true rfl) (fun p e s m below meth c B hr hin => ?_)
  refine z_eqs (σ' := (ap b σ [] [] [])) rfl ?_
  show zx p l e _ s m _ below meth c g 11 0 0 _ _ 0 [(0, .ref (b + 405)), (1, .int 3), (2, .int w1), (3, .int w2), (4, .int w3), (5, .int w4)] []
  refine z_aload_n B dX9_check_0 rfl 0 rfl ?_
  refine z_iload_n B dX9_check_1 rfl 1 rfl ?_
  refine z_iload_n B dX9_check_2 rfl 2 rfl ?_
  refine z_cSi (As := [.int 3, .int w1]) (rest := [.ref (b + 405)]) B cw_X9_238 dX9_check_3 (ci_X9_isStep_234 l (σ := (ap b σ [] [] [])) (b := b) (lyA hK) w1 q1_w1 q2_w1) rfl (by decide) rfl (Nat.le_of_ble_eq_true rfl) (by decide) (fun r u hu => ?_)
  refine z_eqs (σ' := (ap b σ [] [] [])) hu.2 ?_
  show zx p l e _ s m _ below meth c g 11 0 0 _ _ 6 [(0, .ref (b + 405)), (1, .int 3), (2, .int w1), (3, .int w2), (4, .int w3), (5, .int w4)] _
  refine z_seti (y := 1) hu.1 ?_
  refine z_iload_n B dX9_check_6 rfl 3 rfl ?_
  refine z_iload B dX9_check_7 4 rfl ?_
  refine z_iload B dX9_check_9 5 rfl ?_
  refine z_cSi (As := [.int w2, .int w3, .int w4]) (rest := [.int 1, .ref (b + 405)]) B cw_X9_242 dX9_check_11 (ci_X9_isOperation_34 l (σ := (ap b σ [] [] [])) (b := b) (lyA hK) w2 w3 w4 q1_w2 q2_w2 q1_w3 q2_w3) rfl (by decide) rfl (Nat.le_of_ble_eq_true rfl) (by decide) (fun r u hu => ?_)
  refine z_eqs (σ' := (ap b σ [] [] [])) hu.2 ?_
  show zx p l e _ s m _ below meth c g 11 0 0 _ _ 14 [(0, .ref (b + 405)), (1, .int 3), (2, .int w1), (3, .int w2), (4, .int w3), (5, .int w4)] _
  refine z_seti (y := 0) hu.1 ?_
  refine z_cVi (As := [.int 1, .int 0]) (rest := []) B cw_X9_245 cx_10 dX9_check_14 (ci_X9_needs__71 l (σ := (ap b σ [] [] [])) (b := b) (lyA hK) ) (lKA (hk_K hK 405 rfl rfl)) rfl (by decide) rfl (Nat.le_of_ble_eq_true rfl) (by decide) (fun r u hu => ?_)
  refine z_eqs (σ' := (ap b σ [(405, 0, 2)] [] [])) (hu.2.trans ap_ap) ?_
  show zx p l e _ s m _ below meth c g 11 0 0 _ _ 17 [(0, .ref (b + 405)), (1, .int 3), (2, .int w1), (3, .int w2), (4, .int w3), (5, .int w4)] _
  refine z_seti (y := 0) hu.1 ?_
  refine z_if_ne (tgt := 22) B dX9_check_17 (by decide) (fun h => absurd (by decide) h) (fun _ => ?_)
  refine z_iconst (v := 0) B dX9_check_20 (by decide) ?_
  exact z_iret B hr (by decide) (by decide) dX9_check_21 ⟨rfl, rfl⟩
set_option maxRecDepth 100000 in
set_option maxHeartbeats 4000000 in
theorem ci_X8_check_529 (l : Launch) (hlt : l.stackTraces = false) {g : gx_T} {σ : sx_T} {b : Nat} (hK : lay b σ) (w1 : Int32) (w2 : Int32) (w3 : Int32) (w4 : Int32) (q1_w1 : (0 : Int) ≤ w1.toInt) (q2_w1 : w1.toInt ≤ (19 : Int)) (q1_w2 : (0 : Int) ≤ w2.toInt) (q2_w2 : w2.toInt ≤ (17 : Int)) (q1_w3 : (0 : Int) ≤ w3.toInt) (q2_w3 : w3.toInt ≤ (99 : Int)) (q1_w4 : (-2147483648 : Int) ≤ w4.toInt) (q2_w4 : w4.toInt ≤ (-1 : Int)) (hR_0_0 : sx_R σ (b + 0) 0 = (some (b + 1))) (hR_1_3 : sx_R σ (b + 1) 3 = (some (b + 21))) : vx_Met l yX8_check (.code yX8_check cX8_check 13 (some .int) :: lw_g) { frames := 7, cells := 1, slots := 6, locals := 136 } (va_Pc [.ref (b + 0), .int 3, .int w1, .int w2, .int w3, .int w4] (zx_w g σ)) (va_Qi (S := sx_T) (fun _ _ => False) (zx_w g) (gx_Q g)) (vx_X (fun u : sx_T => ∃ z, u = wx_Z σ z) (fun E u t => E = "java/lang/IllegalArgumentException" ∧ zx_h g u t.heap) (gx_Q g)) 1 6 (gx_Q g) := by
  refine z_metX (by decide) (Nat.le_of_ble_eq_true rfl) (fun p e s m below meth c B hr hin hout => ?_)
  refine z_eqs (σ' := (ap b σ [] [] [])) rfl ?_
  show zx p l e _ s m _ below meth c g 13 0 0 _ _ 0 [(0, .ref (b + 0)), (1, .int 3), (2, .int w1), (3, .int w2), (4, .int w3), (5, .int w4)] []
  refine z_aload_n B dX8_check_0 rfl 0 rfl ?_
  refine z_iload_n B dX8_check_1 rfl 1 rfl ?_
  refine z_cVq (As := [.int 3]) (rest := []) B cw_X8_64 cx_9 dX8_check_2 (ci_X8_programAt_220 l (σ := (ap b σ [] [] [])) (b := b) (lyA hK) (rR_at 0 0 hR_0_0) (rR_at 1 3 hR_1_3)) (lKA (hk_K hK 0 rfl rfl)) rfl (by decide) rfl (Nat.le_of_ble_eq_true rfl) (by decide) (fun r u hu => ?_)
  refine z_eqs (σ' := (ap b σ [] [] [])) hu.2 ?_
  show zx p l e _ s m _ below meth c g 13 0 0 _ _ 5 [(0, .ref (b + 0)), (1, .int 3), (2, .int w1), (3, .int w2), (4, .int w3), (5, .int w4)] _
  refine z_setr (y := (some (b + 21))) hu.1 ?_
  refine z_astore (lv' := [(6, .ref (b + 21)), (0, .ref (b + 0)), (1, .int 3), (2, .int w1), (3, .int w2), (4, .int w3), (5, .int w4)]) B dX8_check_5 (by decide) rfl ?_
  refine z_aload B dX8_check_7 0 rfl ?_
  refine z_ifnull (r := (some (b + 21))) (tgt := 21) B dX8_check_9 (by decide) (fun h => nomatch h) (fun _ _ => ?_)
  refine z_iload_n B dX8_check_12 rfl 3 rfl ?_
  refine z_bipush (v := 20) B dX8_check_13 (by decide) ?_
  refine z_cSi (As := [.int w1, .int 20]) (rest := []) B cw_X8_68 dX8_check_15 (ci_X8_isBelow_64 l (σ := (ap b σ [] [] [])) (b := b) (lyA hK) w1 q1_w1 q2_w1) rfl (by decide) rfl (Nat.le_of_ble_eq_true rfl) (by decide) (fun r u hu => ?_)
  refine z_eqs (σ' := (ap b σ [] [] [])) hu.2 ?_
  show zx p l e _ s m _ below meth c g 13 0 0 _ _ 18 [(6, .ref (b + 21)), (0, .ref (b + 0)), (1, .int 3), (2, .int w1), (3, .int w2), (4, .int w3), (5, .int w4)] _
  refine z_seti (y := 1) hu.1 ?_
  refine z_if_ne (tgt := 31) B dX8_check_18 (by decide) (fun _ => ?_) (fun h => absurd h (by decide))
  refine z_iload_n B dX8_check_31 rfl 4 rfl ?_
  refine z_iload B dX8_check_32 5 rfl ?_
  refine z_iload B dX8_check_34 6 rfl ?_
  refine z_cSi (As := [.int w2, .int w3, .int w4]) (rest := []) B cw_X8_79 dX8_check_36 (ci_X8_isStep_81 l (σ := (ap b σ [] [] [])) (b := b) (lyA hK) w2 w3 w4 q1_w2 q2_w2 q1_w3 q2_w3 q1_w4 q2_w4) rfl (by decide) rfl (Nat.le_of_ble_eq_true rfl) (by decide) (fun r u hu => ?_)
  refine z_eqs (σ' := (ap b σ [] [] [])) hu.2 ?_
  show zx p l e _ s m _ below meth c g 13 0 0 _ _ 39 [(6, .ref (b + 21)), (0, .ref (b + 0)), (1, .int 3), (2, .int w1), (3, .int w2), (4, .int w3), (5, .int w4)] _
  refine z_seti (y := 0) hu.1 ?_
  refine z_if_ne (tgt := 52) B dX8_check_39 (by decide) (fun h => absurd (by decide) h) (fun _ => ?_)
  exact z_throw B hlt hout (cls := "java/lang/IllegalArgumentException") (text := "no such operation") tw_X8_83_85_87 dX8_check_42 dX8_check_45 dX8_check_46 dX8_check_48 dX8_check_51 (by decide) (by decide) (by decide) (by decide) (by decide) (by decide) (fun z => ⟨z, rfl⟩)
set_option maxRecDepth 100000 in
set_option maxHeartbeats 4000000 in
theorem ci_L_check_530 (l : Launch) (hlt : l.stackTraces = false) {g : gx_T} {σ : sx_T} {b : Nat} (hK : lay b σ) (w1 : Int32) (w2 : Int32) (w3 : Int32) (w4 : Int32) (q1_w1 : (0 : Int) ≤ w1.toInt) (q2_w1 : w1.toInt ≤ (19 : Int)) (q1_w2 : (0 : Int) ≤ w2.toInt) (q2_w2 : w2.toInt ≤ (17 : Int)) (q1_w3 : (0 : Int) ≤ w3.toInt) (q2_w3 : w3.toInt ≤ (99 : Int)) (q1_w4 : (-2147483648 : Int) ≤ w4.toInt) (q2_w4 : w4.toInt ≤ (-1 : Int)) (hR_0_0 : sx_R σ (b + 0) 0 = (some (b + 1))) (hR_1_3 : sx_R σ (b + 1) 3 = (some (b + 21))) : Met l yL_check (.codeWith yL_check cL_check 8 (some .int) [(0, 16, 19, 13), (0, 16, 23, 15)] :: lw_g) { frames := 8, cells := 1, slots := 6, locals := 168 } (va_Pc [.ref (b + 0), .int 3, .int w1, .int w2, .int w3, .int w4, .ref (b + 431)] (zx_w g σ)) (va_Qi (fun r u => r = 2 ∧ ∃ z, u = (ap b (wx_Z σ z) [] [] [])) (zx_w g) (gx_Q g)) 1 6 (gx_Q g) := by
  refine z_metW (by decide) (Nat.le_of_ble_eq_true rfl) (fun p e s m below meth c B hr htab => ?_)
  refine z_eqs (σ' := (ap b σ [] [] [])) rfl ?_
  show zx p l e _ s m _ below meth c g 8 0 0 _ _ 0 [(0, .ref (b + 0)), (1, .int 3), (2, .int w1), (3, .int w2), (4, .int w3), (5, .int w4), (6, .ref (b + 431))] []
  refine z_aload B dL_check_0 6 rfl ?_
  refine z_iconst (v := 0) B dL_check_2 (by decide) ?_
  refine z_aload_n B dL_check_3 rfl 0 rfl ?_
  refine z_iload_n B dL_check_4 rfl 1 rfl ?_
  refine z_iload_n B dL_check_5 rfl 2 rfl ?_
  refine z_iload_n B dL_check_6 rfl 3 rfl ?_
  refine z_iload B dL_check_7 4 rfl ?_
  refine z_iload B dL_check_9 5 rfl ?_
  refine z_cXi (As := [.int 3, .int w1, .int w2, .int w3, .int w4]) (rest := [.int 0, .ref (b + 431)]) B htab tc_check_11_IllegalArgumentException cw_L_17 cx_9 dL_check_11 (ci_X8_check_529 l hlt (σ := (ap b σ [] [] [])) (b := b) (lyA hK) w1 w2 w3 w4 q1_w1 q2_w1 q1_w2 q2_w2 q1_w3 q2_w3 q1_w4 q2_w4 (rR_at 0 0 hR_0_0) (rR_at 1 3 hR_1_3)) (lKA (hk_K hK 0 rfl rfl)) rfl (by decide) rfl (Nat.le_of_ble_eq_true rfl) (by decide) (fun z q => ?_)
  refine z_eqs (σ' := (ap b (wx_Z σ z) [] [] [])) rfl ?_
  show zx p l e _ s m _ below meth c g 8 _ _ _ _ 23 [(0, .ref (b + 0)), (1, .int 3), (2, .int w1), (3, .int w2), (4, .int w3), (5, .int w4), (6, .ref (b + 431))] _
  refine z_astore (lv' := [(7, .ref q), (0, .ref (b + 0)), (1, .int 3), (2, .int w1), (3, .int w2), (4, .int w3), (5, .int w4), (6, .ref (b + 431))]) B dL_check_23 (by decide) rfl ?_
  refine z_iconst (v := 2) B dL_check_25 (by decide) ?_
  exact z_iret B hr (by decide) (by decide) dL_check_26 ⟨rfl, _, rfl⟩
set_option maxRecDepth 100000 in
set_option maxHeartbeats 4000000 in
theorem ci_X9_check_531 (l : Launch) {g : gx_T} {σ : sx_T} {b : Nat} (hK : lay b σ) (w1 : Int32) (w2 : Int32) (w3 : Int32) (w4 : Int32) (q1_w1 : (0 : Int) ≤ w1.toInt) (q2_w1 : w1.toInt ≤ (19 : Int)) (q1_w2 : (0 : Int) ≤ w2.toInt) (q2_w2 : w2.toInt ≤ (17 : Int)) (q1_w3 : (0 : Int) ≤ w3.toInt) (q2_w3 : w3.toInt ≤ (99 : Int)) (q1_w4 : (-2147483648 : Int) ≤ w4.toInt) (q2_w4 : w4.toInt ≤ (-1 : Int))  : Met l yX9_check (.code yX9_check cX9_check 11 (some .int) :: lw_g) { frames := 2, cells := 0, slots := 0, locals := 44 } (va_Pc [.ref (b + 405), .int 3, .int w1, .int w2, .int w3, .int w4] (zx_w g σ)) (va_Qi (fun r u => r = 0 ∧ u = (ap b σ [(405, 0, 2)] [] [])) (zx_w g) (gx_Q g)) 0 0 (gx_Q g) := by
  refine z_met (by decide) (Nat.le_of_ble_eq_true rfl) (fun p e s m below meth c B hr hin => ?_)
  refine z_eqs (σ' := (ap b σ [] [] [])) rfl ?_
  show zx p l e _ s m _ below meth c g 11 0 0 _ _ 0 [(0, .ref (b + 405)), (1, .int 3), (2, .int w1), (3, .int w2), (4, .int w3), (5, .int w4)] []
  refine z_aload_n B dX9_check_0 rfl 0 rfl ?_
  refine z_iload_n B dX9_check_1 rfl 1 rfl ?_
  refine z_iload_n B dX9_check_2 rfl 2 rfl ?_
  refine z_cSi (As := [.int 3, .int w1]) (rest := [.ref (b + 405)]) B cw_X9_238 dX9_check_3 (ci_X9_isStep_234 l (σ := (ap b σ [] [] [])) (b := b) (lyA hK) w1 q1_w1 q2_w1) rfl (by decide) rfl (Nat.le_of_ble_eq_true rfl) (by decide) (fun r u hu => ?_)
  refine z_eqs (σ' := (ap b σ [] [] [])) hu.2 ?_
  show zx p l e _ s m _ below meth c g 11 0 0 _ _ 6 [(0, .ref (b + 405)), (1, .int 3), (2, .int w1), (3, .int w2), (4, .int w3), (5, .int w4)] _
  refine z_seti (y := 1) hu.1 ?_
  refine z_iload_n B dX9_check_6 rfl 3 rfl ?_
  refine z_iload B dX9_check_7 4 rfl ?_
  refine z_iload B dX9_check_9 5 rfl ?_
  refine z_cSi (As := [.int w2, .int w3, .int w4]) (rest := [.int 1, .ref (b + 405)]) B cw_X9_242 dX9_check_11 (ci_X9_isOperation_37 l (σ := (ap b σ [] [] [])) (b := b) (lyA hK) w2 w3 w4 q1_w2 q2_w2 q1_w3 q2_w3 q1_w4 q2_w4) rfl (by decide) rfl (Nat.le_of_ble_eq_true rfl) (by decide) (fun r u hu => ?_)
  refine z_eqs (σ' := (ap b σ [] [] [])) hu.2 ?_
  show zx p l e _ s m _ below meth c g 11 0 0 _ _ 14 [(0, .ref (b + 405)), (1, .int 3), (2, .int w1), (3, .int w2), (4, .int w3), (5, .int w4)] _
  refine z_seti (y := 0) hu.1 ?_
  refine z_cVi (As := [.int 1, .int 0]) (rest := []) B cw_X9_245 cx_10 dX9_check_14 (ci_X9_needs__71 l (σ := (ap b σ [] [] [])) (b := b) (lyA hK) ) (lKA (hk_K hK 405 rfl rfl)) rfl (by decide) rfl (Nat.le_of_ble_eq_true rfl) (by decide) (fun r u hu => ?_)
  refine z_eqs (σ' := (ap b σ [(405, 0, 2)] [] [])) (hu.2.trans ap_ap) ?_
  show zx p l e _ s m _ below meth c g 11 0 0 _ _ 17 [(0, .ref (b + 405)), (1, .int 3), (2, .int w1), (3, .int w2), (4, .int w3), (5, .int w4)] _
  refine z_seti (y := 0) hu.1 ?_
  refine z_if_ne (tgt := 22) B dX9_check_17 (by decide) (fun h => absurd (by decide) h) (fun _ => ?_)
  refine z_iconst (v := 0) B dX9_check_20 (by decide) ?_
  exact z_iret B hr (by decide) (by decide) dX9_check_21 ⟨rfl, rfl⟩
set_option maxRecDepth 100000 in
set_option maxHeartbeats 4000000 in
theorem ci_X4_operation_532 (l : Launch) {g : gx_T} {σ : sx_T} {b : Nat} (hK : lay b σ) (w1 : Int32) (q1_w1 : (0 : Int) ≤ w1.toInt) (q2_w1 : w1.toInt ≤ (19 : Int)) (hR_21_1 : sx_R σ (b + 21) 1 = (some (b + 22))) : Met l yX4_operation (.code yX4_operation cX4_operation 2 (some .int) :: lw_g) { frames := 0, cells := 0, slots := 0, locals := 0 } (va_Pc [.ref (b + 21), .int w1] (zx_w g σ)) (va_Qi (fun r u => ∃ y1 : Int32, r = y1 ∧ u = σ) (zx_w g) (gx_Q g)) 0 0 (gx_Q g) := by
  refine z_met (by decide) (Nat.le_of_ble_eq_true rfl) (fun p e s m below meth c B hr hin => ?_)
  refine z_eqs (σ' := (ap b σ [] [] [])) rfl ?_
  show zx p l e _ s m _ below meth c g 2 0 0 _ _ 0 [(0, .ref (b + 21)), (1, .int w1)] []
  refine z_iload_n B dX4_operation_0 rfl 1 rfl ?_
  refine z_if_lt (tgt := 22) B dX4_operation_1 (by decide) (fun h => absurd h (iv_nlt q1_w1 (by decide))) (fun _ => ?_)
  refine z_iload_n B dX4_operation_4 rfl 1 rfl ?_
  refine z_aload_n B dX4_operation_5 rfl 0 rfl ?_
  refine gf_X4_9 (x := (some (b + 22))) B (lKA (hk_K hK 21 rfl rfl)) (rR_at 21 1 hR_21_1) dX4_operation_6 ?_
  refine z_alen (kd := 13) (ti := 1) (v := 20) B (lKA (hk_K hK 22 rfl rfl)) (by decide) rfl (congrArg Int32.ofNat (lNA (hk_N hK 22 rfl rfl))) dX4_operation_9 ?_
  refine z_icmp_ge (tgt := 22) B dX4_operation_10 (by decide) (fun h => absurd h (iv_nge q2_w1 (by decide))) (fun _ => ?_)
  refine z_aload_n B dX4_operation_13 rfl 0 rfl ?_
  refine gf_X4_9 (x := (some (b + 22))) B (lKA (hk_K hK 21 rfl rfl)) (rR_at 21 1 hR_21_1) dX4_operation_14 ?_
  refine z_iload_n B dX4_operation_17 rfl 1 rfl ?_
  refine z_iald (j := w1.toNatClampNeg) B (lKA (hk_K hK 22 rfl rfl)) rfl (in_of (lNA (hk_N hK 22 rfl rfl)) (iv_in q1_w1 q2_w1 (by decide) (by decide))) rfl dX4_operation_18 ?_
  refine z_topi (fun y1 e_y1 => ?_)
  refine z_goto (tgt := 23) B dX4_operation_19 (by decide) ?_
  exact z_iret B hr (by decide) (by decide) dX4_operation_23 ⟨y1, rfl, rfl⟩
set_option maxRecDepth 100000 in
set_option maxHeartbeats 4000000 in
theorem ci_X4_first_533 (l : Launch) {g : gx_T} {σ : sx_T} {b : Nat} (hK : lay b σ) (w1 : Int32) (q1_w1 : (0 : Int) ≤ w1.toInt) (q2_w1 : w1.toInt ≤ (19 : Int)) (hR_21_2 : sx_R σ (b + 21) 2 = (some (b + 23))) : Met l yX4_first (.code yX4_first cX4_first 2 (some .int) :: lw_g) { frames := 0, cells := 0, slots := 0, locals := 0 } (va_Pc [.ref (b + 21), .int w1] (zx_w g σ)) (va_Qi (fun r u => ∃ y2 : Int32, r = y2 ∧ u = σ) (zx_w g) (gx_Q g)) 0 0 (gx_Q g) := by
  refine z_met (by decide) (Nat.le_of_ble_eq_true rfl) (fun p e s m below meth c B hr hin => ?_)
  refine z_eqs (σ' := (ap b σ [] [] [])) rfl ?_
  show zx p l e _ s m _ below meth c g 2 0 0 _ _ 0 [(0, .ref (b + 21)), (1, .int w1)] []
  refine z_iload_n B dX4_first_0 rfl 1 rfl ?_
  refine z_if_lt (tgt := 22) B dX4_first_1 (by decide) (fun h => absurd h (iv_nlt q1_w1 (by decide))) (fun _ => ?_)
  refine z_iload_n B dX4_first_4 rfl 1 rfl ?_
  refine z_aload_n B dX4_first_5 rfl 0 rfl ?_
  refine gf_X4_15 (x := (some (b + 23))) B (lKA (hk_K hK 21 rfl rfl)) (rR_at 21 2 hR_21_2) dX4_first_6 ?_
  refine z_alen (kd := 13) (ti := 1) (v := 20) B (lKA (hk_K hK 23 rfl rfl)) (by decide) rfl (congrArg Int32.ofNat (lNA (hk_N hK 23 rfl rfl))) dX4_first_9 ?_
  refine z_icmp_ge (tgt := 22) B dX4_first_10 (by decide) (fun h => absurd h (iv_nge q2_w1 (by decide))) (fun _ => ?_)
  refine z_aload_n B dX4_first_13 rfl 0 rfl ?_
  refine gf_X4_15 (x := (some (b + 23))) B (lKA (hk_K hK 21 rfl rfl)) (rR_at 21 2 hR_21_2) dX4_first_14 ?_
  refine z_iload_n B dX4_first_17 rfl 1 rfl ?_
  refine z_iald (j := w1.toNatClampNeg) B (lKA (hk_K hK 23 rfl rfl)) rfl (in_of (lNA (hk_N hK 23 rfl rfl)) (iv_in q1_w1 q2_w1 (by decide) (by decide))) rfl dX4_first_18 ?_
  refine z_topi (fun y2 e_y2 => ?_)
  refine z_goto (tgt := 23) B dX4_first_19 (by decide) ?_
  exact z_iret B hr (by decide) (by decide) dX4_first_23 ⟨y2, rfl, rfl⟩
set_option maxRecDepth 100000 in
set_option maxHeartbeats 4000000 in
theorem ci_X4_second_534 (l : Launch) {g : gx_T} {σ : sx_T} {b : Nat} (hK : lay b σ) (w1 : Int32) (q1_w1 : (0 : Int) ≤ w1.toInt) (q2_w1 : w1.toInt ≤ (19 : Int)) (hR_21_3 : sx_R σ (b + 21) 3 = (some (b + 24))) : Met l yX4_second (.code yX4_second cX4_second 2 (some .int) :: lw_g) { frames := 0, cells := 0, slots := 0, locals := 0 } (va_Pc [.ref (b + 21), .int w1] (zx_w g σ)) (va_Qi (fun r u => ∃ y3 : Int32, r = y3 ∧ u = σ) (zx_w g) (gx_Q g)) 0 0 (gx_Q g) := by
  refine z_met (by decide) (Nat.le_of_ble_eq_true rfl) (fun p e s m below meth c B hr hin => ?_)
  refine z_eqs (σ' := (ap b σ [] [] [])) rfl ?_
  show zx p l e _ s m _ below meth c g 2 0 0 _ _ 0 [(0, .ref (b + 21)), (1, .int w1)] []
  refine z_iload_n B dX4_second_0 rfl 1 rfl ?_
  refine z_if_lt (tgt := 22) B dX4_second_1 (by decide) (fun h => absurd h (iv_nlt q1_w1 (by decide))) (fun _ => ?_)
  refine z_iload_n B dX4_second_4 rfl 1 rfl ?_
  refine z_aload_n B dX4_second_5 rfl 0 rfl ?_
  refine gf_X4_18 (x := (some (b + 24))) B (lKA (hk_K hK 21 rfl rfl)) (rR_at 21 3 hR_21_3) dX4_second_6 ?_
  refine z_alen (kd := 13) (ti := 1) (v := 20) B (lKA (hk_K hK 24 rfl rfl)) (by decide) rfl (congrArg Int32.ofNat (lNA (hk_N hK 24 rfl rfl))) dX4_second_9 ?_
  refine z_icmp_ge (tgt := 22) B dX4_second_10 (by decide) (fun h => absurd h (iv_nge q2_w1 (by decide))) (fun _ => ?_)
  refine z_aload_n B dX4_second_13 rfl 0 rfl ?_
  refine gf_X4_18 (x := (some (b + 24))) B (lKA (hk_K hK 21 rfl rfl)) (rR_at 21 3 hR_21_3) dX4_second_14 ?_
  refine z_iload_n B dX4_second_17 rfl 1 rfl ?_
  refine z_iald (j := w1.toNatClampNeg) B (lKA (hk_K hK 24 rfl rfl)) rfl (in_of (lNA (hk_N hK 24 rfl rfl)) (iv_in q1_w1 q2_w1 (by decide) (by decide))) rfl dX4_second_18 ?_
  refine z_topi (fun y3 e_y3 => ?_)
  refine z_goto (tgt := 23) B dX4_second_19 (by decide) ?_
  exact z_iret B hr (by decide) (by decide) dX4_second_23 ⟨y3, rfl, rfl⟩
set_option maxRecDepth 100000 in
set_option maxHeartbeats 4000000 in
theorem ci_X8_check_535 (l : Launch) {g : gx_T} {σ : sx_T} {b : Nat} (hK : lay b σ) (w1 : Int32) (w2 : Int32) (w3 : Int32) (w4 : Int32) (q1_w1 : (0 : Int) ≤ w1.toInt) (q2_w1 : w1.toInt ≤ (19 : Int)) (q1_w2 : (0 : Int) ≤ w2.toInt) (q2_w2 : w2.toInt ≤ (17 : Int)) (q1_w3 : (0 : Int) ≤ w3.toInt) (q2_w3 : w3.toInt ≤ (99 : Int)) (q1_w4 : (0 : Int) ≤ w4.toInt) (q2_w4 : w4.toInt ≤ (99 : Int)) (hI_0_7 : sx_I σ (b + 0) 7 = 0) (hR_0_0 : sx_R σ (b + 0) 0 = (some (b + 1))) (hR_1_3 : sx_R σ (b + 1) 3 = (some (b + 21))) (hR_21_1 : sx_R σ (b + 21) 1 = (some (b + 22))) (hR_21_2 : sx_R σ (b + 21) 2 = (some (b + 23))) (hR_21_3 : sx_R σ (b + 21) 3 = (some (b + 24))) : Met l yX8_check (.code yX8_check cX8_check 13 (some .int) :: lw_g) { frames := 2, cells := 0, slots := 0, locals := 43 } (va_Pc [.ref (b + 0), .int 3, .int w1, .int w2, .int w3, .int w4] (zx_w g σ)) (va_Qi (fun r u => ∃ y1 y2 y3 : Int32, r = 0 ∧ u = (ap b (wx_I (ap b (wx_I (ap b (wx_I (ap b (ap b (wx_I (ap b (wx_I (ap b (wx_I (ap b (ap b σ [] [] []) [] [] []) (b + 22) w1.toNatClampNeg w2) [] [] []) (b + 23) w1.toNatClampNeg w3) [] [] []) (b + 24) w1.toNatClampNeg w4) [] [] []) [] [] []) (b + 22) w1.toNatClampNeg y1) [] [] []) (b + 23) w1.toNatClampNeg y2) [] [] []) (b + 24) w1.toNatClampNeg y3) [] [] [])) (zx_w g) (gx_Q g)) 0 0 (gx_Q g) := by
  refine z_met (by decide) (Nat.le_of_ble_eq_true rfl) (fun p e s m below meth c B hr hin => ?_)
  refine z_eqs (σ' := (ap b σ [] [] [])) rfl ?_
  show zx p l e _ s m _ below meth c g 13 0 0 _ _ 0 [(0, .ref (b + 0)), (1, .int 3), (2, .int w1), (3, .int w2), (4, .int w3), (5, .int w4)] []
  refine z_aload_n B dX8_check_0 rfl 0 rfl ?_
  refine z_iload_n B dX8_check_1 rfl 1 rfl ?_
  refine z_cVq (As := [.int 3]) (rest := []) B cw_X8_64 cx_9 dX8_check_2 (ci_X8_programAt_220 l (σ := (ap b σ [] [] [])) (b := b) (lyA hK) (rR_at 0 0 hR_0_0) (rR_at 1 3 hR_1_3)) (lKA (hk_K hK 0 rfl rfl)) rfl (by decide) rfl (Nat.le_of_ble_eq_true rfl) (by decide) (fun r u hu => ?_)
  refine z_eqs (σ' := (ap b σ [] [] [])) hu.2 ?_
  show zx p l e _ s m _ below meth c g 13 0 0 _ _ 5 [(0, .ref (b + 0)), (1, .int 3), (2, .int w1), (3, .int w2), (4, .int w3), (5, .int w4)] _
  refine z_setr (y := (some (b + 21))) hu.1 ?_
  refine z_astore (lv' := [(6, .ref (b + 21)), (0, .ref (b + 0)), (1, .int 3), (2, .int w1), (3, .int w2), (4, .int w3), (5, .int w4)]) B dX8_check_5 (by decide) rfl ?_
  refine z_aload B dX8_check_7 0 rfl ?_
  refine z_ifnull (r := (some (b + 21))) (tgt := 21) B dX8_check_9 (by decide) (fun h => nomatch h) (fun _ _ => ?_)
  refine z_iload_n B dX8_check_12 rfl 3 rfl ?_
  refine z_bipush (v := 20) B dX8_check_13 (by decide) ?_
  refine z_cSi (As := [.int w1, .int 20]) (rest := []) B cw_X8_68 dX8_check_15 (ci_X8_isBelow_64 l (σ := (ap b σ [] [] [])) (b := b) (lyA hK) w1 q1_w1 q2_w1) rfl (by decide) rfl (Nat.le_of_ble_eq_true rfl) (by decide) (fun r u hu => ?_)
  refine z_eqs (σ' := (ap b σ [] [] [])) hu.2 ?_
  show zx p l e _ s m _ below meth c g 13 0 0 _ _ 18 [(6, .ref (b + 21)), (0, .ref (b + 0)), (1, .int 3), (2, .int w1), (3, .int w2), (4, .int w3), (5, .int w4)] _
  refine z_seti (y := 1) hu.1 ?_
  refine z_if_ne (tgt := 31) B dX8_check_18 (by decide) (fun _ => ?_) (fun h => absurd h (by decide))
  refine z_iload_n B dX8_check_31 rfl 4 rfl ?_
  refine z_iload B dX8_check_32 5 rfl ?_
  refine z_iload B dX8_check_34 6 rfl ?_
  refine z_cSi (As := [.int w2, .int w3, .int w4]) (rest := []) B cw_X8_79 dX8_check_36 (ci_X8_isStep_85 l (σ := (ap b σ [] [] [])) (b := b) (lyA hK) w2 w3 w4 q1_w2 q2_w2 q1_w3 q2_w3 q1_w4 q2_w4) rfl (by decide) rfl (Nat.le_of_ble_eq_true rfl) (by decide) (fun r u hu => ?_)
  refine z_eqs (σ' := (ap b σ [] [] [])) hu.2 ?_
  show zx p l e _ s m _ below meth c g 13 0 0 _ _ 39 [(6, .ref (b + 21)), (0, .ref (b + 0)), (1, .int 3), (2, .int w1), (3, .int w2), (4, .int w3), (5, .int w4)] _
  refine z_seti (y := 1) hu.1 ?_
  refine z_if_ne (tgt := 52) B dX8_check_39 (by decide) (fun _ => ?_) (fun h => absurd h (by decide))
  refine z_aload B dX8_check_52 0 rfl ?_
  refine z_iload_n B dX8_check_54 rfl 3 rfl ?_
  refine z_cVi (As := [.int w1]) (rest := []) B cw_X8_119 cx_5 dX8_check_55 (ci_X4_operation_532 l (σ := (ap b σ [] [] [])) (b := b) (lyA hK) w1 q1_w1 q2_w1 (rR_at 21 1 hR_21_1)) (lKA (hk_K hK 21 rfl rfl)) rfl (by decide) rfl (Nat.le_of_ble_eq_true rfl) (by decide) (fun r u hu => ?_)
  obtain ⟨y1, hu⟩ := hu
  refine z_eqs (σ' := (ap b σ [] [] [])) hu.2 ?_
  show zx p l e _ s m _ below meth c g 13 0 0 _ _ 58 [(6, .ref (b + 21)), (0, .ref (b + 0)), (1, .int 3), (2, .int w1), (3, .int w2), (4, .int w3), (5, .int w4)] _
  refine z_seti (y := y1) hu.1 ?_
  refine z_istore (lv' := [(7, .int y1), (6, .ref (b + 21)), (0, .ref (b + 0)), (1, .int 3), (2, .int w1), (3, .int w2), (4, .int w3), (5, .int w4)]) B dX8_check_58 (by decide) rfl ?_
  refine z_aload B dX8_check_60 1 rfl ?_
  refine z_iload_n B dX8_check_62 rfl 4 rfl ?_
  refine z_cVi (As := [.int w1]) (rest := []) B cw_X8_123 cx_5 dX8_check_63 (ci_X4_first_533 l (σ := (ap b σ [] [] [])) (b := b) (lyA hK) w1 q1_w1 q2_w1 (rR_at 21 2 hR_21_2)) (lKA (hk_K hK 21 rfl rfl)) rfl (by decide) rfl (Nat.le_of_ble_eq_true rfl) (by decide) (fun r u hu => ?_)
  obtain ⟨y2, hu⟩ := hu
  refine z_eqs (σ' := (ap b σ [] [] [])) hu.2 ?_
  show zx p l e _ s m _ below meth c g 13 0 0 _ _ 66 [(7, .int y1), (6, .ref (b + 21)), (0, .ref (b + 0)), (1, .int 3), (2, .int w1), (3, .int w2), (4, .int w3), (5, .int w4)] _
  refine z_seti (y := y2) hu.1 ?_
  refine z_istore (lv' := [(8, .int y2), (7, .int y1), (6, .ref (b + 21)), (0, .ref (b + 0)), (1, .int 3), (2, .int w1), (3, .int w2), (4, .int w3), (5, .int w4)]) B dX8_check_66 (by decide) rfl ?_
  refine z_aload B dX8_check_68 2 rfl ?_
  refine z_iload_n B dX8_check_70 rfl 5 rfl ?_
  refine z_cVi (As := [.int w1]) (rest := []) B cw_X8_126 cx_5 dX8_check_71 (ci_X4_second_534 l (σ := (ap b σ [] [] [])) (b := b) (lyA hK) w1 q1_w1 q2_w1 (rR_at 21 3 hR_21_3)) (lKA (hk_K hK 21 rfl rfl)) rfl (by decide) rfl (Nat.le_of_ble_eq_true rfl) (by decide) (fun r u hu => ?_)
  obtain ⟨y3, hu⟩ := hu
  refine z_eqs (σ' := (ap b σ [] [] [])) hu.2 ?_
  show zx p l e _ s m _ below meth c g 13 0 0 _ _ 74 [(8, .int y2), (7, .int y1), (6, .ref (b + 21)), (0, .ref (b + 0)), (1, .int 3), (2, .int w1), (3, .int w2), (4, .int w3), (5, .int w4)] _
  refine z_seti (y := y3) hu.1 ?_
  refine z_istore (lv' := [(9, .int y3), (8, .int y2), (7, .int y1), (6, .ref (b + 21)), (0, .ref (b + 0)), (1, .int 3), (2, .int w1), (3, .int w2), (4, .int w3), (5, .int w4)]) B dX8_check_74 (by decide) rfl ?_
  refine z_aload B dX8_check_76 3 rfl ?_
  refine z_iload_n B dX8_check_78 rfl 6 rfl ?_
  refine z_iload_n B dX8_check_79 rfl 7 rfl ?_
  refine z_iload B dX8_check_80 8 rfl ?_
  refine z_iload B dX8_check_82 9 rfl ?_
  refine z_cVv (As := [.int w1, .int w2, .int w3, .int w4]) (rest := []) B cw_X8_88 cx_5 dX8_check_84 (ci_X4_put_242 l (σ := (ap b σ [] [] [])) (b := b) (lyA hK) w1 w2 w3 w4 q1_w1 q2_w1 (rR_at 21 1 hR_21_1) (rR_at 21 2 hR_21_2) (rR_at 21 3 hR_21_3)) (lKA (hk_K hK 21 rfl rfl)) rfl (by decide) rfl (Nat.le_of_ble_eq_true rfl) (by decide) (fun u hu => ?_)
  refine z_eqs (σ' := (ap b (wx_I (ap b (wx_I (ap b (wx_I (ap b (ap b σ [] [] []) [] [] []) (b + 22) w1.toNatClampNeg w2) [] [] []) (b + 23) w1.toNatClampNeg w3) [] [] []) (b + 24) w1.toNatClampNeg w4) [] [] [])) hu ?_
  show zx p l e _ s m _ below meth c g 13 0 0 _ _ 87 [(9, .int y3), (8, .int y2), (7, .int y1), (6, .ref (b + 21)), (0, .ref (b + 0)), (1, .int 3), (2, .int w1), (3, .int w2), (4, .int w3), (5, .int w4)] _
  refine z_iconst (v := 0) B dX8_check_87 (by decide) ?_
  refine z_istore (lv' := [(10, .int 0), (9, .int y3), (8, .int y2), (7, .int y1), (6, .ref (b + 21)), (0, .ref (b + 0)), (1, .int 3), (2, .int w1), (3, .int w2), (4, .int w3), (5, .int w4)]) B dX8_check_88 (by decide) rfl ?_
  refine z_iconst (v := 0) B dX8_check_90 (by decide) ?_
  refine z_istore (lv' := [(11, .int 0), (10, .int 0), (9, .int y3), (8, .int y2), (7, .int y1), (6, .ref (b + 21)), (0, .ref (b + 0)), (1, .int 3), (2, .int w1), (3, .int w2), (4, .int w3), (5, .int w4)]) B dX8_check_91 (by decide) rfl ?_
  refine z_iload B dX8_check_93 0 rfl ?_
  refine z_aload_n B dX8_check_95 rfl 6 rfl ?_
  refine gf_X8_96 (x := 0) B (lKA (lKW (lKA (lKW (lKA (lKW (lKA (lKA (hk_K hK 0 rfl rfl))))))))) (rI_at 0 7 ((ux_a (by omega)).trans (rI_at 0 7 ((ux_a (by omega)).trans (rI_at 0 7 ((ux_a (by omega)).trans (rI_at 0 7 (rI_at 0 7 hI_0_7)))))))) dX8_check_96 ?_
  refine z_icmp_ge (tgt := 154) B dX8_check_99 (by decide) (fun _ => ?_) (fun h => absurd (by decide) h)
  refine z_aload B dX8_check_154 5 rfl ?_
  refine z_iload_n B dX8_check_156 rfl 8 rfl ?_
  refine z_iload B dX8_check_157 4 rfl ?_
  refine z_iload B dX8_check_159 3 rfl ?_
  refine z_iload B dX8_check_161 2 rfl ?_
  refine z_cVv (As := [.int w1, .int y1, .int y2, .int y3]) (rest := []) B cw_X8_88 cx_5 dX8_check_163 (ci_X4_put_242 l (σ := (ap b (wx_I (ap b (wx_I (ap b (wx_I (ap b (ap b σ [] [] []) [] [] []) (b + 22) w1.toNatClampNeg w2) [] [] []) (b + 23) w1.toNatClampNeg w3) [] [] []) (b + 24) w1.toNatClampNeg w4) [] [] [])) (b := b) (lyA (lyW (lyA (lyW (lyA (lyW (lyA (lyA hK)))))))) w1 y1 y2 y3 q1_w1 q2_w1 (rR_at 21 1 (rR_w (rR_at 21 1 (rR_w (rR_at 21 1 (rR_w (rR_at 21 1 (rR_at 21 1 hR_21_1)))))))) (rR_at 21 2 (rR_w (rR_at 21 2 (rR_w (rR_at 21 2 (rR_w (rR_at 21 2 (rR_at 21 2 hR_21_2)))))))) (rR_at 21 3 (rR_w (rR_at 21 3 (rR_w (rR_at 21 3 (rR_w (rR_at 21 3 (rR_at 21 3 hR_21_3))))))))) (lKA (lKW (lKA (lKW (lKA (lKW (lKA (lKA (hk_K hK 21 rfl rfl))))))))) rfl (by decide) rfl (Nat.le_of_ble_eq_true rfl) (by decide) (fun u hu => ?_)
  refine z_eqs (σ' := (ap b (wx_I (ap b (wx_I (ap b (wx_I (ap b (ap b (wx_I (ap b (wx_I (ap b (wx_I (ap b (ap b σ [] [] []) [] [] []) (b + 22) w1.toNatClampNeg w2) [] [] []) (b + 23) w1.toNatClampNeg w3) [] [] []) (b + 24) w1.toNatClampNeg w4) [] [] []) [] [] []) (b + 22) w1.toNatClampNeg y1) [] [] []) (b + 23) w1.toNatClampNeg y2) [] [] []) (b + 24) w1.toNatClampNeg y3) [] [] [])) hu ?_
  show zx p l e _ s m _ below meth c g 13 0 0 _ _ 166 [(11, .int 0), (10, .int 0), (9, .int y3), (8, .int y2), (7, .int y1), (6, .ref (b + 21)), (0, .ref (b + 0)), (1, .int 3), (2, .int w1), (3, .int w2), (4, .int w3), (5, .int w4)] _
  refine z_iload B dX8_check_166 1 rfl ?_
  exact z_iret B hr (by decide) (by decide) dX8_check_168 ⟨y1, y2, y3, rfl, rfl⟩
set_option maxRecDepth 100000 in
set_option maxHeartbeats 4000000 in
theorem ci_L_check_536 (l : Launch) {g : gx_T} {σ : sx_T} {b : Nat} (hK : lay b σ) (w1 : Int32) (w2 : Int32) (w3 : Int32) (w4 : Int32) (q1_w1 : (0 : Int) ≤ w1.toInt) (q2_w1 : w1.toInt ≤ (19 : Int)) (q1_w2 : (0 : Int) ≤ w2.toInt) (q2_w2 : w2.toInt ≤ (17 : Int)) (q1_w3 : (0 : Int) ≤ w3.toInt) (q2_w3 : w3.toInt ≤ (99 : Int)) (q1_w4 : (0 : Int) ≤ w4.toInt) (q2_w4 : w4.toInt ≤ (99 : Int)) (hI_0_7 : sx_I σ (b + 0) 7 = 0) (hR_0_0 : sx_R σ (b + 0) 0 = (some (b + 1))) (hR_1_3 : sx_R σ (b + 1) 3 = (some (b + 21))) (hR_21_1 : sx_R σ (b + 21) 1 = (some (b + 22))) (hR_21_2 : sx_R σ (b + 21) 2 = (some (b + 23))) (hR_21_3 : sx_R σ (b + 21) 3 = (some (b + 24))) : Met l yL_check (.codeWith yL_check cL_check 8 (some .int) [(0, 16, 19, 13), (0, 16, 23, 15)] :: lw_g) { frames := 3, cells := 0, slots := 0, locals := 75 } (va_Pc [.ref (b + 0), .int 3, .int w1, .int w2, .int w3, .int w4, .ref (b + 431)] (zx_w g σ)) (va_Qi (fun r u => ∃ y1 y2 y3 : Int32, r = 0 ∧ u = (ap b (wx_I (ap b (wx_I (ap b (wx_I (ap b (ap b (wx_I (ap b (wx_I (ap b (wx_I (ap b (ap b (ap b σ [] [] []) [] [] []) [] [] []) (b + 22) w1.toNatClampNeg w2) [] [] []) (b + 23) w1.toNatClampNeg w3) [] [] []) (b + 24) w1.toNatClampNeg w4) [] [] []) [] [] []) (b + 22) w1.toNatClampNeg y1) [] [] []) (b + 23) w1.toNatClampNeg y2) [] [] []) (b + 24) w1.toNatClampNeg y3) [] [(431, 0, 0)] [])) (zx_w g) (gx_Q g)) 0 0 (gx_Q g) := by
  refine z_metW (by decide) (Nat.le_of_ble_eq_true rfl) (fun p e s m below meth c B hr htab => ?_)
  refine z_eqs (σ' := (ap b σ [] [] [])) rfl ?_
  show zx p l e _ s m _ below meth c g 8 0 0 _ _ 0 [(0, .ref (b + 0)), (1, .int 3), (2, .int w1), (3, .int w2), (4, .int w3), (5, .int w4), (6, .ref (b + 431))] []
  refine z_aload B dL_check_0 6 rfl ?_
  refine z_iconst (v := 0) B dL_check_2 (by decide) ?_
  refine z_aload_n B dL_check_3 rfl 0 rfl ?_
  refine z_iload_n B dL_check_4 rfl 1 rfl ?_
  refine z_iload_n B dL_check_5 rfl 2 rfl ?_
  refine z_iload_n B dL_check_6 rfl 3 rfl ?_
  refine z_iload B dL_check_7 4 rfl ?_
  refine z_iload B dL_check_9 5 rfl ?_
  refine z_cVi (As := [.int 3, .int w1, .int w2, .int w3, .int w4]) (rest := [.int 0, .ref (b + 431)]) B cw_L_17 cx_9 dL_check_11 (ci_X8_check_535 l (σ := (ap b σ [] [] [])) (b := b) (lyA hK) w1 w2 w3 w4 q1_w1 q2_w1 q1_w2 q2_w2 q1_w3 q2_w3 q1_w4 q2_w4 (rI_at 0 7 hI_0_7) (rR_at 0 0 hR_0_0) (rR_at 1 3 hR_1_3) (rR_at 21 1 hR_21_1) (rR_at 21 2 hR_21_2) (rR_at 21 3 hR_21_3)) (lKA (hk_K hK 0 rfl rfl)) rfl (by decide) rfl (Nat.le_of_ble_eq_true rfl) (by decide) (fun r u hu => ?_)
  obtain ⟨y1, y2, y3, hu⟩ := hu
  refine z_eqs (σ' := (ap b (wx_I (ap b (wx_I (ap b (wx_I (ap b (ap b (wx_I (ap b (wx_I (ap b (wx_I (ap b (ap b (ap b σ [] [] []) [] [] []) [] [] []) (b + 22) w1.toNatClampNeg w2) [] [] []) (b + 23) w1.toNatClampNeg w3) [] [] []) (b + 24) w1.toNatClampNeg w4) [] [] []) [] [] []) (b + 22) w1.toNatClampNeg y1) [] [] []) (b + 23) w1.toNatClampNeg y2) [] [] []) (b + 24) w1.toNatClampNeg y3) [] [] [])) hu.2 ?_
  show zx p l e _ s m _ below meth c g 8 0 0 _ _ 14 [(0, .ref (b + 0)), (1, .int 3), (2, .int w1), (3, .int w2), (4, .int w3), (5, .int w4), (6, .ref (b + 431))] _
  refine z_seti (y := 0) hu.1 ?_
  refine z_i2l (v := 0) B dL_check_14 (by decide) ?_
  refine z_last (j := 0) (σ' := (ap b (wx_I (ap b (wx_I (ap b (wx_I (ap b (ap b (wx_I (ap b (wx_I (ap b (wx_I (ap b (ap b (ap b σ [] [] []) [] [] []) [] [] []) (b + 22) w1.toNatClampNeg w2) [] [] []) (b + 23) w1.toNatClampNeg w3) [] [] []) (b + 24) w1.toNatClampNeg w4) [] [] []) [] [] []) (b + 22) w1.toNatClampNeg y1) [] [] []) (b + 23) w1.toNatClampNeg y2) [] [] []) (b + 24) w1.toNatClampNeg y3) [] [(431, 0, 0)] [])) B (lKA (lKW (lKA (lKW (lKA (lKW (lKA (lKA (lKW (lKA (lKW (lKA (lKW (lKA (lKA (lKA (hk_K hK 431 rfl rfl))))))))))))))))) (by decide) (in_of (lNA (lNW (lNA (lNW (lNA (lNW (lNA (lNA (lNW (lNA (lNW (lNA (lNW (lNA (lNA (lNA (hk_N hK 431 rfl rfl))))))))))))))))) (show ¬ ((0 : Int32) < 0 ∨ 1 ≤ (0 : Int32).toNatClampNeg) by decide)) wJ_ap dL_check_15 ?_
  refine z_goto (tgt := 27) B dL_check_16 (by decide) ?_
  refine z_iconst (v := 0) B dL_check_27 (by decide) ?_
  exact z_iret B hr (by decide) (by decide) dL_check_28 ⟨y1, y2, y3, rfl, rfl⟩
set_option maxRecDepth 100000 in
set_option maxHeartbeats 4000000 in
theorem ci_X9_check_537 (l : Launch) {g : gx_T} {σ : sx_T} {b : Nat} (hK : lay b σ) (w1 : Int32) (w2 : Int32) (w3 : Int32) (w4 : Int32) (q1_w1 : (0 : Int) ≤ w1.toInt) (q2_w1 : w1.toInt ≤ (19 : Int)) (q1_w2 : (0 : Int) ≤ w2.toInt) (q2_w2 : w2.toInt ≤ (17 : Int)) (q1_w3 : (0 : Int) ≤ w3.toInt) (q2_w3 : w3.toInt ≤ (99 : Int)) (q1_w4 : (0 : Int) ≤ w4.toInt) (q2_w4 : w4.toInt ≤ (99 : Int)) (hI_405_6 : sx_I σ (b + 405) 6 = 0) (hR_405_3 : sx_R σ (b + 405) 3 = (some (b + 406))) (hR_405_4 : sx_R σ (b + 405) 4 = (some (b + 407))) (hR_405_5 : sx_R σ (b + 405) 5 = (some (b + 408))) : Met l yX9_check (.code yX9_check cX9_check 11 (some .int) :: lw_g) { frames := 2, cells := 0, slots := 0, locals := 44 } (va_Pc [.ref (b + 405), .int 3, .int w1, .int w2, .int w3, .int w4] (zx_w g σ)) (va_Qi (fun r u => ∃ y4 y5 y6 : Int32, r = 0 ∧ u = (ap b (wx_I (ap b (wx_I (ap b (wx_I (ap b (ap b (wx_I (ap b (wx_I (ap b (wx_I (ap b (ap b σ [(405, 0, 0)] [] []) [] [] []) (b + 406) (60 + w1).toNatClampNeg w2) [] [] []) (b + 407) (60 + w1).toNatClampNeg w3) [] [] []) (b + 408) (60 + w1).toNatClampNeg w4) [] [] []) [] [] []) (b + 406) (60 + w1).toNatClampNeg y4) [] [] []) (b + 407) (60 + w1).toNatClampNeg y5) [] [] []) (b + 408) (60 + w1).toNatClampNeg y6) [] [] [])) (zx_w g) (gx_Q g)) 0 0 (gx_Q g) := by
  refine z_met (by decide) (Nat.le_of_ble_eq_true rfl) (fun p e s m below meth c B hr hin => ?_)
  refine z_eqs (σ' := (ap b σ [] [] [])) rfl ?_
  show zx p l e _ s m _ below meth c g 11 0 0 _ _ 0 [(0, .ref (b + 405)), (1, .int 3), (2, .int w1), (3, .int w2), (4, .int w3), (5, .int w4)] []
  refine z_aload_n B dX9_check_0 rfl 0 rfl ?_
  refine z_iload_n B dX9_check_1 rfl 1 rfl ?_
  refine z_iload_n B dX9_check_2 rfl 2 rfl ?_
  refine z_cSi (As := [.int 3, .int w1]) (rest := [.ref (b + 405)]) B cw_X9_238 dX9_check_3 (ci_X9_isStep_234 l (σ := (ap b σ [] [] [])) (b := b) (lyA hK) w1 q1_w1 q2_w1) rfl (by decide) rfl (Nat.le_of_ble_eq_true rfl) (by decide) (fun r u hu => ?_)
  refine z_eqs (σ' := (ap b σ [] [] [])) hu.2 ?_
  show zx p l e _ s m _ below meth c g 11 0 0 _ _ 6 [(0, .ref (b + 405)), (1, .int 3), (2, .int w1), (3, .int w2), (4, .int w3), (5, .int w4)] _
  refine z_seti (y := 1) hu.1 ?_
  refine z_iload_n B dX9_check_6 rfl 3 rfl ?_
  refine z_iload B dX9_check_7 4 rfl ?_
  refine z_iload B dX9_check_9 5 rfl ?_
  refine z_cSi (As := [.int w2, .int w3, .int w4]) (rest := [.int 1, .ref (b + 405)]) B cw_X9_242 dX9_check_11 (ci_X9_isOperation_39 l (σ := (ap b σ [] [] [])) (b := b) (lyA hK) w2 w3 w4 q1_w2 q2_w2 q1_w3 q2_w3 q1_w4 q2_w4) rfl (by decide) rfl (Nat.le_of_ble_eq_true rfl) (by decide) (fun r u hu => ?_)
  refine z_eqs (σ' := (ap b σ [] [] [])) hu.2 ?_
  show zx p l e _ s m _ below meth c g 11 0 0 _ _ 14 [(0, .ref (b + 405)), (1, .int 3), (2, .int w1), (3, .int w2), (4, .int w3), (5, .int w4)] _
  refine z_seti (y := 1) hu.1 ?_
  refine z_cVi (As := [.int 1, .int 1]) (rest := []) B cw_X9_245 cx_10 dX9_check_14 (ci_X9_needs__91 l (σ := (ap b σ [] [] [])) (b := b) (lyA hK) ) (lKA (hk_K hK 405 rfl rfl)) rfl (by decide) rfl (Nat.le_of_ble_eq_true rfl) (by decide) (fun r u hu => ?_)
  refine z_eqs (σ' := (ap b σ [(405, 0, 0)] [] [])) (hu.2.trans ap_ap) ?_
  show zx p l e _ s m _ below meth c g 11 0 0 _ _ 17 [(0, .ref (b + 405)), (1, .int 3), (2, .int w1), (3, .int w2), (4, .int w3), (5, .int w4)] _
  refine z_seti (y := 1) hu.1 ?_
  refine z_if_ne (tgt := 22) B dX9_check_17 (by decide) (fun _ => ?_) (fun h => absurd h (by decide))
  refine z_bipush (v := 20) B dX9_check_22 (by decide) ?_
  refine z_iload_n B dX9_check_24 rfl 1 rfl ?_
  refine z_imul B dX9_check_25 ?_
  refine z_seti (y := 60) (by decide) ?_
  refine z_iload_n B dX9_check_26 rfl 2 rfl ?_
  refine z_iadd B dX9_check_27 ?_
  refine z_istore (lv' := [(6, .int (60 + w1)), (0, .ref (b + 405)), (1, .int 3), (2, .int w1), (3, .int w2), (4, .int w3), (5, .int w4)]) B dX9_check_28 (by decide) rfl ?_
  refine z_aload_n B dX9_check_30 rfl 1 rfl ?_
  refine gf_X9_13 (x := (some (b + 406))) B (lKA (hk_K hK 405 rfl rfl)) (rR_at 405 3 hR_405_3) dX9_check_31 ?_
  refine z_iload B dX9_check_34 0 rfl ?_
  refine z_iald (j := (60 + w1).toNatClampNeg) B (lKA (hk_K hK 406 rfl rfl)) rfl (in_of (lNA (hk_N hK 406 rfl rfl)) (iv_inadd q1_w1 q2_w1 (by decide) (by decide))) rfl dX9_check_36 ?_
  refine z_topi (fun y4 e_y4 => ?_)
  refine z_istore (lv' := [(7, .int y4), (6, .int (60 + w1)), (0, .ref (b + 405)), (1, .int 3), (2, .int w1), (3, .int w2), (4, .int w3), (5, .int w4)]) B dX9_check_37 (by decide) rfl ?_
  refine z_aload_n B dX9_check_39 rfl 2 rfl ?_
  refine gf_X9_17 (x := (some (b + 407))) B (lKA (hk_K hK 405 rfl rfl)) (rR_at 405 4 hR_405_4) dX9_check_40 ?_
  refine z_iload B dX9_check_43 1 rfl ?_
  refine z_iald (j := (60 + w1).toNatClampNeg) B (lKA (hk_K hK 407 rfl rfl)) rfl (in_of (lNA (hk_N hK 407 rfl rfl)) (iv_inadd q1_w1 q2_w1 (by decide) (by decide))) rfl dX9_check_45 ?_
  refine z_topi (fun y5 e_y5 => ?_)
  refine z_istore (lv' := [(8, .int y5), (7, .int y4), (6, .int (60 + w1)), (0, .ref (b + 405)), (1, .int 3), (2, .int w1), (3, .int w2), (4, .int w3), (5, .int w4)]) B dX9_check_46 (by decide) rfl ?_
  refine z_aload_n B dX9_check_48 rfl 3 rfl ?_
  refine gf_X9_20 (x := (some (b + 408))) B (lKA (hk_K hK 405 rfl rfl)) (rR_at 405 5 hR_405_5) dX9_check_49 ?_
  refine z_iload B dX9_check_52 2 rfl ?_
  refine z_iald (j := (60 + w1).toNatClampNeg) B (lKA (hk_K hK 408 rfl rfl)) rfl (in_of (lNA (hk_N hK 408 rfl rfl)) (iv_inadd q1_w1 q2_w1 (by decide) (by decide))) rfl dX9_check_54 ?_
  refine z_topi (fun y6 e_y6 => ?_)
  refine z_istore (lv' := [(9, .int y6), (8, .int y5), (7, .int y4), (6, .int (60 + w1)), (0, .ref (b + 405)), (1, .int 3), (2, .int w1), (3, .int w2), (4, .int w3), (5, .int w4)]) B dX9_check_55 (by decide) rfl ?_
  refine z_aload_n B dX9_check_57 rfl 4 rfl ?_
  refine z_iload_n B dX9_check_58 rfl 5 rfl ?_
  refine z_iload_n B dX9_check_59 rfl 6 rfl ?_
  refine z_iload_n B dX9_check_60 rfl 7 rfl ?_
  refine z_iload B dX9_check_61 8 rfl ?_
  refine z_iload B dX9_check_63 9 rfl ?_
  refine z_cVv (As := [.int 3, .int w1, .int w2, .int w3, .int w4]) (rest := []) B cw_X9_249 cx_10 dX9_check_65 (ci_X9_lays_247 l (σ := (ap b σ [(405, 0, 0)] [] [])) (b := b) (lyA hK) w1 w2 w3 w4 q1_w1 q2_w1 (rR_at 405 3 hR_405_3) (rR_at 405 4 hR_405_4) (rR_at 405 5 hR_405_5)) (lKA (hk_K hK 405 rfl rfl)) rfl (by decide) rfl (Nat.le_of_ble_eq_true rfl) (by decide) (fun u hu => ?_)
  refine z_eqs (σ' := (ap b (wx_I (ap b (wx_I (ap b (wx_I (ap b (ap b σ [(405, 0, 0)] [] []) [] [] []) (b + 406) (60 + w1).toNatClampNeg w2) [] [] []) (b + 407) (60 + w1).toNatClampNeg w3) [] [] []) (b + 408) (60 + w1).toNatClampNeg w4) [] [] [])) hu ?_
  show zx p l e _ s m _ below meth c g 11 0 0 _ _ 68 [(9, .int y6), (8, .int y5), (7, .int y4), (6, .int (60 + w1)), (0, .ref (b + 405)), (1, .int 3), (2, .int w1), (3, .int w2), (4, .int w3), (5, .int w4)] _
  refine z_aload_n B dX9_check_68 rfl 4 rfl ?_
  refine z_iload_n B dX9_check_69 rfl 5 rfl ?_
  refine z_cVi (As := [.int 3]) (rest := []) B cw_X9_256 cx_10 dX9_check_70 (ci_X9_unfit_248 l (σ := (ap b (wx_I (ap b (wx_I (ap b (wx_I (ap b (ap b σ [(405, 0, 0)] [] []) [] [] []) (b + 406) (60 + w1).toNatClampNeg w2) [] [] []) (b + 407) (60 + w1).toNatClampNeg w3) [] [] []) (b + 408) (60 + w1).toNatClampNeg w4) [] [] [])) (b := b) (lyA (lyW (lyA (lyW (lyA (lyW (lyA (lyA hK)))))))) (rI_at 405 6 ((ux_a (by omega)).trans (rI_at 405 6 ((ux_a (by omega)).trans (rI_at 405 6 ((ux_a (by omega)).trans (rI_at 405 6 (rI_at 405 6 hI_405_6))))))))) (lKA (lKW (lKA (lKW (lKA (lKW (lKA (lKA (hk_K hK 405 rfl rfl))))))))) rfl (by decide) rfl (Nat.le_of_ble_eq_true rfl) (by decide) (fun r u hu => ?_)
  refine z_eqs (σ' := (ap b (wx_I (ap b (wx_I (ap b (wx_I (ap b (ap b σ [(405, 0, 0)] [] []) [] [] []) (b + 406) (60 + w1).toNatClampNeg w2) [] [] []) (b + 407) (60 + w1).toNatClampNeg w3) [] [] []) (b + 408) (60 + w1).toNatClampNeg w4) [] [] [])) hu.2 ?_
  show zx p l e _ s m _ below meth c g 11 0 0 _ _ 73 [(9, .int y6), (8, .int y5), (7, .int y4), (6, .int (60 + w1)), (0, .ref (b + 405)), (1, .int 3), (2, .int w1), (3, .int w2), (4, .int w3), (5, .int w4)] _
  refine z_seti (y := 0) hu.1 ?_
  refine z_istore (lv' := [(10, .int 0), (9, .int y6), (8, .int y5), (7, .int y4), (6, .int (60 + w1)), (0, .ref (b + 405)), (1, .int 3), (2, .int w1), (3, .int w2), (4, .int w3), (5, .int w4)]) B dX9_check_73 (by decide) rfl ?_
  refine z_aload_n B dX9_check_75 rfl 5 rfl ?_
  refine z_iload_n B dX9_check_76 rfl 6 rfl ?_
  refine z_iload_n B dX9_check_77 rfl 7 rfl ?_
  refine z_iload B dX9_check_78 3 rfl ?_
  refine z_iload B dX9_check_80 2 rfl ?_
  refine z_iload B dX9_check_82 1 rfl ?_
  refine z_cVv (As := [.int 3, .int w1, .int y4, .int y5, .int y6]) (rest := []) B cw_X9_249 cx_10 dX9_check_84 (ci_X9_lays_247 l (σ := (ap b (wx_I (ap b (wx_I (ap b (wx_I (ap b (ap b σ [(405, 0, 0)] [] []) [] [] []) (b + 406) (60 + w1).toNatClampNeg w2) [] [] []) (b + 407) (60 + w1).toNatClampNeg w3) [] [] []) (b + 408) (60 + w1).toNatClampNeg w4) [] [] [])) (b := b) (lyA (lyW (lyA (lyW (lyA (lyW (lyA (lyA hK)))))))) w1 y4 y5 y6 q1_w1 q2_w1 (rR_at 405 3 (rR_w (rR_at 405 3 (rR_w (rR_at 405 3 (rR_w (rR_at 405 3 (rR_at 405 3 hR_405_3)))))))) (rR_at 405 4 (rR_w (rR_at 405 4 (rR_w (rR_at 405 4 (rR_w (rR_at 405 4 (rR_at 405 4 hR_405_4)))))))) (rR_at 405 5 (rR_w (rR_at 405 5 (rR_w (rR_at 405 5 (rR_w (rR_at 405 5 (rR_at 405 5 hR_405_5))))))))) (lKA (lKW (lKA (lKW (lKA (lKW (lKA (lKA (hk_K hK 405 rfl rfl))))))))) rfl (by decide) rfl (Nat.le_of_ble_eq_true rfl) (by decide) (fun u hu => ?_)
  refine z_eqs (σ' := (ap b (wx_I (ap b (wx_I (ap b (wx_I (ap b (ap b (wx_I (ap b (wx_I (ap b (wx_I (ap b (ap b σ [(405, 0, 0)] [] []) [] [] []) (b + 406) (60 + w1).toNatClampNeg w2) [] [] []) (b + 407) (60 + w1).toNatClampNeg w3) [] [] []) (b + 408) (60 + w1).toNatClampNeg w4) [] [] []) [] [] []) (b + 406) (60 + w1).toNatClampNeg y4) [] [] []) (b + 407) (60 + w1).toNatClampNeg y5) [] [] []) (b + 408) (60 + w1).toNatClampNeg y6) [] [] [])) hu ?_
  show zx p l e _ s m _ below meth c g 11 0 0 _ _ 87 [(10, .int 0), (9, .int y6), (8, .int y5), (7, .int y4), (6, .int (60 + w1)), (0, .ref (b + 405)), (1, .int 3), (2, .int w1), (3, .int w2), (4, .int w3), (5, .int w4)] _
  refine z_iload B dX9_check_87 0 rfl ?_
  exact z_iret B hr (by decide) (by decide) dX9_check_89 ⟨y4, y5, y6, rfl, rfl⟩
set_option maxRecDepth 100000 in
set_option maxHeartbeats 4000000 in
theorem ci_X8_check_538 (l : Launch) (hlt : l.stackTraces = false) {g : gx_T} {σ : sx_T} {b : Nat} (hK : lay b σ) (w1 : Int32) (w2 : Int32) (w3 : Int32) (w4 : Int32) (q1_w1 : (0 : Int) ≤ w1.toInt) (q2_w1 : w1.toInt ≤ (19 : Int)) (q1_w2 : (0 : Int) ≤ w2.toInt) (q2_w2 : w2.toInt ≤ (17 : Int)) (q1_w3 : (0 : Int) ≤ w3.toInt) (q2_w3 : w3.toInt ≤ (99 : Int)) (q1_w4 : (100 : Int) ≤ w4.toInt) (q2_w4 : w4.toInt ≤ (2147483647 : Int)) (hR_0_0 : sx_R σ (b + 0) 0 = (some (b + 1))) (hR_1_3 : sx_R σ (b + 1) 3 = (some (b + 21))) : vx_Met l yX8_check (.code yX8_check cX8_check 13 (some .int) :: lw_g) { frames := 7, cells := 1, slots := 6, locals := 136 } (va_Pc [.ref (b + 0), .int 3, .int w1, .int w2, .int w3, .int w4] (zx_w g σ)) (va_Qi (S := sx_T) (fun _ _ => False) (zx_w g) (gx_Q g)) (vx_X (fun u : sx_T => ∃ z, u = wx_Z σ z) (fun E u t => E = "java/lang/IllegalArgumentException" ∧ zx_h g u t.heap) (gx_Q g)) 1 6 (gx_Q g) := by
  refine z_metX (by decide) (Nat.le_of_ble_eq_true rfl) (fun p e s m below meth c B hr hin hout => ?_)
  refine z_eqs (σ' := (ap b σ [] [] [])) rfl ?_
  show zx p l e _ s m _ below meth c g 13 0 0 _ _ 0 [(0, .ref (b + 0)), (1, .int 3), (2, .int w1), (3, .int w2), (4, .int w3), (5, .int w4)] []
  refine z_aload_n B dX8_check_0 rfl 0 rfl ?_
  refine z_iload_n B dX8_check_1 rfl 1 rfl ?_
  refine z_cVq (As := [.int 3]) (rest := []) B cw_X8_64 cx_9 dX8_check_2 (ci_X8_programAt_220 l (σ := (ap b σ [] [] [])) (b := b) (lyA hK) (rR_at 0 0 hR_0_0) (rR_at 1 3 hR_1_3)) (lKA (hk_K hK 0 rfl rfl)) rfl (by decide) rfl (Nat.le_of_ble_eq_true rfl) (by decide) (fun r u hu => ?_)
  refine z_eqs (σ' := (ap b σ [] [] [])) hu.2 ?_
  show zx p l e _ s m _ below meth c g 13 0 0 _ _ 5 [(0, .ref (b + 0)), (1, .int 3), (2, .int w1), (3, .int w2), (4, .int w3), (5, .int w4)] _
  refine z_setr (y := (some (b + 21))) hu.1 ?_
  refine z_astore (lv' := [(6, .ref (b + 21)), (0, .ref (b + 0)), (1, .int 3), (2, .int w1), (3, .int w2), (4, .int w3), (5, .int w4)]) B dX8_check_5 (by decide) rfl ?_
  refine z_aload B dX8_check_7 0 rfl ?_
  refine z_ifnull (r := (some (b + 21))) (tgt := 21) B dX8_check_9 (by decide) (fun h => nomatch h) (fun _ _ => ?_)
  refine z_iload_n B dX8_check_12 rfl 3 rfl ?_
  refine z_bipush (v := 20) B dX8_check_13 (by decide) ?_
  refine z_cSi (As := [.int w1, .int 20]) (rest := []) B cw_X8_68 dX8_check_15 (ci_X8_isBelow_64 l (σ := (ap b σ [] [] [])) (b := b) (lyA hK) w1 q1_w1 q2_w1) rfl (by decide) rfl (Nat.le_of_ble_eq_true rfl) (by decide) (fun r u hu => ?_)
  refine z_eqs (σ' := (ap b σ [] [] [])) hu.2 ?_
  show zx p l e _ s m _ below meth c g 13 0 0 _ _ 18 [(6, .ref (b + 21)), (0, .ref (b + 0)), (1, .int 3), (2, .int w1), (3, .int w2), (4, .int w3), (5, .int w4)] _
  refine z_seti (y := 1) hu.1 ?_
  refine z_if_ne (tgt := 31) B dX8_check_18 (by decide) (fun _ => ?_) (fun h => absurd h (by decide))
  refine z_iload_n B dX8_check_31 rfl 4 rfl ?_
  refine z_iload B dX8_check_32 5 rfl ?_
  refine z_iload B dX8_check_34 6 rfl ?_
  refine z_cSi (As := [.int w2, .int w3, .int w4]) (rest := []) B cw_X8_79 dX8_check_36 (ci_X8_isStep_97 l (σ := (ap b σ [] [] [])) (b := b) (lyA hK) w2 w3 w4 q1_w2 q2_w2 q1_w3 q2_w3 q1_w4 q2_w4) rfl (by decide) rfl (Nat.le_of_ble_eq_true rfl) (by decide) (fun r u hu => ?_)
  refine z_eqs (σ' := (ap b σ [] [] [])) hu.2 ?_
  show zx p l e _ s m _ below meth c g 13 0 0 _ _ 39 [(6, .ref (b + 21)), (0, .ref (b + 0)), (1, .int 3), (2, .int w1), (3, .int w2), (4, .int w3), (5, .int w4)] _
  refine z_seti (y := 0) hu.1 ?_
  refine z_if_ne (tgt := 52) B dX8_check_39 (by decide) (fun h => absurd (by decide) h) (fun _ => ?_)
  exact z_throw B hlt hout (cls := "java/lang/IllegalArgumentException") (text := "no such operation") tw_X8_83_85_87 dX8_check_42 dX8_check_45 dX8_check_46 dX8_check_48 dX8_check_51 (by decide) (by decide) (by decide) (by decide) (by decide) (by decide) (fun z => ⟨z, rfl⟩)
set_option maxRecDepth 100000 in
set_option maxHeartbeats 4000000 in
theorem ci_L_check_539 (l : Launch) (hlt : l.stackTraces = false) {g : gx_T} {σ : sx_T} {b : Nat} (hK : lay b σ) (w1 : Int32) (w2 : Int32) (w3 : Int32) (w4 : Int32) (q1_w1 : (0 : Int) ≤ w1.toInt) (q2_w1 : w1.toInt ≤ (19 : Int)) (q1_w2 : (0 : Int) ≤ w2.toInt) (q2_w2 : w2.toInt ≤ (17 : Int)) (q1_w3 : (0 : Int) ≤ w3.toInt) (q2_w3 : w3.toInt ≤ (99 : Int)) (q1_w4 : (100 : Int) ≤ w4.toInt) (q2_w4 : w4.toInt ≤ (2147483647 : Int)) (hR_0_0 : sx_R σ (b + 0) 0 = (some (b + 1))) (hR_1_3 : sx_R σ (b + 1) 3 = (some (b + 21))) : Met l yL_check (.codeWith yL_check cL_check 8 (some .int) [(0, 16, 19, 13), (0, 16, 23, 15)] :: lw_g) { frames := 8, cells := 1, slots := 6, locals := 168 } (va_Pc [.ref (b + 0), .int 3, .int w1, .int w2, .int w3, .int w4, .ref (b + 431)] (zx_w g σ)) (va_Qi (fun r u => r = 2 ∧ ∃ z, u = (ap b (wx_Z σ z) [] [] [])) (zx_w g) (gx_Q g)) 1 6 (gx_Q g) := by
  refine z_metW (by decide) (Nat.le_of_ble_eq_true rfl) (fun p e s m below meth c B hr htab => ?_)
  refine z_eqs (σ' := (ap b σ [] [] [])) rfl ?_
  show zx p l e _ s m _ below meth c g 8 0 0 _ _ 0 [(0, .ref (b + 0)), (1, .int 3), (2, .int w1), (3, .int w2), (4, .int w3), (5, .int w4), (6, .ref (b + 431))] []
  refine z_aload B dL_check_0 6 rfl ?_
  refine z_iconst (v := 0) B dL_check_2 (by decide) ?_
  refine z_aload_n B dL_check_3 rfl 0 rfl ?_
  refine z_iload_n B dL_check_4 rfl 1 rfl ?_
  refine z_iload_n B dL_check_5 rfl 2 rfl ?_
  refine z_iload_n B dL_check_6 rfl 3 rfl ?_
  refine z_iload B dL_check_7 4 rfl ?_
  refine z_iload B dL_check_9 5 rfl ?_
  refine z_cXi (As := [.int 3, .int w1, .int w2, .int w3, .int w4]) (rest := [.int 0, .ref (b + 431)]) B htab tc_check_11_IllegalArgumentException cw_L_17 cx_9 dL_check_11 (ci_X8_check_538 l hlt (σ := (ap b σ [] [] [])) (b := b) (lyA hK) w1 w2 w3 w4 q1_w1 q2_w1 q1_w2 q2_w2 q1_w3 q2_w3 q1_w4 q2_w4 (rR_at 0 0 hR_0_0) (rR_at 1 3 hR_1_3)) (lKA (hk_K hK 0 rfl rfl)) rfl (by decide) rfl (Nat.le_of_ble_eq_true rfl) (by decide) (fun z q => ?_)
  refine z_eqs (σ' := (ap b (wx_Z σ z) [] [] [])) rfl ?_
  show zx p l e _ s m _ below meth c g 8 _ _ _ _ 23 [(0, .ref (b + 0)), (1, .int 3), (2, .int w1), (3, .int w2), (4, .int w3), (5, .int w4), (6, .ref (b + 431))] _
  refine z_astore (lv' := [(7, .ref q), (0, .ref (b + 0)), (1, .int 3), (2, .int w1), (3, .int w2), (4, .int w3), (5, .int w4), (6, .ref (b + 431))]) B dL_check_23 (by decide) rfl ?_
  refine z_iconst (v := 2) B dL_check_25 (by decide) ?_
  exact z_iret B hr (by decide) (by decide) dL_check_26 ⟨rfl, _, rfl⟩
set_option maxRecDepth 100000 in
set_option maxHeartbeats 4000000 in
theorem ci_X9_check_540 (l : Launch) {g : gx_T} {σ : sx_T} {b : Nat} (hK : lay b σ) (w1 : Int32) (w2 : Int32) (w3 : Int32) (w4 : Int32) (q1_w1 : (0 : Int) ≤ w1.toInt) (q2_w1 : w1.toInt ≤ (19 : Int)) (q1_w2 : (0 : Int) ≤ w2.toInt) (q2_w2 : w2.toInt ≤ (17 : Int)) (q1_w3 : (0 : Int) ≤ w3.toInt) (q2_w3 : w3.toInt ≤ (99 : Int)) (q1_w4 : (100 : Int) ≤ w4.toInt) (q2_w4 : w4.toInt ≤ (2147483647 : Int))  : Met l yX9_check (.code yX9_check cX9_check 11 (some .int) :: lw_g) { frames := 2, cells := 0, slots := 0, locals := 44 } (va_Pc [.ref (b + 405), .int 3, .int w1, .int w2, .int w3, .int w4] (zx_w g σ)) (va_Qi (fun r u => r = 0 ∧ u = (ap b σ [(405, 0, 2)] [] [])) (zx_w g) (gx_Q g)) 0 0 (gx_Q g) := by
  refine z_met (by decide) (Nat.le_of_ble_eq_true rfl) (fun p e s m below meth c B hr hin => ?_)
  refine z_eqs (σ' := (ap b σ [] [] [])) rfl ?_
  show zx p l e _ s m _ below meth c g 11 0 0 _ _ 0 [(0, .ref (b + 405)), (1, .int 3), (2, .int w1), (3, .int w2), (4, .int w3), (5, .int w4)] []
  refine z_aload_n B dX9_check_0 rfl 0 rfl ?_
  refine z_iload_n B dX9_check_1 rfl 1 rfl ?_
  refine z_iload_n B dX9_check_2 rfl 2 rfl ?_
  refine z_cSi (As := [.int 3, .int w1]) (rest := [.ref (b + 405)]) B cw_X9_238 dX9_check_3 (ci_X9_isStep_234 l (σ := (ap b σ [] [] [])) (b := b) (lyA hK) w1 q1_w1 q2_w1) rfl (by decide) rfl (Nat.le_of_ble_eq_true rfl) (by decide) (fun r u hu => ?_)
  refine z_eqs (σ' := (ap b σ [] [] [])) hu.2 ?_
  show zx p l e _ s m _ below meth c g 11 0 0 _ _ 6 [(0, .ref (b + 405)), (1, .int 3), (2, .int w1), (3, .int w2), (4, .int w3), (5, .int w4)] _
  refine z_seti (y := 1) hu.1 ?_
  refine z_iload_n B dX9_check_6 rfl 3 rfl ?_
  refine z_iload B dX9_check_7 4 rfl ?_
  refine z_iload B dX9_check_9 5 rfl ?_
  refine z_cSi (As := [.int w2, .int w3, .int w4]) (rest := [.int 1, .ref (b + 405)]) B cw_X9_242 dX9_check_11 (ci_X9_isOperation_43 l (σ := (ap b σ [] [] [])) (b := b) (lyA hK) w2 w3 w4 q1_w2 q2_w2 q1_w3 q2_w3 q1_w4 q2_w4) rfl (by decide) rfl (Nat.le_of_ble_eq_true rfl) (by decide) (fun r u hu => ?_)
  refine z_eqs (σ' := (ap b σ [] [] [])) hu.2 ?_
  show zx p l e _ s m _ below meth c g 11 0 0 _ _ 14 [(0, .ref (b + 405)), (1, .int 3), (2, .int w1), (3, .int w2), (4, .int w3), (5, .int w4)] _
  refine z_seti (y := 0) hu.1 ?_
  refine z_cVi (As := [.int 1, .int 0]) (rest := []) B cw_X9_245 cx_10 dX9_check_14 (ci_X9_needs__71 l (σ := (ap b σ [] [] [])) (b := b) (lyA hK) ) (lKA (hk_K hK 405 rfl rfl)) rfl (by decide) rfl (Nat.le_of_ble_eq_true rfl) (by decide) (fun r u hu => ?_)
  refine z_eqs (σ' := (ap b σ [(405, 0, 2)] [] [])) (hu.2.trans ap_ap) ?_
  show zx p l e _ s m _ below meth c g 11 0 0 _ _ 17 [(0, .ref (b + 405)), (1, .int 3), (2, .int w1), (3, .int w2), (4, .int w3), (5, .int w4)] _
  refine z_seti (y := 0) hu.1 ?_
  refine z_if_ne (tgt := 22) B dX9_check_17 (by decide) (fun h => absurd (by decide) h) (fun _ => ?_)
  refine z_iconst (v := 0) B dX9_check_20 (by decide) ?_
  exact z_iret B hr (by decide) (by decide) dX9_check_21 ⟨rfl, rfl⟩
set_option maxRecDepth 100000 in
set_option maxHeartbeats 4000000 in
theorem ci_X8_check_541 (l : Launch) (hlt : l.stackTraces = false) {g : gx_T} {σ : sx_T} {b : Nat} (hK : lay b σ) (w1 : Int32) (w2 : Int32) (w3 : Int32) (w4 : Int32) (q1_w1 : (0 : Int) ≤ w1.toInt) (q2_w1 : w1.toInt ≤ (19 : Int)) (q1_w2 : (0 : Int) ≤ w2.toInt) (q2_w2 : w2.toInt ≤ (17 : Int)) (q1_w3 : (100 : Int) ≤ w3.toInt) (q2_w3 : w3.toInt ≤ (2147483647 : Int)) (hR_0_0 : sx_R σ (b + 0) 0 = (some (b + 1))) (hR_1_3 : sx_R σ (b + 1) 3 = (some (b + 21))) : vx_Met l yX8_check (.code yX8_check cX8_check 13 (some .int) :: lw_g) { frames := 7, cells := 1, slots := 6, locals := 136 } (va_Pc [.ref (b + 0), .int 3, .int w1, .int w2, .int w3, .int w4] (zx_w g σ)) (va_Qi (S := sx_T) (fun _ _ => False) (zx_w g) (gx_Q g)) (vx_X (fun u : sx_T => ∃ z, u = wx_Z σ z) (fun E u t => E = "java/lang/IllegalArgumentException" ∧ zx_h g u t.heap) (gx_Q g)) 1 6 (gx_Q g) := by
  refine z_metX (by decide) (Nat.le_of_ble_eq_true rfl) (fun p e s m below meth c B hr hin hout => ?_)
  refine z_eqs (σ' := (ap b σ [] [] [])) rfl ?_
  show zx p l e _ s m _ below meth c g 13 0 0 _ _ 0 [(0, .ref (b + 0)), (1, .int 3), (2, .int w1), (3, .int w2), (4, .int w3), (5, .int w4)] []
  refine z_aload_n B dX8_check_0 rfl 0 rfl ?_
  refine z_iload_n B dX8_check_1 rfl 1 rfl ?_
  refine z_cVq (As := [.int 3]) (rest := []) B cw_X8_64 cx_9 dX8_check_2 (ci_X8_programAt_220 l (σ := (ap b σ [] [] [])) (b := b) (lyA hK) (rR_at 0 0 hR_0_0) (rR_at 1 3 hR_1_3)) (lKA (hk_K hK 0 rfl rfl)) rfl (by decide) rfl (Nat.le_of_ble_eq_true rfl) (by decide) (fun r u hu => ?_)
  refine z_eqs (σ' := (ap b σ [] [] [])) hu.2 ?_
  show zx p l e _ s m _ below meth c g 13 0 0 _ _ 5 [(0, .ref (b + 0)), (1, .int 3), (2, .int w1), (3, .int w2), (4, .int w3), (5, .int w4)] _
  refine z_setr (y := (some (b + 21))) hu.1 ?_
  refine z_astore (lv' := [(6, .ref (b + 21)), (0, .ref (b + 0)), (1, .int 3), (2, .int w1), (3, .int w2), (4, .int w3), (5, .int w4)]) B dX8_check_5 (by decide) rfl ?_
  refine z_aload B dX8_check_7 0 rfl ?_
  refine z_ifnull (r := (some (b + 21))) (tgt := 21) B dX8_check_9 (by decide) (fun h => nomatch h) (fun _ _ => ?_)
  refine z_iload_n B dX8_check_12 rfl 3 rfl ?_
  refine z_bipush (v := 20) B dX8_check_13 (by decide) ?_
  refine z_cSi (As := [.int w1, .int 20]) (rest := []) B cw_X8_68 dX8_check_15 (ci_X8_isBelow_64 l (σ := (ap b σ [] [] [])) (b := b) (lyA hK) w1 q1_w1 q2_w1) rfl (by decide) rfl (Nat.le_of_ble_eq_true rfl) (by decide) (fun r u hu => ?_)
  refine z_eqs (σ' := (ap b σ [] [] [])) hu.2 ?_
  show zx p l e _ s m _ below meth c g 13 0 0 _ _ 18 [(6, .ref (b + 21)), (0, .ref (b + 0)), (1, .int 3), (2, .int w1), (3, .int w2), (4, .int w3), (5, .int w4)] _
  refine z_seti (y := 1) hu.1 ?_
  refine z_if_ne (tgt := 31) B dX8_check_18 (by decide) (fun _ => ?_) (fun h => absurd h (by decide))
  refine z_iload_n B dX8_check_31 rfl 4 rfl ?_
  refine z_iload B dX8_check_32 5 rfl ?_
  refine z_iload B dX8_check_34 6 rfl ?_
  refine z_cSi (As := [.int w2, .int w3, .int w4]) (rest := []) B cw_X8_79 dX8_check_36 (ci_X8_isStep_101 l (σ := (ap b σ [] [] [])) (b := b) (lyA hK) w2 w3 w4 q1_w2 q2_w2 q1_w3 q2_w3) rfl (by decide) rfl (Nat.le_of_ble_eq_true rfl) (by decide) (fun r u hu => ?_)
  refine z_eqs (σ' := (ap b σ [] [] [])) hu.2 ?_
  show zx p l e _ s m _ below meth c g 13 0 0 _ _ 39 [(6, .ref (b + 21)), (0, .ref (b + 0)), (1, .int 3), (2, .int w1), (3, .int w2), (4, .int w3), (5, .int w4)] _
  refine z_seti (y := 0) hu.1 ?_
  refine z_if_ne (tgt := 52) B dX8_check_39 (by decide) (fun h => absurd (by decide) h) (fun _ => ?_)
  exact z_throw B hlt hout (cls := "java/lang/IllegalArgumentException") (text := "no such operation") tw_X8_83_85_87 dX8_check_42 dX8_check_45 dX8_check_46 dX8_check_48 dX8_check_51 (by decide) (by decide) (by decide) (by decide) (by decide) (by decide) (fun z => ⟨z, rfl⟩)
set_option maxRecDepth 100000 in
set_option maxHeartbeats 4000000 in
theorem ci_L_check_542 (l : Launch) (hlt : l.stackTraces = false) {g : gx_T} {σ : sx_T} {b : Nat} (hK : lay b σ) (w1 : Int32) (w2 : Int32) (w3 : Int32) (w4 : Int32) (q1_w1 : (0 : Int) ≤ w1.toInt) (q2_w1 : w1.toInt ≤ (19 : Int)) (q1_w2 : (0 : Int) ≤ w2.toInt) (q2_w2 : w2.toInt ≤ (17 : Int)) (q1_w3 : (100 : Int) ≤ w3.toInt) (q2_w3 : w3.toInt ≤ (2147483647 : Int)) (hR_0_0 : sx_R σ (b + 0) 0 = (some (b + 1))) (hR_1_3 : sx_R σ (b + 1) 3 = (some (b + 21))) : Met l yL_check (.codeWith yL_check cL_check 8 (some .int) [(0, 16, 19, 13), (0, 16, 23, 15)] :: lw_g) { frames := 8, cells := 1, slots := 6, locals := 168 } (va_Pc [.ref (b + 0), .int 3, .int w1, .int w2, .int w3, .int w4, .ref (b + 431)] (zx_w g σ)) (va_Qi (fun r u => r = 2 ∧ ∃ z, u = (ap b (wx_Z σ z) [] [] [])) (zx_w g) (gx_Q g)) 1 6 (gx_Q g) := by
  refine z_metW (by decide) (Nat.le_of_ble_eq_true rfl) (fun p e s m below meth c B hr htab => ?_)
  refine z_eqs (σ' := (ap b σ [] [] [])) rfl ?_
  show zx p l e _ s m _ below meth c g 8 0 0 _ _ 0 [(0, .ref (b + 0)), (1, .int 3), (2, .int w1), (3, .int w2), (4, .int w3), (5, .int w4), (6, .ref (b + 431))] []
  refine z_aload B dL_check_0 6 rfl ?_
  refine z_iconst (v := 0) B dL_check_2 (by decide) ?_
  refine z_aload_n B dL_check_3 rfl 0 rfl ?_
  refine z_iload_n B dL_check_4 rfl 1 rfl ?_
  refine z_iload_n B dL_check_5 rfl 2 rfl ?_
  refine z_iload_n B dL_check_6 rfl 3 rfl ?_
  refine z_iload B dL_check_7 4 rfl ?_
  refine z_iload B dL_check_9 5 rfl ?_
  refine z_cXi (As := [.int 3, .int w1, .int w2, .int w3, .int w4]) (rest := [.int 0, .ref (b + 431)]) B htab tc_check_11_IllegalArgumentException cw_L_17 cx_9 dL_check_11 (ci_X8_check_541 l hlt (σ := (ap b σ [] [] [])) (b := b) (lyA hK) w1 w2 w3 w4 q1_w1 q2_w1 q1_w2 q2_w2 q1_w3 q2_w3 (rR_at 0 0 hR_0_0) (rR_at 1 3 hR_1_3)) (lKA (hk_K hK 0 rfl rfl)) rfl (by decide) rfl (Nat.le_of_ble_eq_true rfl) (by decide) (fun z q => ?_)
  refine z_eqs (σ' := (ap b (wx_Z σ z) [] [] [])) rfl ?_
  show zx p l e _ s m _ below meth c g 8 _ _ _ _ 23 [(0, .ref (b + 0)), (1, .int 3), (2, .int w1), (3, .int w2), (4, .int w3), (5, .int w4), (6, .ref (b + 431))] _
  refine z_astore (lv' := [(7, .ref q), (0, .ref (b + 0)), (1, .int 3), (2, .int w1), (3, .int w2), (4, .int w3), (5, .int w4), (6, .ref (b + 431))]) B dL_check_23 (by decide) rfl ?_
  refine z_iconst (v := 2) B dL_check_25 (by decide) ?_
  exact z_iret B hr (by decide) (by decide) dL_check_26 ⟨rfl, _, rfl⟩
set_option maxRecDepth 100000 in
set_option maxHeartbeats 4000000 in
theorem ci_X9_check_543 (l : Launch) {g : gx_T} {σ : sx_T} {b : Nat} (hK : lay b σ) (w1 : Int32) (w2 : Int32) (w3 : Int32) (w4 : Int32) (q1_w1 : (0 : Int) ≤ w1.toInt) (q2_w1 : w1.toInt ≤ (19 : Int)) (q1_w2 : (0 : Int) ≤ w2.toInt) (q2_w2 : w2.toInt ≤ (17 : Int)) (q1_w3 : (100 : Int) ≤ w3.toInt) (q2_w3 : w3.toInt ≤ (2147483647 : Int))  : Met l yX9_check (.code yX9_check cX9_check 11 (some .int) :: lw_g) { frames := 2, cells := 0, slots := 0, locals := 44 } (va_Pc [.ref (b + 405), .int 3, .int w1, .int w2, .int w3, .int w4] (zx_w g σ)) (va_Qi (fun r u => r = 0 ∧ u = (ap b σ [(405, 0, 2)] [] [])) (zx_w g) (gx_Q g)) 0 0 (gx_Q g) := by
  refine z_met (by decide) (Nat.le_of_ble_eq_true rfl) (fun p e s m below meth c B hr hin => ?_)
  refine z_eqs (σ' := (ap b σ [] [] [])) rfl ?_
  show zx p l e _ s m _ below meth c g 11 0 0 _ _ 0 [(0, .ref (b + 405)), (1, .int 3), (2, .int w1), (3, .int w2), (4, .int w3), (5, .int w4)] []
  refine z_aload_n B dX9_check_0 rfl 0 rfl ?_
  refine z_iload_n B dX9_check_1 rfl 1 rfl ?_
  refine z_iload_n B dX9_check_2 rfl 2 rfl ?_
  refine z_cSi (As := [.int 3, .int w1]) (rest := [.ref (b + 405)]) B cw_X9_238 dX9_check_3 (ci_X9_isStep_234 l (σ := (ap b σ [] [] [])) (b := b) (lyA hK) w1 q1_w1 q2_w1) rfl (by decide) rfl (Nat.le_of_ble_eq_true rfl) (by decide) (fun r u hu => ?_)
  refine z_eqs (σ' := (ap b σ [] [] [])) hu.2 ?_
  show zx p l e _ s m _ below meth c g 11 0 0 _ _ 6 [(0, .ref (b + 405)), (1, .int 3), (2, .int w1), (3, .int w2), (4, .int w3), (5, .int w4)] _
  refine z_seti (y := 1) hu.1 ?_
  refine z_iload_n B dX9_check_6 rfl 3 rfl ?_
  refine z_iload B dX9_check_7 4 rfl ?_
  refine z_iload B dX9_check_9 5 rfl ?_
  refine z_cSi (As := [.int w2, .int w3, .int w4]) (rest := [.int 1, .ref (b + 405)]) B cw_X9_242 dX9_check_11 (ci_X9_isOperation_45 l (σ := (ap b σ [] [] [])) (b := b) (lyA hK) w2 w3 w4 q1_w2 q2_w2 q1_w3 q2_w3) rfl (by decide) rfl (Nat.le_of_ble_eq_true rfl) (by decide) (fun r u hu => ?_)
  refine z_eqs (σ' := (ap b σ [] [] [])) hu.2 ?_
  show zx p l e _ s m _ below meth c g 11 0 0 _ _ 14 [(0, .ref (b + 405)), (1, .int 3), (2, .int w1), (3, .int w2), (4, .int w3), (5, .int w4)] _
  refine z_seti (y := 0) hu.1 ?_
  refine z_cVi (As := [.int 1, .int 0]) (rest := []) B cw_X9_245 cx_10 dX9_check_14 (ci_X9_needs__71 l (σ := (ap b σ [] [] [])) (b := b) (lyA hK) ) (lKA (hk_K hK 405 rfl rfl)) rfl (by decide) rfl (Nat.le_of_ble_eq_true rfl) (by decide) (fun r u hu => ?_)
  refine z_eqs (σ' := (ap b σ [(405, 0, 2)] [] [])) (hu.2.trans ap_ap) ?_
  show zx p l e _ s m _ below meth c g 11 0 0 _ _ 17 [(0, .ref (b + 405)), (1, .int 3), (2, .int w1), (3, .int w2), (4, .int w3), (5, .int w4)] _
  refine z_seti (y := 0) hu.1 ?_
  refine z_if_ne (tgt := 22) B dX9_check_17 (by decide) (fun h => absurd (by decide) h) (fun _ => ?_)
  refine z_iconst (v := 0) B dX9_check_20 (by decide) ?_
  exact z_iret B hr (by decide) (by decide) dX9_check_21 ⟨rfl, rfl⟩
set_option maxRecDepth 100000 in
set_option maxHeartbeats 4000000 in
theorem ci_X8_check_544 (l : Launch) (hlt : l.stackTraces = false) {g : gx_T} {σ : sx_T} {b : Nat} (hK : lay b σ) (w1 : Int32) (w2 : Int32) (w3 : Int32) (w4 : Int32) (q1_w1 : (0 : Int) ≤ w1.toInt) (q2_w1 : w1.toInt ≤ (19 : Int)) (q1_w2 : (18 : Int) ≤ w2.toInt) (q2_w2 : w2.toInt ≤ (2147483647 : Int)) (hR_0_0 : sx_R σ (b + 0) 0 = (some (b + 1))) (hR_1_3 : sx_R σ (b + 1) 3 = (some (b + 21))) : vx_Met l yX8_check (.code yX8_check cX8_check 13 (some .int) :: lw_g) { frames := 7, cells := 1, slots := 6, locals := 136 } (va_Pc [.ref (b + 0), .int 3, .int w1, .int w2, .int w3, .int w4] (zx_w g σ)) (va_Qi (S := sx_T) (fun _ _ => False) (zx_w g) (gx_Q g)) (vx_X (fun u : sx_T => ∃ z, u = wx_Z σ z) (fun E u t => E = "java/lang/IllegalArgumentException" ∧ zx_h g u t.heap) (gx_Q g)) 1 6 (gx_Q g) := by
  refine z_metX (by decide) (Nat.le_of_ble_eq_true rfl) (fun p e s m below meth c B hr hin hout => ?_)
  refine z_eqs (σ' := (ap b σ [] [] [])) rfl ?_
  show zx p l e _ s m _ below meth c g 13 0 0 _ _ 0 [(0, .ref (b + 0)), (1, .int 3), (2, .int w1), (3, .int w2), (4, .int w3), (5, .int w4)] []
  refine z_aload_n B dX8_check_0 rfl 0 rfl ?_
  refine z_iload_n B dX8_check_1 rfl 1 rfl ?_
  refine z_cVq (As := [.int 3]) (rest := []) B cw_X8_64 cx_9 dX8_check_2 (ci_X8_programAt_220 l (σ := (ap b σ [] [] [])) (b := b) (lyA hK) (rR_at 0 0 hR_0_0) (rR_at 1 3 hR_1_3)) (lKA (hk_K hK 0 rfl rfl)) rfl (by decide) rfl (Nat.le_of_ble_eq_true rfl) (by decide) (fun r u hu => ?_)
  refine z_eqs (σ' := (ap b σ [] [] [])) hu.2 ?_
  show zx p l e _ s m _ below meth c g 13 0 0 _ _ 5 [(0, .ref (b + 0)), (1, .int 3), (2, .int w1), (3, .int w2), (4, .int w3), (5, .int w4)] _
  refine z_setr (y := (some (b + 21))) hu.1 ?_
  refine z_astore (lv' := [(6, .ref (b + 21)), (0, .ref (b + 0)), (1, .int 3), (2, .int w1), (3, .int w2), (4, .int w3), (5, .int w4)]) B dX8_check_5 (by decide) rfl ?_
  refine z_aload B dX8_check_7 0 rfl ?_
  refine z_ifnull (r := (some (b + 21))) (tgt := 21) B dX8_check_9 (by decide) (fun h => nomatch h) (fun _ _ => ?_)
  refine z_iload_n B dX8_check_12 rfl 3 rfl ?_
  refine z_bipush (v := 20) B dX8_check_13 (by decide) ?_
  refine z_cSi (As := [.int w1, .int 20]) (rest := []) B cw_X8_68 dX8_check_15 (ci_X8_isBelow_64 l (σ := (ap b σ [] [] [])) (b := b) (lyA hK) w1 q1_w1 q2_w1) rfl (by decide) rfl (Nat.le_of_ble_eq_true rfl) (by decide) (fun r u hu => ?_)
  refine z_eqs (σ' := (ap b σ [] [] [])) hu.2 ?_
  show zx p l e _ s m _ below meth c g 13 0 0 _ _ 18 [(6, .ref (b + 21)), (0, .ref (b + 0)), (1, .int 3), (2, .int w1), (3, .int w2), (4, .int w3), (5, .int w4)] _
  refine z_seti (y := 1) hu.1 ?_
  refine z_if_ne (tgt := 31) B dX8_check_18 (by decide) (fun _ => ?_) (fun h => absurd h (by decide))
  refine z_iload_n B dX8_check_31 rfl 4 rfl ?_
  refine z_iload B dX8_check_32 5 rfl ?_
  refine z_iload B dX8_check_34 6 rfl ?_
  refine z_cSi (As := [.int w2, .int w3, .int w4]) (rest := []) B cw_X8_79 dX8_check_36 (ci_X8_isStep_106 l (σ := (ap b σ [] [] [])) (b := b) (lyA hK) w2 w3 w4 q1_w2 q2_w2) rfl (by decide) rfl (Nat.le_of_ble_eq_true rfl) (by decide) (fun r u hu => ?_)
  refine z_eqs (σ' := (ap b σ [] [] [])) hu.2 ?_
  show zx p l e _ s m _ below meth c g 13 0 0 _ _ 39 [(6, .ref (b + 21)), (0, .ref (b + 0)), (1, .int 3), (2, .int w1), (3, .int w2), (4, .int w3), (5, .int w4)] _
  refine z_seti (y := 0) hu.1 ?_
  refine z_if_ne (tgt := 52) B dX8_check_39 (by decide) (fun h => absurd (by decide) h) (fun _ => ?_)
  exact z_throw B hlt hout (cls := "java/lang/IllegalArgumentException") (text := "no such operation") tw_X8_83_85_87 dX8_check_42 dX8_check_45 dX8_check_46 dX8_check_48 dX8_check_51 (by decide) (by decide) (by decide) (by decide) (by decide) (by decide) (fun z => ⟨z, rfl⟩)
set_option maxRecDepth 100000 in
set_option maxHeartbeats 4000000 in
theorem ci_L_check_545 (l : Launch) (hlt : l.stackTraces = false) {g : gx_T} {σ : sx_T} {b : Nat} (hK : lay b σ) (w1 : Int32) (w2 : Int32) (w3 : Int32) (w4 : Int32) (q1_w1 : (0 : Int) ≤ w1.toInt) (q2_w1 : w1.toInt ≤ (19 : Int)) (q1_w2 : (18 : Int) ≤ w2.toInt) (q2_w2 : w2.toInt ≤ (2147483647 : Int)) (hR_0_0 : sx_R σ (b + 0) 0 = (some (b + 1))) (hR_1_3 : sx_R σ (b + 1) 3 = (some (b + 21))) : Met l yL_check (.codeWith yL_check cL_check 8 (some .int) [(0, 16, 19, 13), (0, 16, 23, 15)] :: lw_g) { frames := 8, cells := 1, slots := 6, locals := 168 } (va_Pc [.ref (b + 0), .int 3, .int w1, .int w2, .int w3, .int w4, .ref (b + 431)] (zx_w g σ)) (va_Qi (fun r u => r = 2 ∧ ∃ z, u = (ap b (wx_Z σ z) [] [] [])) (zx_w g) (gx_Q g)) 1 6 (gx_Q g) := by
  refine z_metW (by decide) (Nat.le_of_ble_eq_true rfl) (fun p e s m below meth c B hr htab => ?_)
  refine z_eqs (σ' := (ap b σ [] [] [])) rfl ?_
  show zx p l e _ s m _ below meth c g 8 0 0 _ _ 0 [(0, .ref (b + 0)), (1, .int 3), (2, .int w1), (3, .int w2), (4, .int w3), (5, .int w4), (6, .ref (b + 431))] []
  refine z_aload B dL_check_0 6 rfl ?_
  refine z_iconst (v := 0) B dL_check_2 (by decide) ?_
  refine z_aload_n B dL_check_3 rfl 0 rfl ?_
  refine z_iload_n B dL_check_4 rfl 1 rfl ?_
  refine z_iload_n B dL_check_5 rfl 2 rfl ?_
  refine z_iload_n B dL_check_6 rfl 3 rfl ?_
  refine z_iload B dL_check_7 4 rfl ?_
  refine z_iload B dL_check_9 5 rfl ?_
  refine z_cXi (As := [.int 3, .int w1, .int w2, .int w3, .int w4]) (rest := [.int 0, .ref (b + 431)]) B htab tc_check_11_IllegalArgumentException cw_L_17 cx_9 dL_check_11 (ci_X8_check_544 l hlt (σ := (ap b σ [] [] [])) (b := b) (lyA hK) w1 w2 w3 w4 q1_w1 q2_w1 q1_w2 q2_w2 (rR_at 0 0 hR_0_0) (rR_at 1 3 hR_1_3)) (lKA (hk_K hK 0 rfl rfl)) rfl (by decide) rfl (Nat.le_of_ble_eq_true rfl) (by decide) (fun z q => ?_)
  refine z_eqs (σ' := (ap b (wx_Z σ z) [] [] [])) rfl ?_
  show zx p l e _ s m _ below meth c g 8 _ _ _ _ 23 [(0, .ref (b + 0)), (1, .int 3), (2, .int w1), (3, .int w2), (4, .int w3), (5, .int w4), (6, .ref (b + 431))] _
  refine z_astore (lv' := [(7, .ref q), (0, .ref (b + 0)), (1, .int 3), (2, .int w1), (3, .int w2), (4, .int w3), (5, .int w4), (6, .ref (b + 431))]) B dL_check_23 (by decide) rfl ?_
  refine z_iconst (v := 2) B dL_check_25 (by decide) ?_
  exact z_iret B hr (by decide) (by decide) dL_check_26 ⟨rfl, _, rfl⟩
set_option maxRecDepth 100000 in
set_option maxHeartbeats 4000000 in
theorem ci_X9_check_546 (l : Launch) {g : gx_T} {σ : sx_T} {b : Nat} (hK : lay b σ) (w1 : Int32) (w2 : Int32) (w3 : Int32) (w4 : Int32) (q1_w1 : (0 : Int) ≤ w1.toInt) (q2_w1 : w1.toInt ≤ (19 : Int)) (q1_w2 : (18 : Int) ≤ w2.toInt) (q2_w2 : w2.toInt ≤ (2147483647 : Int))  : Met l yX9_check (.code yX9_check cX9_check 11 (some .int) :: lw_g) { frames := 2, cells := 0, slots := 0, locals := 44 } (va_Pc [.ref (b + 405), .int 3, .int w1, .int w2, .int w3, .int w4] (zx_w g σ)) (va_Qi (fun r u => r = 0 ∧ u = (ap b σ [(405, 0, 2)] [] [])) (zx_w g) (gx_Q g)) 0 0 (gx_Q g) := by
  refine z_met (by decide) (Nat.le_of_ble_eq_true rfl) (fun p e s m below meth c B hr hin => ?_)
  refine z_eqs (σ' := (ap b σ [] [] [])) rfl ?_
  show zx p l e _ s m _ below meth c g 11 0 0 _ _ 0 [(0, .ref (b + 405)), (1, .int 3), (2, .int w1), (3, .int w2), (4, .int w3), (5, .int w4)] []
  refine z_aload_n B dX9_check_0 rfl 0 rfl ?_
  refine z_iload_n B dX9_check_1 rfl 1 rfl ?_
  refine z_iload_n B dX9_check_2 rfl 2 rfl ?_
  refine z_cSi (As := [.int 3, .int w1]) (rest := [.ref (b + 405)]) B cw_X9_238 dX9_check_3 (ci_X9_isStep_234 l (σ := (ap b σ [] [] [])) (b := b) (lyA hK) w1 q1_w1 q2_w1) rfl (by decide) rfl (Nat.le_of_ble_eq_true rfl) (by decide) (fun r u hu => ?_)
  refine z_eqs (σ' := (ap b σ [] [] [])) hu.2 ?_
  show zx p l e _ s m _ below meth c g 11 0 0 _ _ 6 [(0, .ref (b + 405)), (1, .int 3), (2, .int w1), (3, .int w2), (4, .int w3), (5, .int w4)] _
  refine z_seti (y := 1) hu.1 ?_
  refine z_iload_n B dX9_check_6 rfl 3 rfl ?_
  refine z_iload B dX9_check_7 4 rfl ?_
  refine z_iload B dX9_check_9 5 rfl ?_
  refine z_cSi (As := [.int w2, .int w3, .int w4]) (rest := [.int 1, .ref (b + 405)]) B cw_X9_242 dX9_check_11 (ci_X9_isOperation_48 l (σ := (ap b σ [] [] [])) (b := b) (lyA hK) w2 w3 w4 q1_w2 q2_w2) rfl (by decide) rfl (Nat.le_of_ble_eq_true rfl) (by decide) (fun r u hu => ?_)
  refine z_eqs (σ' := (ap b σ [] [] [])) hu.2 ?_
  show zx p l e _ s m _ below meth c g 11 0 0 _ _ 14 [(0, .ref (b + 405)), (1, .int 3), (2, .int w1), (3, .int w2), (4, .int w3), (5, .int w4)] _
  refine z_seti (y := 0) hu.1 ?_
  refine z_cVi (As := [.int 1, .int 0]) (rest := []) B cw_X9_245 cx_10 dX9_check_14 (ci_X9_needs__71 l (σ := (ap b σ [] [] [])) (b := b) (lyA hK) ) (lKA (hk_K hK 405 rfl rfl)) rfl (by decide) rfl (Nat.le_of_ble_eq_true rfl) (by decide) (fun r u hu => ?_)
  refine z_eqs (σ' := (ap b σ [(405, 0, 2)] [] [])) (hu.2.trans ap_ap) ?_
  show zx p l e _ s m _ below meth c g 11 0 0 _ _ 17 [(0, .ref (b + 405)), (1, .int 3), (2, .int w1), (3, .int w2), (4, .int w3), (5, .int w4)] _
  refine z_seti (y := 0) hu.1 ?_
  refine z_if_ne (tgt := 22) B dX9_check_17 (by decide) (fun h => absurd (by decide) h) (fun _ => ?_)
  refine z_iconst (v := 0) B dX9_check_20 (by decide) ?_
  exact z_iret B hr (by decide) (by decide) dX9_check_21 ⟨rfl, rfl⟩
set_option maxRecDepth 100000 in
set_option maxHeartbeats 4000000 in
theorem ci_X8_check_547 (l : Launch) (hlt : l.stackTraces = false) {g : gx_T} {σ : sx_T} {b : Nat} (hK : lay b σ) (w1 : Int32) (w2 : Int32) (w3 : Int32) (w4 : Int32) (q1_w1 : (20 : Int) ≤ w1.toInt) (q2_w1 : w1.toInt ≤ (2147483647 : Int)) (hR_0_0 : sx_R σ (b + 0) 0 = (some (b + 1))) (hR_1_3 : sx_R σ (b + 1) 3 = (some (b + 21))) : vx_Met l yX8_check (.code yX8_check cX8_check 13 (some .int) :: lw_g) { frames := 7, cells := 1, slots := 6, locals := 136 } (va_Pc [.ref (b + 0), .int 3, .int w1, .int w2, .int w3, .int w4] (zx_w g σ)) (va_Qi (S := sx_T) (fun _ _ => False) (zx_w g) (gx_Q g)) (vx_X (fun u : sx_T => ∃ z, u = wx_Z σ z) (fun E u t => E = "java/lang/IndexOutOfBoundsException" ∧ zx_h g u t.heap) (gx_Q g)) 1 6 (gx_Q g) := by
  refine z_metX (by decide) (Nat.le_of_ble_eq_true rfl) (fun p e s m below meth c B hr hin hout => ?_)
  refine z_eqs (σ' := (ap b σ [] [] [])) rfl ?_
  show zx p l e _ s m _ below meth c g 13 0 0 _ _ 0 [(0, .ref (b + 0)), (1, .int 3), (2, .int w1), (3, .int w2), (4, .int w3), (5, .int w4)] []
  refine z_aload_n B dX8_check_0 rfl 0 rfl ?_
  refine z_iload_n B dX8_check_1 rfl 1 rfl ?_
  refine z_cVq (As := [.int 3]) (rest := []) B cw_X8_64 cx_9 dX8_check_2 (ci_X8_programAt_220 l (σ := (ap b σ [] [] [])) (b := b) (lyA hK) (rR_at 0 0 hR_0_0) (rR_at 1 3 hR_1_3)) (lKA (hk_K hK 0 rfl rfl)) rfl (by decide) rfl (Nat.le_of_ble_eq_true rfl) (by decide) (fun r u hu => ?_)
  refine z_eqs (σ' := (ap b σ [] [] [])) hu.2 ?_
  show zx p l e _ s m _ below meth c g 13 0 0 _ _ 5 [(0, .ref (b + 0)), (1, .int 3), (2, .int w1), (3, .int w2), (4, .int w3), (5, .int w4)] _
  refine z_setr (y := (some (b + 21))) hu.1 ?_
  refine z_astore (lv' := [(6, .ref (b + 21)), (0, .ref (b + 0)), (1, .int 3), (2, .int w1), (3, .int w2), (4, .int w3), (5, .int w4)]) B dX8_check_5 (by decide) rfl ?_
  refine z_aload B dX8_check_7 0 rfl ?_
  refine z_ifnull (r := (some (b + 21))) (tgt := 21) B dX8_check_9 (by decide) (fun h => nomatch h) (fun _ _ => ?_)
  refine z_iload_n B dX8_check_12 rfl 3 rfl ?_
  refine z_bipush (v := 20) B dX8_check_13 (by decide) ?_
  refine z_cSi (As := [.int w1, .int 20]) (rest := []) B cw_X8_68 dX8_check_15 (ci_X8_isBelow_110 l (σ := (ap b σ [] [] [])) (b := b) (lyA hK) w1 q1_w1 q2_w1) rfl (by decide) rfl (Nat.le_of_ble_eq_true rfl) (by decide) (fun r u hu => ?_)
  refine z_eqs (σ' := (ap b σ [] [] [])) hu.2 ?_
  show zx p l e _ s m _ below meth c g 13 0 0 _ _ 18 [(6, .ref (b + 21)), (0, .ref (b + 0)), (1, .int 3), (2, .int w1), (3, .int w2), (4, .int w3), (5, .int w4)] _
  refine z_seti (y := 0) hu.1 ?_
  refine z_if_ne (tgt := 31) B dX8_check_18 (by decide) (fun h => absurd (by decide) h) (fun _ => ?_)
  exact z_throw B hlt hout (cls := "java/lang/IndexOutOfBoundsException") (text := "no such step") tw_X8_72_74_76 dX8_check_21 dX8_check_24 dX8_check_25 dX8_check_27 dX8_check_30 (by decide) (by decide) (by decide) (by decide) (by decide) (by decide) (fun z => ⟨z, rfl⟩)
set_option maxRecDepth 100000 in
set_option maxHeartbeats 4000000 in
theorem ci_L_check_548 (l : Launch) (hlt : l.stackTraces = false) {g : gx_T} {σ : sx_T} {b : Nat} (hK : lay b σ) (w1 : Int32) (w2 : Int32) (w3 : Int32) (w4 : Int32) (q1_w1 : (20 : Int) ≤ w1.toInt) (q2_w1 : w1.toInt ≤ (2147483647 : Int)) (hR_0_0 : sx_R σ (b + 0) 0 = (some (b + 1))) (hR_1_3 : sx_R σ (b + 1) 3 = (some (b + 21))) : Met l yL_check (.codeWith yL_check cL_check 8 (some .int) [(0, 16, 19, 13), (0, 16, 23, 15)] :: lw_g) { frames := 8, cells := 1, slots := 6, locals := 168 } (va_Pc [.ref (b + 0), .int 3, .int w1, .int w2, .int w3, .int w4, .ref (b + 431)] (zx_w g σ)) (va_Qi (fun r u => r = 1 ∧ ∃ z, u = (ap b (wx_Z σ z) [] [] [])) (zx_w g) (gx_Q g)) 1 6 (gx_Q g) := by
  refine z_metW (by decide) (Nat.le_of_ble_eq_true rfl) (fun p e s m below meth c B hr htab => ?_)
  refine z_eqs (σ' := (ap b σ [] [] [])) rfl ?_
  show zx p l e _ s m _ below meth c g 8 0 0 _ _ 0 [(0, .ref (b + 0)), (1, .int 3), (2, .int w1), (3, .int w2), (4, .int w3), (5, .int w4), (6, .ref (b + 431))] []
  refine z_aload B dL_check_0 6 rfl ?_
  refine z_iconst (v := 0) B dL_check_2 (by decide) ?_
  refine z_aload_n B dL_check_3 rfl 0 rfl ?_
  refine z_iload_n B dL_check_4 rfl 1 rfl ?_
  refine z_iload_n B dL_check_5 rfl 2 rfl ?_
  refine z_iload_n B dL_check_6 rfl 3 rfl ?_
  refine z_iload B dL_check_7 4 rfl ?_
  refine z_iload B dL_check_9 5 rfl ?_
  refine z_cXi (As := [.int 3, .int w1, .int w2, .int w3, .int w4]) (rest := [.int 0, .ref (b + 431)]) B htab tc_check_11_IndexOutOfBoundsException cw_L_17 cx_9 dL_check_11 (ci_X8_check_547 l hlt (σ := (ap b σ [] [] [])) (b := b) (lyA hK) w1 w2 w3 w4 q1_w1 q2_w1 (rR_at 0 0 hR_0_0) (rR_at 1 3 hR_1_3)) (lKA (hk_K hK 0 rfl rfl)) rfl (by decide) rfl (Nat.le_of_ble_eq_true rfl) (by decide) (fun z q => ?_)
  refine z_eqs (σ' := (ap b (wx_Z σ z) [] [] [])) rfl ?_
  show zx p l e _ s m _ below meth c g 8 _ _ _ _ 19 [(0, .ref (b + 0)), (1, .int 3), (2, .int w1), (3, .int w2), (4, .int w3), (5, .int w4), (6, .ref (b + 431))] _
  refine z_astore (lv' := [(7, .ref q), (0, .ref (b + 0)), (1, .int 3), (2, .int w1), (3, .int w2), (4, .int w3), (5, .int w4), (6, .ref (b + 431))]) B dL_check_19 (by decide) rfl ?_
  refine z_iconst (v := 1) B dL_check_21 (by decide) ?_
  exact z_iret B hr (by decide) (by decide) dL_check_22 ⟨rfl, _, rfl⟩
set_option maxRecDepth 100000 in
set_option maxHeartbeats 4000000 in
theorem ci_X9_check_549 (l : Launch) {g : gx_T} {σ : sx_T} {b : Nat} (hK : lay b σ) (w1 : Int32) (w2 : Int32) (w3 : Int32) (w4 : Int32) (q1_w1 : (20 : Int) ≤ w1.toInt) (q2_w1 : w1.toInt ≤ (2147483647 : Int)) (q1_w2 : (-2147483648 : Int) ≤ w2.toInt) (q2_w2 : w2.toInt ≤ (-1 : Int))  : Met l yX9_check (.code yX9_check cX9_check 11 (some .int) :: lw_g) { frames := 2, cells := 0, slots := 0, locals := 44 } (va_Pc [.ref (b + 405), .int 3, .int w1, .int w2, .int w3, .int w4] (zx_w g σ)) (va_Qi (fun r u => r = 0 ∧ u = (ap b σ [(405, 0, 1)] [] [])) (zx_w g) (gx_Q g)) 0 0 (gx_Q g) := by
  refine z_met (by decide) (Nat.le_of_ble_eq_true rfl) (fun p e s m below meth c B hr hin => ?_)
  refine z_eqs (σ' := (ap b σ [] [] [])) rfl ?_
  show zx p l e _ s m _ below meth c g 11 0 0 _ _ 0 [(0, .ref (b + 405)), (1, .int 3), (2, .int w1), (3, .int w2), (4, .int w3), (5, .int w4)] []
  refine z_aload_n B dX9_check_0 rfl 0 rfl ?_
  refine z_iload_n B dX9_check_1 rfl 1 rfl ?_
  refine z_iload_n B dX9_check_2 rfl 2 rfl ?_
  refine z_cSi (As := [.int 3, .int w1]) (rest := [.ref (b + 405)]) B cw_X9_238 dX9_check_3 (ci_X9_isStep_261 l (σ := (ap b σ [] [] [])) (b := b) (lyA hK) w1 q1_w1 q2_w1) rfl (by decide) rfl (Nat.le_of_ble_eq_true rfl) (by decide) (fun r u hu => ?_)
  refine z_eqs (σ' := (ap b σ [] [] [])) hu.2 ?_
  show zx p l e _ s m _ below meth c g 11 0 0 _ _ 6 [(0, .ref (b + 405)), (1, .int 3), (2, .int w1), (3, .int w2), (4, .int w3), (5, .int w4)] _
  refine z_seti (y := 0) hu.1 ?_
  refine z_iload_n B dX9_check_6 rfl 3 rfl ?_
  refine z_iload B dX9_check_7 4 rfl ?_
  refine z_iload B dX9_check_9 5 rfl ?_
  refine z_cSi (As := [.int w2, .int w3, .int w4]) (rest := [.int 0, .ref (b + 405)]) B cw_X9_242 dX9_check_11 (ci_X9_isOperation_28 l (σ := (ap b σ [] [] [])) (b := b) (lyA hK) w2 w3 w4 q1_w2 q2_w2) rfl (by decide) rfl (Nat.le_of_ble_eq_true rfl) (by decide) (fun r u hu => ?_)
  refine z_eqs (σ' := (ap b σ [] [] [])) hu.2 ?_
  show zx p l e _ s m _ below meth c g 11 0 0 _ _ 14 [(0, .ref (b + 405)), (1, .int 3), (2, .int w1), (3, .int w2), (4, .int w3), (5, .int w4)] _
  refine z_seti (y := 0) hu.1 ?_
  refine z_cVi (As := [.int 0, .int 0]) (rest := []) B cw_X9_245 cx_10 dX9_check_14 (ci_X9_needs__29 l (σ := (ap b σ [] [] [])) (b := b) (lyA hK) ) (lKA (hk_K hK 405 rfl rfl)) rfl (by decide) rfl (Nat.le_of_ble_eq_true rfl) (by decide) (fun r u hu => ?_)
  refine z_eqs (σ' := (ap b σ [(405, 0, 1)] [] [])) (hu.2.trans ap_ap) ?_
  show zx p l e _ s m _ below meth c g 11 0 0 _ _ 17 [(0, .ref (b + 405)), (1, .int 3), (2, .int w1), (3, .int w2), (4, .int w3), (5, .int w4)] _
  refine z_seti (y := 0) hu.1 ?_
  refine z_if_ne (tgt := 22) B dX9_check_17 (by decide) (fun h => absurd (by decide) h) (fun _ => ?_)
  refine z_iconst (v := 0) B dX9_check_20 (by decide) ?_
  exact z_iret B hr (by decide) (by decide) dX9_check_21 ⟨rfl, rfl⟩
set_option maxRecDepth 100000 in
set_option maxHeartbeats 4000000 in
theorem ci_X9_check_550 (l : Launch) {g : gx_T} {σ : sx_T} {b : Nat} (hK : lay b σ) (w1 : Int32) (w2 : Int32) (w3 : Int32) (w4 : Int32) (q1_w1 : (20 : Int) ≤ w1.toInt) (q2_w1 : w1.toInt ≤ (2147483647 : Int)) (q1_w2 : (0 : Int) ≤ w2.toInt) (q2_w2 : w2.toInt ≤ (17 : Int)) (q1_w3 : (-2147483648 : Int) ≤ w3.toInt) (q2_w3 : w3.toInt ≤ (-1 : Int))  : Met l yX9_check (.code yX9_check cX9_check 11 (some .int) :: lw_g) { frames := 2, cells := 0, slots := 0, locals := 44 } (va_Pc [.ref (b + 405), .int 3, .int w1, .int w2, .int w3, .int w4] (zx_w g σ)) (va_Qi (fun r u => r = 0 ∧ u = (ap b σ [(405, 0, 1)] [] [])) (zx_w g) (gx_Q g)) 0 0 (gx_Q g) := by
  refine z_met (by decide) (Nat.le_of_ble_eq_true rfl) (fun p e s m below meth c B hr hin => ?_)
  refine z_eqs (σ' := (ap b σ [] [] [])) rfl ?_
  show zx p l e _ s m _ below meth c g 11 0 0 _ _ 0 [(0, .ref (b + 405)), (1, .int 3), (2, .int w1), (3, .int w2), (4, .int w3), (5, .int w4)] []
  refine z_aload_n B dX9_check_0 rfl 0 rfl ?_
  refine z_iload_n B dX9_check_1 rfl 1 rfl ?_
  refine z_iload_n B dX9_check_2 rfl 2 rfl ?_
  refine z_cSi (As := [.int 3, .int w1]) (rest := [.ref (b + 405)]) B cw_X9_238 dX9_check_3 (ci_X9_isStep_261 l (σ := (ap b σ [] [] [])) (b := b) (lyA hK) w1 q1_w1 q2_w1) rfl (by decide) rfl (Nat.le_of_ble_eq_true rfl) (by decide) (fun r u hu => ?_)
  refine z_eqs (σ' := (ap b σ [] [] [])) hu.2 ?_
  show zx p l e _ s m _ below meth c g 11 0 0 _ _ 6 [(0, .ref (b + 405)), (1, .int 3), (2, .int w1), (3, .int w2), (4, .int w3), (5, .int w4)] _
  refine z_seti (y := 0) hu.1 ?_
  refine z_iload_n B dX9_check_6 rfl 3 rfl ?_
  refine z_iload B dX9_check_7 4 rfl ?_
  refine z_iload B dX9_check_9 5 rfl ?_
  refine z_cSi (As := [.int w2, .int w3, .int w4]) (rest := [.int 0, .ref (b + 405)]) B cw_X9_242 dX9_check_11 (ci_X9_isOperation_34 l (σ := (ap b σ [] [] [])) (b := b) (lyA hK) w2 w3 w4 q1_w2 q2_w2 q1_w3 q2_w3) rfl (by decide) rfl (Nat.le_of_ble_eq_true rfl) (by decide) (fun r u hu => ?_)
  refine z_eqs (σ' := (ap b σ [] [] [])) hu.2 ?_
  show zx p l e _ s m _ below meth c g 11 0 0 _ _ 14 [(0, .ref (b + 405)), (1, .int 3), (2, .int w1), (3, .int w2), (4, .int w3), (5, .int w4)] _
  refine z_seti (y := 0) hu.1 ?_
  refine z_cVi (As := [.int 0, .int 0]) (rest := []) B cw_X9_245 cx_10 dX9_check_14 (ci_X9_needs__29 l (σ := (ap b σ [] [] [])) (b := b) (lyA hK) ) (lKA (hk_K hK 405 rfl rfl)) rfl (by decide) rfl (Nat.le_of_ble_eq_true rfl) (by decide) (fun r u hu => ?_)
  refine z_eqs (σ' := (ap b σ [(405, 0, 1)] [] [])) (hu.2.trans ap_ap) ?_
  show zx p l e _ s m _ below meth c g 11 0 0 _ _ 17 [(0, .ref (b + 405)), (1, .int 3), (2, .int w1), (3, .int w2), (4, .int w3), (5, .int w4)] _
  refine z_seti (y := 0) hu.1 ?_
  refine z_if_ne (tgt := 22) B dX9_check_17 (by decide) (fun h => absurd (by decide) h) (fun _ => ?_)
  refine z_iconst (v := 0) B dX9_check_20 (by decide) ?_
  exact z_iret B hr (by decide) (by decide) dX9_check_21 ⟨rfl, rfl⟩
set_option maxRecDepth 100000 in
set_option maxHeartbeats 4000000 in
theorem ci_X9_check_551 (l : Launch) {g : gx_T} {σ : sx_T} {b : Nat} (hK : lay b σ) (w1 : Int32) (w2 : Int32) (w3 : Int32) (w4 : Int32) (q1_w1 : (20 : Int) ≤ w1.toInt) (q2_w1 : w1.toInt ≤ (2147483647 : Int)) (q1_w2 : (0 : Int) ≤ w2.toInt) (q2_w2 : w2.toInt ≤ (17 : Int)) (q1_w3 : (0 : Int) ≤ w3.toInt) (q2_w3 : w3.toInt ≤ (99 : Int)) (q1_w4 : (-2147483648 : Int) ≤ w4.toInt) (q2_w4 : w4.toInt ≤ (-1 : Int))  : Met l yX9_check (.code yX9_check cX9_check 11 (some .int) :: lw_g) { frames := 2, cells := 0, slots := 0, locals := 44 } (va_Pc [.ref (b + 405), .int 3, .int w1, .int w2, .int w3, .int w4] (zx_w g σ)) (va_Qi (fun r u => r = 0 ∧ u = (ap b σ [(405, 0, 1)] [] [])) (zx_w g) (gx_Q g)) 0 0 (gx_Q g) := by
  refine z_met (by decide) (Nat.le_of_ble_eq_true rfl) (fun p e s m below meth c B hr hin => ?_)
  refine z_eqs (σ' := (ap b σ [] [] [])) rfl ?_
  show zx p l e _ s m _ below meth c g 11 0 0 _ _ 0 [(0, .ref (b + 405)), (1, .int 3), (2, .int w1), (3, .int w2), (4, .int w3), (5, .int w4)] []
  refine z_aload_n B dX9_check_0 rfl 0 rfl ?_
  refine z_iload_n B dX9_check_1 rfl 1 rfl ?_
  refine z_iload_n B dX9_check_2 rfl 2 rfl ?_
  refine z_cSi (As := [.int 3, .int w1]) (rest := [.ref (b + 405)]) B cw_X9_238 dX9_check_3 (ci_X9_isStep_261 l (σ := (ap b σ [] [] [])) (b := b) (lyA hK) w1 q1_w1 q2_w1) rfl (by decide) rfl (Nat.le_of_ble_eq_true rfl) (by decide) (fun r u hu => ?_)
  refine z_eqs (σ' := (ap b σ [] [] [])) hu.2 ?_
  show zx p l e _ s m _ below meth c g 11 0 0 _ _ 6 [(0, .ref (b + 405)), (1, .int 3), (2, .int w1), (3, .int w2), (4, .int w3), (5, .int w4)] _
  refine z_seti (y := 0) hu.1 ?_
  refine z_iload_n B dX9_check_6 rfl 3 rfl ?_
  refine z_iload B dX9_check_7 4 rfl ?_
  refine z_iload B dX9_check_9 5 rfl ?_
  refine z_cSi (As := [.int w2, .int w3, .int w4]) (rest := [.int 0, .ref (b + 405)]) B cw_X9_242 dX9_check_11 (ci_X9_isOperation_37 l (σ := (ap b σ [] [] [])) (b := b) (lyA hK) w2 w3 w4 q1_w2 q2_w2 q1_w3 q2_w3 q1_w4 q2_w4) rfl (by decide) rfl (Nat.le_of_ble_eq_true rfl) (by decide) (fun r u hu => ?_)
  refine z_eqs (σ' := (ap b σ [] [] [])) hu.2 ?_
  show zx p l e _ s m _ below meth c g 11 0 0 _ _ 14 [(0, .ref (b + 405)), (1, .int 3), (2, .int w1), (3, .int w2), (4, .int w3), (5, .int w4)] _
  refine z_seti (y := 0) hu.1 ?_
  refine z_cVi (As := [.int 0, .int 0]) (rest := []) B cw_X9_245 cx_10 dX9_check_14 (ci_X9_needs__29 l (σ := (ap b σ [] [] [])) (b := b) (lyA hK) ) (lKA (hk_K hK 405 rfl rfl)) rfl (by decide) rfl (Nat.le_of_ble_eq_true rfl) (by decide) (fun r u hu => ?_)
  refine z_eqs (σ' := (ap b σ [(405, 0, 1)] [] [])) (hu.2.trans ap_ap) ?_
  show zx p l e _ s m _ below meth c g 11 0 0 _ _ 17 [(0, .ref (b + 405)), (1, .int 3), (2, .int w1), (3, .int w2), (4, .int w3), (5, .int w4)] _
  refine z_seti (y := 0) hu.1 ?_
  refine z_if_ne (tgt := 22) B dX9_check_17 (by decide) (fun h => absurd (by decide) h) (fun _ => ?_)
  refine z_iconst (v := 0) B dX9_check_20 (by decide) ?_
  exact z_iret B hr (by decide) (by decide) dX9_check_21 ⟨rfl, rfl⟩
set_option maxRecDepth 100000 in
set_option maxHeartbeats 4000000 in
theorem ci_X9_check_552 (l : Launch) {g : gx_T} {σ : sx_T} {b : Nat} (hK : lay b σ) (w1 : Int32) (w2 : Int32) (w3 : Int32) (w4 : Int32) (q1_w1 : (20 : Int) ≤ w1.toInt) (q2_w1 : w1.toInt ≤ (2147483647 : Int)) (q1_w2 : (0 : Int) ≤ w2.toInt) (q2_w2 : w2.toInt ≤ (17 : Int)) (q1_w3 : (0 : Int) ≤ w3.toInt) (q2_w3 : w3.toInt ≤ (99 : Int)) (q1_w4 : (0 : Int) ≤ w4.toInt) (q2_w4 : w4.toInt ≤ (99 : Int))  : Met l yX9_check (.code yX9_check cX9_check 11 (some .int) :: lw_g) { frames := 2, cells := 0, slots := 0, locals := 44 } (va_Pc [.ref (b + 405), .int 3, .int w1, .int w2, .int w3, .int w4] (zx_w g σ)) (va_Qi (fun r u => r = 0 ∧ u = (ap b σ [(405, 0, 1)] [] [])) (zx_w g) (gx_Q g)) 0 0 (gx_Q g) := by
  refine z_met (by decide) (Nat.le_of_ble_eq_true rfl) (fun p e s m below meth c B hr hin => ?_)
  refine z_eqs (σ' := (ap b σ [] [] [])) rfl ?_
  show zx p l e _ s m _ below meth c g 11 0 0 _ _ 0 [(0, .ref (b + 405)), (1, .int 3), (2, .int w1), (3, .int w2), (4, .int w3), (5, .int w4)] []
  refine z_aload_n B dX9_check_0 rfl 0 rfl ?_
  refine z_iload_n B dX9_check_1 rfl 1 rfl ?_
  refine z_iload_n B dX9_check_2 rfl 2 rfl ?_
  refine z_cSi (As := [.int 3, .int w1]) (rest := [.ref (b + 405)]) B cw_X9_238 dX9_check_3 (ci_X9_isStep_261 l (σ := (ap b σ [] [] [])) (b := b) (lyA hK) w1 q1_w1 q2_w1) rfl (by decide) rfl (Nat.le_of_ble_eq_true rfl) (by decide) (fun r u hu => ?_)
  refine z_eqs (σ' := (ap b σ [] [] [])) hu.2 ?_
  show zx p l e _ s m _ below meth c g 11 0 0 _ _ 6 [(0, .ref (b + 405)), (1, .int 3), (2, .int w1), (3, .int w2), (4, .int w3), (5, .int w4)] _
  refine z_seti (y := 0) hu.1 ?_
  refine z_iload_n B dX9_check_6 rfl 3 rfl ?_
  refine z_iload B dX9_check_7 4 rfl ?_
  refine z_iload B dX9_check_9 5 rfl ?_
  refine z_cSi (As := [.int w2, .int w3, .int w4]) (rest := [.int 0, .ref (b + 405)]) B cw_X9_242 dX9_check_11 (ci_X9_isOperation_39 l (σ := (ap b σ [] [] [])) (b := b) (lyA hK) w2 w3 w4 q1_w2 q2_w2 q1_w3 q2_w3 q1_w4 q2_w4) rfl (by decide) rfl (Nat.le_of_ble_eq_true rfl) (by decide) (fun r u hu => ?_)
  refine z_eqs (σ' := (ap b σ [] [] [])) hu.2 ?_
  show zx p l e _ s m _ below meth c g 11 0 0 _ _ 14 [(0, .ref (b + 405)), (1, .int 3), (2, .int w1), (3, .int w2), (4, .int w3), (5, .int w4)] _
  refine z_seti (y := 1) hu.1 ?_
  refine z_cVi (As := [.int 0, .int 1]) (rest := []) B cw_X9_245 cx_10 dX9_check_14 (ci_X9_needs__40 l (σ := (ap b σ [] [] [])) (b := b) (lyA hK) ) (lKA (hk_K hK 405 rfl rfl)) rfl (by decide) rfl (Nat.le_of_ble_eq_true rfl) (by decide) (fun r u hu => ?_)
  refine z_eqs (σ' := (ap b σ [(405, 0, 1)] [] [])) (hu.2.trans ap_ap) ?_
  show zx p l e _ s m _ below meth c g 11 0 0 _ _ 17 [(0, .ref (b + 405)), (1, .int 3), (2, .int w1), (3, .int w2), (4, .int w3), (5, .int w4)] _
  refine z_seti (y := 0) hu.1 ?_
  refine z_if_ne (tgt := 22) B dX9_check_17 (by decide) (fun h => absurd (by decide) h) (fun _ => ?_)
  refine z_iconst (v := 0) B dX9_check_20 (by decide) ?_
  exact z_iret B hr (by decide) (by decide) dX9_check_21 ⟨rfl, rfl⟩
set_option maxRecDepth 100000 in
set_option maxHeartbeats 4000000 in
theorem ci_X9_check_553 (l : Launch) {g : gx_T} {σ : sx_T} {b : Nat} (hK : lay b σ) (w1 : Int32) (w2 : Int32) (w3 : Int32) (w4 : Int32) (q1_w1 : (20 : Int) ≤ w1.toInt) (q2_w1 : w1.toInt ≤ (2147483647 : Int)) (q1_w2 : (0 : Int) ≤ w2.toInt) (q2_w2 : w2.toInt ≤ (17 : Int)) (q1_w3 : (0 : Int) ≤ w3.toInt) (q2_w3 : w3.toInt ≤ (99 : Int)) (q1_w4 : (100 : Int) ≤ w4.toInt) (q2_w4 : w4.toInt ≤ (2147483647 : Int))  : Met l yX9_check (.code yX9_check cX9_check 11 (some .int) :: lw_g) { frames := 2, cells := 0, slots := 0, locals := 44 } (va_Pc [.ref (b + 405), .int 3, .int w1, .int w2, .int w3, .int w4] (zx_w g σ)) (va_Qi (fun r u => r = 0 ∧ u = (ap b σ [(405, 0, 1)] [] [])) (zx_w g) (gx_Q g)) 0 0 (gx_Q g) := by
  refine z_met (by decide) (Nat.le_of_ble_eq_true rfl) (fun p e s m below meth c B hr hin => ?_)
  refine z_eqs (σ' := (ap b σ [] [] [])) rfl ?_
  show zx p l e _ s m _ below meth c g 11 0 0 _ _ 0 [(0, .ref (b + 405)), (1, .int 3), (2, .int w1), (3, .int w2), (4, .int w3), (5, .int w4)] []
  refine z_aload_n B dX9_check_0 rfl 0 rfl ?_
  refine z_iload_n B dX9_check_1 rfl 1 rfl ?_
  refine z_iload_n B dX9_check_2 rfl 2 rfl ?_
  refine z_cSi (As := [.int 3, .int w1]) (rest := [.ref (b + 405)]) B cw_X9_238 dX9_check_3 (ci_X9_isStep_261 l (σ := (ap b σ [] [] [])) (b := b) (lyA hK) w1 q1_w1 q2_w1) rfl (by decide) rfl (Nat.le_of_ble_eq_true rfl) (by decide) (fun r u hu => ?_)
  refine z_eqs (σ' := (ap b σ [] [] [])) hu.2 ?_
  show zx p l e _ s m _ below meth c g 11 0 0 _ _ 6 [(0, .ref (b + 405)), (1, .int 3), (2, .int w1), (3, .int w2), (4, .int w3), (5, .int w4)] _
  refine z_seti (y := 0) hu.1 ?_
  refine z_iload_n B dX9_check_6 rfl 3 rfl ?_
  refine z_iload B dX9_check_7 4 rfl ?_
  refine z_iload B dX9_check_9 5 rfl ?_
  refine z_cSi (As := [.int w2, .int w3, .int w4]) (rest := [.int 0, .ref (b + 405)]) B cw_X9_242 dX9_check_11 (ci_X9_isOperation_43 l (σ := (ap b σ [] [] [])) (b := b) (lyA hK) w2 w3 w4 q1_w2 q2_w2 q1_w3 q2_w3 q1_w4 q2_w4) rfl (by decide) rfl (Nat.le_of_ble_eq_true rfl) (by decide) (fun r u hu => ?_)
  refine z_eqs (σ' := (ap b σ [] [] [])) hu.2 ?_
  show zx p l e _ s m _ below meth c g 11 0 0 _ _ 14 [(0, .ref (b + 405)), (1, .int 3), (2, .int w1), (3, .int w2), (4, .int w3), (5, .int w4)] _
  refine z_seti (y := 0) hu.1 ?_
  refine z_cVi (As := [.int 0, .int 0]) (rest := []) B cw_X9_245 cx_10 dX9_check_14 (ci_X9_needs__29 l (σ := (ap b σ [] [] [])) (b := b) (lyA hK) ) (lKA (hk_K hK 405 rfl rfl)) rfl (by decide) rfl (Nat.le_of_ble_eq_true rfl) (by decide) (fun r u hu => ?_)
  refine z_eqs (σ' := (ap b σ [(405, 0, 1)] [] [])) (hu.2.trans ap_ap) ?_
  show zx p l e _ s m _ below meth c g 11 0 0 _ _ 17 [(0, .ref (b + 405)), (1, .int 3), (2, .int w1), (3, .int w2), (4, .int w3), (5, .int w4)] _
  refine z_seti (y := 0) hu.1 ?_
  refine z_if_ne (tgt := 22) B dX9_check_17 (by decide) (fun h => absurd (by decide) h) (fun _ => ?_)
  refine z_iconst (v := 0) B dX9_check_20 (by decide) ?_
  exact z_iret B hr (by decide) (by decide) dX9_check_21 ⟨rfl, rfl⟩
set_option maxRecDepth 100000 in
set_option maxHeartbeats 4000000 in
theorem ci_X9_check_554 (l : Launch) {g : gx_T} {σ : sx_T} {b : Nat} (hK : lay b σ) (w1 : Int32) (w2 : Int32) (w3 : Int32) (w4 : Int32) (q1_w1 : (20 : Int) ≤ w1.toInt) (q2_w1 : w1.toInt ≤ (2147483647 : Int)) (q1_w2 : (0 : Int) ≤ w2.toInt) (q2_w2 : w2.toInt ≤ (17 : Int)) (q1_w3 : (100 : Int) ≤ w3.toInt) (q2_w3 : w3.toInt ≤ (2147483647 : Int))  : Met l yX9_check (.code yX9_check cX9_check 11 (some .int) :: lw_g) { frames := 2, cells := 0, slots := 0, locals := 44 } (va_Pc [.ref (b + 405), .int 3, .int w1, .int w2, .int w3, .int w4] (zx_w g σ)) (va_Qi (fun r u => r = 0 ∧ u = (ap b σ [(405, 0, 1)] [] [])) (zx_w g) (gx_Q g)) 0 0 (gx_Q g) := by
  refine z_met (by decide) (Nat.le_of_ble_eq_true rfl) (fun p e s m below meth c B hr hin => ?_)
  refine z_eqs (σ' := (ap b σ [] [] [])) rfl ?_
  show zx p l e _ s m _ below meth c g 11 0 0 _ _ 0 [(0, .ref (b + 405)), (1, .int 3), (2, .int w1), (3, .int w2), (4, .int w3), (5, .int w4)] []
  refine z_aload_n B dX9_check_0 rfl 0 rfl ?_
  refine z_iload_n B dX9_check_1 rfl 1 rfl ?_
  refine z_iload_n B dX9_check_2 rfl 2 rfl ?_
  refine z_cSi (As := [.int 3, .int w1]) (rest := [.ref (b + 405)]) B cw_X9_238 dX9_check_3 (ci_X9_isStep_261 l (σ := (ap b σ [] [] [])) (b := b) (lyA hK) w1 q1_w1 q2_w1) rfl (by decide) rfl (Nat.le_of_ble_eq_true rfl) (by decide) (fun r u hu => ?_)
  refine z_eqs (σ' := (ap b σ [] [] [])) hu.2 ?_
  show zx p l e _ s m _ below meth c g 11 0 0 _ _ 6 [(0, .ref (b + 405)), (1, .int 3), (2, .int w1), (3, .int w2), (4, .int w3), (5, .int w4)] _
  refine z_seti (y := 0) hu.1 ?_
  refine z_iload_n B dX9_check_6 rfl 3 rfl ?_
  refine z_iload B dX9_check_7 4 rfl ?_
  refine z_iload B dX9_check_9 5 rfl ?_
  refine z_cSi (As := [.int w2, .int w3, .int w4]) (rest := [.int 0, .ref (b + 405)]) B cw_X9_242 dX9_check_11 (ci_X9_isOperation_45 l (σ := (ap b σ [] [] [])) (b := b) (lyA hK) w2 w3 w4 q1_w2 q2_w2 q1_w3 q2_w3) rfl (by decide) rfl (Nat.le_of_ble_eq_true rfl) (by decide) (fun r u hu => ?_)
  refine z_eqs (σ' := (ap b σ [] [] [])) hu.2 ?_
  show zx p l e _ s m _ below meth c g 11 0 0 _ _ 14 [(0, .ref (b + 405)), (1, .int 3), (2, .int w1), (3, .int w2), (4, .int w3), (5, .int w4)] _
  refine z_seti (y := 0) hu.1 ?_
  refine z_cVi (As := [.int 0, .int 0]) (rest := []) B cw_X9_245 cx_10 dX9_check_14 (ci_X9_needs__29 l (σ := (ap b σ [] [] [])) (b := b) (lyA hK) ) (lKA (hk_K hK 405 rfl rfl)) rfl (by decide) rfl (Nat.le_of_ble_eq_true rfl) (by decide) (fun r u hu => ?_)
  refine z_eqs (σ' := (ap b σ [(405, 0, 1)] [] [])) (hu.2.trans ap_ap) ?_
  show zx p l e _ s m _ below meth c g 11 0 0 _ _ 17 [(0, .ref (b + 405)), (1, .int 3), (2, .int w1), (3, .int w2), (4, .int w3), (5, .int w4)] _
  refine z_seti (y := 0) hu.1 ?_
  refine z_if_ne (tgt := 22) B dX9_check_17 (by decide) (fun h => absurd (by decide) h) (fun _ => ?_)
  refine z_iconst (v := 0) B dX9_check_20 (by decide) ?_
  exact z_iret B hr (by decide) (by decide) dX9_check_21 ⟨rfl, rfl⟩
set_option maxRecDepth 100000 in
set_option maxHeartbeats 4000000 in
theorem ci_X9_check_555 (l : Launch) {g : gx_T} {σ : sx_T} {b : Nat} (hK : lay b σ) (w1 : Int32) (w2 : Int32) (w3 : Int32) (w4 : Int32) (q1_w1 : (20 : Int) ≤ w1.toInt) (q2_w1 : w1.toInt ≤ (2147483647 : Int)) (q1_w2 : (18 : Int) ≤ w2.toInt) (q2_w2 : w2.toInt ≤ (2147483647 : Int))  : Met l yX9_check (.code yX9_check cX9_check 11 (some .int) :: lw_g) { frames := 2, cells := 0, slots := 0, locals := 44 } (va_Pc [.ref (b + 405), .int 3, .int w1, .int w2, .int w3, .int w4] (zx_w g σ)) (va_Qi (fun r u => r = 0 ∧ u = (ap b σ [(405, 0, 1)] [] [])) (zx_w g) (gx_Q g)) 0 0 (gx_Q g) := by
  refine z_met (by decide) (Nat.le_of_ble_eq_true rfl) (fun p e s m below meth c B hr hin => ?_)
  refine z_eqs (σ' := (ap b σ [] [] [])) rfl ?_
  show zx p l e _ s m _ below meth c g 11 0 0 _ _ 0 [(0, .ref (b + 405)), (1, .int 3), (2, .int w1), (3, .int w2), (4, .int w3), (5, .int w4)] []
  refine z_aload_n B dX9_check_0 rfl 0 rfl ?_
  refine z_iload_n B dX9_check_1 rfl 1 rfl ?_
  refine z_iload_n B dX9_check_2 rfl 2 rfl ?_
  refine z_cSi (As := [.int 3, .int w1]) (rest := [.ref (b + 405)]) B cw_X9_238 dX9_check_3 (ci_X9_isStep_261 l (σ := (ap b σ [] [] [])) (b := b) (lyA hK) w1 q1_w1 q2_w1) rfl (by decide) rfl (Nat.le_of_ble_eq_true rfl) (by decide) (fun r u hu => ?_)
  refine z_eqs (σ' := (ap b σ [] [] [])) hu.2 ?_
  show zx p l e _ s m _ below meth c g 11 0 0 _ _ 6 [(0, .ref (b + 405)), (1, .int 3), (2, .int w1), (3, .int w2), (4, .int w3), (5, .int w4)] _
  refine z_seti (y := 0) hu.1 ?_
  refine z_iload_n B dX9_check_6 rfl 3 rfl ?_
  refine z_iload B dX9_check_7 4 rfl ?_
  refine z_iload B dX9_check_9 5 rfl ?_
  refine z_cSi (As := [.int w2, .int w3, .int w4]) (rest := [.int 0, .ref (b + 405)]) B cw_X9_242 dX9_check_11 (ci_X9_isOperation_48 l (σ := (ap b σ [] [] [])) (b := b) (lyA hK) w2 w3 w4 q1_w2 q2_w2) rfl (by decide) rfl (Nat.le_of_ble_eq_true rfl) (by decide) (fun r u hu => ?_)
  refine z_eqs (σ' := (ap b σ [] [] [])) hu.2 ?_
  show zx p l e _ s m _ below meth c g 11 0 0 _ _ 14 [(0, .ref (b + 405)), (1, .int 3), (2, .int w1), (3, .int w2), (4, .int w3), (5, .int w4)] _
  refine z_seti (y := 0) hu.1 ?_
  refine z_cVi (As := [.int 0, .int 0]) (rest := []) B cw_X9_245 cx_10 dX9_check_14 (ci_X9_needs__29 l (σ := (ap b σ [] [] [])) (b := b) (lyA hK) ) (lKA (hk_K hK 405 rfl rfl)) rfl (by decide) rfl (Nat.le_of_ble_eq_true rfl) (by decide) (fun r u hu => ?_)
  refine z_eqs (σ' := (ap b σ [(405, 0, 1)] [] [])) (hu.2.trans ap_ap) ?_
  show zx p l e _ s m _ below meth c g 11 0 0 _ _ 17 [(0, .ref (b + 405)), (1, .int 3), (2, .int w1), (3, .int w2), (4, .int w3), (5, .int w4)] _
  refine z_seti (y := 0) hu.1 ?_
  refine z_if_ne (tgt := 22) B dX9_check_17 (by decide) (fun h => absurd (by decide) h) (fun _ => ?_)
  refine z_iconst (v := 0) B dX9_check_20 (by decide) ?_
  exact z_iret B hr (by decide) (by decide) dX9_check_21 ⟨rfl, rfl⟩
set_option maxRecDepth 100000 in
set_option maxHeartbeats 4000000 in
theorem ci_X8_check_556 (l : Launch) (hlt : l.stackTraces = false) {g : gx_T} {σ : sx_T} {b : Nat} (hK : lay b σ) (w1 : Int32) (w2 : Int32) (w3 : Int32) (w4 : Int32) (q1_w1 : (-2147483648 : Int) ≤ w1.toInt) (q2_w1 : w1.toInt ≤ (-1 : Int)) (hR_0_0 : sx_R σ (b + 0) 0 = (some (b + 1))) (hR_1_4 : sx_R σ (b + 1) 4 = (some (b + 25))) : vx_Met l yX8_check (.code yX8_check cX8_check 13 (some .int) :: lw_g) { frames := 7, cells := 1, slots := 6, locals := 136 } (va_Pc [.ref (b + 0), .int 4, .int w1, .int w2, .int w3, .int w4] (zx_w g σ)) (va_Qi (S := sx_T) (fun _ _ => False) (zx_w g) (gx_Q g)) (vx_X (fun u : sx_T => ∃ z, u = wx_Z σ z) (fun E u t => E = "java/lang/IndexOutOfBoundsException" ∧ zx_h g u t.heap) (gx_Q g)) 1 6 (gx_Q g) := by
  refine z_metX (by decide) (Nat.le_of_ble_eq_true rfl) (fun p e s m below meth c B hr hin hout => ?_)
  refine z_eqs (σ' := (ap b σ [] [] [])) rfl ?_
  show zx p l e _ s m _ below meth c g 13 0 0 _ _ 0 [(0, .ref (b + 0)), (1, .int 4), (2, .int w1), (3, .int w2), (4, .int w3), (5, .int w4)] []
  refine z_aload_n B dX8_check_0 rfl 0 rfl ?_
  refine z_iload_n B dX8_check_1 rfl 1 rfl ?_
  refine z_cVq (As := [.int 4]) (rest := []) B cw_X8_64 cx_9 dX8_check_2 (ci_X8_programAt_269 l (σ := (ap b σ [] [] [])) (b := b) (lyA hK) (rR_at 0 0 hR_0_0) (rR_at 1 4 hR_1_4)) (lKA (hk_K hK 0 rfl rfl)) rfl (by decide) rfl (Nat.le_of_ble_eq_true rfl) (by decide) (fun r u hu => ?_)
  refine z_eqs (σ' := (ap b σ [] [] [])) hu.2 ?_
  show zx p l e _ s m _ below meth c g 13 0 0 _ _ 5 [(0, .ref (b + 0)), (1, .int 4), (2, .int w1), (3, .int w2), (4, .int w3), (5, .int w4)] _
  refine z_setr (y := (some (b + 25))) hu.1 ?_
  refine z_astore (lv' := [(6, .ref (b + 25)), (0, .ref (b + 0)), (1, .int 4), (2, .int w1), (3, .int w2), (4, .int w3), (5, .int w4)]) B dX8_check_5 (by decide) rfl ?_
  refine z_aload B dX8_check_7 0 rfl ?_
  refine z_ifnull (r := (some (b + 25))) (tgt := 21) B dX8_check_9 (by decide) (fun h => nomatch h) (fun _ _ => ?_)
  refine z_iload_n B dX8_check_12 rfl 3 rfl ?_
  refine z_bipush (v := 20) B dX8_check_13 (by decide) ?_
  refine z_cSi (As := [.int w1, .int 20]) (rest := []) B cw_X8_68 dX8_check_15 (ci_X8_isBelow_51 l (σ := (ap b σ [] [] [])) (b := b) (lyA hK) w1 q1_w1 q2_w1) rfl (by decide) rfl (Nat.le_of_ble_eq_true rfl) (by decide) (fun r u hu => ?_)
  refine z_eqs (σ' := (ap b σ [] [] [])) hu.2 ?_
  show zx p l e _ s m _ below meth c g 13 0 0 _ _ 18 [(6, .ref (b + 25)), (0, .ref (b + 0)), (1, .int 4), (2, .int w1), (3, .int w2), (4, .int w3), (5, .int w4)] _
  refine z_seti (y := 0) hu.1 ?_
  refine z_if_ne (tgt := 31) B dX8_check_18 (by decide) (fun h => absurd (by decide) h) (fun _ => ?_)
  exact z_throw B hlt hout (cls := "java/lang/IndexOutOfBoundsException") (text := "no such step") tw_X8_72_74_76 dX8_check_21 dX8_check_24 dX8_check_25 dX8_check_27 dX8_check_30 (by decide) (by decide) (by decide) (by decide) (by decide) (by decide) (fun z => ⟨z, rfl⟩)
set_option maxRecDepth 100000 in
set_option maxHeartbeats 4000000 in
theorem ci_L_check_557 (l : Launch) (hlt : l.stackTraces = false) {g : gx_T} {σ : sx_T} {b : Nat} (hK : lay b σ) (w1 : Int32) (w2 : Int32) (w3 : Int32) (w4 : Int32) (q1_w1 : (-2147483648 : Int) ≤ w1.toInt) (q2_w1 : w1.toInt ≤ (-1 : Int)) (hR_0_0 : sx_R σ (b + 0) 0 = (some (b + 1))) (hR_1_4 : sx_R σ (b + 1) 4 = (some (b + 25))) : Met l yL_check (.codeWith yL_check cL_check 8 (some .int) [(0, 16, 19, 13), (0, 16, 23, 15)] :: lw_g) { frames := 8, cells := 1, slots := 6, locals := 168 } (va_Pc [.ref (b + 0), .int 4, .int w1, .int w2, .int w3, .int w4, .ref (b + 431)] (zx_w g σ)) (va_Qi (fun r u => r = 1 ∧ ∃ z, u = (ap b (wx_Z σ z) [] [] [])) (zx_w g) (gx_Q g)) 1 6 (gx_Q g) := by
  refine z_metW (by decide) (Nat.le_of_ble_eq_true rfl) (fun p e s m below meth c B hr htab => ?_)
  refine z_eqs (σ' := (ap b σ [] [] [])) rfl ?_
  show zx p l e _ s m _ below meth c g 8 0 0 _ _ 0 [(0, .ref (b + 0)), (1, .int 4), (2, .int w1), (3, .int w2), (4, .int w3), (5, .int w4), (6, .ref (b + 431))] []
  refine z_aload B dL_check_0 6 rfl ?_
  refine z_iconst (v := 0) B dL_check_2 (by decide) ?_
  refine z_aload_n B dL_check_3 rfl 0 rfl ?_
  refine z_iload_n B dL_check_4 rfl 1 rfl ?_
  refine z_iload_n B dL_check_5 rfl 2 rfl ?_
  refine z_iload_n B dL_check_6 rfl 3 rfl ?_
  refine z_iload B dL_check_7 4 rfl ?_
  refine z_iload B dL_check_9 5 rfl ?_
  refine z_cXi (As := [.int 4, .int w1, .int w2, .int w3, .int w4]) (rest := [.int 0, .ref (b + 431)]) B htab tc_check_11_IndexOutOfBoundsException cw_L_17 cx_9 dL_check_11 (ci_X8_check_556 l hlt (σ := (ap b σ [] [] [])) (b := b) (lyA hK) w1 w2 w3 w4 q1_w1 q2_w1 (rR_at 0 0 hR_0_0) (rR_at 1 4 hR_1_4)) (lKA (hk_K hK 0 rfl rfl)) rfl (by decide) rfl (Nat.le_of_ble_eq_true rfl) (by decide) (fun z q => ?_)
  refine z_eqs (σ' := (ap b (wx_Z σ z) [] [] [])) rfl ?_
  show zx p l e _ s m _ below meth c g 8 _ _ _ _ 19 [(0, .ref (b + 0)), (1, .int 4), (2, .int w1), (3, .int w2), (4, .int w3), (5, .int w4), (6, .ref (b + 431))] _
  refine z_astore (lv' := [(7, .ref q), (0, .ref (b + 0)), (1, .int 4), (2, .int w1), (3, .int w2), (4, .int w3), (5, .int w4), (6, .ref (b + 431))]) B dL_check_19 (by decide) rfl ?_
  refine z_iconst (v := 1) B dL_check_21 (by decide) ?_
  exact z_iret B hr (by decide) (by decide) dL_check_22 ⟨rfl, _, rfl⟩
set_option maxRecDepth 100000 in
set_option maxHeartbeats 4000000 in
theorem ci_X9_check_558 (l : Launch) {g : gx_T} {σ : sx_T} {b : Nat} (hK : lay b σ) (w1 : Int32) (w2 : Int32) (w3 : Int32) (w4 : Int32) (q1_w1 : (-2147483648 : Int) ≤ w1.toInt) (q2_w1 : w1.toInt ≤ (-1 : Int)) (q1_w2 : (-2147483648 : Int) ≤ w2.toInt) (q2_w2 : w2.toInt ≤ (-1 : Int))  : Met l yX9_check (.code yX9_check cX9_check 11 (some .int) :: lw_g) { frames := 2, cells := 0, slots := 0, locals := 44 } (va_Pc [.ref (b + 405), .int 4, .int w1, .int w2, .int w3, .int w4] (zx_w g σ)) (va_Qi (fun r u => r = 0 ∧ u = (ap b σ [(405, 0, 1)] [] [])) (zx_w g) (gx_Q g)) 0 0 (gx_Q g) := by
  refine z_met (by decide) (Nat.le_of_ble_eq_true rfl) (fun p e s m below meth c B hr hin => ?_)
  refine z_eqs (σ' := (ap b σ [] [] [])) rfl ?_
  show zx p l e _ s m _ below meth c g 11 0 0 _ _ 0 [(0, .ref (b + 405)), (1, .int 4), (2, .int w1), (3, .int w2), (4, .int w3), (5, .int w4)] []
  refine z_aload_n B dX9_check_0 rfl 0 rfl ?_
  refine z_iload_n B dX9_check_1 rfl 1 rfl ?_
  refine z_iload_n B dX9_check_2 rfl 2 rfl ?_
  refine z_cSi (As := [.int 4, .int w1]) (rest := [.ref (b + 405)]) B cw_X9_238 dX9_check_3 (ci_X9_isStep_273 l (σ := (ap b σ [] [] [])) (b := b) (lyA hK) w1 q1_w1 q2_w1) rfl (by decide) rfl (Nat.le_of_ble_eq_true rfl) (by decide) (fun r u hu => ?_)
  refine z_eqs (σ' := (ap b σ [] [] [])) hu.2 ?_
  show zx p l e _ s m _ below meth c g 11 0 0 _ _ 6 [(0, .ref (b + 405)), (1, .int 4), (2, .int w1), (3, .int w2), (4, .int w3), (5, .int w4)] _
  refine z_seti (y := 0) hu.1 ?_
  refine z_iload_n B dX9_check_6 rfl 3 rfl ?_
  refine z_iload B dX9_check_7 4 rfl ?_
  refine z_iload B dX9_check_9 5 rfl ?_
  refine z_cSi (As := [.int w2, .int w3, .int w4]) (rest := [.int 0, .ref (b + 405)]) B cw_X9_242 dX9_check_11 (ci_X9_isOperation_28 l (σ := (ap b σ [] [] [])) (b := b) (lyA hK) w2 w3 w4 q1_w2 q2_w2) rfl (by decide) rfl (Nat.le_of_ble_eq_true rfl) (by decide) (fun r u hu => ?_)
  refine z_eqs (σ' := (ap b σ [] [] [])) hu.2 ?_
  show zx p l e _ s m _ below meth c g 11 0 0 _ _ 14 [(0, .ref (b + 405)), (1, .int 4), (2, .int w1), (3, .int w2), (4, .int w3), (5, .int w4)] _
  refine z_seti (y := 0) hu.1 ?_
  refine z_cVi (As := [.int 0, .int 0]) (rest := []) B cw_X9_245 cx_10 dX9_check_14 (ci_X9_needs__29 l (σ := (ap b σ [] [] [])) (b := b) (lyA hK) ) (lKA (hk_K hK 405 rfl rfl)) rfl (by decide) rfl (Nat.le_of_ble_eq_true rfl) (by decide) (fun r u hu => ?_)
  refine z_eqs (σ' := (ap b σ [(405, 0, 1)] [] [])) (hu.2.trans ap_ap) ?_
  show zx p l e _ s m _ below meth c g 11 0 0 _ _ 17 [(0, .ref (b + 405)), (1, .int 4), (2, .int w1), (3, .int w2), (4, .int w3), (5, .int w4)] _
  refine z_seti (y := 0) hu.1 ?_
  refine z_if_ne (tgt := 22) B dX9_check_17 (by decide) (fun h => absurd (by decide) h) (fun _ => ?_)
  refine z_iconst (v := 0) B dX9_check_20 (by decide) ?_
  exact z_iret B hr (by decide) (by decide) dX9_check_21 ⟨rfl, rfl⟩
set_option maxRecDepth 100000 in
set_option maxHeartbeats 4000000 in
theorem ci_X9_check_559 (l : Launch) {g : gx_T} {σ : sx_T} {b : Nat} (hK : lay b σ) (w1 : Int32) (w2 : Int32) (w3 : Int32) (w4 : Int32) (q1_w1 : (-2147483648 : Int) ≤ w1.toInt) (q2_w1 : w1.toInt ≤ (-1 : Int)) (q1_w2 : (0 : Int) ≤ w2.toInt) (q2_w2 : w2.toInt ≤ (17 : Int)) (q1_w3 : (-2147483648 : Int) ≤ w3.toInt) (q2_w3 : w3.toInt ≤ (-1 : Int))  : Met l yX9_check (.code yX9_check cX9_check 11 (some .int) :: lw_g) { frames := 2, cells := 0, slots := 0, locals := 44 } (va_Pc [.ref (b + 405), .int 4, .int w1, .int w2, .int w3, .int w4] (zx_w g σ)) (va_Qi (fun r u => r = 0 ∧ u = (ap b σ [(405, 0, 1)] [] [])) (zx_w g) (gx_Q g)) 0 0 (gx_Q g) := by
  refine z_met (by decide) (Nat.le_of_ble_eq_true rfl) (fun p e s m below meth c B hr hin => ?_)
  refine z_eqs (σ' := (ap b σ [] [] [])) rfl ?_
  show zx p l e _ s m _ below meth c g 11 0 0 _ _ 0 [(0, .ref (b + 405)), (1, .int 4), (2, .int w1), (3, .int w2), (4, .int w3), (5, .int w4)] []
  refine z_aload_n B dX9_check_0 rfl 0 rfl ?_
  refine z_iload_n B dX9_check_1 rfl 1 rfl ?_
  refine z_iload_n B dX9_check_2 rfl 2 rfl ?_
  refine z_cSi (As := [.int 4, .int w1]) (rest := [.ref (b + 405)]) B cw_X9_238 dX9_check_3 (ci_X9_isStep_273 l (σ := (ap b σ [] [] [])) (b := b) (lyA hK) w1 q1_w1 q2_w1) rfl (by decide) rfl (Nat.le_of_ble_eq_true rfl) (by decide) (fun r u hu => ?_)
  refine z_eqs (σ' := (ap b σ [] [] [])) hu.2 ?_
  show zx p l e _ s m _ below meth c g 11 0 0 _ _ 6 [(0, .ref (b + 405)), (1, .int 4), (2, .int w1), (3, .int w2), (4, .int w3), (5, .int w4)] _
  refine z_seti (y := 0) hu.1 ?_
  refine z_iload_n B dX9_check_6 rfl 3 rfl ?_
  refine z_iload B dX9_check_7 4 rfl ?_
  refine z_iload B dX9_check_9 5 rfl ?_
  refine z_cSi (As := [.int w2, .int w3, .int w4]) (rest := [.int 0, .ref (b + 405)]) B cw_X9_242 dX9_check_11 (ci_X9_isOperation_34 l (σ := (ap b σ [] [] [])) (b := b) (lyA hK) w2 w3 w4 q1_w2 q2_w2 q1_w3 q2_w3) rfl (by decide) rfl (Nat.le_of_ble_eq_true rfl) (by decide) (fun r u hu => ?_)
  refine z_eqs (σ' := (ap b σ [] [] [])) hu.2 ?_
  show zx p l e _ s m _ below meth c g 11 0 0 _ _ 14 [(0, .ref (b + 405)), (1, .int 4), (2, .int w1), (3, .int w2), (4, .int w3), (5, .int w4)] _
  refine z_seti (y := 0) hu.1 ?_
  refine z_cVi (As := [.int 0, .int 0]) (rest := []) B cw_X9_245 cx_10 dX9_check_14 (ci_X9_needs__29 l (σ := (ap b σ [] [] [])) (b := b) (lyA hK) ) (lKA (hk_K hK 405 rfl rfl)) rfl (by decide) rfl (Nat.le_of_ble_eq_true rfl) (by decide) (fun r u hu => ?_)
  refine z_eqs (σ' := (ap b σ [(405, 0, 1)] [] [])) (hu.2.trans ap_ap) ?_
  show zx p l e _ s m _ below meth c g 11 0 0 _ _ 17 [(0, .ref (b + 405)), (1, .int 4), (2, .int w1), (3, .int w2), (4, .int w3), (5, .int w4)] _
  refine z_seti (y := 0) hu.1 ?_
  refine z_if_ne (tgt := 22) B dX9_check_17 (by decide) (fun h => absurd (by decide) h) (fun _ => ?_)
  refine z_iconst (v := 0) B dX9_check_20 (by decide) ?_
  exact z_iret B hr (by decide) (by decide) dX9_check_21 ⟨rfl, rfl⟩
set_option maxRecDepth 100000 in
set_option maxHeartbeats 4000000 in
theorem ci_X9_check_560 (l : Launch) {g : gx_T} {σ : sx_T} {b : Nat} (hK : lay b σ) (w1 : Int32) (w2 : Int32) (w3 : Int32) (w4 : Int32) (q1_w1 : (-2147483648 : Int) ≤ w1.toInt) (q2_w1 : w1.toInt ≤ (-1 : Int)) (q1_w2 : (0 : Int) ≤ w2.toInt) (q2_w2 : w2.toInt ≤ (17 : Int)) (q1_w3 : (0 : Int) ≤ w3.toInt) (q2_w3 : w3.toInt ≤ (99 : Int)) (q1_w4 : (-2147483648 : Int) ≤ w4.toInt) (q2_w4 : w4.toInt ≤ (-1 : Int))  : Met l yX9_check (.code yX9_check cX9_check 11 (some .int) :: lw_g) { frames := 2, cells := 0, slots := 0, locals := 44 } (va_Pc [.ref (b + 405), .int 4, .int w1, .int w2, .int w3, .int w4] (zx_w g σ)) (va_Qi (fun r u => r = 0 ∧ u = (ap b σ [(405, 0, 1)] [] [])) (zx_w g) (gx_Q g)) 0 0 (gx_Q g) := by
  refine z_met (by decide) (Nat.le_of_ble_eq_true rfl) (fun p e s m below meth c B hr hin => ?_)
  refine z_eqs (σ' := (ap b σ [] [] [])) rfl ?_
  show zx p l e _ s m _ below meth c g 11 0 0 _ _ 0 [(0, .ref (b + 405)), (1, .int 4), (2, .int w1), (3, .int w2), (4, .int w3), (5, .int w4)] []
  refine z_aload_n B dX9_check_0 rfl 0 rfl ?_
  refine z_iload_n B dX9_check_1 rfl 1 rfl ?_
  refine z_iload_n B dX9_check_2 rfl 2 rfl ?_
  refine z_cSi (As := [.int 4, .int w1]) (rest := [.ref (b + 405)]) B cw_X9_238 dX9_check_3 (ci_X9_isStep_273 l (σ := (ap b σ [] [] [])) (b := b) (lyA hK) w1 q1_w1 q2_w1) rfl (by decide) rfl (Nat.le_of_ble_eq_true rfl) (by decide) (fun r u hu => ?_)
  refine z_eqs (σ' := (ap b σ [] [] [])) hu.2 ?_
  show zx p l e _ s m _ below meth c g 11 0 0 _ _ 6 [(0, .ref (b + 405)), (1, .int 4), (2, .int w1), (3, .int w2), (4, .int w3), (5, .int w4)] _
  refine z_seti (y := 0) hu.1 ?_
  refine z_iload_n B dX9_check_6 rfl 3 rfl ?_
  refine z_iload B dX9_check_7 4 rfl ?_
  refine z_iload B dX9_check_9 5 rfl ?_
  refine z_cSi (As := [.int w2, .int w3, .int w4]) (rest := [.int 0, .ref (b + 405)]) B cw_X9_242 dX9_check_11 (ci_X9_isOperation_37 l (σ := (ap b σ [] [] [])) (b := b) (lyA hK) w2 w3 w4 q1_w2 q2_w2 q1_w3 q2_w3 q1_w4 q2_w4) rfl (by decide) rfl (Nat.le_of_ble_eq_true rfl) (by decide) (fun r u hu => ?_)
  refine z_eqs (σ' := (ap b σ [] [] [])) hu.2 ?_
  show zx p l e _ s m _ below meth c g 11 0 0 _ _ 14 [(0, .ref (b + 405)), (1, .int 4), (2, .int w1), (3, .int w2), (4, .int w3), (5, .int w4)] _
  refine z_seti (y := 0) hu.1 ?_
  refine z_cVi (As := [.int 0, .int 0]) (rest := []) B cw_X9_245 cx_10 dX9_check_14 (ci_X9_needs__29 l (σ := (ap b σ [] [] [])) (b := b) (lyA hK) ) (lKA (hk_K hK 405 rfl rfl)) rfl (by decide) rfl (Nat.le_of_ble_eq_true rfl) (by decide) (fun r u hu => ?_)
  refine z_eqs (σ' := (ap b σ [(405, 0, 1)] [] [])) (hu.2.trans ap_ap) ?_
  show zx p l e _ s m _ below meth c g 11 0 0 _ _ 17 [(0, .ref (b + 405)), (1, .int 4), (2, .int w1), (3, .int w2), (4, .int w3), (5, .int w4)] _
  refine z_seti (y := 0) hu.1 ?_
  refine z_if_ne (tgt := 22) B dX9_check_17 (by decide) (fun h => absurd (by decide) h) (fun _ => ?_)
  refine z_iconst (v := 0) B dX9_check_20 (by decide) ?_
  exact z_iret B hr (by decide) (by decide) dX9_check_21 ⟨rfl, rfl⟩
set_option maxRecDepth 100000 in
set_option maxHeartbeats 4000000 in
theorem ci_X9_check_561 (l : Launch) {g : gx_T} {σ : sx_T} {b : Nat} (hK : lay b σ) (w1 : Int32) (w2 : Int32) (w3 : Int32) (w4 : Int32) (q1_w1 : (-2147483648 : Int) ≤ w1.toInt) (q2_w1 : w1.toInt ≤ (-1 : Int)) (q1_w2 : (0 : Int) ≤ w2.toInt) (q2_w2 : w2.toInt ≤ (17 : Int)) (q1_w3 : (0 : Int) ≤ w3.toInt) (q2_w3 : w3.toInt ≤ (99 : Int)) (q1_w4 : (0 : Int) ≤ w4.toInt) (q2_w4 : w4.toInt ≤ (99 : Int))  : Met l yX9_check (.code yX9_check cX9_check 11 (some .int) :: lw_g) { frames := 2, cells := 0, slots := 0, locals := 44 } (va_Pc [.ref (b + 405), .int 4, .int w1, .int w2, .int w3, .int w4] (zx_w g σ)) (va_Qi (fun r u => r = 0 ∧ u = (ap b σ [(405, 0, 1)] [] [])) (zx_w g) (gx_Q g)) 0 0 (gx_Q g) := by
  refine z_met (by decide) (Nat.le_of_ble_eq_true rfl) (fun p e s m below meth c B hr hin => ?_)
  refine z_eqs (σ' := (ap b σ [] [] [])) rfl ?_
  show zx p l e _ s m _ below meth c g 11 0 0 _ _ 0 [(0, .ref (b + 405)), (1, .int 4), (2, .int w1), (3, .int w2), (4, .int w3), (5, .int w4)] []
  refine z_aload_n B dX9_check_0 rfl 0 rfl ?_
  refine z_iload_n B dX9_check_1 rfl 1 rfl ?_
  refine z_iload_n B dX9_check_2 rfl 2 rfl ?_
  refine z_cSi (As := [.int 4, .int w1]) (rest := [.ref (b + 405)]) B cw_X9_238 dX9_check_3 (ci_X9_isStep_273 l (σ := (ap b σ [] [] [])) (b := b) (lyA hK) w1 q1_w1 q2_w1) rfl (by decide) rfl (Nat.le_of_ble_eq_true rfl) (by decide) (fun r u hu => ?_)
  refine z_eqs (σ' := (ap b σ [] [] [])) hu.2 ?_
  show zx p l e _ s m _ below meth c g 11 0 0 _ _ 6 [(0, .ref (b + 405)), (1, .int 4), (2, .int w1), (3, .int w2), (4, .int w3), (5, .int w4)] _
  refine z_seti (y := 0) hu.1 ?_
  refine z_iload_n B dX9_check_6 rfl 3 rfl ?_
  refine z_iload B dX9_check_7 4 rfl ?_
  refine z_iload B dX9_check_9 5 rfl ?_
  refine z_cSi (As := [.int w2, .int w3, .int w4]) (rest := [.int 0, .ref (b + 405)]) B cw_X9_242 dX9_check_11 (ci_X9_isOperation_39 l (σ := (ap b σ [] [] [])) (b := b) (lyA hK) w2 w3 w4 q1_w2 q2_w2 q1_w3 q2_w3 q1_w4 q2_w4) rfl (by decide) rfl (Nat.le_of_ble_eq_true rfl) (by decide) (fun r u hu => ?_)
  refine z_eqs (σ' := (ap b σ [] [] [])) hu.2 ?_
  show zx p l e _ s m _ below meth c g 11 0 0 _ _ 14 [(0, .ref (b + 405)), (1, .int 4), (2, .int w1), (3, .int w2), (4, .int w3), (5, .int w4)] _
  refine z_seti (y := 1) hu.1 ?_
  refine z_cVi (As := [.int 0, .int 1]) (rest := []) B cw_X9_245 cx_10 dX9_check_14 (ci_X9_needs__40 l (σ := (ap b σ [] [] [])) (b := b) (lyA hK) ) (lKA (hk_K hK 405 rfl rfl)) rfl (by decide) rfl (Nat.le_of_ble_eq_true rfl) (by decide) (fun r u hu => ?_)
  refine z_eqs (σ' := (ap b σ [(405, 0, 1)] [] [])) (hu.2.trans ap_ap) ?_
  show zx p l e _ s m _ below meth c g 11 0 0 _ _ 17 [(0, .ref (b + 405)), (1, .int 4), (2, .int w1), (3, .int w2), (4, .int w3), (5, .int w4)] _
  refine z_seti (y := 0) hu.1 ?_
  refine z_if_ne (tgt := 22) B dX9_check_17 (by decide) (fun h => absurd (by decide) h) (fun _ => ?_)
  refine z_iconst (v := 0) B dX9_check_20 (by decide) ?_
  exact z_iret B hr (by decide) (by decide) dX9_check_21 ⟨rfl, rfl⟩
set_option maxRecDepth 100000 in
set_option maxHeartbeats 4000000 in
theorem ci_X9_check_562 (l : Launch) {g : gx_T} {σ : sx_T} {b : Nat} (hK : lay b σ) (w1 : Int32) (w2 : Int32) (w3 : Int32) (w4 : Int32) (q1_w1 : (-2147483648 : Int) ≤ w1.toInt) (q2_w1 : w1.toInt ≤ (-1 : Int)) (q1_w2 : (0 : Int) ≤ w2.toInt) (q2_w2 : w2.toInt ≤ (17 : Int)) (q1_w3 : (0 : Int) ≤ w3.toInt) (q2_w3 : w3.toInt ≤ (99 : Int)) (q1_w4 : (100 : Int) ≤ w4.toInt) (q2_w4 : w4.toInt ≤ (2147483647 : Int))  : Met l yX9_check (.code yX9_check cX9_check 11 (some .int) :: lw_g) { frames := 2, cells := 0, slots := 0, locals := 44 } (va_Pc [.ref (b + 405), .int 4, .int w1, .int w2, .int w3, .int w4] (zx_w g σ)) (va_Qi (fun r u => r = 0 ∧ u = (ap b σ [(405, 0, 1)] [] [])) (zx_w g) (gx_Q g)) 0 0 (gx_Q g) := by
  refine z_met (by decide) (Nat.le_of_ble_eq_true rfl) (fun p e s m below meth c B hr hin => ?_)
  refine z_eqs (σ' := (ap b σ [] [] [])) rfl ?_
  show zx p l e _ s m _ below meth c g 11 0 0 _ _ 0 [(0, .ref (b + 405)), (1, .int 4), (2, .int w1), (3, .int w2), (4, .int w3), (5, .int w4)] []
  refine z_aload_n B dX9_check_0 rfl 0 rfl ?_
  refine z_iload_n B dX9_check_1 rfl 1 rfl ?_
  refine z_iload_n B dX9_check_2 rfl 2 rfl ?_
  refine z_cSi (As := [.int 4, .int w1]) (rest := [.ref (b + 405)]) B cw_X9_238 dX9_check_3 (ci_X9_isStep_273 l (σ := (ap b σ [] [] [])) (b := b) (lyA hK) w1 q1_w1 q2_w1) rfl (by decide) rfl (Nat.le_of_ble_eq_true rfl) (by decide) (fun r u hu => ?_)
  refine z_eqs (σ' := (ap b σ [] [] [])) hu.2 ?_
  show zx p l e _ s m _ below meth c g 11 0 0 _ _ 6 [(0, .ref (b + 405)), (1, .int 4), (2, .int w1), (3, .int w2), (4, .int w3), (5, .int w4)] _
  refine z_seti (y := 0) hu.1 ?_
  refine z_iload_n B dX9_check_6 rfl 3 rfl ?_
  refine z_iload B dX9_check_7 4 rfl ?_
  refine z_iload B dX9_check_9 5 rfl ?_
  refine z_cSi (As := [.int w2, .int w3, .int w4]) (rest := [.int 0, .ref (b + 405)]) B cw_X9_242 dX9_check_11 (ci_X9_isOperation_43 l (σ := (ap b σ [] [] [])) (b := b) (lyA hK) w2 w3 w4 q1_w2 q2_w2 q1_w3 q2_w3 q1_w4 q2_w4) rfl (by decide) rfl (Nat.le_of_ble_eq_true rfl) (by decide) (fun r u hu => ?_)
  refine z_eqs (σ' := (ap b σ [] [] [])) hu.2 ?_
  show zx p l e _ s m _ below meth c g 11 0 0 _ _ 14 [(0, .ref (b + 405)), (1, .int 4), (2, .int w1), (3, .int w2), (4, .int w3), (5, .int w4)] _
  refine z_seti (y := 0) hu.1 ?_
  refine z_cVi (As := [.int 0, .int 0]) (rest := []) B cw_X9_245 cx_10 dX9_check_14 (ci_X9_needs__29 l (σ := (ap b σ [] [] [])) (b := b) (lyA hK) ) (lKA (hk_K hK 405 rfl rfl)) rfl (by decide) rfl (Nat.le_of_ble_eq_true rfl) (by decide) (fun r u hu => ?_)
  refine z_eqs (σ' := (ap b σ [(405, 0, 1)] [] [])) (hu.2.trans ap_ap) ?_
  show zx p l e _ s m _ below meth c g 11 0 0 _ _ 17 [(0, .ref (b + 405)), (1, .int 4), (2, .int w1), (3, .int w2), (4, .int w3), (5, .int w4)] _
  refine z_seti (y := 0) hu.1 ?_
  refine z_if_ne (tgt := 22) B dX9_check_17 (by decide) (fun h => absurd (by decide) h) (fun _ => ?_)
  refine z_iconst (v := 0) B dX9_check_20 (by decide) ?_
  exact z_iret B hr (by decide) (by decide) dX9_check_21 ⟨rfl, rfl⟩
set_option maxRecDepth 100000 in
set_option maxHeartbeats 4000000 in
theorem ci_X9_check_563 (l : Launch) {g : gx_T} {σ : sx_T} {b : Nat} (hK : lay b σ) (w1 : Int32) (w2 : Int32) (w3 : Int32) (w4 : Int32) (q1_w1 : (-2147483648 : Int) ≤ w1.toInt) (q2_w1 : w1.toInt ≤ (-1 : Int)) (q1_w2 : (0 : Int) ≤ w2.toInt) (q2_w2 : w2.toInt ≤ (17 : Int)) (q1_w3 : (100 : Int) ≤ w3.toInt) (q2_w3 : w3.toInt ≤ (2147483647 : Int))  : Met l yX9_check (.code yX9_check cX9_check 11 (some .int) :: lw_g) { frames := 2, cells := 0, slots := 0, locals := 44 } (va_Pc [.ref (b + 405), .int 4, .int w1, .int w2, .int w3, .int w4] (zx_w g σ)) (va_Qi (fun r u => r = 0 ∧ u = (ap b σ [(405, 0, 1)] [] [])) (zx_w g) (gx_Q g)) 0 0 (gx_Q g) := by
  refine z_met (by decide) (Nat.le_of_ble_eq_true rfl) (fun p e s m below meth c B hr hin => ?_)
  refine z_eqs (σ' := (ap b σ [] [] [])) rfl ?_
  show zx p l e _ s m _ below meth c g 11 0 0 _ _ 0 [(0, .ref (b + 405)), (1, .int 4), (2, .int w1), (3, .int w2), (4, .int w3), (5, .int w4)] []
  refine z_aload_n B dX9_check_0 rfl 0 rfl ?_
  refine z_iload_n B dX9_check_1 rfl 1 rfl ?_
  refine z_iload_n B dX9_check_2 rfl 2 rfl ?_
  refine z_cSi (As := [.int 4, .int w1]) (rest := [.ref (b + 405)]) B cw_X9_238 dX9_check_3 (ci_X9_isStep_273 l (σ := (ap b σ [] [] [])) (b := b) (lyA hK) w1 q1_w1 q2_w1) rfl (by decide) rfl (Nat.le_of_ble_eq_true rfl) (by decide) (fun r u hu => ?_)
  refine z_eqs (σ' := (ap b σ [] [] [])) hu.2 ?_
  show zx p l e _ s m _ below meth c g 11 0 0 _ _ 6 [(0, .ref (b + 405)), (1, .int 4), (2, .int w1), (3, .int w2), (4, .int w3), (5, .int w4)] _
  refine z_seti (y := 0) hu.1 ?_
  refine z_iload_n B dX9_check_6 rfl 3 rfl ?_
  refine z_iload B dX9_check_7 4 rfl ?_
  refine z_iload B dX9_check_9 5 rfl ?_
  refine z_cSi (As := [.int w2, .int w3, .int w4]) (rest := [.int 0, .ref (b + 405)]) B cw_X9_242 dX9_check_11 (ci_X9_isOperation_45 l (σ := (ap b σ [] [] [])) (b := b) (lyA hK) w2 w3 w4 q1_w2 q2_w2 q1_w3 q2_w3) rfl (by decide) rfl (Nat.le_of_ble_eq_true rfl) (by decide) (fun r u hu => ?_)
  refine z_eqs (σ' := (ap b σ [] [] [])) hu.2 ?_
  show zx p l e _ s m _ below meth c g 11 0 0 _ _ 14 [(0, .ref (b + 405)), (1, .int 4), (2, .int w1), (3, .int w2), (4, .int w3), (5, .int w4)] _
  refine z_seti (y := 0) hu.1 ?_
  refine z_cVi (As := [.int 0, .int 0]) (rest := []) B cw_X9_245 cx_10 dX9_check_14 (ci_X9_needs__29 l (σ := (ap b σ [] [] [])) (b := b) (lyA hK) ) (lKA (hk_K hK 405 rfl rfl)) rfl (by decide) rfl (Nat.le_of_ble_eq_true rfl) (by decide) (fun r u hu => ?_)
  refine z_eqs (σ' := (ap b σ [(405, 0, 1)] [] [])) (hu.2.trans ap_ap) ?_
  show zx p l e _ s m _ below meth c g 11 0 0 _ _ 17 [(0, .ref (b + 405)), (1, .int 4), (2, .int w1), (3, .int w2), (4, .int w3), (5, .int w4)] _
  refine z_seti (y := 0) hu.1 ?_
  refine z_if_ne (tgt := 22) B dX9_check_17 (by decide) (fun h => absurd (by decide) h) (fun _ => ?_)
  refine z_iconst (v := 0) B dX9_check_20 (by decide) ?_
  exact z_iret B hr (by decide) (by decide) dX9_check_21 ⟨rfl, rfl⟩
set_option maxRecDepth 100000 in
set_option maxHeartbeats 4000000 in
theorem ci_X9_check_564 (l : Launch) {g : gx_T} {σ : sx_T} {b : Nat} (hK : lay b σ) (w1 : Int32) (w2 : Int32) (w3 : Int32) (w4 : Int32) (q1_w1 : (-2147483648 : Int) ≤ w1.toInt) (q2_w1 : w1.toInt ≤ (-1 : Int)) (q1_w2 : (18 : Int) ≤ w2.toInt) (q2_w2 : w2.toInt ≤ (2147483647 : Int))  : Met l yX9_check (.code yX9_check cX9_check 11 (some .int) :: lw_g) { frames := 2, cells := 0, slots := 0, locals := 44 } (va_Pc [.ref (b + 405), .int 4, .int w1, .int w2, .int w3, .int w4] (zx_w g σ)) (va_Qi (fun r u => r = 0 ∧ u = (ap b σ [(405, 0, 1)] [] [])) (zx_w g) (gx_Q g)) 0 0 (gx_Q g) := by
  refine z_met (by decide) (Nat.le_of_ble_eq_true rfl) (fun p e s m below meth c B hr hin => ?_)
  refine z_eqs (σ' := (ap b σ [] [] [])) rfl ?_
  show zx p l e _ s m _ below meth c g 11 0 0 _ _ 0 [(0, .ref (b + 405)), (1, .int 4), (2, .int w1), (3, .int w2), (4, .int w3), (5, .int w4)] []
  refine z_aload_n B dX9_check_0 rfl 0 rfl ?_
  refine z_iload_n B dX9_check_1 rfl 1 rfl ?_
  refine z_iload_n B dX9_check_2 rfl 2 rfl ?_
  refine z_cSi (As := [.int 4, .int w1]) (rest := [.ref (b + 405)]) B cw_X9_238 dX9_check_3 (ci_X9_isStep_273 l (σ := (ap b σ [] [] [])) (b := b) (lyA hK) w1 q1_w1 q2_w1) rfl (by decide) rfl (Nat.le_of_ble_eq_true rfl) (by decide) (fun r u hu => ?_)
  refine z_eqs (σ' := (ap b σ [] [] [])) hu.2 ?_
  show zx p l e _ s m _ below meth c g 11 0 0 _ _ 6 [(0, .ref (b + 405)), (1, .int 4), (2, .int w1), (3, .int w2), (4, .int w3), (5, .int w4)] _
  refine z_seti (y := 0) hu.1 ?_
  refine z_iload_n B dX9_check_6 rfl 3 rfl ?_
  refine z_iload B dX9_check_7 4 rfl ?_
  refine z_iload B dX9_check_9 5 rfl ?_
  refine z_cSi (As := [.int w2, .int w3, .int w4]) (rest := [.int 0, .ref (b + 405)]) B cw_X9_242 dX9_check_11 (ci_X9_isOperation_48 l (σ := (ap b σ [] [] [])) (b := b) (lyA hK) w2 w3 w4 q1_w2 q2_w2) rfl (by decide) rfl (Nat.le_of_ble_eq_true rfl) (by decide) (fun r u hu => ?_)
  refine z_eqs (σ' := (ap b σ [] [] [])) hu.2 ?_
  show zx p l e _ s m _ below meth c g 11 0 0 _ _ 14 [(0, .ref (b + 405)), (1, .int 4), (2, .int w1), (3, .int w2), (4, .int w3), (5, .int w4)] _
  refine z_seti (y := 0) hu.1 ?_
  refine z_cVi (As := [.int 0, .int 0]) (rest := []) B cw_X9_245 cx_10 dX9_check_14 (ci_X9_needs__29 l (σ := (ap b σ [] [] [])) (b := b) (lyA hK) ) (lKA (hk_K hK 405 rfl rfl)) rfl (by decide) rfl (Nat.le_of_ble_eq_true rfl) (by decide) (fun r u hu => ?_)
  refine z_eqs (σ' := (ap b σ [(405, 0, 1)] [] [])) (hu.2.trans ap_ap) ?_
  show zx p l e _ s m _ below meth c g 11 0 0 _ _ 17 [(0, .ref (b + 405)), (1, .int 4), (2, .int w1), (3, .int w2), (4, .int w3), (5, .int w4)] _
  refine z_seti (y := 0) hu.1 ?_
  refine z_if_ne (tgt := 22) B dX9_check_17 (by decide) (fun h => absurd (by decide) h) (fun _ => ?_)
  refine z_iconst (v := 0) B dX9_check_20 (by decide) ?_
  exact z_iret B hr (by decide) (by decide) dX9_check_21 ⟨rfl, rfl⟩
set_option maxRecDepth 100000 in
set_option maxHeartbeats 4000000 in
theorem ci_X8_check_565 (l : Launch) (hlt : l.stackTraces = false) {g : gx_T} {σ : sx_T} {b : Nat} (hK : lay b σ) (w1 : Int32) (w2 : Int32) (w3 : Int32) (w4 : Int32) (q1_w1 : (0 : Int) ≤ w1.toInt) (q2_w1 : w1.toInt ≤ (19 : Int)) (q1_w2 : (-2147483648 : Int) ≤ w2.toInt) (q2_w2 : w2.toInt ≤ (-1 : Int)) (hR_0_0 : sx_R σ (b + 0) 0 = (some (b + 1))) (hR_1_4 : sx_R σ (b + 1) 4 = (some (b + 25))) : vx_Met l yX8_check (.code yX8_check cX8_check 13 (some .int) :: lw_g) { frames := 7, cells := 1, slots := 6, locals := 136 } (va_Pc [.ref (b + 0), .int 4, .int w1, .int w2, .int w3, .int w4] (zx_w g σ)) (va_Qi (S := sx_T) (fun _ _ => False) (zx_w g) (gx_Q g)) (vx_X (fun u : sx_T => ∃ z, u = wx_Z σ z) (fun E u t => E = "java/lang/IllegalArgumentException" ∧ zx_h g u t.heap) (gx_Q g)) 1 6 (gx_Q g) := by
  refine z_metX (by decide) (Nat.le_of_ble_eq_true rfl) (fun p e s m below meth c B hr hin hout => ?_)
  refine z_eqs (σ' := (ap b σ [] [] [])) rfl ?_
  show zx p l e _ s m _ below meth c g 13 0 0 _ _ 0 [(0, .ref (b + 0)), (1, .int 4), (2, .int w1), (3, .int w2), (4, .int w3), (5, .int w4)] []
  refine z_aload_n B dX8_check_0 rfl 0 rfl ?_
  refine z_iload_n B dX8_check_1 rfl 1 rfl ?_
  refine z_cVq (As := [.int 4]) (rest := []) B cw_X8_64 cx_9 dX8_check_2 (ci_X8_programAt_269 l (σ := (ap b σ [] [] [])) (b := b) (lyA hK) (rR_at 0 0 hR_0_0) (rR_at 1 4 hR_1_4)) (lKA (hk_K hK 0 rfl rfl)) rfl (by decide) rfl (Nat.le_of_ble_eq_true rfl) (by decide) (fun r u hu => ?_)
  refine z_eqs (σ' := (ap b σ [] [] [])) hu.2 ?_
  show zx p l e _ s m _ below meth c g 13 0 0 _ _ 5 [(0, .ref (b + 0)), (1, .int 4), (2, .int w1), (3, .int w2), (4, .int w3), (5, .int w4)] _
  refine z_setr (y := (some (b + 25))) hu.1 ?_
  refine z_astore (lv' := [(6, .ref (b + 25)), (0, .ref (b + 0)), (1, .int 4), (2, .int w1), (3, .int w2), (4, .int w3), (5, .int w4)]) B dX8_check_5 (by decide) rfl ?_
  refine z_aload B dX8_check_7 0 rfl ?_
  refine z_ifnull (r := (some (b + 25))) (tgt := 21) B dX8_check_9 (by decide) (fun h => nomatch h) (fun _ _ => ?_)
  refine z_iload_n B dX8_check_12 rfl 3 rfl ?_
  refine z_bipush (v := 20) B dX8_check_13 (by decide) ?_
  refine z_cSi (As := [.int w1, .int 20]) (rest := []) B cw_X8_68 dX8_check_15 (ci_X8_isBelow_64 l (σ := (ap b σ [] [] [])) (b := b) (lyA hK) w1 q1_w1 q2_w1) rfl (by decide) rfl (Nat.le_of_ble_eq_true rfl) (by decide) (fun r u hu => ?_)
  refine z_eqs (σ' := (ap b σ [] [] [])) hu.2 ?_
  show zx p l e _ s m _ below meth c g 13 0 0 _ _ 18 [(6, .ref (b + 25)), (0, .ref (b + 0)), (1, .int 4), (2, .int w1), (3, .int w2), (4, .int w3), (5, .int w4)] _
  refine z_seti (y := 1) hu.1 ?_
  refine z_if_ne (tgt := 31) B dX8_check_18 (by decide) (fun _ => ?_) (fun h => absurd h (by decide))
  refine z_iload_n B dX8_check_31 rfl 4 rfl ?_
  refine z_iload B dX8_check_32 5 rfl ?_
  refine z_iload B dX8_check_34 6 rfl ?_
  refine z_cSi (As := [.int w2, .int w3, .int w4]) (rest := []) B cw_X8_79 dX8_check_36 (ci_X8_isStep_66 l (σ := (ap b σ [] [] [])) (b := b) (lyA hK) w2 w3 w4 q1_w2 q2_w2) rfl (by decide) rfl (Nat.le_of_ble_eq_true rfl) (by decide) (fun r u hu => ?_)
  refine z_eqs (σ' := (ap b σ [] [] [])) hu.2 ?_
  show zx p l e _ s m _ below meth c g 13 0 0 _ _ 39 [(6, .ref (b + 25)), (0, .ref (b + 0)), (1, .int 4), (2, .int w1), (3, .int w2), (4, .int w3), (5, .int w4)] _
  refine z_seti (y := 0) hu.1 ?_
  refine z_if_ne (tgt := 52) B dX8_check_39 (by decide) (fun h => absurd (by decide) h) (fun _ => ?_)
  exact z_throw B hlt hout (cls := "java/lang/IllegalArgumentException") (text := "no such operation") tw_X8_83_85_87 dX8_check_42 dX8_check_45 dX8_check_46 dX8_check_48 dX8_check_51 (by decide) (by decide) (by decide) (by decide) (by decide) (by decide) (fun z => ⟨z, rfl⟩)
set_option maxRecDepth 100000 in
set_option maxHeartbeats 4000000 in
theorem ci_L_check_566 (l : Launch) (hlt : l.stackTraces = false) {g : gx_T} {σ : sx_T} {b : Nat} (hK : lay b σ) (w1 : Int32) (w2 : Int32) (w3 : Int32) (w4 : Int32) (q1_w1 : (0 : Int) ≤ w1.toInt) (q2_w1 : w1.toInt ≤ (19 : Int)) (q1_w2 : (-2147483648 : Int) ≤ w2.toInt) (q2_w2 : w2.toInt ≤ (-1 : Int)) (hR_0_0 : sx_R σ (b + 0) 0 = (some (b + 1))) (hR_1_4 : sx_R σ (b + 1) 4 = (some (b + 25))) : Met l yL_check (.codeWith yL_check cL_check 8 (some .int) [(0, 16, 19, 13), (0, 16, 23, 15)] :: lw_g) { frames := 8, cells := 1, slots := 6, locals := 168 } (va_Pc [.ref (b + 0), .int 4, .int w1, .int w2, .int w3, .int w4, .ref (b + 431)] (zx_w g σ)) (va_Qi (fun r u => r = 2 ∧ ∃ z, u = (ap b (wx_Z σ z) [] [] [])) (zx_w g) (gx_Q g)) 1 6 (gx_Q g) := by
  refine z_metW (by decide) (Nat.le_of_ble_eq_true rfl) (fun p e s m below meth c B hr htab => ?_)
  refine z_eqs (σ' := (ap b σ [] [] [])) rfl ?_
  show zx p l e _ s m _ below meth c g 8 0 0 _ _ 0 [(0, .ref (b + 0)), (1, .int 4), (2, .int w1), (3, .int w2), (4, .int w3), (5, .int w4), (6, .ref (b + 431))] []
  refine z_aload B dL_check_0 6 rfl ?_
  refine z_iconst (v := 0) B dL_check_2 (by decide) ?_
  refine z_aload_n B dL_check_3 rfl 0 rfl ?_
  refine z_iload_n B dL_check_4 rfl 1 rfl ?_
  refine z_iload_n B dL_check_5 rfl 2 rfl ?_
  refine z_iload_n B dL_check_6 rfl 3 rfl ?_
  refine z_iload B dL_check_7 4 rfl ?_
  refine z_iload B dL_check_9 5 rfl ?_
  refine z_cXi (As := [.int 4, .int w1, .int w2, .int w3, .int w4]) (rest := [.int 0, .ref (b + 431)]) B htab tc_check_11_IllegalArgumentException cw_L_17 cx_9 dL_check_11 (ci_X8_check_565 l hlt (σ := (ap b σ [] [] [])) (b := b) (lyA hK) w1 w2 w3 w4 q1_w1 q2_w1 q1_w2 q2_w2 (rR_at 0 0 hR_0_0) (rR_at 1 4 hR_1_4)) (lKA (hk_K hK 0 rfl rfl)) rfl (by decide) rfl (Nat.le_of_ble_eq_true rfl) (by decide) (fun z q => ?_)
  refine z_eqs (σ' := (ap b (wx_Z σ z) [] [] [])) rfl ?_
  show zx p l e _ s m _ below meth c g 8 _ _ _ _ 23 [(0, .ref (b + 0)), (1, .int 4), (2, .int w1), (3, .int w2), (4, .int w3), (5, .int w4), (6, .ref (b + 431))] _
  refine z_astore (lv' := [(7, .ref q), (0, .ref (b + 0)), (1, .int 4), (2, .int w1), (3, .int w2), (4, .int w3), (5, .int w4), (6, .ref (b + 431))]) B dL_check_23 (by decide) rfl ?_
  refine z_iconst (v := 2) B dL_check_25 (by decide) ?_
  exact z_iret B hr (by decide) (by decide) dL_check_26 ⟨rfl, _, rfl⟩
set_option maxRecDepth 100000 in
set_option maxHeartbeats 4000000 in
theorem ci_X9_check_567 (l : Launch) {g : gx_T} {σ : sx_T} {b : Nat} (hK : lay b σ) (w1 : Int32) (w2 : Int32) (w3 : Int32) (w4 : Int32) (q1_w1 : (0 : Int) ≤ w1.toInt) (q2_w1 : w1.toInt ≤ (19 : Int)) (q1_w2 : (-2147483648 : Int) ≤ w2.toInt) (q2_w2 : w2.toInt ≤ (-1 : Int))  : Met l yX9_check (.code yX9_check cX9_check 11 (some .int) :: lw_g) { frames := 2, cells := 0, slots := 0, locals := 44 } (va_Pc [.ref (b + 405), .int 4, .int w1, .int w2, .int w3, .int w4] (zx_w g σ)) (va_Qi (fun r u => r = 0 ∧ u = (ap b σ [(405, 0, 2)] [] [])) (zx_w g) (gx_Q g)) 0 0 (gx_Q g) := by
  refine z_met (by decide) (Nat.le_of_ble_eq_true rfl) (fun p e s m below meth c B hr hin => ?_)
  refine z_eqs (σ' := (ap b σ [] [] [])) rfl ?_
  show zx p l e _ s m _ below meth c g 11 0 0 _ _ 0 [(0, .ref (b + 405)), (1, .int 4), (2, .int w1), (3, .int w2), (4, .int w3), (5, .int w4)] []
  refine z_aload_n B dX9_check_0 rfl 0 rfl ?_
  refine z_iload_n B dX9_check_1 rfl 1 rfl ?_
  refine z_iload_n B dX9_check_2 rfl 2 rfl ?_
  refine z_cSi (As := [.int 4, .int w1]) (rest := [.ref (b + 405)]) B cw_X9_238 dX9_check_3 (ci_X9_isStep_283 l (σ := (ap b σ [] [] [])) (b := b) (lyA hK) w1 q1_w1 q2_w1) rfl (by decide) rfl (Nat.le_of_ble_eq_true rfl) (by decide) (fun r u hu => ?_)
  refine z_eqs (σ' := (ap b σ [] [] [])) hu.2 ?_
  show zx p l e _ s m _ below meth c g 11 0 0 _ _ 6 [(0, .ref (b + 405)), (1, .int 4), (2, .int w1), (3, .int w2), (4, .int w3), (5, .int w4)] _
  refine z_seti (y := 1) hu.1 ?_
  refine z_iload_n B dX9_check_6 rfl 3 rfl ?_
  refine z_iload B dX9_check_7 4 rfl ?_
  refine z_iload B dX9_check_9 5 rfl ?_
  refine z_cSi (As := [.int w2, .int w3, .int w4]) (rest := [.int 1, .ref (b + 405)]) B cw_X9_242 dX9_check_11 (ci_X9_isOperation_28 l (σ := (ap b σ [] [] [])) (b := b) (lyA hK) w2 w3 w4 q1_w2 q2_w2) rfl (by decide) rfl (Nat.le_of_ble_eq_true rfl) (by decide) (fun r u hu => ?_)
  refine z_eqs (σ' := (ap b σ [] [] [])) hu.2 ?_
  show zx p l e _ s m _ below meth c g 11 0 0 _ _ 14 [(0, .ref (b + 405)), (1, .int 4), (2, .int w1), (3, .int w2), (4, .int w3), (5, .int w4)] _
  refine z_seti (y := 0) hu.1 ?_
  refine z_cVi (As := [.int 1, .int 0]) (rest := []) B cw_X9_245 cx_10 dX9_check_14 (ci_X9_needs__71 l (σ := (ap b σ [] [] [])) (b := b) (lyA hK) ) (lKA (hk_K hK 405 rfl rfl)) rfl (by decide) rfl (Nat.le_of_ble_eq_true rfl) (by decide) (fun r u hu => ?_)
  refine z_eqs (σ' := (ap b σ [(405, 0, 2)] [] [])) (hu.2.trans ap_ap) ?_
  show zx p l e _ s m _ below meth c g 11 0 0 _ _ 17 [(0, .ref (b + 405)), (1, .int 4), (2, .int w1), (3, .int w2), (4, .int w3), (5, .int w4)] _
  refine z_seti (y := 0) hu.1 ?_
  refine z_if_ne (tgt := 22) B dX9_check_17 (by decide) (fun h => absurd (by decide) h) (fun _ => ?_)
  refine z_iconst (v := 0) B dX9_check_20 (by decide) ?_
  exact z_iret B hr (by decide) (by decide) dX9_check_21 ⟨rfl, rfl⟩
set_option maxRecDepth 100000 in
set_option maxHeartbeats 4000000 in
theorem ci_X8_check_568 (l : Launch) (hlt : l.stackTraces = false) {g : gx_T} {σ : sx_T} {b : Nat} (hK : lay b σ) (w1 : Int32) (w2 : Int32) (w3 : Int32) (w4 : Int32) (q1_w1 : (0 : Int) ≤ w1.toInt) (q2_w1 : w1.toInt ≤ (19 : Int)) (q1_w2 : (0 : Int) ≤ w2.toInt) (q2_w2 : w2.toInt ≤ (17 : Int)) (q1_w3 : (-2147483648 : Int) ≤ w3.toInt) (q2_w3 : w3.toInt ≤ (-1 : Int)) (hR_0_0 : sx_R σ (b + 0) 0 = (some (b + 1))) (hR_1_4 : sx_R σ (b + 1) 4 = (some (b + 25))) : vx_Met l yX8_check (.code yX8_check cX8_check 13 (some .int) :: lw_g) { frames := 7, cells := 1, slots := 6, locals := 136 } (va_Pc [.ref (b + 0), .int 4, .int w1, .int w2, .int w3, .int w4] (zx_w g σ)) (va_Qi (S := sx_T) (fun _ _ => False) (zx_w g) (gx_Q g)) (vx_X (fun u : sx_T => ∃ z, u = wx_Z σ z) (fun E u t => E = "java/lang/IllegalArgumentException" ∧ zx_h g u t.heap) (gx_Q g)) 1 6 (gx_Q g) := by
  refine z_metX (by decide) (Nat.le_of_ble_eq_true rfl) (fun p e s m below meth c B hr hin hout => ?_)
  refine z_eqs (σ' := (ap b σ [] [] [])) rfl ?_
  show zx p l e _ s m _ below meth c g 13 0 0 _ _ 0 [(0, .ref (b + 0)), (1, .int 4), (2, .int w1), (3, .int w2), (4, .int w3), (5, .int w4)] []
  refine z_aload_n B dX8_check_0 rfl 0 rfl ?_
  refine z_iload_n B dX8_check_1 rfl 1 rfl ?_
  refine z_cVq (As := [.int 4]) (rest := []) B cw_X8_64 cx_9 dX8_check_2 (ci_X8_programAt_269 l (σ := (ap b σ [] [] [])) (b := b) (lyA hK) (rR_at 0 0 hR_0_0) (rR_at 1 4 hR_1_4)) (lKA (hk_K hK 0 rfl rfl)) rfl (by decide) rfl (Nat.le_of_ble_eq_true rfl) (by decide) (fun r u hu => ?_)
  refine z_eqs (σ' := (ap b σ [] [] [])) hu.2 ?_
  show zx p l e _ s m _ below meth c g 13 0 0 _ _ 5 [(0, .ref (b + 0)), (1, .int 4), (2, .int w1), (3, .int w2), (4, .int w3), (5, .int w4)] _
  refine z_setr (y := (some (b + 25))) hu.1 ?_
  refine z_astore (lv' := [(6, .ref (b + 25)), (0, .ref (b + 0)), (1, .int 4), (2, .int w1), (3, .int w2), (4, .int w3), (5, .int w4)]) B dX8_check_5 (by decide) rfl ?_
  refine z_aload B dX8_check_7 0 rfl ?_
  refine z_ifnull (r := (some (b + 25))) (tgt := 21) B dX8_check_9 (by decide) (fun h => nomatch h) (fun _ _ => ?_)
  refine z_iload_n B dX8_check_12 rfl 3 rfl ?_
  refine z_bipush (v := 20) B dX8_check_13 (by decide) ?_
  refine z_cSi (As := [.int w1, .int 20]) (rest := []) B cw_X8_68 dX8_check_15 (ci_X8_isBelow_64 l (σ := (ap b σ [] [] [])) (b := b) (lyA hK) w1 q1_w1 q2_w1) rfl (by decide) rfl (Nat.le_of_ble_eq_true rfl) (by decide) (fun r u hu => ?_)
  refine z_eqs (σ' := (ap b σ [] [] [])) hu.2 ?_
  show zx p l e _ s m _ below meth c g 13 0 0 _ _ 18 [(6, .ref (b + 25)), (0, .ref (b + 0)), (1, .int 4), (2, .int w1), (3, .int w2), (4, .int w3), (5, .int w4)] _
  refine z_seti (y := 1) hu.1 ?_
  refine z_if_ne (tgt := 31) B dX8_check_18 (by decide) (fun _ => ?_) (fun h => absurd h (by decide))
  refine z_iload_n B dX8_check_31 rfl 4 rfl ?_
  refine z_iload B dX8_check_32 5 rfl ?_
  refine z_iload B dX8_check_34 6 rfl ?_
  refine z_cSi (As := [.int w2, .int w3, .int w4]) (rest := []) B cw_X8_79 dX8_check_36 (ci_X8_isStep_76 l (σ := (ap b σ [] [] [])) (b := b) (lyA hK) w2 w3 w4 q1_w2 q2_w2 q1_w3 q2_w3) rfl (by decide) rfl (Nat.le_of_ble_eq_true rfl) (by decide) (fun r u hu => ?_)
  refine z_eqs (σ' := (ap b σ [] [] [])) hu.2 ?_
  show zx p l e _ s m _ below meth c g 13 0 0 _ _ 39 [(6, .ref (b + 25)), (0, .ref (b + 0)), (1, .int 4), (2, .int w1), (3, .int w2), (4, .int w3), (5, .int w4)] _
  refine z_seti (y := 0) hu.1 ?_
  refine z_if_ne (tgt := 52) B dX8_check_39 (by decide) (fun h => absurd (by decide) h) (fun _ => ?_)
  exact z_throw B hlt hout (cls := "java/lang/IllegalArgumentException") (text := "no such operation") tw_X8_83_85_87 dX8_check_42 dX8_check_45 dX8_check_46 dX8_check_48 dX8_check_51 (by decide) (by decide) (by decide) (by decide) (by decide) (by decide) (fun z => ⟨z, rfl⟩)
set_option maxRecDepth 100000 in
set_option maxHeartbeats 4000000 in
theorem ci_L_check_569 (l : Launch) (hlt : l.stackTraces = false) {g : gx_T} {σ : sx_T} {b : Nat} (hK : lay b σ) (w1 : Int32) (w2 : Int32) (w3 : Int32) (w4 : Int32) (q1_w1 : (0 : Int) ≤ w1.toInt) (q2_w1 : w1.toInt ≤ (19 : Int)) (q1_w2 : (0 : Int) ≤ w2.toInt) (q2_w2 : w2.toInt ≤ (17 : Int)) (q1_w3 : (-2147483648 : Int) ≤ w3.toInt) (q2_w3 : w3.toInt ≤ (-1 : Int)) (hR_0_0 : sx_R σ (b + 0) 0 = (some (b + 1))) (hR_1_4 : sx_R σ (b + 1) 4 = (some (b + 25))) : Met l yL_check (.codeWith yL_check cL_check 8 (some .int) [(0, 16, 19, 13), (0, 16, 23, 15)] :: lw_g) { frames := 8, cells := 1, slots := 6, locals := 168 } (va_Pc [.ref (b + 0), .int 4, .int w1, .int w2, .int w3, .int w4, .ref (b + 431)] (zx_w g σ)) (va_Qi (fun r u => r = 2 ∧ ∃ z, u = (ap b (wx_Z σ z) [] [] [])) (zx_w g) (gx_Q g)) 1 6 (gx_Q g) := by
  refine z_metW (by decide) (Nat.le_of_ble_eq_true rfl) (fun p e s m below meth c B hr htab => ?_)
  refine z_eqs (σ' := (ap b σ [] [] [])) rfl ?_
  show zx p l e _ s m _ below meth c g 8 0 0 _ _ 0 [(0, .ref (b + 0)), (1, .int 4), (2, .int w1), (3, .int w2), (4, .int w3), (5, .int w4), (6, .ref (b + 431))] []
  refine z_aload B dL_check_0 6 rfl ?_
  refine z_iconst (v := 0) B dL_check_2 (by decide) ?_
  refine z_aload_n B dL_check_3 rfl 0 rfl ?_
  refine z_iload_n B dL_check_4 rfl 1 rfl ?_
  refine z_iload_n B dL_check_5 rfl 2 rfl ?_
  refine z_iload_n B dL_check_6 rfl 3 rfl ?_
  refine z_iload B dL_check_7 4 rfl ?_
  refine z_iload B dL_check_9 5 rfl ?_
  refine z_cXi (As := [.int 4, .int w1, .int w2, .int w3, .int w4]) (rest := [.int 0, .ref (b + 431)]) B htab tc_check_11_IllegalArgumentException cw_L_17 cx_9 dL_check_11 (ci_X8_check_568 l hlt (σ := (ap b σ [] [] [])) (b := b) (lyA hK) w1 w2 w3 w4 q1_w1 q2_w1 q1_w2 q2_w2 q1_w3 q2_w3 (rR_at 0 0 hR_0_0) (rR_at 1 4 hR_1_4)) (lKA (hk_K hK 0 rfl rfl)) rfl (by decide) rfl (Nat.le_of_ble_eq_true rfl) (by decide) (fun z q => ?_)
  refine z_eqs (σ' := (ap b (wx_Z σ z) [] [] [])) rfl ?_
  show zx p l e _ s m _ below meth c g 8 _ _ _ _ 23 [(0, .ref (b + 0)), (1, .int 4), (2, .int w1), (3, .int w2), (4, .int w3), (5, .int w4), (6, .ref (b + 431))] _
  refine z_astore (lv' := [(7, .ref q), (0, .ref (b + 0)), (1, .int 4), (2, .int w1), (3, .int w2), (4, .int w3), (5, .int w4), (6, .ref (b + 431))]) B dL_check_23 (by decide) rfl ?_
  refine z_iconst (v := 2) B dL_check_25 (by decide) ?_
  exact z_iret B hr (by decide) (by decide) dL_check_26 ⟨rfl, _, rfl⟩
set_option maxRecDepth 100000 in
set_option maxHeartbeats 4000000 in
theorem ci_X9_check_570 (l : Launch) {g : gx_T} {σ : sx_T} {b : Nat} (hK : lay b σ) (w1 : Int32) (w2 : Int32) (w3 : Int32) (w4 : Int32) (q1_w1 : (0 : Int) ≤ w1.toInt) (q2_w1 : w1.toInt ≤ (19 : Int)) (q1_w2 : (0 : Int) ≤ w2.toInt) (q2_w2 : w2.toInt ≤ (17 : Int)) (q1_w3 : (-2147483648 : Int) ≤ w3.toInt) (q2_w3 : w3.toInt ≤ (-1 : Int))  : Met l yX9_check (.code yX9_check cX9_check 11 (some .int) :: lw_g) { frames := 2, cells := 0, slots := 0, locals := 44 } (va_Pc [.ref (b + 405), .int 4, .int w1, .int w2, .int w3, .int w4] (zx_w g σ)) (va_Qi (fun r u => r = 0 ∧ u = (ap b σ [(405, 0, 2)] [] [])) (zx_w g) (gx_Q g)) 0 0 (gx_Q g) := by
  refine z_met (by decide) (Nat.le_of_ble_eq_true rfl) (fun p e s m below meth c B hr hin => ?_)
  refine z_eqs (σ' := (ap b σ [] [] [])) rfl ?_
  show zx p l e _ s m _ below meth c g 11 0 0 _ _ 0 [(0, .ref (b + 405)), (1, .int 4), (2, .int w1), (3, .int w2), (4, .int w3), (5, .int w4)] []
  refine z_aload_n B dX9_check_0 rfl 0 rfl ?_
  refine z_iload_n B dX9_check_1 rfl 1 rfl ?_
  refine z_iload_n B dX9_check_2 rfl 2 rfl ?_
  refine z_cSi (As := [.int 4, .int w1]) (rest := [.ref (b + 405)]) B cw_X9_238 dX9_check_3 (ci_X9_isStep_283 l (σ := (ap b σ [] [] [])) (b := b) (lyA hK) w1 q1_w1 q2_w1) rfl (by decide) rfl (Nat.le_of_ble_eq_true rfl) (by decide) (fun r u hu => ?_)
  refine z_eqs (σ' := (ap b σ [] [] [])) hu.2 ?_
  show zx p l e _ s m _ below meth c g 11 0 0 _ _ 6 [(0, .ref (b + 405)), (1, .int 4), (2, .int w1), (3, .int w2), (4, .int w3), (5, .int w4)] _
  refine z_seti (y := 1) hu.1 ?_
  refine z_iload_n B dX9_check_6 rfl 3 rfl ?_
  refine z_iload B dX9_check_7 4 rfl ?_
  refine z_iload B dX9_check_9 5 rfl ?_
  refine z_cSi (As := [.int w2, .int w3, .int w4]) (rest := [.int 1, .ref (b + 405)]) B cw_X9_242 dX9_check_11 (ci_X9_isOperation_34 l (σ := (ap b σ [] [] [])) (b := b) (lyA hK) w2 w3 w4 q1_w2 q2_w2 q1_w3 q2_w3) rfl (by decide) rfl (Nat.le_of_ble_eq_true rfl) (by decide) (fun r u hu => ?_)
  refine z_eqs (σ' := (ap b σ [] [] [])) hu.2 ?_
  show zx p l e _ s m _ below meth c g 11 0 0 _ _ 14 [(0, .ref (b + 405)), (1, .int 4), (2, .int w1), (3, .int w2), (4, .int w3), (5, .int w4)] _
  refine z_seti (y := 0) hu.1 ?_
  refine z_cVi (As := [.int 1, .int 0]) (rest := []) B cw_X9_245 cx_10 dX9_check_14 (ci_X9_needs__71 l (σ := (ap b σ [] [] [])) (b := b) (lyA hK) ) (lKA (hk_K hK 405 rfl rfl)) rfl (by decide) rfl (Nat.le_of_ble_eq_true rfl) (by decide) (fun r u hu => ?_)
  refine z_eqs (σ' := (ap b σ [(405, 0, 2)] [] [])) (hu.2.trans ap_ap) ?_
  show zx p l e _ s m _ below meth c g 11 0 0 _ _ 17 [(0, .ref (b + 405)), (1, .int 4), (2, .int w1), (3, .int w2), (4, .int w3), (5, .int w4)] _
  refine z_seti (y := 0) hu.1 ?_
  refine z_if_ne (tgt := 22) B dX9_check_17 (by decide) (fun h => absurd (by decide) h) (fun _ => ?_)
  refine z_iconst (v := 0) B dX9_check_20 (by decide) ?_
  exact z_iret B hr (by decide) (by decide) dX9_check_21 ⟨rfl, rfl⟩
set_option maxRecDepth 100000 in
set_option maxHeartbeats 4000000 in
theorem ci_X8_check_571 (l : Launch) (hlt : l.stackTraces = false) {g : gx_T} {σ : sx_T} {b : Nat} (hK : lay b σ) (w1 : Int32) (w2 : Int32) (w3 : Int32) (w4 : Int32) (q1_w1 : (0 : Int) ≤ w1.toInt) (q2_w1 : w1.toInt ≤ (19 : Int)) (q1_w2 : (0 : Int) ≤ w2.toInt) (q2_w2 : w2.toInt ≤ (17 : Int)) (q1_w3 : (0 : Int) ≤ w3.toInt) (q2_w3 : w3.toInt ≤ (99 : Int)) (q1_w4 : (-2147483648 : Int) ≤ w4.toInt) (q2_w4 : w4.toInt ≤ (-1 : Int)) (hR_0_0 : sx_R σ (b + 0) 0 = (some (b + 1))) (hR_1_4 : sx_R σ (b + 1) 4 = (some (b + 25))) : vx_Met l yX8_check (.code yX8_check cX8_check 13 (some .int) :: lw_g) { frames := 7, cells := 1, slots := 6, locals := 136 } (va_Pc [.ref (b + 0), .int 4, .int w1, .int w2, .int w3, .int w4] (zx_w g σ)) (va_Qi (S := sx_T) (fun _ _ => False) (zx_w g) (gx_Q g)) (vx_X (fun u : sx_T => ∃ z, u = wx_Z σ z) (fun E u t => E = "java/lang/IllegalArgumentException" ∧ zx_h g u t.heap) (gx_Q g)) 1 6 (gx_Q g) := by
  refine z_metX (by decide) (Nat.le_of_ble_eq_true rfl) (fun p e s m below meth c B hr hin hout => ?_)
  refine z_eqs (σ' := (ap b σ [] [] [])) rfl ?_
  show zx p l e _ s m _ below meth c g 13 0 0 _ _ 0 [(0, .ref (b + 0)), (1, .int 4), (2, .int w1), (3, .int w2), (4, .int w3), (5, .int w4)] []
  refine z_aload_n B dX8_check_0 rfl 0 rfl ?_
  refine z_iload_n B dX8_check_1 rfl 1 rfl ?_
  refine z_cVq (As := [.int 4]) (rest := []) B cw_X8_64 cx_9 dX8_check_2 (ci_X8_programAt_269 l (σ := (ap b σ [] [] [])) (b := b) (lyA hK) (rR_at 0 0 hR_0_0) (rR_at 1 4 hR_1_4)) (lKA (hk_K hK 0 rfl rfl)) rfl (by decide) rfl (Nat.le_of_ble_eq_true rfl) (by decide) (fun r u hu => ?_)
  refine z_eqs (σ' := (ap b σ [] [] [])) hu.2 ?_
  show zx p l e _ s m _ below meth c g 13 0 0 _ _ 5 [(0, .ref (b + 0)), (1, .int 4), (2, .int w1), (3, .int w2), (4, .int w3), (5, .int w4)] _
  refine z_setr (y := (some (b + 25))) hu.1 ?_
  refine z_astore (lv' := [(6, .ref (b + 25)), (0, .ref (b + 0)), (1, .int 4), (2, .int w1), (3, .int w2), (4, .int w3), (5, .int w4)]) B dX8_check_5 (by decide) rfl ?_
  refine z_aload B dX8_check_7 0 rfl ?_
  refine z_ifnull (r := (some (b + 25))) (tgt := 21) B dX8_check_9 (by decide) (fun h => nomatch h) (fun _ _ => ?_)
  refine z_iload_n B dX8_check_12 rfl 3 rfl ?_
  refine z_bipush (v := 20) B dX8_check_13 (by decide) ?_
  refine z_cSi (As := [.int w1, .int 20]) (rest := []) B cw_X8_68 dX8_check_15 (ci_X8_isBelow_64 l (σ := (ap b σ [] [] [])) (b := b) (lyA hK) w1 q1_w1 q2_w1) rfl (by decide) rfl (Nat.le_of_ble_eq_true rfl) (by decide) (fun r u hu => ?_)
  refine z_eqs (σ' := (ap b σ [] [] [])) hu.2 ?_
  show zx p l e _ s m _ below meth c g 13 0 0 _ _ 18 [(6, .ref (b + 25)), (0, .ref (b + 0)), (1, .int 4), (2, .int w1), (3, .int w2), (4, .int w3), (5, .int w4)] _
  refine z_seti (y := 1) hu.1 ?_
  refine z_if_ne (tgt := 31) B dX8_check_18 (by decide) (fun _ => ?_) (fun h => absurd h (by decide))
  refine z_iload_n B dX8_check_31 rfl 4 rfl ?_
  refine z_iload B dX8_check_32 5 rfl ?_
  refine z_iload B dX8_check_34 6 rfl ?_
  refine z_cSi (As := [.int w2, .int w3, .int w4]) (rest := []) B cw_X8_79 dX8_check_36 (ci_X8_isStep_81 l (σ := (ap b σ [] [] [])) (b := b) (lyA hK) w2 w3 w4 q1_w2 q2_w2 q1_w3 q2_w3 q1_w4 q2_w4) rfl (by decide) rfl (Nat.le_of_ble_eq_true rfl) (by decide) (fun r u hu => ?_)
  refine z_eqs (σ' := (ap b σ [] [] [])) hu.2 ?_
  show zx p l e _ s m _ below meth c g 13 0 0 _ _ 39 [(6, .ref (b + 25)), (0, .ref (b + 0)), (1, .int 4), (2, .int w1), (3, .int w2), (4, .int w3), (5, .int w4)] _
  refine z_seti (y := 0) hu.1 ?_
  refine z_if_ne (tgt := 52) B dX8_check_39 (by decide) (fun h => absurd (by decide) h) (fun _ => ?_)
  exact z_throw B hlt hout (cls := "java/lang/IllegalArgumentException") (text := "no such operation") tw_X8_83_85_87 dX8_check_42 dX8_check_45 dX8_check_46 dX8_check_48 dX8_check_51 (by decide) (by decide) (by decide) (by decide) (by decide) (by decide) (fun z => ⟨z, rfl⟩)
set_option maxRecDepth 100000 in
set_option maxHeartbeats 4000000 in
theorem ci_L_check_572 (l : Launch) (hlt : l.stackTraces = false) {g : gx_T} {σ : sx_T} {b : Nat} (hK : lay b σ) (w1 : Int32) (w2 : Int32) (w3 : Int32) (w4 : Int32) (q1_w1 : (0 : Int) ≤ w1.toInt) (q2_w1 : w1.toInt ≤ (19 : Int)) (q1_w2 : (0 : Int) ≤ w2.toInt) (q2_w2 : w2.toInt ≤ (17 : Int)) (q1_w3 : (0 : Int) ≤ w3.toInt) (q2_w3 : w3.toInt ≤ (99 : Int)) (q1_w4 : (-2147483648 : Int) ≤ w4.toInt) (q2_w4 : w4.toInt ≤ (-1 : Int)) (hR_0_0 : sx_R σ (b + 0) 0 = (some (b + 1))) (hR_1_4 : sx_R σ (b + 1) 4 = (some (b + 25))) : Met l yL_check (.codeWith yL_check cL_check 8 (some .int) [(0, 16, 19, 13), (0, 16, 23, 15)] :: lw_g) { frames := 8, cells := 1, slots := 6, locals := 168 } (va_Pc [.ref (b + 0), .int 4, .int w1, .int w2, .int w3, .int w4, .ref (b + 431)] (zx_w g σ)) (va_Qi (fun r u => r = 2 ∧ ∃ z, u = (ap b (wx_Z σ z) [] [] [])) (zx_w g) (gx_Q g)) 1 6 (gx_Q g) := by
  refine z_metW (by decide) (Nat.le_of_ble_eq_true rfl) (fun p e s m below meth c B hr htab => ?_)
  refine z_eqs (σ' := (ap b σ [] [] [])) rfl ?_
  show zx p l e _ s m _ below meth c g 8 0 0 _ _ 0 [(0, .ref (b + 0)), (1, .int 4), (2, .int w1), (3, .int w2), (4, .int w3), (5, .int w4), (6, .ref (b + 431))] []
  refine z_aload B dL_check_0 6 rfl ?_
  refine z_iconst (v := 0) B dL_check_2 (by decide) ?_
  refine z_aload_n B dL_check_3 rfl 0 rfl ?_
  refine z_iload_n B dL_check_4 rfl 1 rfl ?_
  refine z_iload_n B dL_check_5 rfl 2 rfl ?_
  refine z_iload_n B dL_check_6 rfl 3 rfl ?_
  refine z_iload B dL_check_7 4 rfl ?_
  refine z_iload B dL_check_9 5 rfl ?_
  refine z_cXi (As := [.int 4, .int w1, .int w2, .int w3, .int w4]) (rest := [.int 0, .ref (b + 431)]) B htab tc_check_11_IllegalArgumentException cw_L_17 cx_9 dL_check_11 (ci_X8_check_571 l hlt (σ := (ap b σ [] [] [])) (b := b) (lyA hK) w1 w2 w3 w4 q1_w1 q2_w1 q1_w2 q2_w2 q1_w3 q2_w3 q1_w4 q2_w4 (rR_at 0 0 hR_0_0) (rR_at 1 4 hR_1_4)) (lKA (hk_K hK 0 rfl rfl)) rfl (by decide) rfl (Nat.le_of_ble_eq_true rfl) (by decide) (fun z q => ?_)
  refine z_eqs (σ' := (ap b (wx_Z σ z) [] [] [])) rfl ?_
  show zx p l e _ s m _ below meth c g 8 _ _ _ _ 23 [(0, .ref (b + 0)), (1, .int 4), (2, .int w1), (3, .int w2), (4, .int w3), (5, .int w4), (6, .ref (b + 431))] _
  refine z_astore (lv' := [(7, .ref q), (0, .ref (b + 0)), (1, .int 4), (2, .int w1), (3, .int w2), (4, .int w3), (5, .int w4), (6, .ref (b + 431))]) B dL_check_23 (by decide) rfl ?_
  refine z_iconst (v := 2) B dL_check_25 (by decide) ?_
  exact z_iret B hr (by decide) (by decide) dL_check_26 ⟨rfl, _, rfl⟩
set_option maxRecDepth 100000 in
set_option maxHeartbeats 4000000 in
theorem ci_X9_check_573 (l : Launch) {g : gx_T} {σ : sx_T} {b : Nat} (hK : lay b σ) (w1 : Int32) (w2 : Int32) (w3 : Int32) (w4 : Int32) (q1_w1 : (0 : Int) ≤ w1.toInt) (q2_w1 : w1.toInt ≤ (19 : Int)) (q1_w2 : (0 : Int) ≤ w2.toInt) (q2_w2 : w2.toInt ≤ (17 : Int)) (q1_w3 : (0 : Int) ≤ w3.toInt) (q2_w3 : w3.toInt ≤ (99 : Int)) (q1_w4 : (-2147483648 : Int) ≤ w4.toInt) (q2_w4 : w4.toInt ≤ (-1 : Int))  : Met l yX9_check (.code yX9_check cX9_check 11 (some .int) :: lw_g) { frames := 2, cells := 0, slots := 0, locals := 44 } (va_Pc [.ref (b + 405), .int 4, .int w1, .int w2, .int w3, .int w4] (zx_w g σ)) (va_Qi (fun r u => r = 0 ∧ u = (ap b σ [(405, 0, 2)] [] [])) (zx_w g) (gx_Q g)) 0 0 (gx_Q g) := by
  refine z_met (by decide) (Nat.le_of_ble_eq_true rfl) (fun p e s m below meth c B hr hin => ?_)
  refine z_eqs (σ' := (ap b σ [] [] [])) rfl ?_
  show zx p l e _ s m _ below meth c g 11 0 0 _ _ 0 [(0, .ref (b + 405)), (1, .int 4), (2, .int w1), (3, .int w2), (4, .int w3), (5, .int w4)] []
  refine z_aload_n B dX9_check_0 rfl 0 rfl ?_
  refine z_iload_n B dX9_check_1 rfl 1 rfl ?_
  refine z_iload_n B dX9_check_2 rfl 2 rfl ?_
  refine z_cSi (As := [.int 4, .int w1]) (rest := [.ref (b + 405)]) B cw_X9_238 dX9_check_3 (ci_X9_isStep_283 l (σ := (ap b σ [] [] [])) (b := b) (lyA hK) w1 q1_w1 q2_w1) rfl (by decide) rfl (Nat.le_of_ble_eq_true rfl) (by decide) (fun r u hu => ?_)
  refine z_eqs (σ' := (ap b σ [] [] [])) hu.2 ?_
  show zx p l e _ s m _ below meth c g 11 0 0 _ _ 6 [(0, .ref (b + 405)), (1, .int 4), (2, .int w1), (3, .int w2), (4, .int w3), (5, .int w4)] _
  refine z_seti (y := 1) hu.1 ?_
  refine z_iload_n B dX9_check_6 rfl 3 rfl ?_
  refine z_iload B dX9_check_7 4 rfl ?_
  refine z_iload B dX9_check_9 5 rfl ?_
  refine z_cSi (As := [.int w2, .int w3, .int w4]) (rest := [.int 1, .ref (b + 405)]) B cw_X9_242 dX9_check_11 (ci_X9_isOperation_37 l (σ := (ap b σ [] [] [])) (b := b) (lyA hK) w2 w3 w4 q1_w2 q2_w2 q1_w3 q2_w3 q1_w4 q2_w4) rfl (by decide) rfl (Nat.le_of_ble_eq_true rfl) (by decide) (fun r u hu => ?_)
  refine z_eqs (σ' := (ap b σ [] [] [])) hu.2 ?_
  show zx p l e _ s m _ below meth c g 11 0 0 _ _ 14 [(0, .ref (b + 405)), (1, .int 4), (2, .int w1), (3, .int w2), (4, .int w3), (5, .int w4)] _
  refine z_seti (y := 0) hu.1 ?_
  refine z_cVi (As := [.int 1, .int 0]) (rest := []) B cw_X9_245 cx_10 dX9_check_14 (ci_X9_needs__71 l (σ := (ap b σ [] [] [])) (b := b) (lyA hK) ) (lKA (hk_K hK 405 rfl rfl)) rfl (by decide) rfl (Nat.le_of_ble_eq_true rfl) (by decide) (fun r u hu => ?_)
  refine z_eqs (σ' := (ap b σ [(405, 0, 2)] [] [])) (hu.2.trans ap_ap) ?_
  show zx p l e _ s m _ below meth c g 11 0 0 _ _ 17 [(0, .ref (b + 405)), (1, .int 4), (2, .int w1), (3, .int w2), (4, .int w3), (5, .int w4)] _
  refine z_seti (y := 0) hu.1 ?_
  refine z_if_ne (tgt := 22) B dX9_check_17 (by decide) (fun h => absurd (by decide) h) (fun _ => ?_)
  refine z_iconst (v := 0) B dX9_check_20 (by decide) ?_
  exact z_iret B hr (by decide) (by decide) dX9_check_21 ⟨rfl, rfl⟩
set_option maxRecDepth 100000 in
set_option maxHeartbeats 4000000 in
theorem ci_X4_operation_574 (l : Launch) {g : gx_T} {σ : sx_T} {b : Nat} (hK : lay b σ) (w1 : Int32) (q1_w1 : (0 : Int) ≤ w1.toInt) (q2_w1 : w1.toInt ≤ (19 : Int)) (hR_25_1 : sx_R σ (b + 25) 1 = (some (b + 26))) : Met l yX4_operation (.code yX4_operation cX4_operation 2 (some .int) :: lw_g) { frames := 0, cells := 0, slots := 0, locals := 0 } (va_Pc [.ref (b + 25), .int w1] (zx_w g σ)) (va_Qi (fun r u => ∃ y1 : Int32, r = y1 ∧ u = σ) (zx_w g) (gx_Q g)) 0 0 (gx_Q g) := by
  refine z_met (by decide) (Nat.le_of_ble_eq_true rfl) (fun p e s m below meth c B hr hin => ?_)
  refine z_eqs (σ' := (ap b σ [] [] [])) rfl ?_
  show zx p l e _ s m _ below meth c g 2 0 0 _ _ 0 [(0, .ref (b + 25)), (1, .int w1)] []
  refine z_iload_n B dX4_operation_0 rfl 1 rfl ?_
  refine z_if_lt (tgt := 22) B dX4_operation_1 (by decide) (fun h => absurd h (iv_nlt q1_w1 (by decide))) (fun _ => ?_)
  refine z_iload_n B dX4_operation_4 rfl 1 rfl ?_
  refine z_aload_n B dX4_operation_5 rfl 0 rfl ?_
  refine gf_X4_9 (x := (some (b + 26))) B (lKA (hk_K hK 25 rfl rfl)) (rR_at 25 1 hR_25_1) dX4_operation_6 ?_
  refine z_alen (kd := 13) (ti := 1) (v := 20) B (lKA (hk_K hK 26 rfl rfl)) (by decide) rfl (congrArg Int32.ofNat (lNA (hk_N hK 26 rfl rfl))) dX4_operation_9 ?_
  refine z_icmp_ge (tgt := 22) B dX4_operation_10 (by decide) (fun h => absurd h (iv_nge q2_w1 (by decide))) (fun _ => ?_)
  refine z_aload_n B dX4_operation_13 rfl 0 rfl ?_
  refine gf_X4_9 (x := (some (b + 26))) B (lKA (hk_K hK 25 rfl rfl)) (rR_at 25 1 hR_25_1) dX4_operation_14 ?_
  refine z_iload_n B dX4_operation_17 rfl 1 rfl ?_
  refine z_iald (j := w1.toNatClampNeg) B (lKA (hk_K hK 26 rfl rfl)) rfl (in_of (lNA (hk_N hK 26 rfl rfl)) (iv_in q1_w1 q2_w1 (by decide) (by decide))) rfl dX4_operation_18 ?_
  refine z_topi (fun y1 e_y1 => ?_)
  refine z_goto (tgt := 23) B dX4_operation_19 (by decide) ?_
  exact z_iret B hr (by decide) (by decide) dX4_operation_23 ⟨y1, rfl, rfl⟩
set_option maxRecDepth 100000 in
set_option maxHeartbeats 4000000 in
theorem ci_X4_first_575 (l : Launch) {g : gx_T} {σ : sx_T} {b : Nat} (hK : lay b σ) (w1 : Int32) (q1_w1 : (0 : Int) ≤ w1.toInt) (q2_w1 : w1.toInt ≤ (19 : Int)) (hR_25_2 : sx_R σ (b + 25) 2 = (some (b + 27))) : Met l yX4_first (.code yX4_first cX4_first 2 (some .int) :: lw_g) { frames := 0, cells := 0, slots := 0, locals := 0 } (va_Pc [.ref (b + 25), .int w1] (zx_w g σ)) (va_Qi (fun r u => ∃ y2 : Int32, r = y2 ∧ u = σ) (zx_w g) (gx_Q g)) 0 0 (gx_Q g) := by
  refine z_met (by decide) (Nat.le_of_ble_eq_true rfl) (fun p e s m below meth c B hr hin => ?_)
  refine z_eqs (σ' := (ap b σ [] [] [])) rfl ?_
  show zx p l e _ s m _ below meth c g 2 0 0 _ _ 0 [(0, .ref (b + 25)), (1, .int w1)] []
  refine z_iload_n B dX4_first_0 rfl 1 rfl ?_
  refine z_if_lt (tgt := 22) B dX4_first_1 (by decide) (fun h => absurd h (iv_nlt q1_w1 (by decide))) (fun _ => ?_)
  refine z_iload_n B dX4_first_4 rfl 1 rfl ?_
  refine z_aload_n B dX4_first_5 rfl 0 rfl ?_
  refine gf_X4_15 (x := (some (b + 27))) B (lKA (hk_K hK 25 rfl rfl)) (rR_at 25 2 hR_25_2) dX4_first_6 ?_
  refine z_alen (kd := 13) (ti := 1) (v := 20) B (lKA (hk_K hK 27 rfl rfl)) (by decide) rfl (congrArg Int32.ofNat (lNA (hk_N hK 27 rfl rfl))) dX4_first_9 ?_
  refine z_icmp_ge (tgt := 22) B dX4_first_10 (by decide) (fun h => absurd h (iv_nge q2_w1 (by decide))) (fun _ => ?_)
  refine z_aload_n B dX4_first_13 rfl 0 rfl ?_
  refine gf_X4_15 (x := (some (b + 27))) B (lKA (hk_K hK 25 rfl rfl)) (rR_at 25 2 hR_25_2) dX4_first_14 ?_
  refine z_iload_n B dX4_first_17 rfl 1 rfl ?_
  refine z_iald (j := w1.toNatClampNeg) B (lKA (hk_K hK 27 rfl rfl)) rfl (in_of (lNA (hk_N hK 27 rfl rfl)) (iv_in q1_w1 q2_w1 (by decide) (by decide))) rfl dX4_first_18 ?_
  refine z_topi (fun y2 e_y2 => ?_)
  refine z_goto (tgt := 23) B dX4_first_19 (by decide) ?_
  exact z_iret B hr (by decide) (by decide) dX4_first_23 ⟨y2, rfl, rfl⟩
set_option maxRecDepth 100000 in
set_option maxHeartbeats 4000000 in
theorem ci_X4_second_576 (l : Launch) {g : gx_T} {σ : sx_T} {b : Nat} (hK : lay b σ) (w1 : Int32) (q1_w1 : (0 : Int) ≤ w1.toInt) (q2_w1 : w1.toInt ≤ (19 : Int)) (hR_25_3 : sx_R σ (b + 25) 3 = (some (b + 28))) : Met l yX4_second (.code yX4_second cX4_second 2 (some .int) :: lw_g) { frames := 0, cells := 0, slots := 0, locals := 0 } (va_Pc [.ref (b + 25), .int w1] (zx_w g σ)) (va_Qi (fun r u => ∃ y3 : Int32, r = y3 ∧ u = σ) (zx_w g) (gx_Q g)) 0 0 (gx_Q g) := by
  refine z_met (by decide) (Nat.le_of_ble_eq_true rfl) (fun p e s m below meth c B hr hin => ?_)
  refine z_eqs (σ' := (ap b σ [] [] [])) rfl ?_
  show zx p l e _ s m _ below meth c g 2 0 0 _ _ 0 [(0, .ref (b + 25)), (1, .int w1)] []
  refine z_iload_n B dX4_second_0 rfl 1 rfl ?_
  refine z_if_lt (tgt := 22) B dX4_second_1 (by decide) (fun h => absurd h (iv_nlt q1_w1 (by decide))) (fun _ => ?_)
  refine z_iload_n B dX4_second_4 rfl 1 rfl ?_
  refine z_aload_n B dX4_second_5 rfl 0 rfl ?_
  refine gf_X4_18 (x := (some (b + 28))) B (lKA (hk_K hK 25 rfl rfl)) (rR_at 25 3 hR_25_3) dX4_second_6 ?_
  refine z_alen (kd := 13) (ti := 1) (v := 20) B (lKA (hk_K hK 28 rfl rfl)) (by decide) rfl (congrArg Int32.ofNat (lNA (hk_N hK 28 rfl rfl))) dX4_second_9 ?_
  refine z_icmp_ge (tgt := 22) B dX4_second_10 (by decide) (fun h => absurd h (iv_nge q2_w1 (by decide))) (fun _ => ?_)
  refine z_aload_n B dX4_second_13 rfl 0 rfl ?_
  refine gf_X4_18 (x := (some (b + 28))) B (lKA (hk_K hK 25 rfl rfl)) (rR_at 25 3 hR_25_3) dX4_second_14 ?_
  refine z_iload_n B dX4_second_17 rfl 1 rfl ?_
  refine z_iald (j := w1.toNatClampNeg) B (lKA (hk_K hK 28 rfl rfl)) rfl (in_of (lNA (hk_N hK 28 rfl rfl)) (iv_in q1_w1 q2_w1 (by decide) (by decide))) rfl dX4_second_18 ?_
  refine z_topi (fun y3 e_y3 => ?_)
  refine z_goto (tgt := 23) B dX4_second_19 (by decide) ?_
  exact z_iret B hr (by decide) (by decide) dX4_second_23 ⟨y3, rfl, rfl⟩
set_option maxRecDepth 100000 in
set_option maxHeartbeats 4000000 in
theorem ci_X8_check_577 (l : Launch) {g : gx_T} {σ : sx_T} {b : Nat} (hK : lay b σ) (w1 : Int32) (w2 : Int32) (w3 : Int32) (w4 : Int32) (q1_w1 : (0 : Int) ≤ w1.toInt) (q2_w1 : w1.toInt ≤ (19 : Int)) (q1_w2 : (0 : Int) ≤ w2.toInt) (q2_w2 : w2.toInt ≤ (17 : Int)) (q1_w3 : (0 : Int) ≤ w3.toInt) (q2_w3 : w3.toInt ≤ (99 : Int)) (q1_w4 : (0 : Int) ≤ w4.toInt) (q2_w4 : w4.toInt ≤ (99 : Int)) (hI_0_7 : sx_I σ (b + 0) 7 = 0) (hR_0_0 : sx_R σ (b + 0) 0 = (some (b + 1))) (hR_1_4 : sx_R σ (b + 1) 4 = (some (b + 25))) (hR_25_1 : sx_R σ (b + 25) 1 = (some (b + 26))) (hR_25_2 : sx_R σ (b + 25) 2 = (some (b + 27))) (hR_25_3 : sx_R σ (b + 25) 3 = (some (b + 28))) : Met l yX8_check (.code yX8_check cX8_check 13 (some .int) :: lw_g) { frames := 2, cells := 0, slots := 0, locals := 43 } (va_Pc [.ref (b + 0), .int 4, .int w1, .int w2, .int w3, .int w4] (zx_w g σ)) (va_Qi (fun r u => ∃ y1 y2 y3 : Int32, r = 0 ∧ u = (ap b (wx_I (ap b (wx_I (ap b (wx_I (ap b (ap b (wx_I (ap b (wx_I (ap b (wx_I (ap b (ap b σ [] [] []) [] [] []) (b + 26) w1.toNatClampNeg w2) [] [] []) (b + 27) w1.toNatClampNeg w3) [] [] []) (b + 28) w1.toNatClampNeg w4) [] [] []) [] [] []) (b + 26) w1.toNatClampNeg y1) [] [] []) (b + 27) w1.toNatClampNeg y2) [] [] []) (b + 28) w1.toNatClampNeg y3) [] [] [])) (zx_w g) (gx_Q g)) 0 0 (gx_Q g) := by
  refine z_met (by decide) (Nat.le_of_ble_eq_true rfl) (fun p e s m below meth c B hr hin => ?_)
  refine z_eqs (σ' := (ap b σ [] [] [])) rfl ?_
  show zx p l e _ s m _ below meth c g 13 0 0 _ _ 0 [(0, .ref (b + 0)), (1, .int 4), (2, .int w1), (3, .int w2), (4, .int w3), (5, .int w4)] []
  refine z_aload_n B dX8_check_0 rfl 0 rfl ?_
  refine z_iload_n B dX8_check_1 rfl 1 rfl ?_
  refine z_cVq (As := [.int 4]) (rest := []) B cw_X8_64 cx_9 dX8_check_2 (ci_X8_programAt_269 l (σ := (ap b σ [] [] [])) (b := b) (lyA hK) (rR_at 0 0 hR_0_0) (rR_at 1 4 hR_1_4)) (lKA (hk_K hK 0 rfl rfl)) rfl (by decide) rfl (Nat.le_of_ble_eq_true rfl) (by decide) (fun r u hu => ?_)
  refine z_eqs (σ' := (ap b σ [] [] [])) hu.2 ?_
  show zx p l e _ s m _ below meth c g 13 0 0 _ _ 5 [(0, .ref (b + 0)), (1, .int 4), (2, .int w1), (3, .int w2), (4, .int w3), (5, .int w4)] _
  refine z_setr (y := (some (b + 25))) hu.1 ?_
  refine z_astore (lv' := [(6, .ref (b + 25)), (0, .ref (b + 0)), (1, .int 4), (2, .int w1), (3, .int w2), (4, .int w3), (5, .int w4)]) B dX8_check_5 (by decide) rfl ?_
  refine z_aload B dX8_check_7 0 rfl ?_
  refine z_ifnull (r := (some (b + 25))) (tgt := 21) B dX8_check_9 (by decide) (fun h => nomatch h) (fun _ _ => ?_)
  refine z_iload_n B dX8_check_12 rfl 3 rfl ?_
  refine z_bipush (v := 20) B dX8_check_13 (by decide) ?_
  refine z_cSi (As := [.int w1, .int 20]) (rest := []) B cw_X8_68 dX8_check_15 (ci_X8_isBelow_64 l (σ := (ap b σ [] [] [])) (b := b) (lyA hK) w1 q1_w1 q2_w1) rfl (by decide) rfl (Nat.le_of_ble_eq_true rfl) (by decide) (fun r u hu => ?_)
  refine z_eqs (σ' := (ap b σ [] [] [])) hu.2 ?_
  show zx p l e _ s m _ below meth c g 13 0 0 _ _ 18 [(6, .ref (b + 25)), (0, .ref (b + 0)), (1, .int 4), (2, .int w1), (3, .int w2), (4, .int w3), (5, .int w4)] _
  refine z_seti (y := 1) hu.1 ?_
  refine z_if_ne (tgt := 31) B dX8_check_18 (by decide) (fun _ => ?_) (fun h => absurd h (by decide))
  refine z_iload_n B dX8_check_31 rfl 4 rfl ?_
  refine z_iload B dX8_check_32 5 rfl ?_
  refine z_iload B dX8_check_34 6 rfl ?_
  refine z_cSi (As := [.int w2, .int w3, .int w4]) (rest := []) B cw_X8_79 dX8_check_36 (ci_X8_isStep_85 l (σ := (ap b σ [] [] [])) (b := b) (lyA hK) w2 w3 w4 q1_w2 q2_w2 q1_w3 q2_w3 q1_w4 q2_w4) rfl (by decide) rfl (Nat.le_of_ble_eq_true rfl) (by decide) (fun r u hu => ?_)
  refine z_eqs (σ' := (ap b σ [] [] [])) hu.2 ?_
  show zx p l e _ s m _ below meth c g 13 0 0 _ _ 39 [(6, .ref (b + 25)), (0, .ref (b + 0)), (1, .int 4), (2, .int w1), (3, .int w2), (4, .int w3), (5, .int w4)] _
  refine z_seti (y := 1) hu.1 ?_
  refine z_if_ne (tgt := 52) B dX8_check_39 (by decide) (fun _ => ?_) (fun h => absurd h (by decide))
  refine z_aload B dX8_check_52 0 rfl ?_
  refine z_iload_n B dX8_check_54 rfl 3 rfl ?_
  refine z_cVi (As := [.int w1]) (rest := []) B cw_X8_119 cx_5 dX8_check_55 (ci_X4_operation_574 l (σ := (ap b σ [] [] [])) (b := b) (lyA hK) w1 q1_w1 q2_w1 (rR_at 25 1 hR_25_1)) (lKA (hk_K hK 25 rfl rfl)) rfl (by decide) rfl (Nat.le_of_ble_eq_true rfl) (by decide) (fun r u hu => ?_)
  obtain ⟨y1, hu⟩ := hu
  refine z_eqs (σ' := (ap b σ [] [] [])) hu.2 ?_
  show zx p l e _ s m _ below meth c g 13 0 0 _ _ 58 [(6, .ref (b + 25)), (0, .ref (b + 0)), (1, .int 4), (2, .int w1), (3, .int w2), (4, .int w3), (5, .int w4)] _
  refine z_seti (y := y1) hu.1 ?_
  refine z_istore (lv' := [(7, .int y1), (6, .ref (b + 25)), (0, .ref (b + 0)), (1, .int 4), (2, .int w1), (3, .int w2), (4, .int w3), (5, .int w4)]) B dX8_check_58 (by decide) rfl ?_
  refine z_aload B dX8_check_60 1 rfl ?_
  refine z_iload_n B dX8_check_62 rfl 4 rfl ?_
  refine z_cVi (As := [.int w1]) (rest := []) B cw_X8_123 cx_5 dX8_check_63 (ci_X4_first_575 l (σ := (ap b σ [] [] [])) (b := b) (lyA hK) w1 q1_w1 q2_w1 (rR_at 25 2 hR_25_2)) (lKA (hk_K hK 25 rfl rfl)) rfl (by decide) rfl (Nat.le_of_ble_eq_true rfl) (by decide) (fun r u hu => ?_)
  obtain ⟨y2, hu⟩ := hu
  refine z_eqs (σ' := (ap b σ [] [] [])) hu.2 ?_
  show zx p l e _ s m _ below meth c g 13 0 0 _ _ 66 [(7, .int y1), (6, .ref (b + 25)), (0, .ref (b + 0)), (1, .int 4), (2, .int w1), (3, .int w2), (4, .int w3), (5, .int w4)] _
  refine z_seti (y := y2) hu.1 ?_
  refine z_istore (lv' := [(8, .int y2), (7, .int y1), (6, .ref (b + 25)), (0, .ref (b + 0)), (1, .int 4), (2, .int w1), (3, .int w2), (4, .int w3), (5, .int w4)]) B dX8_check_66 (by decide) rfl ?_
  refine z_aload B dX8_check_68 2 rfl ?_
  refine z_iload_n B dX8_check_70 rfl 5 rfl ?_
  refine z_cVi (As := [.int w1]) (rest := []) B cw_X8_126 cx_5 dX8_check_71 (ci_X4_second_576 l (σ := (ap b σ [] [] [])) (b := b) (lyA hK) w1 q1_w1 q2_w1 (rR_at 25 3 hR_25_3)) (lKA (hk_K hK 25 rfl rfl)) rfl (by decide) rfl (Nat.le_of_ble_eq_true rfl) (by decide) (fun r u hu => ?_)
  obtain ⟨y3, hu⟩ := hu
  refine z_eqs (σ' := (ap b σ [] [] [])) hu.2 ?_
  show zx p l e _ s m _ below meth c g 13 0 0 _ _ 74 [(8, .int y2), (7, .int y1), (6, .ref (b + 25)), (0, .ref (b + 0)), (1, .int 4), (2, .int w1), (3, .int w2), (4, .int w3), (5, .int w4)] _
  refine z_seti (y := y3) hu.1 ?_
  refine z_istore (lv' := [(9, .int y3), (8, .int y2), (7, .int y1), (6, .ref (b + 25)), (0, .ref (b + 0)), (1, .int 4), (2, .int w1), (3, .int w2), (4, .int w3), (5, .int w4)]) B dX8_check_74 (by decide) rfl ?_
  refine z_aload B dX8_check_76 3 rfl ?_
  refine z_iload_n B dX8_check_78 rfl 6 rfl ?_
  refine z_iload_n B dX8_check_79 rfl 7 rfl ?_
  refine z_iload B dX8_check_80 8 rfl ?_
  refine z_iload B dX8_check_82 9 rfl ?_
  refine z_cVv (As := [.int w1, .int w2, .int w3, .int w4]) (rest := []) B cw_X8_88 cx_5 dX8_check_84 (ci_X4_put_291 l (σ := (ap b σ [] [] [])) (b := b) (lyA hK) w1 w2 w3 w4 q1_w1 q2_w1 (rR_at 25 1 hR_25_1) (rR_at 25 2 hR_25_2) (rR_at 25 3 hR_25_3)) (lKA (hk_K hK 25 rfl rfl)) rfl (by decide) rfl (Nat.le_of_ble_eq_true rfl) (by decide) (fun u hu => ?_)
  refine z_eqs (σ' := (ap b (wx_I (ap b (wx_I (ap b (wx_I (ap b (ap b σ [] [] []) [] [] []) (b + 26) w1.toNatClampNeg w2) [] [] []) (b + 27) w1.toNatClampNeg w3) [] [] []) (b + 28) w1.toNatClampNeg w4) [] [] [])) hu ?_
  show zx p l e _ s m _ below meth c g 13 0 0 _ _ 87 [(9, .int y3), (8, .int y2), (7, .int y1), (6, .ref (b + 25)), (0, .ref (b + 0)), (1, .int 4), (2, .int w1), (3, .int w2), (4, .int w3), (5, .int w4)] _
  refine z_iconst (v := 0) B dX8_check_87 (by decide) ?_
  refine z_istore (lv' := [(10, .int 0), (9, .int y3), (8, .int y2), (7, .int y1), (6, .ref (b + 25)), (0, .ref (b + 0)), (1, .int 4), (2, .int w1), (3, .int w2), (4, .int w3), (5, .int w4)]) B dX8_check_88 (by decide) rfl ?_
  refine z_iconst (v := 0) B dX8_check_90 (by decide) ?_
  refine z_istore (lv' := [(11, .int 0), (10, .int 0), (9, .int y3), (8, .int y2), (7, .int y1), (6, .ref (b + 25)), (0, .ref (b + 0)), (1, .int 4), (2, .int w1), (3, .int w2), (4, .int w3), (5, .int w4)]) B dX8_check_91 (by decide) rfl ?_
  refine z_iload B dX8_check_93 0 rfl ?_
  refine z_aload_n B dX8_check_95 rfl 6 rfl ?_
  refine gf_X8_96 (x := 0) B (lKA (lKW (lKA (lKW (lKA (lKW (lKA (lKA (hk_K hK 0 rfl rfl))))))))) (rI_at 0 7 ((ux_a (by omega)).trans (rI_at 0 7 ((ux_a (by omega)).trans (rI_at 0 7 ((ux_a (by omega)).trans (rI_at 0 7 (rI_at 0 7 hI_0_7)))))))) dX8_check_96 ?_
  refine z_icmp_ge (tgt := 154) B dX8_check_99 (by decide) (fun _ => ?_) (fun h => absurd (by decide) h)
  refine z_aload B dX8_check_154 5 rfl ?_
  refine z_iload_n B dX8_check_156 rfl 8 rfl ?_
  refine z_iload B dX8_check_157 4 rfl ?_
  refine z_iload B dX8_check_159 3 rfl ?_
  refine z_iload B dX8_check_161 2 rfl ?_
  refine z_cVv (As := [.int w1, .int y1, .int y2, .int y3]) (rest := []) B cw_X8_88 cx_5 dX8_check_163 (ci_X4_put_291 l (σ := (ap b (wx_I (ap b (wx_I (ap b (wx_I (ap b (ap b σ [] [] []) [] [] []) (b + 26) w1.toNatClampNeg w2) [] [] []) (b + 27) w1.toNatClampNeg w3) [] [] []) (b + 28) w1.toNatClampNeg w4) [] [] [])) (b := b) (lyA (lyW (lyA (lyW (lyA (lyW (lyA (lyA hK)))))))) w1 y1 y2 y3 q1_w1 q2_w1 (rR_at 25 1 (rR_w (rR_at 25 1 (rR_w (rR_at 25 1 (rR_w (rR_at 25 1 (rR_at 25 1 hR_25_1)))))))) (rR_at 25 2 (rR_w (rR_at 25 2 (rR_w (rR_at 25 2 (rR_w (rR_at 25 2 (rR_at 25 2 hR_25_2)))))))) (rR_at 25 3 (rR_w (rR_at 25 3 (rR_w (rR_at 25 3 (rR_w (rR_at 25 3 (rR_at 25 3 hR_25_3))))))))) (lKA (lKW (lKA (lKW (lKA (lKW (lKA (lKA (hk_K hK 25 rfl rfl))))))))) rfl (by decide) rfl (Nat.le_of_ble_eq_true rfl) (by decide) (fun u hu => ?_)
  refine z_eqs (σ' := (ap b (wx_I (ap b (wx_I (ap b (wx_I (ap b (ap b (wx_I (ap b (wx_I (ap b (wx_I (ap b (ap b σ [] [] []) [] [] []) (b + 26) w1.toNatClampNeg w2) [] [] []) (b + 27) w1.toNatClampNeg w3) [] [] []) (b + 28) w1.toNatClampNeg w4) [] [] []) [] [] []) (b + 26) w1.toNatClampNeg y1) [] [] []) (b + 27) w1.toNatClampNeg y2) [] [] []) (b + 28) w1.toNatClampNeg y3) [] [] [])) hu ?_
  show zx p l e _ s m _ below meth c g 13 0 0 _ _ 166 [(11, .int 0), (10, .int 0), (9, .int y3), (8, .int y2), (7, .int y1), (6, .ref (b + 25)), (0, .ref (b + 0)), (1, .int 4), (2, .int w1), (3, .int w2), (4, .int w3), (5, .int w4)] _
  refine z_iload B dX8_check_166 1 rfl ?_
  exact z_iret B hr (by decide) (by decide) dX8_check_168 ⟨y1, y2, y3, rfl, rfl⟩
set_option maxRecDepth 100000 in
set_option maxHeartbeats 4000000 in
theorem ci_L_check_578 (l : Launch) {g : gx_T} {σ : sx_T} {b : Nat} (hK : lay b σ) (w1 : Int32) (w2 : Int32) (w3 : Int32) (w4 : Int32) (q1_w1 : (0 : Int) ≤ w1.toInt) (q2_w1 : w1.toInt ≤ (19 : Int)) (q1_w2 : (0 : Int) ≤ w2.toInt) (q2_w2 : w2.toInt ≤ (17 : Int)) (q1_w3 : (0 : Int) ≤ w3.toInt) (q2_w3 : w3.toInt ≤ (99 : Int)) (q1_w4 : (0 : Int) ≤ w4.toInt) (q2_w4 : w4.toInt ≤ (99 : Int)) (hI_0_7 : sx_I σ (b + 0) 7 = 0) (hR_0_0 : sx_R σ (b + 0) 0 = (some (b + 1))) (hR_1_4 : sx_R σ (b + 1) 4 = (some (b + 25))) (hR_25_1 : sx_R σ (b + 25) 1 = (some (b + 26))) (hR_25_2 : sx_R σ (b + 25) 2 = (some (b + 27))) (hR_25_3 : sx_R σ (b + 25) 3 = (some (b + 28))) : Met l yL_check (.codeWith yL_check cL_check 8 (some .int) [(0, 16, 19, 13), (0, 16, 23, 15)] :: lw_g) { frames := 3, cells := 0, slots := 0, locals := 75 } (va_Pc [.ref (b + 0), .int 4, .int w1, .int w2, .int w3, .int w4, .ref (b + 431)] (zx_w g σ)) (va_Qi (fun r u => ∃ y1 y2 y3 : Int32, r = 0 ∧ u = (ap b (wx_I (ap b (wx_I (ap b (wx_I (ap b (ap b (wx_I (ap b (wx_I (ap b (wx_I (ap b (ap b (ap b σ [] [] []) [] [] []) [] [] []) (b + 26) w1.toNatClampNeg w2) [] [] []) (b + 27) w1.toNatClampNeg w3) [] [] []) (b + 28) w1.toNatClampNeg w4) [] [] []) [] [] []) (b + 26) w1.toNatClampNeg y1) [] [] []) (b + 27) w1.toNatClampNeg y2) [] [] []) (b + 28) w1.toNatClampNeg y3) [] [(431, 0, 0)] [])) (zx_w g) (gx_Q g)) 0 0 (gx_Q g) := by
  refine z_metW (by decide) (Nat.le_of_ble_eq_true rfl) (fun p e s m below meth c B hr htab => ?_)
  refine z_eqs (σ' := (ap b σ [] [] [])) rfl ?_
  show zx p l e _ s m _ below meth c g 8 0 0 _ _ 0 [(0, .ref (b + 0)), (1, .int 4), (2, .int w1), (3, .int w2), (4, .int w3), (5, .int w4), (6, .ref (b + 431))] []
  refine z_aload B dL_check_0 6 rfl ?_
  refine z_iconst (v := 0) B dL_check_2 (by decide) ?_
  refine z_aload_n B dL_check_3 rfl 0 rfl ?_
  refine z_iload_n B dL_check_4 rfl 1 rfl ?_
  refine z_iload_n B dL_check_5 rfl 2 rfl ?_
  refine z_iload_n B dL_check_6 rfl 3 rfl ?_
  refine z_iload B dL_check_7 4 rfl ?_
  refine z_iload B dL_check_9 5 rfl ?_
  refine z_cVi (As := [.int 4, .int w1, .int w2, .int w3, .int w4]) (rest := [.int 0, .ref (b + 431)]) B cw_L_17 cx_9 dL_check_11 (ci_X8_check_577 l (σ := (ap b σ [] [] [])) (b := b) (lyA hK) w1 w2 w3 w4 q1_w1 q2_w1 q1_w2 q2_w2 q1_w3 q2_w3 q1_w4 q2_w4 (rI_at 0 7 hI_0_7) (rR_at 0 0 hR_0_0) (rR_at 1 4 hR_1_4) (rR_at 25 1 hR_25_1) (rR_at 25 2 hR_25_2) (rR_at 25 3 hR_25_3)) (lKA (hk_K hK 0 rfl rfl)) rfl (by decide) rfl (Nat.le_of_ble_eq_true rfl) (by decide) (fun r u hu => ?_)
  obtain ⟨y1, y2, y3, hu⟩ := hu
  refine z_eqs (σ' := (ap b (wx_I (ap b (wx_I (ap b (wx_I (ap b (ap b (wx_I (ap b (wx_I (ap b (wx_I (ap b (ap b (ap b σ [] [] []) [] [] []) [] [] []) (b + 26) w1.toNatClampNeg w2) [] [] []) (b + 27) w1.toNatClampNeg w3) [] [] []) (b + 28) w1.toNatClampNeg w4) [] [] []) [] [] []) (b + 26) w1.toNatClampNeg y1) [] [] []) (b + 27) w1.toNatClampNeg y2) [] [] []) (b + 28) w1.toNatClampNeg y3) [] [] [])) hu.2 ?_
  show zx p l e _ s m _ below meth c g 8 0 0 _ _ 14 [(0, .ref (b + 0)), (1, .int 4), (2, .int w1), (3, .int w2), (4, .int w3), (5, .int w4), (6, .ref (b + 431))] _
  refine z_seti (y := 0) hu.1 ?_
  refine z_i2l (v := 0) B dL_check_14 (by decide) ?_
  refine z_last (j := 0) (σ' := (ap b (wx_I (ap b (wx_I (ap b (wx_I (ap b (ap b (wx_I (ap b (wx_I (ap b (wx_I (ap b (ap b (ap b σ [] [] []) [] [] []) [] [] []) (b + 26) w1.toNatClampNeg w2) [] [] []) (b + 27) w1.toNatClampNeg w3) [] [] []) (b + 28) w1.toNatClampNeg w4) [] [] []) [] [] []) (b + 26) w1.toNatClampNeg y1) [] [] []) (b + 27) w1.toNatClampNeg y2) [] [] []) (b + 28) w1.toNatClampNeg y3) [] [(431, 0, 0)] [])) B (lKA (lKW (lKA (lKW (lKA (lKW (lKA (lKA (lKW (lKA (lKW (lKA (lKW (lKA (lKA (lKA (hk_K hK 431 rfl rfl))))))))))))))))) (by decide) (in_of (lNA (lNW (lNA (lNW (lNA (lNW (lNA (lNA (lNW (lNA (lNW (lNA (lNW (lNA (lNA (lNA (hk_N hK 431 rfl rfl))))))))))))))))) (show ¬ ((0 : Int32) < 0 ∨ 1 ≤ (0 : Int32).toNatClampNeg) by decide)) wJ_ap dL_check_15 ?_
  refine z_goto (tgt := 27) B dL_check_16 (by decide) ?_
  refine z_iconst (v := 0) B dL_check_27 (by decide) ?_
  exact z_iret B hr (by decide) (by decide) dL_check_28 ⟨y1, y2, y3, rfl, rfl⟩
set_option maxRecDepth 100000 in
set_option maxHeartbeats 4000000 in
theorem ci_X9_check_579 (l : Launch) {g : gx_T} {σ : sx_T} {b : Nat} (hK : lay b σ) (w1 : Int32) (w2 : Int32) (w3 : Int32) (w4 : Int32) (q1_w1 : (0 : Int) ≤ w1.toInt) (q2_w1 : w1.toInt ≤ (19 : Int)) (q1_w2 : (0 : Int) ≤ w2.toInt) (q2_w2 : w2.toInt ≤ (17 : Int)) (q1_w3 : (0 : Int) ≤ w3.toInt) (q2_w3 : w3.toInt ≤ (99 : Int)) (q1_w4 : (0 : Int) ≤ w4.toInt) (q2_w4 : w4.toInt ≤ (99 : Int)) (hI_405_6 : sx_I σ (b + 405) 6 = 0) (hR_405_3 : sx_R σ (b + 405) 3 = (some (b + 406))) (hR_405_4 : sx_R σ (b + 405) 4 = (some (b + 407))) (hR_405_5 : sx_R σ (b + 405) 5 = (some (b + 408))) : Met l yX9_check (.code yX9_check cX9_check 11 (some .int) :: lw_g) { frames := 2, cells := 0, slots := 0, locals := 44 } (va_Pc [.ref (b + 405), .int 4, .int w1, .int w2, .int w3, .int w4] (zx_w g σ)) (va_Qi (fun r u => ∃ y4 y5 y6 : Int32, r = 0 ∧ u = (ap b (wx_I (ap b (wx_I (ap b (wx_I (ap b (ap b (wx_I (ap b (wx_I (ap b (wx_I (ap b (ap b σ [(405, 0, 0)] [] []) [] [] []) (b + 406) (80 + w1).toNatClampNeg w2) [] [] []) (b + 407) (80 + w1).toNatClampNeg w3) [] [] []) (b + 408) (80 + w1).toNatClampNeg w4) [] [] []) [] [] []) (b + 406) (80 + w1).toNatClampNeg y4) [] [] []) (b + 407) (80 + w1).toNatClampNeg y5) [] [] []) (b + 408) (80 + w1).toNatClampNeg y6) [] [] [])) (zx_w g) (gx_Q g)) 0 0 (gx_Q g) := by
  refine z_met (by decide) (Nat.le_of_ble_eq_true rfl) (fun p e s m below meth c B hr hin => ?_)
  refine z_eqs (σ' := (ap b σ [] [] [])) rfl ?_
  show zx p l e _ s m _ below meth c g 11 0 0 _ _ 0 [(0, .ref (b + 405)), (1, .int 4), (2, .int w1), (3, .int w2), (4, .int w3), (5, .int w4)] []
  refine z_aload_n B dX9_check_0 rfl 0 rfl ?_
  refine z_iload_n B dX9_check_1 rfl 1 rfl ?_
  refine z_iload_n B dX9_check_2 rfl 2 rfl ?_
  refine z_cSi (As := [.int 4, .int w1]) (rest := [.ref (b + 405)]) B cw_X9_238 dX9_check_3 (ci_X9_isStep_283 l (σ := (ap b σ [] [] [])) (b := b) (lyA hK) w1 q1_w1 q2_w1) rfl (by decide) rfl (Nat.le_of_ble_eq_true rfl) (by decide) (fun r u hu => ?_)
  refine z_eqs (σ' := (ap b σ [] [] [])) hu.2 ?_
  show zx p l e _ s m _ below meth c g 11 0 0 _ _ 6 [(0, .ref (b + 405)), (1, .int 4), (2, .int w1), (3, .int w2), (4, .int w3), (5, .int w4)] _
  refine z_seti (y := 1) hu.1 ?_
  refine z_iload_n B dX9_check_6 rfl 3 rfl ?_
  refine z_iload B dX9_check_7 4 rfl ?_
  refine z_iload B dX9_check_9 5 rfl ?_
  refine z_cSi (As := [.int w2, .int w3, .int w4]) (rest := [.int 1, .ref (b + 405)]) B cw_X9_242 dX9_check_11 (ci_X9_isOperation_39 l (σ := (ap b σ [] [] [])) (b := b) (lyA hK) w2 w3 w4 q1_w2 q2_w2 q1_w3 q2_w3 q1_w4 q2_w4) rfl (by decide) rfl (Nat.le_of_ble_eq_true rfl) (by decide) (fun r u hu => ?_)
  refine z_eqs (σ' := (ap b σ [] [] [])) hu.2 ?_
  show zx p l e _ s m _ below meth c g 11 0 0 _ _ 14 [(0, .ref (b + 405)), (1, .int 4), (2, .int w1), (3, .int w2), (4, .int w3), (5, .int w4)] _
  refine z_seti (y := 1) hu.1 ?_
  refine z_cVi (As := [.int 1, .int 1]) (rest := []) B cw_X9_245 cx_10 dX9_check_14 (ci_X9_needs__91 l (σ := (ap b σ [] [] [])) (b := b) (lyA hK) ) (lKA (hk_K hK 405 rfl rfl)) rfl (by decide) rfl (Nat.le_of_ble_eq_true rfl) (by decide) (fun r u hu => ?_)
  refine z_eqs (σ' := (ap b σ [(405, 0, 0)] [] [])) (hu.2.trans ap_ap) ?_
  show zx p l e _ s m _ below meth c g 11 0 0 _ _ 17 [(0, .ref (b + 405)), (1, .int 4), (2, .int w1), (3, .int w2), (4, .int w3), (5, .int w4)] _
  refine z_seti (y := 1) hu.1 ?_
  refine z_if_ne (tgt := 22) B dX9_check_17 (by decide) (fun _ => ?_) (fun h => absurd h (by decide))
  refine z_bipush (v := 20) B dX9_check_22 (by decide) ?_
  refine z_iload_n B dX9_check_24 rfl 1 rfl ?_
  refine z_imul B dX9_check_25 ?_
  refine z_seti (y := 80) (by decide) ?_
  refine z_iload_n B dX9_check_26 rfl 2 rfl ?_
  refine z_iadd B dX9_check_27 ?_
  refine z_istore (lv' := [(6, .int (80 + w1)), (0, .ref (b + 405)), (1, .int 4), (2, .int w1), (3, .int w2), (4, .int w3), (5, .int w4)]) B dX9_check_28 (by decide) rfl ?_
  refine z_aload_n B dX9_check_30 rfl 1 rfl ?_
  refine gf_X9_13 (x := (some (b + 406))) B (lKA (hk_K hK 405 rfl rfl)) (rR_at 405 3 hR_405_3) dX9_check_31 ?_
  refine z_iload B dX9_check_34 0 rfl ?_
  refine z_iald (j := (80 + w1).toNatClampNeg) B (lKA (hk_K hK 406 rfl rfl)) rfl (in_of (lNA (hk_N hK 406 rfl rfl)) (iv_inadd q1_w1 q2_w1 (by decide) (by decide))) rfl dX9_check_36 ?_
  refine z_topi (fun y4 e_y4 => ?_)
  refine z_istore (lv' := [(7, .int y4), (6, .int (80 + w1)), (0, .ref (b + 405)), (1, .int 4), (2, .int w1), (3, .int w2), (4, .int w3), (5, .int w4)]) B dX9_check_37 (by decide) rfl ?_
  refine z_aload_n B dX9_check_39 rfl 2 rfl ?_
  refine gf_X9_17 (x := (some (b + 407))) B (lKA (hk_K hK 405 rfl rfl)) (rR_at 405 4 hR_405_4) dX9_check_40 ?_
  refine z_iload B dX9_check_43 1 rfl ?_
  refine z_iald (j := (80 + w1).toNatClampNeg) B (lKA (hk_K hK 407 rfl rfl)) rfl (in_of (lNA (hk_N hK 407 rfl rfl)) (iv_inadd q1_w1 q2_w1 (by decide) (by decide))) rfl dX9_check_45 ?_
  refine z_topi (fun y5 e_y5 => ?_)
  refine z_istore (lv' := [(8, .int y5), (7, .int y4), (6, .int (80 + w1)), (0, .ref (b + 405)), (1, .int 4), (2, .int w1), (3, .int w2), (4, .int w3), (5, .int w4)]) B dX9_check_46 (by decide) rfl ?_
  refine z_aload_n B dX9_check_48 rfl 3 rfl ?_
  refine gf_X9_20 (x := (some (b + 408))) B (lKA (hk_K hK 405 rfl rfl)) (rR_at 405 5 hR_405_5) dX9_check_49 ?_
  refine z_iload B dX9_check_52 2 rfl ?_
  refine z_iald (j := (80 + w1).toNatClampNeg) B (lKA (hk_K hK 408 rfl rfl)) rfl (in_of (lNA (hk_N hK 408 rfl rfl)) (iv_inadd q1_w1 q2_w1 (by decide) (by decide))) rfl dX9_check_54 ?_
  refine z_topi (fun y6 e_y6 => ?_)
  refine z_istore (lv' := [(9, .int y6), (8, .int y5), (7, .int y4), (6, .int (80 + w1)), (0, .ref (b + 405)), (1, .int 4), (2, .int w1), (3, .int w2), (4, .int w3), (5, .int w4)]) B dX9_check_55 (by decide) rfl ?_
  refine z_aload_n B dX9_check_57 rfl 4 rfl ?_
  refine z_iload_n B dX9_check_58 rfl 5 rfl ?_
  refine z_iload_n B dX9_check_59 rfl 6 rfl ?_
  refine z_iload_n B dX9_check_60 rfl 7 rfl ?_
  refine z_iload B dX9_check_61 8 rfl ?_
  refine z_iload B dX9_check_63 9 rfl ?_
  refine z_cVv (As := [.int 4, .int w1, .int w2, .int w3, .int w4]) (rest := []) B cw_X9_249 cx_10 dX9_check_65 (ci_X9_lays_296 l (σ := (ap b σ [(405, 0, 0)] [] [])) (b := b) (lyA hK) w1 w2 w3 w4 q1_w1 q2_w1 (rR_at 405 3 hR_405_3) (rR_at 405 4 hR_405_4) (rR_at 405 5 hR_405_5)) (lKA (hk_K hK 405 rfl rfl)) rfl (by decide) rfl (Nat.le_of_ble_eq_true rfl) (by decide) (fun u hu => ?_)
  refine z_eqs (σ' := (ap b (wx_I (ap b (wx_I (ap b (wx_I (ap b (ap b σ [(405, 0, 0)] [] []) [] [] []) (b + 406) (80 + w1).toNatClampNeg w2) [] [] []) (b + 407) (80 + w1).toNatClampNeg w3) [] [] []) (b + 408) (80 + w1).toNatClampNeg w4) [] [] [])) hu ?_
  show zx p l e _ s m _ below meth c g 11 0 0 _ _ 68 [(9, .int y6), (8, .int y5), (7, .int y4), (6, .int (80 + w1)), (0, .ref (b + 405)), (1, .int 4), (2, .int w1), (3, .int w2), (4, .int w3), (5, .int w4)] _
  refine z_aload_n B dX9_check_68 rfl 4 rfl ?_
  refine z_iload_n B dX9_check_69 rfl 5 rfl ?_
  refine z_cVi (As := [.int 4]) (rest := []) B cw_X9_256 cx_10 dX9_check_70 (ci_X9_unfit_297 l (σ := (ap b (wx_I (ap b (wx_I (ap b (wx_I (ap b (ap b σ [(405, 0, 0)] [] []) [] [] []) (b + 406) (80 + w1).toNatClampNeg w2) [] [] []) (b + 407) (80 + w1).toNatClampNeg w3) [] [] []) (b + 408) (80 + w1).toNatClampNeg w4) [] [] [])) (b := b) (lyA (lyW (lyA (lyW (lyA (lyW (lyA (lyA hK)))))))) (rI_at 405 6 ((ux_a (by omega)).trans (rI_at 405 6 ((ux_a (by omega)).trans (rI_at 405 6 ((ux_a (by omega)).trans (rI_at 405 6 (rI_at 405 6 hI_405_6))))))))) (lKA (lKW (lKA (lKW (lKA (lKW (lKA (lKA (hk_K hK 405 rfl rfl))))))))) rfl (by decide) rfl (Nat.le_of_ble_eq_true rfl) (by decide) (fun r u hu => ?_)
  refine z_eqs (σ' := (ap b (wx_I (ap b (wx_I (ap b (wx_I (ap b (ap b σ [(405, 0, 0)] [] []) [] [] []) (b + 406) (80 + w1).toNatClampNeg w2) [] [] []) (b + 407) (80 + w1).toNatClampNeg w3) [] [] []) (b + 408) (80 + w1).toNatClampNeg w4) [] [] [])) hu.2 ?_
  show zx p l e _ s m _ below meth c g 11 0 0 _ _ 73 [(9, .int y6), (8, .int y5), (7, .int y4), (6, .int (80 + w1)), (0, .ref (b + 405)), (1, .int 4), (2, .int w1), (3, .int w2), (4, .int w3), (5, .int w4)] _
  refine z_seti (y := 0) hu.1 ?_
  refine z_istore (lv' := [(10, .int 0), (9, .int y6), (8, .int y5), (7, .int y4), (6, .int (80 + w1)), (0, .ref (b + 405)), (1, .int 4), (2, .int w1), (3, .int w2), (4, .int w3), (5, .int w4)]) B dX9_check_73 (by decide) rfl ?_
  refine z_aload_n B dX9_check_75 rfl 5 rfl ?_
  refine z_iload_n B dX9_check_76 rfl 6 rfl ?_
  refine z_iload_n B dX9_check_77 rfl 7 rfl ?_
  refine z_iload B dX9_check_78 3 rfl ?_
  refine z_iload B dX9_check_80 2 rfl ?_
  refine z_iload B dX9_check_82 1 rfl ?_
  refine z_cVv (As := [.int 4, .int w1, .int y4, .int y5, .int y6]) (rest := []) B cw_X9_249 cx_10 dX9_check_84 (ci_X9_lays_296 l (σ := (ap b (wx_I (ap b (wx_I (ap b (wx_I (ap b (ap b σ [(405, 0, 0)] [] []) [] [] []) (b + 406) (80 + w1).toNatClampNeg w2) [] [] []) (b + 407) (80 + w1).toNatClampNeg w3) [] [] []) (b + 408) (80 + w1).toNatClampNeg w4) [] [] [])) (b := b) (lyA (lyW (lyA (lyW (lyA (lyW (lyA (lyA hK)))))))) w1 y4 y5 y6 q1_w1 q2_w1 (rR_at 405 3 (rR_w (rR_at 405 3 (rR_w (rR_at 405 3 (rR_w (rR_at 405 3 (rR_at 405 3 hR_405_3)))))))) (rR_at 405 4 (rR_w (rR_at 405 4 (rR_w (rR_at 405 4 (rR_w (rR_at 405 4 (rR_at 405 4 hR_405_4)))))))) (rR_at 405 5 (rR_w (rR_at 405 5 (rR_w (rR_at 405 5 (rR_w (rR_at 405 5 (rR_at 405 5 hR_405_5))))))))) (lKA (lKW (lKA (lKW (lKA (lKW (lKA (lKA (hk_K hK 405 rfl rfl))))))))) rfl (by decide) rfl (Nat.le_of_ble_eq_true rfl) (by decide) (fun u hu => ?_)
  refine z_eqs (σ' := (ap b (wx_I (ap b (wx_I (ap b (wx_I (ap b (ap b (wx_I (ap b (wx_I (ap b (wx_I (ap b (ap b σ [(405, 0, 0)] [] []) [] [] []) (b + 406) (80 + w1).toNatClampNeg w2) [] [] []) (b + 407) (80 + w1).toNatClampNeg w3) [] [] []) (b + 408) (80 + w1).toNatClampNeg w4) [] [] []) [] [] []) (b + 406) (80 + w1).toNatClampNeg y4) [] [] []) (b + 407) (80 + w1).toNatClampNeg y5) [] [] []) (b + 408) (80 + w1).toNatClampNeg y6) [] [] [])) hu ?_
  show zx p l e _ s m _ below meth c g 11 0 0 _ _ 87 [(10, .int 0), (9, .int y6), (8, .int y5), (7, .int y4), (6, .int (80 + w1)), (0, .ref (b + 405)), (1, .int 4), (2, .int w1), (3, .int w2), (4, .int w3), (5, .int w4)] _
  refine z_iload B dX9_check_87 0 rfl ?_
  exact z_iret B hr (by decide) (by decide) dX9_check_89 ⟨y4, y5, y6, rfl, rfl⟩
set_option maxRecDepth 100000 in
set_option maxHeartbeats 4000000 in
theorem ci_X8_check_580 (l : Launch) (hlt : l.stackTraces = false) {g : gx_T} {σ : sx_T} {b : Nat} (hK : lay b σ) (w1 : Int32) (w2 : Int32) (w3 : Int32) (w4 : Int32) (q1_w1 : (0 : Int) ≤ w1.toInt) (q2_w1 : w1.toInt ≤ (19 : Int)) (q1_w2 : (0 : Int) ≤ w2.toInt) (q2_w2 : w2.toInt ≤ (17 : Int)) (q1_w3 : (0 : Int) ≤ w3.toInt) (q2_w3 : w3.toInt ≤ (99 : Int)) (q1_w4 : (100 : Int) ≤ w4.toInt) (q2_w4 : w4.toInt ≤ (2147483647 : Int)) (hR_0_0 : sx_R σ (b + 0) 0 = (some (b + 1))) (hR_1_4 : sx_R σ (b + 1) 4 = (some (b + 25))) : vx_Met l yX8_check (.code yX8_check cX8_check 13 (some .int) :: lw_g) { frames := 7, cells := 1, slots := 6, locals := 136 } (va_Pc [.ref (b + 0), .int 4, .int w1, .int w2, .int w3, .int w4] (zx_w g σ)) (va_Qi (S := sx_T) (fun _ _ => False) (zx_w g) (gx_Q g)) (vx_X (fun u : sx_T => ∃ z, u = wx_Z σ z) (fun E u t => E = "java/lang/IllegalArgumentException" ∧ zx_h g u t.heap) (gx_Q g)) 1 6 (gx_Q g) := by
  refine z_metX (by decide) (Nat.le_of_ble_eq_true rfl) (fun p e s m below meth c B hr hin hout => ?_)
  refine z_eqs (σ' := (ap b σ [] [] [])) rfl ?_
  show zx p l e _ s m _ below meth c g 13 0 0 _ _ 0 [(0, .ref (b + 0)), (1, .int 4), (2, .int w1), (3, .int w2), (4, .int w3), (5, .int w4)] []
  refine z_aload_n B dX8_check_0 rfl 0 rfl ?_
  refine z_iload_n B dX8_check_1 rfl 1 rfl ?_
  refine z_cVq (As := [.int 4]) (rest := []) B cw_X8_64 cx_9 dX8_check_2 (ci_X8_programAt_269 l (σ := (ap b σ [] [] [])) (b := b) (lyA hK) (rR_at 0 0 hR_0_0) (rR_at 1 4 hR_1_4)) (lKA (hk_K hK 0 rfl rfl)) rfl (by decide) rfl (Nat.le_of_ble_eq_true rfl) (by decide) (fun r u hu => ?_)
  refine z_eqs (σ' := (ap b σ [] [] [])) hu.2 ?_
  show zx p l e _ s m _ below meth c g 13 0 0 _ _ 5 [(0, .ref (b + 0)), (1, .int 4), (2, .int w1), (3, .int w2), (4, .int w3), (5, .int w4)] _
  refine z_setr (y := (some (b + 25))) hu.1 ?_
  refine z_astore (lv' := [(6, .ref (b + 25)), (0, .ref (b + 0)), (1, .int 4), (2, .int w1), (3, .int w2), (4, .int w3), (5, .int w4)]) B dX8_check_5 (by decide) rfl ?_
  refine z_aload B dX8_check_7 0 rfl ?_
  refine z_ifnull (r := (some (b + 25))) (tgt := 21) B dX8_check_9 (by decide) (fun h => nomatch h) (fun _ _ => ?_)
  refine z_iload_n B dX8_check_12 rfl 3 rfl ?_
  refine z_bipush (v := 20) B dX8_check_13 (by decide) ?_
  refine z_cSi (As := [.int w1, .int 20]) (rest := []) B cw_X8_68 dX8_check_15 (ci_X8_isBelow_64 l (σ := (ap b σ [] [] [])) (b := b) (lyA hK) w1 q1_w1 q2_w1) rfl (by decide) rfl (Nat.le_of_ble_eq_true rfl) (by decide) (fun r u hu => ?_)
  refine z_eqs (σ' := (ap b σ [] [] [])) hu.2 ?_
  show zx p l e _ s m _ below meth c g 13 0 0 _ _ 18 [(6, .ref (b + 25)), (0, .ref (b + 0)), (1, .int 4), (2, .int w1), (3, .int w2), (4, .int w3), (5, .int w4)] _
  refine z_seti (y := 1) hu.1 ?_
  refine z_if_ne (tgt := 31) B dX8_check_18 (by decide) (fun _ => ?_) (fun h => absurd h (by decide))
  refine z_iload_n B dX8_check_31 rfl 4 rfl ?_
  refine z_iload B dX8_check_32 5 rfl ?_
  refine z_iload B dX8_check_34 6 rfl ?_
  refine z_cSi (As := [.int w2, .int w3, .int w4]) (rest := []) B cw_X8_79 dX8_check_36 (ci_X8_isStep_97 l (σ := (ap b σ [] [] [])) (b := b) (lyA hK) w2 w3 w4 q1_w2 q2_w2 q1_w3 q2_w3 q1_w4 q2_w4) rfl (by decide) rfl (Nat.le_of_ble_eq_true rfl) (by decide) (fun r u hu => ?_)
  refine z_eqs (σ' := (ap b σ [] [] [])) hu.2 ?_
  show zx p l e _ s m _ below meth c g 13 0 0 _ _ 39 [(6, .ref (b + 25)), (0, .ref (b + 0)), (1, .int 4), (2, .int w1), (3, .int w2), (4, .int w3), (5, .int w4)] _
  refine z_seti (y := 0) hu.1 ?_
  refine z_if_ne (tgt := 52) B dX8_check_39 (by decide) (fun h => absurd (by decide) h) (fun _ => ?_)
  exact z_throw B hlt hout (cls := "java/lang/IllegalArgumentException") (text := "no such operation") tw_X8_83_85_87 dX8_check_42 dX8_check_45 dX8_check_46 dX8_check_48 dX8_check_51 (by decide) (by decide) (by decide) (by decide) (by decide) (by decide) (fun z => ⟨z, rfl⟩)
set_option maxRecDepth 100000 in
set_option maxHeartbeats 4000000 in
theorem ci_L_check_581 (l : Launch) (hlt : l.stackTraces = false) {g : gx_T} {σ : sx_T} {b : Nat} (hK : lay b σ) (w1 : Int32) (w2 : Int32) (w3 : Int32) (w4 : Int32) (q1_w1 : (0 : Int) ≤ w1.toInt) (q2_w1 : w1.toInt ≤ (19 : Int)) (q1_w2 : (0 : Int) ≤ w2.toInt) (q2_w2 : w2.toInt ≤ (17 : Int)) (q1_w3 : (0 : Int) ≤ w3.toInt) (q2_w3 : w3.toInt ≤ (99 : Int)) (q1_w4 : (100 : Int) ≤ w4.toInt) (q2_w4 : w4.toInt ≤ (2147483647 : Int)) (hR_0_0 : sx_R σ (b + 0) 0 = (some (b + 1))) (hR_1_4 : sx_R σ (b + 1) 4 = (some (b + 25))) : Met l yL_check (.codeWith yL_check cL_check 8 (some .int) [(0, 16, 19, 13), (0, 16, 23, 15)] :: lw_g) { frames := 8, cells := 1, slots := 6, locals := 168 } (va_Pc [.ref (b + 0), .int 4, .int w1, .int w2, .int w3, .int w4, .ref (b + 431)] (zx_w g σ)) (va_Qi (fun r u => r = 2 ∧ ∃ z, u = (ap b (wx_Z σ z) [] [] [])) (zx_w g) (gx_Q g)) 1 6 (gx_Q g) := by
  refine z_metW (by decide) (Nat.le_of_ble_eq_true rfl) (fun p e s m below meth c B hr htab => ?_)
  refine z_eqs (σ' := (ap b σ [] [] [])) rfl ?_
  show zx p l e _ s m _ below meth c g 8 0 0 _ _ 0 [(0, .ref (b + 0)), (1, .int 4), (2, .int w1), (3, .int w2), (4, .int w3), (5, .int w4), (6, .ref (b + 431))] []
  refine z_aload B dL_check_0 6 rfl ?_
  refine z_iconst (v := 0) B dL_check_2 (by decide) ?_
  refine z_aload_n B dL_check_3 rfl 0 rfl ?_
  refine z_iload_n B dL_check_4 rfl 1 rfl ?_
  refine z_iload_n B dL_check_5 rfl 2 rfl ?_
  refine z_iload_n B dL_check_6 rfl 3 rfl ?_
  refine z_iload B dL_check_7 4 rfl ?_
  refine z_iload B dL_check_9 5 rfl ?_
  refine z_cXi (As := [.int 4, .int w1, .int w2, .int w3, .int w4]) (rest := [.int 0, .ref (b + 431)]) B htab tc_check_11_IllegalArgumentException cw_L_17 cx_9 dL_check_11 (ci_X8_check_580 l hlt (σ := (ap b σ [] [] [])) (b := b) (lyA hK) w1 w2 w3 w4 q1_w1 q2_w1 q1_w2 q2_w2 q1_w3 q2_w3 q1_w4 q2_w4 (rR_at 0 0 hR_0_0) (rR_at 1 4 hR_1_4)) (lKA (hk_K hK 0 rfl rfl)) rfl (by decide) rfl (Nat.le_of_ble_eq_true rfl) (by decide) (fun z q => ?_)
  refine z_eqs (σ' := (ap b (wx_Z σ z) [] [] [])) rfl ?_
  show zx p l e _ s m _ below meth c g 8 _ _ _ _ 23 [(0, .ref (b + 0)), (1, .int 4), (2, .int w1), (3, .int w2), (4, .int w3), (5, .int w4), (6, .ref (b + 431))] _
  refine z_astore (lv' := [(7, .ref q), (0, .ref (b + 0)), (1, .int 4), (2, .int w1), (3, .int w2), (4, .int w3), (5, .int w4), (6, .ref (b + 431))]) B dL_check_23 (by decide) rfl ?_
  refine z_iconst (v := 2) B dL_check_25 (by decide) ?_
  exact z_iret B hr (by decide) (by decide) dL_check_26 ⟨rfl, _, rfl⟩
set_option maxRecDepth 100000 in
set_option maxHeartbeats 4000000 in
theorem ci_X9_check_582 (l : Launch) {g : gx_T} {σ : sx_T} {b : Nat} (hK : lay b σ) (w1 : Int32) (w2 : Int32) (w3 : Int32) (w4 : Int32) (q1_w1 : (0 : Int) ≤ w1.toInt) (q2_w1 : w1.toInt ≤ (19 : Int)) (q1_w2 : (0 : Int) ≤ w2.toInt) (q2_w2 : w2.toInt ≤ (17 : Int)) (q1_w3 : (0 : Int) ≤ w3.toInt) (q2_w3 : w3.toInt ≤ (99 : Int)) (q1_w4 : (100 : Int) ≤ w4.toInt) (q2_w4 : w4.toInt ≤ (2147483647 : Int))  : Met l yX9_check (.code yX9_check cX9_check 11 (some .int) :: lw_g) { frames := 2, cells := 0, slots := 0, locals := 44 } (va_Pc [.ref (b + 405), .int 4, .int w1, .int w2, .int w3, .int w4] (zx_w g σ)) (va_Qi (fun r u => r = 0 ∧ u = (ap b σ [(405, 0, 2)] [] [])) (zx_w g) (gx_Q g)) 0 0 (gx_Q g) := by
  refine z_met (by decide) (Nat.le_of_ble_eq_true rfl) (fun p e s m below meth c B hr hin => ?_)
  refine z_eqs (σ' := (ap b σ [] [] [])) rfl ?_
  show zx p l e _ s m _ below meth c g 11 0 0 _ _ 0 [(0, .ref (b + 405)), (1, .int 4), (2, .int w1), (3, .int w2), (4, .int w3), (5, .int w4)] []
  refine z_aload_n B dX9_check_0 rfl 0 rfl ?_
  refine z_iload_n B dX9_check_1 rfl 1 rfl ?_
  refine z_iload_n B dX9_check_2 rfl 2 rfl ?_
  refine z_cSi (As := [.int 4, .int w1]) (rest := [.ref (b + 405)]) B cw_X9_238 dX9_check_3 (ci_X9_isStep_283 l (σ := (ap b σ [] [] [])) (b := b) (lyA hK) w1 q1_w1 q2_w1) rfl (by decide) rfl (Nat.le_of_ble_eq_true rfl) (by decide) (fun r u hu => ?_)
  refine z_eqs (σ' := (ap b σ [] [] [])) hu.2 ?_
  show zx p l e _ s m _ below meth c g 11 0 0 _ _ 6 [(0, .ref (b + 405)), (1, .int 4), (2, .int w1), (3, .int w2), (4, .int w3), (5, .int w4)] _
  refine z_seti (y := 1) hu.1 ?_
  refine z_iload_n B dX9_check_6 rfl 3 rfl ?_
  refine z_iload B dX9_check_7 4 rfl ?_
  refine z_iload B dX9_check_9 5 rfl ?_
  refine z_cSi (As := [.int w2, .int w3, .int w4]) (rest := [.int 1, .ref (b + 405)]) B cw_X9_242 dX9_check_11 (ci_X9_isOperation_43 l (σ := (ap b σ [] [] [])) (b := b) (lyA hK) w2 w3 w4 q1_w2 q2_w2 q1_w3 q2_w3 q1_w4 q2_w4) rfl (by decide) rfl (Nat.le_of_ble_eq_true rfl) (by decide) (fun r u hu => ?_)
  refine z_eqs (σ' := (ap b σ [] [] [])) hu.2 ?_
  show zx p l e _ s m _ below meth c g 11 0 0 _ _ 14 [(0, .ref (b + 405)), (1, .int 4), (2, .int w1), (3, .int w2), (4, .int w3), (5, .int w4)] _
  refine z_seti (y := 0) hu.1 ?_
  refine z_cVi (As := [.int 1, .int 0]) (rest := []) B cw_X9_245 cx_10 dX9_check_14 (ci_X9_needs__71 l (σ := (ap b σ [] [] [])) (b := b) (lyA hK) ) (lKA (hk_K hK 405 rfl rfl)) rfl (by decide) rfl (Nat.le_of_ble_eq_true rfl) (by decide) (fun r u hu => ?_)
  refine z_eqs (σ' := (ap b σ [(405, 0, 2)] [] [])) (hu.2.trans ap_ap) ?_
  show zx p l e _ s m _ below meth c g 11 0 0 _ _ 17 [(0, .ref (b + 405)), (1, .int 4), (2, .int w1), (3, .int w2), (4, .int w3), (5, .int w4)] _
  refine z_seti (y := 0) hu.1 ?_
  refine z_if_ne (tgt := 22) B dX9_check_17 (by decide) (fun h => absurd (by decide) h) (fun _ => ?_)
  refine z_iconst (v := 0) B dX9_check_20 (by decide) ?_
  exact z_iret B hr (by decide) (by decide) dX9_check_21 ⟨rfl, rfl⟩
set_option maxRecDepth 100000 in
set_option maxHeartbeats 4000000 in
theorem ci_X8_check_583 (l : Launch) (hlt : l.stackTraces = false) {g : gx_T} {σ : sx_T} {b : Nat} (hK : lay b σ) (w1 : Int32) (w2 : Int32) (w3 : Int32) (w4 : Int32) (q1_w1 : (0 : Int) ≤ w1.toInt) (q2_w1 : w1.toInt ≤ (19 : Int)) (q1_w2 : (0 : Int) ≤ w2.toInt) (q2_w2 : w2.toInt ≤ (17 : Int)) (q1_w3 : (100 : Int) ≤ w3.toInt) (q2_w3 : w3.toInt ≤ (2147483647 : Int)) (hR_0_0 : sx_R σ (b + 0) 0 = (some (b + 1))) (hR_1_4 : sx_R σ (b + 1) 4 = (some (b + 25))) : vx_Met l yX8_check (.code yX8_check cX8_check 13 (some .int) :: lw_g) { frames := 7, cells := 1, slots := 6, locals := 136 } (va_Pc [.ref (b + 0), .int 4, .int w1, .int w2, .int w3, .int w4] (zx_w g σ)) (va_Qi (S := sx_T) (fun _ _ => False) (zx_w g) (gx_Q g)) (vx_X (fun u : sx_T => ∃ z, u = wx_Z σ z) (fun E u t => E = "java/lang/IllegalArgumentException" ∧ zx_h g u t.heap) (gx_Q g)) 1 6 (gx_Q g) := by
  refine z_metX (by decide) (Nat.le_of_ble_eq_true rfl) (fun p e s m below meth c B hr hin hout => ?_)
  refine z_eqs (σ' := (ap b σ [] [] [])) rfl ?_
  show zx p l e _ s m _ below meth c g 13 0 0 _ _ 0 [(0, .ref (b + 0)), (1, .int 4), (2, .int w1), (3, .int w2), (4, .int w3), (5, .int w4)] []
  refine z_aload_n B dX8_check_0 rfl 0 rfl ?_
  refine z_iload_n B dX8_check_1 rfl 1 rfl ?_
  refine z_cVq (As := [.int 4]) (rest := []) B cw_X8_64 cx_9 dX8_check_2 (ci_X8_programAt_269 l (σ := (ap b σ [] [] [])) (b := b) (lyA hK) (rR_at 0 0 hR_0_0) (rR_at 1 4 hR_1_4)) (lKA (hk_K hK 0 rfl rfl)) rfl (by decide) rfl (Nat.le_of_ble_eq_true rfl) (by decide) (fun r u hu => ?_)
  refine z_eqs (σ' := (ap b σ [] [] [])) hu.2 ?_
  show zx p l e _ s m _ below meth c g 13 0 0 _ _ 5 [(0, .ref (b + 0)), (1, .int 4), (2, .int w1), (3, .int w2), (4, .int w3), (5, .int w4)] _
  refine z_setr (y := (some (b + 25))) hu.1 ?_
  refine z_astore (lv' := [(6, .ref (b + 25)), (0, .ref (b + 0)), (1, .int 4), (2, .int w1), (3, .int w2), (4, .int w3), (5, .int w4)]) B dX8_check_5 (by decide) rfl ?_
  refine z_aload B dX8_check_7 0 rfl ?_
  refine z_ifnull (r := (some (b + 25))) (tgt := 21) B dX8_check_9 (by decide) (fun h => nomatch h) (fun _ _ => ?_)
  refine z_iload_n B dX8_check_12 rfl 3 rfl ?_
  refine z_bipush (v := 20) B dX8_check_13 (by decide) ?_
  refine z_cSi (As := [.int w1, .int 20]) (rest := []) B cw_X8_68 dX8_check_15 (ci_X8_isBelow_64 l (σ := (ap b σ [] [] [])) (b := b) (lyA hK) w1 q1_w1 q2_w1) rfl (by decide) rfl (Nat.le_of_ble_eq_true rfl) (by decide) (fun r u hu => ?_)
  refine z_eqs (σ' := (ap b σ [] [] [])) hu.2 ?_
  show zx p l e _ s m _ below meth c g 13 0 0 _ _ 18 [(6, .ref (b + 25)), (0, .ref (b + 0)), (1, .int 4), (2, .int w1), (3, .int w2), (4, .int w3), (5, .int w4)] _
  refine z_seti (y := 1) hu.1 ?_
  refine z_if_ne (tgt := 31) B dX8_check_18 (by decide) (fun _ => ?_) (fun h => absurd h (by decide))
  refine z_iload_n B dX8_check_31 rfl 4 rfl ?_
  refine z_iload B dX8_check_32 5 rfl ?_
  refine z_iload B dX8_check_34 6 rfl ?_
  refine z_cSi (As := [.int w2, .int w3, .int w4]) (rest := []) B cw_X8_79 dX8_check_36 (ci_X8_isStep_101 l (σ := (ap b σ [] [] [])) (b := b) (lyA hK) w2 w3 w4 q1_w2 q2_w2 q1_w3 q2_w3) rfl (by decide) rfl (Nat.le_of_ble_eq_true rfl) (by decide) (fun r u hu => ?_)
  refine z_eqs (σ' := (ap b σ [] [] [])) hu.2 ?_
  show zx p l e _ s m _ below meth c g 13 0 0 _ _ 39 [(6, .ref (b + 25)), (0, .ref (b + 0)), (1, .int 4), (2, .int w1), (3, .int w2), (4, .int w3), (5, .int w4)] _
  refine z_seti (y := 0) hu.1 ?_
  refine z_if_ne (tgt := 52) B dX8_check_39 (by decide) (fun h => absurd (by decide) h) (fun _ => ?_)
  exact z_throw B hlt hout (cls := "java/lang/IllegalArgumentException") (text := "no such operation") tw_X8_83_85_87 dX8_check_42 dX8_check_45 dX8_check_46 dX8_check_48 dX8_check_51 (by decide) (by decide) (by decide) (by decide) (by decide) (by decide) (fun z => ⟨z, rfl⟩)
set_option maxRecDepth 100000 in
set_option maxHeartbeats 4000000 in
theorem ci_L_check_584 (l : Launch) (hlt : l.stackTraces = false) {g : gx_T} {σ : sx_T} {b : Nat} (hK : lay b σ) (w1 : Int32) (w2 : Int32) (w3 : Int32) (w4 : Int32) (q1_w1 : (0 : Int) ≤ w1.toInt) (q2_w1 : w1.toInt ≤ (19 : Int)) (q1_w2 : (0 : Int) ≤ w2.toInt) (q2_w2 : w2.toInt ≤ (17 : Int)) (q1_w3 : (100 : Int) ≤ w3.toInt) (q2_w3 : w3.toInt ≤ (2147483647 : Int)) (hR_0_0 : sx_R σ (b + 0) 0 = (some (b + 1))) (hR_1_4 : sx_R σ (b + 1) 4 = (some (b + 25))) : Met l yL_check (.codeWith yL_check cL_check 8 (some .int) [(0, 16, 19, 13), (0, 16, 23, 15)] :: lw_g) { frames := 8, cells := 1, slots := 6, locals := 168 } (va_Pc [.ref (b + 0), .int 4, .int w1, .int w2, .int w3, .int w4, .ref (b + 431)] (zx_w g σ)) (va_Qi (fun r u => r = 2 ∧ ∃ z, u = (ap b (wx_Z σ z) [] [] [])) (zx_w g) (gx_Q g)) 1 6 (gx_Q g) := by
  refine z_metW (by decide) (Nat.le_of_ble_eq_true rfl) (fun p e s m below meth c B hr htab => ?_)
  refine z_eqs (σ' := (ap b σ [] [] [])) rfl ?_
  show zx p l e _ s m _ below meth c g 8 0 0 _ _ 0 [(0, .ref (b + 0)), (1, .int 4), (2, .int w1), (3, .int w2), (4, .int w3), (5, .int w4), (6, .ref (b + 431))] []
  refine z_aload B dL_check_0 6 rfl ?_
  refine z_iconst (v := 0) B dL_check_2 (by decide) ?_
  refine z_aload_n B dL_check_3 rfl 0 rfl ?_
  refine z_iload_n B dL_check_4 rfl 1 rfl ?_
  refine z_iload_n B dL_check_5 rfl 2 rfl ?_
  refine z_iload_n B dL_check_6 rfl 3 rfl ?_
  refine z_iload B dL_check_7 4 rfl ?_
  refine z_iload B dL_check_9 5 rfl ?_
  refine z_cXi (As := [.int 4, .int w1, .int w2, .int w3, .int w4]) (rest := [.int 0, .ref (b + 431)]) B htab tc_check_11_IllegalArgumentException cw_L_17 cx_9 dL_check_11 (ci_X8_check_583 l hlt (σ := (ap b σ [] [] [])) (b := b) (lyA hK) w1 w2 w3 w4 q1_w1 q2_w1 q1_w2 q2_w2 q1_w3 q2_w3 (rR_at 0 0 hR_0_0) (rR_at 1 4 hR_1_4)) (lKA (hk_K hK 0 rfl rfl)) rfl (by decide) rfl (Nat.le_of_ble_eq_true rfl) (by decide) (fun z q => ?_)
  refine z_eqs (σ' := (ap b (wx_Z σ z) [] [] [])) rfl ?_
  show zx p l e _ s m _ below meth c g 8 _ _ _ _ 23 [(0, .ref (b + 0)), (1, .int 4), (2, .int w1), (3, .int w2), (4, .int w3), (5, .int w4), (6, .ref (b + 431))] _
  refine z_astore (lv' := [(7, .ref q), (0, .ref (b + 0)), (1, .int 4), (2, .int w1), (3, .int w2), (4, .int w3), (5, .int w4), (6, .ref (b + 431))]) B dL_check_23 (by decide) rfl ?_
  refine z_iconst (v := 2) B dL_check_25 (by decide) ?_
  exact z_iret B hr (by decide) (by decide) dL_check_26 ⟨rfl, _, rfl⟩
set_option maxRecDepth 100000 in
set_option maxHeartbeats 4000000 in
theorem ci_X9_check_585 (l : Launch) {g : gx_T} {σ : sx_T} {b : Nat} (hK : lay b σ) (w1 : Int32) (w2 : Int32) (w3 : Int32) (w4 : Int32) (q1_w1 : (0 : Int) ≤ w1.toInt) (q2_w1 : w1.toInt ≤ (19 : Int)) (q1_w2 : (0 : Int) ≤ w2.toInt) (q2_w2 : w2.toInt ≤ (17 : Int)) (q1_w3 : (100 : Int) ≤ w3.toInt) (q2_w3 : w3.toInt ≤ (2147483647 : Int))  : Met l yX9_check (.code yX9_check cX9_check 11 (some .int) :: lw_g) { frames := 2, cells := 0, slots := 0, locals := 44 } (va_Pc [.ref (b + 405), .int 4, .int w1, .int w2, .int w3, .int w4] (zx_w g σ)) (va_Qi (fun r u => r = 0 ∧ u = (ap b σ [(405, 0, 2)] [] [])) (zx_w g) (gx_Q g)) 0 0 (gx_Q g) := by
  refine z_met (by decide) (Nat.le_of_ble_eq_true rfl) (fun p e s m below meth c B hr hin => ?_)
  refine z_eqs (σ' := (ap b σ [] [] [])) rfl ?_
  show zx p l e _ s m _ below meth c g 11 0 0 _ _ 0 [(0, .ref (b + 405)), (1, .int 4), (2, .int w1), (3, .int w2), (4, .int w3), (5, .int w4)] []
  refine z_aload_n B dX9_check_0 rfl 0 rfl ?_
  refine z_iload_n B dX9_check_1 rfl 1 rfl ?_
  refine z_iload_n B dX9_check_2 rfl 2 rfl ?_
  refine z_cSi (As := [.int 4, .int w1]) (rest := [.ref (b + 405)]) B cw_X9_238 dX9_check_3 (ci_X9_isStep_283 l (σ := (ap b σ [] [] [])) (b := b) (lyA hK) w1 q1_w1 q2_w1) rfl (by decide) rfl (Nat.le_of_ble_eq_true rfl) (by decide) (fun r u hu => ?_)
  refine z_eqs (σ' := (ap b σ [] [] [])) hu.2 ?_
  show zx p l e _ s m _ below meth c g 11 0 0 _ _ 6 [(0, .ref (b + 405)), (1, .int 4), (2, .int w1), (3, .int w2), (4, .int w3), (5, .int w4)] _
  refine z_seti (y := 1) hu.1 ?_
  refine z_iload_n B dX9_check_6 rfl 3 rfl ?_
  refine z_iload B dX9_check_7 4 rfl ?_
  refine z_iload B dX9_check_9 5 rfl ?_
  refine z_cSi (As := [.int w2, .int w3, .int w4]) (rest := [.int 1, .ref (b + 405)]) B cw_X9_242 dX9_check_11 (ci_X9_isOperation_45 l (σ := (ap b σ [] [] [])) (b := b) (lyA hK) w2 w3 w4 q1_w2 q2_w2 q1_w3 q2_w3) rfl (by decide) rfl (Nat.le_of_ble_eq_true rfl) (by decide) (fun r u hu => ?_)
  refine z_eqs (σ' := (ap b σ [] [] [])) hu.2 ?_
  show zx p l e _ s m _ below meth c g 11 0 0 _ _ 14 [(0, .ref (b + 405)), (1, .int 4), (2, .int w1), (3, .int w2), (4, .int w3), (5, .int w4)] _
  refine z_seti (y := 0) hu.1 ?_
  refine z_cVi (As := [.int 1, .int 0]) (rest := []) B cw_X9_245 cx_10 dX9_check_14 (ci_X9_needs__71 l (σ := (ap b σ [] [] [])) (b := b) (lyA hK) ) (lKA (hk_K hK 405 rfl rfl)) rfl (by decide) rfl (Nat.le_of_ble_eq_true rfl) (by decide) (fun r u hu => ?_)
  refine z_eqs (σ' := (ap b σ [(405, 0, 2)] [] [])) (hu.2.trans ap_ap) ?_
  show zx p l e _ s m _ below meth c g 11 0 0 _ _ 17 [(0, .ref (b + 405)), (1, .int 4), (2, .int w1), (3, .int w2), (4, .int w3), (5, .int w4)] _
  refine z_seti (y := 0) hu.1 ?_
  refine z_if_ne (tgt := 22) B dX9_check_17 (by decide) (fun h => absurd (by decide) h) (fun _ => ?_)
  refine z_iconst (v := 0) B dX9_check_20 (by decide) ?_
  exact z_iret B hr (by decide) (by decide) dX9_check_21 ⟨rfl, rfl⟩
set_option maxRecDepth 100000 in
set_option maxHeartbeats 4000000 in
theorem ci_X8_check_586 (l : Launch) (hlt : l.stackTraces = false) {g : gx_T} {σ : sx_T} {b : Nat} (hK : lay b σ) (w1 : Int32) (w2 : Int32) (w3 : Int32) (w4 : Int32) (q1_w1 : (0 : Int) ≤ w1.toInt) (q2_w1 : w1.toInt ≤ (19 : Int)) (q1_w2 : (18 : Int) ≤ w2.toInt) (q2_w2 : w2.toInt ≤ (2147483647 : Int)) (hR_0_0 : sx_R σ (b + 0) 0 = (some (b + 1))) (hR_1_4 : sx_R σ (b + 1) 4 = (some (b + 25))) : vx_Met l yX8_check (.code yX8_check cX8_check 13 (some .int) :: lw_g) { frames := 7, cells := 1, slots := 6, locals := 136 } (va_Pc [.ref (b + 0), .int 4, .int w1, .int w2, .int w3, .int w4] (zx_w g σ)) (va_Qi (S := sx_T) (fun _ _ => False) (zx_w g) (gx_Q g)) (vx_X (fun u : sx_T => ∃ z, u = wx_Z σ z) (fun E u t => E = "java/lang/IllegalArgumentException" ∧ zx_h g u t.heap) (gx_Q g)) 1 6 (gx_Q g) := by
  refine z_metX (by decide) (Nat.le_of_ble_eq_true rfl) (fun p e s m below meth c B hr hin hout => ?_)
  refine z_eqs (σ' := (ap b σ [] [] [])) rfl ?_
  show zx p l e _ s m _ below meth c g 13 0 0 _ _ 0 [(0, .ref (b + 0)), (1, .int 4), (2, .int w1), (3, .int w2), (4, .int w3), (5, .int w4)] []
  refine z_aload_n B dX8_check_0 rfl 0 rfl ?_
  refine z_iload_n B dX8_check_1 rfl 1 rfl ?_
  refine z_cVq (As := [.int 4]) (rest := []) B cw_X8_64 cx_9 dX8_check_2 (ci_X8_programAt_269 l (σ := (ap b σ [] [] [])) (b := b) (lyA hK) (rR_at 0 0 hR_0_0) (rR_at 1 4 hR_1_4)) (lKA (hk_K hK 0 rfl rfl)) rfl (by decide) rfl (Nat.le_of_ble_eq_true rfl) (by decide) (fun r u hu => ?_)
  refine z_eqs (σ' := (ap b σ [] [] [])) hu.2 ?_
  show zx p l e _ s m _ below meth c g 13 0 0 _ _ 5 [(0, .ref (b + 0)), (1, .int 4), (2, .int w1), (3, .int w2), (4, .int w3), (5, .int w4)] _
  refine z_setr (y := (some (b + 25))) hu.1 ?_
  refine z_astore (lv' := [(6, .ref (b + 25)), (0, .ref (b + 0)), (1, .int 4), (2, .int w1), (3, .int w2), (4, .int w3), (5, .int w4)]) B dX8_check_5 (by decide) rfl ?_
  refine z_aload B dX8_check_7 0 rfl ?_
  refine z_ifnull (r := (some (b + 25))) (tgt := 21) B dX8_check_9 (by decide) (fun h => nomatch h) (fun _ _ => ?_)
  refine z_iload_n B dX8_check_12 rfl 3 rfl ?_
  refine z_bipush (v := 20) B dX8_check_13 (by decide) ?_
  refine z_cSi (As := [.int w1, .int 20]) (rest := []) B cw_X8_68 dX8_check_15 (ci_X8_isBelow_64 l (σ := (ap b σ [] [] [])) (b := b) (lyA hK) w1 q1_w1 q2_w1) rfl (by decide) rfl (Nat.le_of_ble_eq_true rfl) (by decide) (fun r u hu => ?_)
  refine z_eqs (σ' := (ap b σ [] [] [])) hu.2 ?_
  show zx p l e _ s m _ below meth c g 13 0 0 _ _ 18 [(6, .ref (b + 25)), (0, .ref (b + 0)), (1, .int 4), (2, .int w1), (3, .int w2), (4, .int w3), (5, .int w4)] _
  refine z_seti (y := 1) hu.1 ?_
  refine z_if_ne (tgt := 31) B dX8_check_18 (by decide) (fun _ => ?_) (fun h => absurd h (by decide))
  refine z_iload_n B dX8_check_31 rfl 4 rfl ?_
  refine z_iload B dX8_check_32 5 rfl ?_
  refine z_iload B dX8_check_34 6 rfl ?_
  refine z_cSi (As := [.int w2, .int w3, .int w4]) (rest := []) B cw_X8_79 dX8_check_36 (ci_X8_isStep_106 l (σ := (ap b σ [] [] [])) (b := b) (lyA hK) w2 w3 w4 q1_w2 q2_w2) rfl (by decide) rfl (Nat.le_of_ble_eq_true rfl) (by decide) (fun r u hu => ?_)
  refine z_eqs (σ' := (ap b σ [] [] [])) hu.2 ?_
  show zx p l e _ s m _ below meth c g 13 0 0 _ _ 39 [(6, .ref (b + 25)), (0, .ref (b + 0)), (1, .int 4), (2, .int w1), (3, .int w2), (4, .int w3), (5, .int w4)] _
  refine z_seti (y := 0) hu.1 ?_
  refine z_if_ne (tgt := 52) B dX8_check_39 (by decide) (fun h => absurd (by decide) h) (fun _ => ?_)
  exact z_throw B hlt hout (cls := "java/lang/IllegalArgumentException") (text := "no such operation") tw_X8_83_85_87 dX8_check_42 dX8_check_45 dX8_check_46 dX8_check_48 dX8_check_51 (by decide) (by decide) (by decide) (by decide) (by decide) (by decide) (fun z => ⟨z, rfl⟩)
set_option maxRecDepth 100000 in
set_option maxHeartbeats 4000000 in
theorem ci_L_check_587 (l : Launch) (hlt : l.stackTraces = false) {g : gx_T} {σ : sx_T} {b : Nat} (hK : lay b σ) (w1 : Int32) (w2 : Int32) (w3 : Int32) (w4 : Int32) (q1_w1 : (0 : Int) ≤ w1.toInt) (q2_w1 : w1.toInt ≤ (19 : Int)) (q1_w2 : (18 : Int) ≤ w2.toInt) (q2_w2 : w2.toInt ≤ (2147483647 : Int)) (hR_0_0 : sx_R σ (b + 0) 0 = (some (b + 1))) (hR_1_4 : sx_R σ (b + 1) 4 = (some (b + 25))) : Met l yL_check (.codeWith yL_check cL_check 8 (some .int) [(0, 16, 19, 13), (0, 16, 23, 15)] :: lw_g) { frames := 8, cells := 1, slots := 6, locals := 168 } (va_Pc [.ref (b + 0), .int 4, .int w1, .int w2, .int w3, .int w4, .ref (b + 431)] (zx_w g σ)) (va_Qi (fun r u => r = 2 ∧ ∃ z, u = (ap b (wx_Z σ z) [] [] [])) (zx_w g) (gx_Q g)) 1 6 (gx_Q g) := by
  refine z_metW (by decide) (Nat.le_of_ble_eq_true rfl) (fun p e s m below meth c B hr htab => ?_)
  refine z_eqs (σ' := (ap b σ [] [] [])) rfl ?_
  show zx p l e _ s m _ below meth c g 8 0 0 _ _ 0 [(0, .ref (b + 0)), (1, .int 4), (2, .int w1), (3, .int w2), (4, .int w3), (5, .int w4), (6, .ref (b + 431))] []
  refine z_aload B dL_check_0 6 rfl ?_
  refine z_iconst (v := 0) B dL_check_2 (by decide) ?_
  refine z_aload_n B dL_check_3 rfl 0 rfl ?_
  refine z_iload_n B dL_check_4 rfl 1 rfl ?_
  refine z_iload_n B dL_check_5 rfl 2 rfl ?_
  refine z_iload_n B dL_check_6 rfl 3 rfl ?_
  refine z_iload B dL_check_7 4 rfl ?_
  refine z_iload B dL_check_9 5 rfl ?_
  refine z_cXi (As := [.int 4, .int w1, .int w2, .int w3, .int w4]) (rest := [.int 0, .ref (b + 431)]) B htab tc_check_11_IllegalArgumentException cw_L_17 cx_9 dL_check_11 (ci_X8_check_586 l hlt (σ := (ap b σ [] [] [])) (b := b) (lyA hK) w1 w2 w3 w4 q1_w1 q2_w1 q1_w2 q2_w2 (rR_at 0 0 hR_0_0) (rR_at 1 4 hR_1_4)) (lKA (hk_K hK 0 rfl rfl)) rfl (by decide) rfl (Nat.le_of_ble_eq_true rfl) (by decide) (fun z q => ?_)
  refine z_eqs (σ' := (ap b (wx_Z σ z) [] [] [])) rfl ?_
  show zx p l e _ s m _ below meth c g 8 _ _ _ _ 23 [(0, .ref (b + 0)), (1, .int 4), (2, .int w1), (3, .int w2), (4, .int w3), (5, .int w4), (6, .ref (b + 431))] _
  refine z_astore (lv' := [(7, .ref q), (0, .ref (b + 0)), (1, .int 4), (2, .int w1), (3, .int w2), (4, .int w3), (5, .int w4), (6, .ref (b + 431))]) B dL_check_23 (by decide) rfl ?_
  refine z_iconst (v := 2) B dL_check_25 (by decide) ?_
  exact z_iret B hr (by decide) (by decide) dL_check_26 ⟨rfl, _, rfl⟩
set_option maxRecDepth 100000 in
set_option maxHeartbeats 4000000 in
theorem ci_X9_check_588 (l : Launch) {g : gx_T} {σ : sx_T} {b : Nat} (hK : lay b σ) (w1 : Int32) (w2 : Int32) (w3 : Int32) (w4 : Int32) (q1_w1 : (0 : Int) ≤ w1.toInt) (q2_w1 : w1.toInt ≤ (19 : Int)) (q1_w2 : (18 : Int) ≤ w2.toInt) (q2_w2 : w2.toInt ≤ (2147483647 : Int))  : Met l yX9_check (.code yX9_check cX9_check 11 (some .int) :: lw_g) { frames := 2, cells := 0, slots := 0, locals := 44 } (va_Pc [.ref (b + 405), .int 4, .int w1, .int w2, .int w3, .int w4] (zx_w g σ)) (va_Qi (fun r u => r = 0 ∧ u = (ap b σ [(405, 0, 2)] [] [])) (zx_w g) (gx_Q g)) 0 0 (gx_Q g) := by
  refine z_met (by decide) (Nat.le_of_ble_eq_true rfl) (fun p e s m below meth c B hr hin => ?_)
  refine z_eqs (σ' := (ap b σ [] [] [])) rfl ?_
  show zx p l e _ s m _ below meth c g 11 0 0 _ _ 0 [(0, .ref (b + 405)), (1, .int 4), (2, .int w1), (3, .int w2), (4, .int w3), (5, .int w4)] []
  refine z_aload_n B dX9_check_0 rfl 0 rfl ?_
  refine z_iload_n B dX9_check_1 rfl 1 rfl ?_
  refine z_iload_n B dX9_check_2 rfl 2 rfl ?_
  refine z_cSi (As := [.int 4, .int w1]) (rest := [.ref (b + 405)]) B cw_X9_238 dX9_check_3 (ci_X9_isStep_283 l (σ := (ap b σ [] [] [])) (b := b) (lyA hK) w1 q1_w1 q2_w1) rfl (by decide) rfl (Nat.le_of_ble_eq_true rfl) (by decide) (fun r u hu => ?_)
  refine z_eqs (σ' := (ap b σ [] [] [])) hu.2 ?_
  show zx p l e _ s m _ below meth c g 11 0 0 _ _ 6 [(0, .ref (b + 405)), (1, .int 4), (2, .int w1), (3, .int w2), (4, .int w3), (5, .int w4)] _
  refine z_seti (y := 1) hu.1 ?_
  refine z_iload_n B dX9_check_6 rfl 3 rfl ?_
  refine z_iload B dX9_check_7 4 rfl ?_
  refine z_iload B dX9_check_9 5 rfl ?_
  refine z_cSi (As := [.int w2, .int w3, .int w4]) (rest := [.int 1, .ref (b + 405)]) B cw_X9_242 dX9_check_11 (ci_X9_isOperation_48 l (σ := (ap b σ [] [] [])) (b := b) (lyA hK) w2 w3 w4 q1_w2 q2_w2) rfl (by decide) rfl (Nat.le_of_ble_eq_true rfl) (by decide) (fun r u hu => ?_)
  refine z_eqs (σ' := (ap b σ [] [] [])) hu.2 ?_
  show zx p l e _ s m _ below meth c g 11 0 0 _ _ 14 [(0, .ref (b + 405)), (1, .int 4), (2, .int w1), (3, .int w2), (4, .int w3), (5, .int w4)] _
  refine z_seti (y := 0) hu.1 ?_
  refine z_cVi (As := [.int 1, .int 0]) (rest := []) B cw_X9_245 cx_10 dX9_check_14 (ci_X9_needs__71 l (σ := (ap b σ [] [] [])) (b := b) (lyA hK) ) (lKA (hk_K hK 405 rfl rfl)) rfl (by decide) rfl (Nat.le_of_ble_eq_true rfl) (by decide) (fun r u hu => ?_)
  refine z_eqs (σ' := (ap b σ [(405, 0, 2)] [] [])) (hu.2.trans ap_ap) ?_
  show zx p l e _ s m _ below meth c g 11 0 0 _ _ 17 [(0, .ref (b + 405)), (1, .int 4), (2, .int w1), (3, .int w2), (4, .int w3), (5, .int w4)] _
  refine z_seti (y := 0) hu.1 ?_
  refine z_if_ne (tgt := 22) B dX9_check_17 (by decide) (fun h => absurd (by decide) h) (fun _ => ?_)
  refine z_iconst (v := 0) B dX9_check_20 (by decide) ?_
  exact z_iret B hr (by decide) (by decide) dX9_check_21 ⟨rfl, rfl⟩
set_option maxRecDepth 100000 in
set_option maxHeartbeats 4000000 in
theorem ci_X8_check_589 (l : Launch) (hlt : l.stackTraces = false) {g : gx_T} {σ : sx_T} {b : Nat} (hK : lay b σ) (w1 : Int32) (w2 : Int32) (w3 : Int32) (w4 : Int32) (q1_w1 : (20 : Int) ≤ w1.toInt) (q2_w1 : w1.toInt ≤ (2147483647 : Int)) (hR_0_0 : sx_R σ (b + 0) 0 = (some (b + 1))) (hR_1_4 : sx_R σ (b + 1) 4 = (some (b + 25))) : vx_Met l yX8_check (.code yX8_check cX8_check 13 (some .int) :: lw_g) { frames := 7, cells := 1, slots := 6, locals := 136 } (va_Pc [.ref (b + 0), .int 4, .int w1, .int w2, .int w3, .int w4] (zx_w g σ)) (va_Qi (S := sx_T) (fun _ _ => False) (zx_w g) (gx_Q g)) (vx_X (fun u : sx_T => ∃ z, u = wx_Z σ z) (fun E u t => E = "java/lang/IndexOutOfBoundsException" ∧ zx_h g u t.heap) (gx_Q g)) 1 6 (gx_Q g) := by
  refine z_metX (by decide) (Nat.le_of_ble_eq_true rfl) (fun p e s m below meth c B hr hin hout => ?_)
  refine z_eqs (σ' := (ap b σ [] [] [])) rfl ?_
  show zx p l e _ s m _ below meth c g 13 0 0 _ _ 0 [(0, .ref (b + 0)), (1, .int 4), (2, .int w1), (3, .int w2), (4, .int w3), (5, .int w4)] []
  refine z_aload_n B dX8_check_0 rfl 0 rfl ?_
  refine z_iload_n B dX8_check_1 rfl 1 rfl ?_
  refine z_cVq (As := [.int 4]) (rest := []) B cw_X8_64 cx_9 dX8_check_2 (ci_X8_programAt_269 l (σ := (ap b σ [] [] [])) (b := b) (lyA hK) (rR_at 0 0 hR_0_0) (rR_at 1 4 hR_1_4)) (lKA (hk_K hK 0 rfl rfl)) rfl (by decide) rfl (Nat.le_of_ble_eq_true rfl) (by decide) (fun r u hu => ?_)
  refine z_eqs (σ' := (ap b σ [] [] [])) hu.2 ?_
  show zx p l e _ s m _ below meth c g 13 0 0 _ _ 5 [(0, .ref (b + 0)), (1, .int 4), (2, .int w1), (3, .int w2), (4, .int w3), (5, .int w4)] _
  refine z_setr (y := (some (b + 25))) hu.1 ?_
  refine z_astore (lv' := [(6, .ref (b + 25)), (0, .ref (b + 0)), (1, .int 4), (2, .int w1), (3, .int w2), (4, .int w3), (5, .int w4)]) B dX8_check_5 (by decide) rfl ?_
  refine z_aload B dX8_check_7 0 rfl ?_
  refine z_ifnull (r := (some (b + 25))) (tgt := 21) B dX8_check_9 (by decide) (fun h => nomatch h) (fun _ _ => ?_)
  refine z_iload_n B dX8_check_12 rfl 3 rfl ?_
  refine z_bipush (v := 20) B dX8_check_13 (by decide) ?_
  refine z_cSi (As := [.int w1, .int 20]) (rest := []) B cw_X8_68 dX8_check_15 (ci_X8_isBelow_110 l (σ := (ap b σ [] [] [])) (b := b) (lyA hK) w1 q1_w1 q2_w1) rfl (by decide) rfl (Nat.le_of_ble_eq_true rfl) (by decide) (fun r u hu => ?_)
  refine z_eqs (σ' := (ap b σ [] [] [])) hu.2 ?_
  show zx p l e _ s m _ below meth c g 13 0 0 _ _ 18 [(6, .ref (b + 25)), (0, .ref (b + 0)), (1, .int 4), (2, .int w1), (3, .int w2), (4, .int w3), (5, .int w4)] _
  refine z_seti (y := 0) hu.1 ?_
  refine z_if_ne (tgt := 31) B dX8_check_18 (by decide) (fun h => absurd (by decide) h) (fun _ => ?_)
  exact z_throw B hlt hout (cls := "java/lang/IndexOutOfBoundsException") (text := "no such step") tw_X8_72_74_76 dX8_check_21 dX8_check_24 dX8_check_25 dX8_check_27 dX8_check_30 (by decide) (by decide) (by decide) (by decide) (by decide) (by decide) (fun z => ⟨z, rfl⟩)
set_option maxRecDepth 100000 in
set_option maxHeartbeats 4000000 in
theorem ci_L_check_590 (l : Launch) (hlt : l.stackTraces = false) {g : gx_T} {σ : sx_T} {b : Nat} (hK : lay b σ) (w1 : Int32) (w2 : Int32) (w3 : Int32) (w4 : Int32) (q1_w1 : (20 : Int) ≤ w1.toInt) (q2_w1 : w1.toInt ≤ (2147483647 : Int)) (hR_0_0 : sx_R σ (b + 0) 0 = (some (b + 1))) (hR_1_4 : sx_R σ (b + 1) 4 = (some (b + 25))) : Met l yL_check (.codeWith yL_check cL_check 8 (some .int) [(0, 16, 19, 13), (0, 16, 23, 15)] :: lw_g) { frames := 8, cells := 1, slots := 6, locals := 168 } (va_Pc [.ref (b + 0), .int 4, .int w1, .int w2, .int w3, .int w4, .ref (b + 431)] (zx_w g σ)) (va_Qi (fun r u => r = 1 ∧ ∃ z, u = (ap b (wx_Z σ z) [] [] [])) (zx_w g) (gx_Q g)) 1 6 (gx_Q g) := by
  refine z_metW (by decide) (Nat.le_of_ble_eq_true rfl) (fun p e s m below meth c B hr htab => ?_)
  refine z_eqs (σ' := (ap b σ [] [] [])) rfl ?_
  show zx p l e _ s m _ below meth c g 8 0 0 _ _ 0 [(0, .ref (b + 0)), (1, .int 4), (2, .int w1), (3, .int w2), (4, .int w3), (5, .int w4), (6, .ref (b + 431))] []
  refine z_aload B dL_check_0 6 rfl ?_
  refine z_iconst (v := 0) B dL_check_2 (by decide) ?_
  refine z_aload_n B dL_check_3 rfl 0 rfl ?_
  refine z_iload_n B dL_check_4 rfl 1 rfl ?_
  refine z_iload_n B dL_check_5 rfl 2 rfl ?_
  refine z_iload_n B dL_check_6 rfl 3 rfl ?_
  refine z_iload B dL_check_7 4 rfl ?_
  refine z_iload B dL_check_9 5 rfl ?_
  refine z_cXi (As := [.int 4, .int w1, .int w2, .int w3, .int w4]) (rest := [.int 0, .ref (b + 431)]) B htab tc_check_11_IndexOutOfBoundsException cw_L_17 cx_9 dL_check_11 (ci_X8_check_589 l hlt (σ := (ap b σ [] [] [])) (b := b) (lyA hK) w1 w2 w3 w4 q1_w1 q2_w1 (rR_at 0 0 hR_0_0) (rR_at 1 4 hR_1_4)) (lKA (hk_K hK 0 rfl rfl)) rfl (by decide) rfl (Nat.le_of_ble_eq_true rfl) (by decide) (fun z q => ?_)
  refine z_eqs (σ' := (ap b (wx_Z σ z) [] [] [])) rfl ?_
  show zx p l e _ s m _ below meth c g 8 _ _ _ _ 19 [(0, .ref (b + 0)), (1, .int 4), (2, .int w1), (3, .int w2), (4, .int w3), (5, .int w4), (6, .ref (b + 431))] _
  refine z_astore (lv' := [(7, .ref q), (0, .ref (b + 0)), (1, .int 4), (2, .int w1), (3, .int w2), (4, .int w3), (5, .int w4), (6, .ref (b + 431))]) B dL_check_19 (by decide) rfl ?_
  refine z_iconst (v := 1) B dL_check_21 (by decide) ?_
  exact z_iret B hr (by decide) (by decide) dL_check_22 ⟨rfl, _, rfl⟩
set_option maxRecDepth 100000 in
set_option maxHeartbeats 4000000 in
theorem ci_X9_check_591 (l : Launch) {g : gx_T} {σ : sx_T} {b : Nat} (hK : lay b σ) (w1 : Int32) (w2 : Int32) (w3 : Int32) (w4 : Int32) (q1_w1 : (20 : Int) ≤ w1.toInt) (q2_w1 : w1.toInt ≤ (2147483647 : Int)) (q1_w2 : (-2147483648 : Int) ≤ w2.toInt) (q2_w2 : w2.toInt ≤ (-1 : Int))  : Met l yX9_check (.code yX9_check cX9_check 11 (some .int) :: lw_g) { frames := 2, cells := 0, slots := 0, locals := 44 } (va_Pc [.ref (b + 405), .int 4, .int w1, .int w2, .int w3, .int w4] (zx_w g σ)) (va_Qi (fun r u => r = 0 ∧ u = (ap b σ [(405, 0, 1)] [] [])) (zx_w g) (gx_Q g)) 0 0 (gx_Q g) := by
  refine z_met (by decide) (Nat.le_of_ble_eq_true rfl) (fun p e s m below meth c B hr hin => ?_)
  refine z_eqs (σ' := (ap b σ [] [] [])) rfl ?_
  show zx p l e _ s m _ below meth c g 11 0 0 _ _ 0 [(0, .ref (b + 405)), (1, .int 4), (2, .int w1), (3, .int w2), (4, .int w3), (5, .int w4)] []
  refine z_aload_n B dX9_check_0 rfl 0 rfl ?_
  refine z_iload_n B dX9_check_1 rfl 1 rfl ?_
  refine z_iload_n B dX9_check_2 rfl 2 rfl ?_
  refine z_cSi (As := [.int 4, .int w1]) (rest := [.ref (b + 405)]) B cw_X9_238 dX9_check_3 (ci_X9_isStep_310 l (σ := (ap b σ [] [] [])) (b := b) (lyA hK) w1 q1_w1 q2_w1) rfl (by decide) rfl (Nat.le_of_ble_eq_true rfl) (by decide) (fun r u hu => ?_)
  refine z_eqs (σ' := (ap b σ [] [] [])) hu.2 ?_
  show zx p l e _ s m _ below meth c g 11 0 0 _ _ 6 [(0, .ref (b + 405)), (1, .int 4), (2, .int w1), (3, .int w2), (4, .int w3), (5, .int w4)] _
  refine z_seti (y := 0) hu.1 ?_
  refine z_iload_n B dX9_check_6 rfl 3 rfl ?_
  refine z_iload B dX9_check_7 4 rfl ?_
  refine z_iload B dX9_check_9 5 rfl ?_
  refine z_cSi (As := [.int w2, .int w3, .int w4]) (rest := [.int 0, .ref (b + 405)]) B cw_X9_242 dX9_check_11 (ci_X9_isOperation_28 l (σ := (ap b σ [] [] [])) (b := b) (lyA hK) w2 w3 w4 q1_w2 q2_w2) rfl (by decide) rfl (Nat.le_of_ble_eq_true rfl) (by decide) (fun r u hu => ?_)
  refine z_eqs (σ' := (ap b σ [] [] [])) hu.2 ?_
  show zx p l e _ s m _ below meth c g 11 0 0 _ _ 14 [(0, .ref (b + 405)), (1, .int 4), (2, .int w1), (3, .int w2), (4, .int w3), (5, .int w4)] _
  refine z_seti (y := 0) hu.1 ?_
  refine z_cVi (As := [.int 0, .int 0]) (rest := []) B cw_X9_245 cx_10 dX9_check_14 (ci_X9_needs__29 l (σ := (ap b σ [] [] [])) (b := b) (lyA hK) ) (lKA (hk_K hK 405 rfl rfl)) rfl (by decide) rfl (Nat.le_of_ble_eq_true rfl) (by decide) (fun r u hu => ?_)
  refine z_eqs (σ' := (ap b σ [(405, 0, 1)] [] [])) (hu.2.trans ap_ap) ?_
  show zx p l e _ s m _ below meth c g 11 0 0 _ _ 17 [(0, .ref (b + 405)), (1, .int 4), (2, .int w1), (3, .int w2), (4, .int w3), (5, .int w4)] _
  refine z_seti (y := 0) hu.1 ?_
  refine z_if_ne (tgt := 22) B dX9_check_17 (by decide) (fun h => absurd (by decide) h) (fun _ => ?_)
  refine z_iconst (v := 0) B dX9_check_20 (by decide) ?_
  exact z_iret B hr (by decide) (by decide) dX9_check_21 ⟨rfl, rfl⟩
set_option maxRecDepth 100000 in
set_option maxHeartbeats 4000000 in
theorem ci_X9_check_592 (l : Launch) {g : gx_T} {σ : sx_T} {b : Nat} (hK : lay b σ) (w1 : Int32) (w2 : Int32) (w3 : Int32) (w4 : Int32) (q1_w1 : (20 : Int) ≤ w1.toInt) (q2_w1 : w1.toInt ≤ (2147483647 : Int)) (q1_w2 : (0 : Int) ≤ w2.toInt) (q2_w2 : w2.toInt ≤ (17 : Int)) (q1_w3 : (-2147483648 : Int) ≤ w3.toInt) (q2_w3 : w3.toInt ≤ (-1 : Int))  : Met l yX9_check (.code yX9_check cX9_check 11 (some .int) :: lw_g) { frames := 2, cells := 0, slots := 0, locals := 44 } (va_Pc [.ref (b + 405), .int 4, .int w1, .int w2, .int w3, .int w4] (zx_w g σ)) (va_Qi (fun r u => r = 0 ∧ u = (ap b σ [(405, 0, 1)] [] [])) (zx_w g) (gx_Q g)) 0 0 (gx_Q g) := by
  refine z_met (by decide) (Nat.le_of_ble_eq_true rfl) (fun p e s m below meth c B hr hin => ?_)
  refine z_eqs (σ' := (ap b σ [] [] [])) rfl ?_
  show zx p l e _ s m _ below meth c g 11 0 0 _ _ 0 [(0, .ref (b + 405)), (1, .int 4), (2, .int w1), (3, .int w2), (4, .int w3), (5, .int w4)] []
  refine z_aload_n B dX9_check_0 rfl 0 rfl ?_
  refine z_iload_n B dX9_check_1 rfl 1 rfl ?_
  refine z_iload_n B dX9_check_2 rfl 2 rfl ?_
  refine z_cSi (As := [.int 4, .int w1]) (rest := [.ref (b + 405)]) B cw_X9_238 dX9_check_3 (ci_X9_isStep_310 l (σ := (ap b σ [] [] [])) (b := b) (lyA hK) w1 q1_w1 q2_w1) rfl (by decide) rfl (Nat.le_of_ble_eq_true rfl) (by decide) (fun r u hu => ?_)
  refine z_eqs (σ' := (ap b σ [] [] [])) hu.2 ?_
  show zx p l e _ s m _ below meth c g 11 0 0 _ _ 6 [(0, .ref (b + 405)), (1, .int 4), (2, .int w1), (3, .int w2), (4, .int w3), (5, .int w4)] _
  refine z_seti (y := 0) hu.1 ?_
  refine z_iload_n B dX9_check_6 rfl 3 rfl ?_
  refine z_iload B dX9_check_7 4 rfl ?_
  refine z_iload B dX9_check_9 5 rfl ?_
  refine z_cSi (As := [.int w2, .int w3, .int w4]) (rest := [.int 0, .ref (b + 405)]) B cw_X9_242 dX9_check_11 (ci_X9_isOperation_34 l (σ := (ap b σ [] [] [])) (b := b) (lyA hK) w2 w3 w4 q1_w2 q2_w2 q1_w3 q2_w3) rfl (by decide) rfl (Nat.le_of_ble_eq_true rfl) (by decide) (fun r u hu => ?_)
  refine z_eqs (σ' := (ap b σ [] [] [])) hu.2 ?_
  show zx p l e _ s m _ below meth c g 11 0 0 _ _ 14 [(0, .ref (b + 405)), (1, .int 4), (2, .int w1), (3, .int w2), (4, .int w3), (5, .int w4)] _
  refine z_seti (y := 0) hu.1 ?_
  refine z_cVi (As := [.int 0, .int 0]) (rest := []) B cw_X9_245 cx_10 dX9_check_14 (ci_X9_needs__29 l (σ := (ap b σ [] [] [])) (b := b) (lyA hK) ) (lKA (hk_K hK 405 rfl rfl)) rfl (by decide) rfl (Nat.le_of_ble_eq_true rfl) (by decide) (fun r u hu => ?_)
  refine z_eqs (σ' := (ap b σ [(405, 0, 1)] [] [])) (hu.2.trans ap_ap) ?_
  show zx p l e _ s m _ below meth c g 11 0 0 _ _ 17 [(0, .ref (b + 405)), (1, .int 4), (2, .int w1), (3, .int w2), (4, .int w3), (5, .int w4)] _
  refine z_seti (y := 0) hu.1 ?_
  refine z_if_ne (tgt := 22) B dX9_check_17 (by decide) (fun h => absurd (by decide) h) (fun _ => ?_)
  refine z_iconst (v := 0) B dX9_check_20 (by decide) ?_
  exact z_iret B hr (by decide) (by decide) dX9_check_21 ⟨rfl, rfl⟩
set_option maxRecDepth 100000 in
set_option maxHeartbeats 4000000 in
theorem ci_X9_check_593 (l : Launch) {g : gx_T} {σ : sx_T} {b : Nat} (hK : lay b σ) (w1 : Int32) (w2 : Int32) (w3 : Int32) (w4 : Int32) (q1_w1 : (20 : Int) ≤ w1.toInt) (q2_w1 : w1.toInt ≤ (2147483647 : Int)) (q1_w2 : (0 : Int) ≤ w2.toInt) (q2_w2 : w2.toInt ≤ (17 : Int)) (q1_w3 : (0 : Int) ≤ w3.toInt) (q2_w3 : w3.toInt ≤ (99 : Int)) (q1_w4 : (-2147483648 : Int) ≤ w4.toInt) (q2_w4 : w4.toInt ≤ (-1 : Int))  : Met l yX9_check (.code yX9_check cX9_check 11 (some .int) :: lw_g) { frames := 2, cells := 0, slots := 0, locals := 44 } (va_Pc [.ref (b + 405), .int 4, .int w1, .int w2, .int w3, .int w4] (zx_w g σ)) (va_Qi (fun r u => r = 0 ∧ u = (ap b σ [(405, 0, 1)] [] [])) (zx_w g) (gx_Q g)) 0 0 (gx_Q g) := by
  refine z_met (by decide) (Nat.le_of_ble_eq_true rfl) (fun p e s m below meth c B hr hin => ?_)
  refine z_eqs (σ' := (ap b σ [] [] [])) rfl ?_
  show zx p l e _ s m _ below meth c g 11 0 0 _ _ 0 [(0, .ref (b + 405)), (1, .int 4), (2, .int w1), (3, .int w2), (4, .int w3), (5, .int w4)] []
  refine z_aload_n B dX9_check_0 rfl 0 rfl ?_
  refine z_iload_n B dX9_check_1 rfl 1 rfl ?_
  refine z_iload_n B dX9_check_2 rfl 2 rfl ?_
  refine z_cSi (As := [.int 4, .int w1]) (rest := [.ref (b + 405)]) B cw_X9_238 dX9_check_3 (ci_X9_isStep_310 l (σ := (ap b σ [] [] [])) (b := b) (lyA hK) w1 q1_w1 q2_w1) rfl (by decide) rfl (Nat.le_of_ble_eq_true rfl) (by decide) (fun r u hu => ?_)
  refine z_eqs (σ' := (ap b σ [] [] [])) hu.2 ?_
  show zx p l e _ s m _ below meth c g 11 0 0 _ _ 6 [(0, .ref (b + 405)), (1, .int 4), (2, .int w1), (3, .int w2), (4, .int w3), (5, .int w4)] _
  refine z_seti (y := 0) hu.1 ?_
  refine z_iload_n B dX9_check_6 rfl 3 rfl ?_
  refine z_iload B dX9_check_7 4 rfl ?_
  refine z_iload B dX9_check_9 5 rfl ?_
  refine z_cSi (As := [.int w2, .int w3, .int w4]) (rest := [.int 0, .ref (b + 405)]) B cw_X9_242 dX9_check_11 (ci_X9_isOperation_37 l (σ := (ap b σ [] [] [])) (b := b) (lyA hK) w2 w3 w4 q1_w2 q2_w2 q1_w3 q2_w3 q1_w4 q2_w4) rfl (by decide) rfl (Nat.le_of_ble_eq_true rfl) (by decide) (fun r u hu => ?_)
  refine z_eqs (σ' := (ap b σ [] [] [])) hu.2 ?_
  show zx p l e _ s m _ below meth c g 11 0 0 _ _ 14 [(0, .ref (b + 405)), (1, .int 4), (2, .int w1), (3, .int w2), (4, .int w3), (5, .int w4)] _
  refine z_seti (y := 0) hu.1 ?_
  refine z_cVi (As := [.int 0, .int 0]) (rest := []) B cw_X9_245 cx_10 dX9_check_14 (ci_X9_needs__29 l (σ := (ap b σ [] [] [])) (b := b) (lyA hK) ) (lKA (hk_K hK 405 rfl rfl)) rfl (by decide) rfl (Nat.le_of_ble_eq_true rfl) (by decide) (fun r u hu => ?_)
  refine z_eqs (σ' := (ap b σ [(405, 0, 1)] [] [])) (hu.2.trans ap_ap) ?_
  show zx p l e _ s m _ below meth c g 11 0 0 _ _ 17 [(0, .ref (b + 405)), (1, .int 4), (2, .int w1), (3, .int w2), (4, .int w3), (5, .int w4)] _
  refine z_seti (y := 0) hu.1 ?_
  refine z_if_ne (tgt := 22) B dX9_check_17 (by decide) (fun h => absurd (by decide) h) (fun _ => ?_)
  refine z_iconst (v := 0) B dX9_check_20 (by decide) ?_
  exact z_iret B hr (by decide) (by decide) dX9_check_21 ⟨rfl, rfl⟩
set_option maxRecDepth 100000 in
set_option maxHeartbeats 4000000 in
theorem ci_X9_check_594 (l : Launch) {g : gx_T} {σ : sx_T} {b : Nat} (hK : lay b σ) (w1 : Int32) (w2 : Int32) (w3 : Int32) (w4 : Int32) (q1_w1 : (20 : Int) ≤ w1.toInt) (q2_w1 : w1.toInt ≤ (2147483647 : Int)) (q1_w2 : (0 : Int) ≤ w2.toInt) (q2_w2 : w2.toInt ≤ (17 : Int)) (q1_w3 : (0 : Int) ≤ w3.toInt) (q2_w3 : w3.toInt ≤ (99 : Int)) (q1_w4 : (0 : Int) ≤ w4.toInt) (q2_w4 : w4.toInt ≤ (99 : Int))  : Met l yX9_check (.code yX9_check cX9_check 11 (some .int) :: lw_g) { frames := 2, cells := 0, slots := 0, locals := 44 } (va_Pc [.ref (b + 405), .int 4, .int w1, .int w2, .int w3, .int w4] (zx_w g σ)) (va_Qi (fun r u => r = 0 ∧ u = (ap b σ [(405, 0, 1)] [] [])) (zx_w g) (gx_Q g)) 0 0 (gx_Q g) := by
  refine z_met (by decide) (Nat.le_of_ble_eq_true rfl) (fun p e s m below meth c B hr hin => ?_)
  refine z_eqs (σ' := (ap b σ [] [] [])) rfl ?_
  show zx p l e _ s m _ below meth c g 11 0 0 _ _ 0 [(0, .ref (b + 405)), (1, .int 4), (2, .int w1), (3, .int w2), (4, .int w3), (5, .int w4)] []
  refine z_aload_n B dX9_check_0 rfl 0 rfl ?_
  refine z_iload_n B dX9_check_1 rfl 1 rfl ?_
  refine z_iload_n B dX9_check_2 rfl 2 rfl ?_
  refine z_cSi (As := [.int 4, .int w1]) (rest := [.ref (b + 405)]) B cw_X9_238 dX9_check_3 (ci_X9_isStep_310 l (σ := (ap b σ [] [] [])) (b := b) (lyA hK) w1 q1_w1 q2_w1) rfl (by decide) rfl (Nat.le_of_ble_eq_true rfl) (by decide) (fun r u hu => ?_)
  refine z_eqs (σ' := (ap b σ [] [] [])) hu.2 ?_
  show zx p l e _ s m _ below meth c g 11 0 0 _ _ 6 [(0, .ref (b + 405)), (1, .int 4), (2, .int w1), (3, .int w2), (4, .int w3), (5, .int w4)] _
  refine z_seti (y := 0) hu.1 ?_
  refine z_iload_n B dX9_check_6 rfl 3 rfl ?_
  refine z_iload B dX9_check_7 4 rfl ?_
  refine z_iload B dX9_check_9 5 rfl ?_
  refine z_cSi (As := [.int w2, .int w3, .int w4]) (rest := [.int 0, .ref (b + 405)]) B cw_X9_242 dX9_check_11 (ci_X9_isOperation_39 l (σ := (ap b σ [] [] [])) (b := b) (lyA hK) w2 w3 w4 q1_w2 q2_w2 q1_w3 q2_w3 q1_w4 q2_w4) rfl (by decide) rfl (Nat.le_of_ble_eq_true rfl) (by decide) (fun r u hu => ?_)
  refine z_eqs (σ' := (ap b σ [] [] [])) hu.2 ?_
  show zx p l e _ s m _ below meth c g 11 0 0 _ _ 14 [(0, .ref (b + 405)), (1, .int 4), (2, .int w1), (3, .int w2), (4, .int w3), (5, .int w4)] _
  refine z_seti (y := 1) hu.1 ?_
  refine z_cVi (As := [.int 0, .int 1]) (rest := []) B cw_X9_245 cx_10 dX9_check_14 (ci_X9_needs__40 l (σ := (ap b σ [] [] [])) (b := b) (lyA hK) ) (lKA (hk_K hK 405 rfl rfl)) rfl (by decide) rfl (Nat.le_of_ble_eq_true rfl) (by decide) (fun r u hu => ?_)
  refine z_eqs (σ' := (ap b σ [(405, 0, 1)] [] [])) (hu.2.trans ap_ap) ?_
  show zx p l e _ s m _ below meth c g 11 0 0 _ _ 17 [(0, .ref (b + 405)), (1, .int 4), (2, .int w1), (3, .int w2), (4, .int w3), (5, .int w4)] _
  refine z_seti (y := 0) hu.1 ?_
  refine z_if_ne (tgt := 22) B dX9_check_17 (by decide) (fun h => absurd (by decide) h) (fun _ => ?_)
  refine z_iconst (v := 0) B dX9_check_20 (by decide) ?_
  exact z_iret B hr (by decide) (by decide) dX9_check_21 ⟨rfl, rfl⟩
set_option maxRecDepth 100000 in
set_option maxHeartbeats 4000000 in
theorem ci_X9_check_595 (l : Launch) {g : gx_T} {σ : sx_T} {b : Nat} (hK : lay b σ) (w1 : Int32) (w2 : Int32) (w3 : Int32) (w4 : Int32) (q1_w1 : (20 : Int) ≤ w1.toInt) (q2_w1 : w1.toInt ≤ (2147483647 : Int)) (q1_w2 : (0 : Int) ≤ w2.toInt) (q2_w2 : w2.toInt ≤ (17 : Int)) (q1_w3 : (0 : Int) ≤ w3.toInt) (q2_w3 : w3.toInt ≤ (99 : Int)) (q1_w4 : (100 : Int) ≤ w4.toInt) (q2_w4 : w4.toInt ≤ (2147483647 : Int))  : Met l yX9_check (.code yX9_check cX9_check 11 (some .int) :: lw_g) { frames := 2, cells := 0, slots := 0, locals := 44 } (va_Pc [.ref (b + 405), .int 4, .int w1, .int w2, .int w3, .int w4] (zx_w g σ)) (va_Qi (fun r u => r = 0 ∧ u = (ap b σ [(405, 0, 1)] [] [])) (zx_w g) (gx_Q g)) 0 0 (gx_Q g) := by
  refine z_met (by decide) (Nat.le_of_ble_eq_true rfl) (fun p e s m below meth c B hr hin => ?_)
  refine z_eqs (σ' := (ap b σ [] [] [])) rfl ?_
  show zx p l e _ s m _ below meth c g 11 0 0 _ _ 0 [(0, .ref (b + 405)), (1, .int 4), (2, .int w1), (3, .int w2), (4, .int w3), (5, .int w4)] []
  refine z_aload_n B dX9_check_0 rfl 0 rfl ?_
  refine z_iload_n B dX9_check_1 rfl 1 rfl ?_
  refine z_iload_n B dX9_check_2 rfl 2 rfl ?_
  refine z_cSi (As := [.int 4, .int w1]) (rest := [.ref (b + 405)]) B cw_X9_238 dX9_check_3 (ci_X9_isStep_310 l (σ := (ap b σ [] [] [])) (b := b) (lyA hK) w1 q1_w1 q2_w1) rfl (by decide) rfl (Nat.le_of_ble_eq_true rfl) (by decide) (fun r u hu => ?_)
  refine z_eqs (σ' := (ap b σ [] [] [])) hu.2 ?_
  show zx p l e _ s m _ below meth c g 11 0 0 _ _ 6 [(0, .ref (b + 405)), (1, .int 4), (2, .int w1), (3, .int w2), (4, .int w3), (5, .int w4)] _
  refine z_seti (y := 0) hu.1 ?_
  refine z_iload_n B dX9_check_6 rfl 3 rfl ?_
  refine z_iload B dX9_check_7 4 rfl ?_
  refine z_iload B dX9_check_9 5 rfl ?_
  refine z_cSi (As := [.int w2, .int w3, .int w4]) (rest := [.int 0, .ref (b + 405)]) B cw_X9_242 dX9_check_11 (ci_X9_isOperation_43 l (σ := (ap b σ [] [] [])) (b := b) (lyA hK) w2 w3 w4 q1_w2 q2_w2 q1_w3 q2_w3 q1_w4 q2_w4) rfl (by decide) rfl (Nat.le_of_ble_eq_true rfl) (by decide) (fun r u hu => ?_)
  refine z_eqs (σ' := (ap b σ [] [] [])) hu.2 ?_
  show zx p l e _ s m _ below meth c g 11 0 0 _ _ 14 [(0, .ref (b + 405)), (1, .int 4), (2, .int w1), (3, .int w2), (4, .int w3), (5, .int w4)] _
  refine z_seti (y := 0) hu.1 ?_
  refine z_cVi (As := [.int 0, .int 0]) (rest := []) B cw_X9_245 cx_10 dX9_check_14 (ci_X9_needs__29 l (σ := (ap b σ [] [] [])) (b := b) (lyA hK) ) (lKA (hk_K hK 405 rfl rfl)) rfl (by decide) rfl (Nat.le_of_ble_eq_true rfl) (by decide) (fun r u hu => ?_)
  refine z_eqs (σ' := (ap b σ [(405, 0, 1)] [] [])) (hu.2.trans ap_ap) ?_
  show zx p l e _ s m _ below meth c g 11 0 0 _ _ 17 [(0, .ref (b + 405)), (1, .int 4), (2, .int w1), (3, .int w2), (4, .int w3), (5, .int w4)] _
  refine z_seti (y := 0) hu.1 ?_
  refine z_if_ne (tgt := 22) B dX9_check_17 (by decide) (fun h => absurd (by decide) h) (fun _ => ?_)
  refine z_iconst (v := 0) B dX9_check_20 (by decide) ?_
  exact z_iret B hr (by decide) (by decide) dX9_check_21 ⟨rfl, rfl⟩
set_option maxRecDepth 100000 in
set_option maxHeartbeats 4000000 in
theorem ci_X9_check_596 (l : Launch) {g : gx_T} {σ : sx_T} {b : Nat} (hK : lay b σ) (w1 : Int32) (w2 : Int32) (w3 : Int32) (w4 : Int32) (q1_w1 : (20 : Int) ≤ w1.toInt) (q2_w1 : w1.toInt ≤ (2147483647 : Int)) (q1_w2 : (0 : Int) ≤ w2.toInt) (q2_w2 : w2.toInt ≤ (17 : Int)) (q1_w3 : (100 : Int) ≤ w3.toInt) (q2_w3 : w3.toInt ≤ (2147483647 : Int))  : Met l yX9_check (.code yX9_check cX9_check 11 (some .int) :: lw_g) { frames := 2, cells := 0, slots := 0, locals := 44 } (va_Pc [.ref (b + 405), .int 4, .int w1, .int w2, .int w3, .int w4] (zx_w g σ)) (va_Qi (fun r u => r = 0 ∧ u = (ap b σ [(405, 0, 1)] [] [])) (zx_w g) (gx_Q g)) 0 0 (gx_Q g) := by
  refine z_met (by decide) (Nat.le_of_ble_eq_true rfl) (fun p e s m below meth c B hr hin => ?_)
  refine z_eqs (σ' := (ap b σ [] [] [])) rfl ?_
  show zx p l e _ s m _ below meth c g 11 0 0 _ _ 0 [(0, .ref (b + 405)), (1, .int 4), (2, .int w1), (3, .int w2), (4, .int w3), (5, .int w4)] []
  refine z_aload_n B dX9_check_0 rfl 0 rfl ?_
  refine z_iload_n B dX9_check_1 rfl 1 rfl ?_
  refine z_iload_n B dX9_check_2 rfl 2 rfl ?_
  refine z_cSi (As := [.int 4, .int w1]) (rest := [.ref (b + 405)]) B cw_X9_238 dX9_check_3 (ci_X9_isStep_310 l (σ := (ap b σ [] [] [])) (b := b) (lyA hK) w1 q1_w1 q2_w1) rfl (by decide) rfl (Nat.le_of_ble_eq_true rfl) (by decide) (fun r u hu => ?_)
  refine z_eqs (σ' := (ap b σ [] [] [])) hu.2 ?_
  show zx p l e _ s m _ below meth c g 11 0 0 _ _ 6 [(0, .ref (b + 405)), (1, .int 4), (2, .int w1), (3, .int w2), (4, .int w3), (5, .int w4)] _
  refine z_seti (y := 0) hu.1 ?_
  refine z_iload_n B dX9_check_6 rfl 3 rfl ?_
  refine z_iload B dX9_check_7 4 rfl ?_
  refine z_iload B dX9_check_9 5 rfl ?_
  refine z_cSi (As := [.int w2, .int w3, .int w4]) (rest := [.int 0, .ref (b + 405)]) B cw_X9_242 dX9_check_11 (ci_X9_isOperation_45 l (σ := (ap b σ [] [] [])) (b := b) (lyA hK) w2 w3 w4 q1_w2 q2_w2 q1_w3 q2_w3) rfl (by decide) rfl (Nat.le_of_ble_eq_true rfl) (by decide) (fun r u hu => ?_)
  refine z_eqs (σ' := (ap b σ [] [] [])) hu.2 ?_
  show zx p l e _ s m _ below meth c g 11 0 0 _ _ 14 [(0, .ref (b + 405)), (1, .int 4), (2, .int w1), (3, .int w2), (4, .int w3), (5, .int w4)] _
  refine z_seti (y := 0) hu.1 ?_
  refine z_cVi (As := [.int 0, .int 0]) (rest := []) B cw_X9_245 cx_10 dX9_check_14 (ci_X9_needs__29 l (σ := (ap b σ [] [] [])) (b := b) (lyA hK) ) (lKA (hk_K hK 405 rfl rfl)) rfl (by decide) rfl (Nat.le_of_ble_eq_true rfl) (by decide) (fun r u hu => ?_)
  refine z_eqs (σ' := (ap b σ [(405, 0, 1)] [] [])) (hu.2.trans ap_ap) ?_
  show zx p l e _ s m _ below meth c g 11 0 0 _ _ 17 [(0, .ref (b + 405)), (1, .int 4), (2, .int w1), (3, .int w2), (4, .int w3), (5, .int w4)] _
  refine z_seti (y := 0) hu.1 ?_
  refine z_if_ne (tgt := 22) B dX9_check_17 (by decide) (fun h => absurd (by decide) h) (fun _ => ?_)
  refine z_iconst (v := 0) B dX9_check_20 (by decide) ?_
  exact z_iret B hr (by decide) (by decide) dX9_check_21 ⟨rfl, rfl⟩
set_option maxRecDepth 100000 in
set_option maxHeartbeats 4000000 in
theorem ci_X9_check_597 (l : Launch) {g : gx_T} {σ : sx_T} {b : Nat} (hK : lay b σ) (w1 : Int32) (w2 : Int32) (w3 : Int32) (w4 : Int32) (q1_w1 : (20 : Int) ≤ w1.toInt) (q2_w1 : w1.toInt ≤ (2147483647 : Int)) (q1_w2 : (18 : Int) ≤ w2.toInt) (q2_w2 : w2.toInt ≤ (2147483647 : Int))  : Met l yX9_check (.code yX9_check cX9_check 11 (some .int) :: lw_g) { frames := 2, cells := 0, slots := 0, locals := 44 } (va_Pc [.ref (b + 405), .int 4, .int w1, .int w2, .int w3, .int w4] (zx_w g σ)) (va_Qi (fun r u => r = 0 ∧ u = (ap b σ [(405, 0, 1)] [] [])) (zx_w g) (gx_Q g)) 0 0 (gx_Q g) := by
  refine z_met (by decide) (Nat.le_of_ble_eq_true rfl) (fun p e s m below meth c B hr hin => ?_)
  refine z_eqs (σ' := (ap b σ [] [] [])) rfl ?_
  show zx p l e _ s m _ below meth c g 11 0 0 _ _ 0 [(0, .ref (b + 405)), (1, .int 4), (2, .int w1), (3, .int w2), (4, .int w3), (5, .int w4)] []
  refine z_aload_n B dX9_check_0 rfl 0 rfl ?_
  refine z_iload_n B dX9_check_1 rfl 1 rfl ?_
  refine z_iload_n B dX9_check_2 rfl 2 rfl ?_
  refine z_cSi (As := [.int 4, .int w1]) (rest := [.ref (b + 405)]) B cw_X9_238 dX9_check_3 (ci_X9_isStep_310 l (σ := (ap b σ [] [] [])) (b := b) (lyA hK) w1 q1_w1 q2_w1) rfl (by decide) rfl (Nat.le_of_ble_eq_true rfl) (by decide) (fun r u hu => ?_)
  refine z_eqs (σ' := (ap b σ [] [] [])) hu.2 ?_
  show zx p l e _ s m _ below meth c g 11 0 0 _ _ 6 [(0, .ref (b + 405)), (1, .int 4), (2, .int w1), (3, .int w2), (4, .int w3), (5, .int w4)] _
  refine z_seti (y := 0) hu.1 ?_
  refine z_iload_n B dX9_check_6 rfl 3 rfl ?_
  refine z_iload B dX9_check_7 4 rfl ?_
  refine z_iload B dX9_check_9 5 rfl ?_
  refine z_cSi (As := [.int w2, .int w3, .int w4]) (rest := [.int 0, .ref (b + 405)]) B cw_X9_242 dX9_check_11 (ci_X9_isOperation_48 l (σ := (ap b σ [] [] [])) (b := b) (lyA hK) w2 w3 w4 q1_w2 q2_w2) rfl (by decide) rfl (Nat.le_of_ble_eq_true rfl) (by decide) (fun r u hu => ?_)
  refine z_eqs (σ' := (ap b σ [] [] [])) hu.2 ?_
  show zx p l e _ s m _ below meth c g 11 0 0 _ _ 14 [(0, .ref (b + 405)), (1, .int 4), (2, .int w1), (3, .int w2), (4, .int w3), (5, .int w4)] _
  refine z_seti (y := 0) hu.1 ?_
  refine z_cVi (As := [.int 0, .int 0]) (rest := []) B cw_X9_245 cx_10 dX9_check_14 (ci_X9_needs__29 l (σ := (ap b σ [] [] [])) (b := b) (lyA hK) ) (lKA (hk_K hK 405 rfl rfl)) rfl (by decide) rfl (Nat.le_of_ble_eq_true rfl) (by decide) (fun r u hu => ?_)
  refine z_eqs (σ' := (ap b σ [(405, 0, 1)] [] [])) (hu.2.trans ap_ap) ?_
  show zx p l e _ s m _ below meth c g 11 0 0 _ _ 17 [(0, .ref (b + 405)), (1, .int 4), (2, .int w1), (3, .int w2), (4, .int w3), (5, .int w4)] _
  refine z_seti (y := 0) hu.1 ?_
  refine z_if_ne (tgt := 22) B dX9_check_17 (by decide) (fun h => absurd (by decide) h) (fun _ => ?_)
  refine z_iconst (v := 0) B dX9_check_20 (by decide) ?_
  exact z_iret B hr (by decide) (by decide) dX9_check_21 ⟨rfl, rfl⟩
set_option maxRecDepth 100000 in
set_option maxHeartbeats 4000000 in
theorem ci_X8_check_598 (l : Launch) (hlt : l.stackTraces = false) {g : gx_T} {σ : sx_T} {b : Nat} (hK : lay b σ) (w1 : Int32) (w2 : Int32) (w3 : Int32) (w4 : Int32) (q1_w1 : (-2147483648 : Int) ≤ w1.toInt) (q2_w1 : w1.toInt ≤ (-1 : Int)) (hR_0_0 : sx_R σ (b + 0) 0 = (some (b + 1))) (hR_1_5 : sx_R σ (b + 1) 5 = (some (b + 29))) : vx_Met l yX8_check (.code yX8_check cX8_check 13 (some .int) :: lw_g) { frames := 7, cells := 1, slots := 6, locals := 136 } (va_Pc [.ref (b + 0), .int 5, .int w1, .int w2, .int w3, .int w4] (zx_w g σ)) (va_Qi (S := sx_T) (fun _ _ => False) (zx_w g) (gx_Q g)) (vx_X (fun u : sx_T => ∃ z, u = wx_Z σ z) (fun E u t => E = "java/lang/IndexOutOfBoundsException" ∧ zx_h g u t.heap) (gx_Q g)) 1 6 (gx_Q g) := by
  refine z_metX (by decide) (Nat.le_of_ble_eq_true rfl) (fun p e s m below meth c B hr hin hout => ?_)
  refine z_eqs (σ' := (ap b σ [] [] [])) rfl ?_
  show zx p l e _ s m _ below meth c g 13 0 0 _ _ 0 [(0, .ref (b + 0)), (1, .int 5), (2, .int w1), (3, .int w2), (4, .int w3), (5, .int w4)] []
  refine z_aload_n B dX8_check_0 rfl 0 rfl ?_
  refine z_iload_n B dX8_check_1 rfl 1 rfl ?_
  refine z_cVq (As := [.int 5]) (rest := []) B cw_X8_64 cx_9 dX8_check_2 (ci_X8_programAt_318 l (σ := (ap b σ [] [] [])) (b := b) (lyA hK) (rR_at 0 0 hR_0_0) (rR_at 1 5 hR_1_5)) (lKA (hk_K hK 0 rfl rfl)) rfl (by decide) rfl (Nat.le_of_ble_eq_true rfl) (by decide) (fun r u hu => ?_)
  refine z_eqs (σ' := (ap b σ [] [] [])) hu.2 ?_
  show zx p l e _ s m _ below meth c g 13 0 0 _ _ 5 [(0, .ref (b + 0)), (1, .int 5), (2, .int w1), (3, .int w2), (4, .int w3), (5, .int w4)] _
  refine z_setr (y := (some (b + 29))) hu.1 ?_
  refine z_astore (lv' := [(6, .ref (b + 29)), (0, .ref (b + 0)), (1, .int 5), (2, .int w1), (3, .int w2), (4, .int w3), (5, .int w4)]) B dX8_check_5 (by decide) rfl ?_
  refine z_aload B dX8_check_7 0 rfl ?_
  refine z_ifnull (r := (some (b + 29))) (tgt := 21) B dX8_check_9 (by decide) (fun h => nomatch h) (fun _ _ => ?_)
  refine z_iload_n B dX8_check_12 rfl 3 rfl ?_
  refine z_bipush (v := 20) B dX8_check_13 (by decide) ?_
  refine z_cSi (As := [.int w1, .int 20]) (rest := []) B cw_X8_68 dX8_check_15 (ci_X8_isBelow_51 l (σ := (ap b σ [] [] [])) (b := b) (lyA hK) w1 q1_w1 q2_w1) rfl (by decide) rfl (Nat.le_of_ble_eq_true rfl) (by decide) (fun r u hu => ?_)
  refine z_eqs (σ' := (ap b σ [] [] [])) hu.2 ?_
  show zx p l e _ s m _ below meth c g 13 0 0 _ _ 18 [(6, .ref (b + 29)), (0, .ref (b + 0)), (1, .int 5), (2, .int w1), (3, .int w2), (4, .int w3), (5, .int w4)] _
  refine z_seti (y := 0) hu.1 ?_
  refine z_if_ne (tgt := 31) B dX8_check_18 (by decide) (fun h => absurd (by decide) h) (fun _ => ?_)
  exact z_throw B hlt hout (cls := "java/lang/IndexOutOfBoundsException") (text := "no such step") tw_X8_72_74_76 dX8_check_21 dX8_check_24 dX8_check_25 dX8_check_27 dX8_check_30 (by decide) (by decide) (by decide) (by decide) (by decide) (by decide) (fun z => ⟨z, rfl⟩)
set_option maxRecDepth 100000 in
set_option maxHeartbeats 4000000 in
theorem ci_L_check_599 (l : Launch) (hlt : l.stackTraces = false) {g : gx_T} {σ : sx_T} {b : Nat} (hK : lay b σ) (w1 : Int32) (w2 : Int32) (w3 : Int32) (w4 : Int32) (q1_w1 : (-2147483648 : Int) ≤ w1.toInt) (q2_w1 : w1.toInt ≤ (-1 : Int)) (hR_0_0 : sx_R σ (b + 0) 0 = (some (b + 1))) (hR_1_5 : sx_R σ (b + 1) 5 = (some (b + 29))) : Met l yL_check (.codeWith yL_check cL_check 8 (some .int) [(0, 16, 19, 13), (0, 16, 23, 15)] :: lw_g) { frames := 8, cells := 1, slots := 6, locals := 168 } (va_Pc [.ref (b + 0), .int 5, .int w1, .int w2, .int w3, .int w4, .ref (b + 431)] (zx_w g σ)) (va_Qi (fun r u => r = 1 ∧ ∃ z, u = (ap b (wx_Z σ z) [] [] [])) (zx_w g) (gx_Q g)) 1 6 (gx_Q g) := by
  refine z_metW (by decide) (Nat.le_of_ble_eq_true rfl) (fun p e s m below meth c B hr htab => ?_)
  refine z_eqs (σ' := (ap b σ [] [] [])) rfl ?_
  show zx p l e _ s m _ below meth c g 8 0 0 _ _ 0 [(0, .ref (b + 0)), (1, .int 5), (2, .int w1), (3, .int w2), (4, .int w3), (5, .int w4), (6, .ref (b + 431))] []
  refine z_aload B dL_check_0 6 rfl ?_
  refine z_iconst (v := 0) B dL_check_2 (by decide) ?_
  refine z_aload_n B dL_check_3 rfl 0 rfl ?_
  refine z_iload_n B dL_check_4 rfl 1 rfl ?_
  refine z_iload_n B dL_check_5 rfl 2 rfl ?_
  refine z_iload_n B dL_check_6 rfl 3 rfl ?_
  refine z_iload B dL_check_7 4 rfl ?_
  refine z_iload B dL_check_9 5 rfl ?_
  refine z_cXi (As := [.int 5, .int w1, .int w2, .int w3, .int w4]) (rest := [.int 0, .ref (b + 431)]) B htab tc_check_11_IndexOutOfBoundsException cw_L_17 cx_9 dL_check_11 (ci_X8_check_598 l hlt (σ := (ap b σ [] [] [])) (b := b) (lyA hK) w1 w2 w3 w4 q1_w1 q2_w1 (rR_at 0 0 hR_0_0) (rR_at 1 5 hR_1_5)) (lKA (hk_K hK 0 rfl rfl)) rfl (by decide) rfl (Nat.le_of_ble_eq_true rfl) (by decide) (fun z q => ?_)
  refine z_eqs (σ' := (ap b (wx_Z σ z) [] [] [])) rfl ?_
  show zx p l e _ s m _ below meth c g 8 _ _ _ _ 19 [(0, .ref (b + 0)), (1, .int 5), (2, .int w1), (3, .int w2), (4, .int w3), (5, .int w4), (6, .ref (b + 431))] _
  refine z_astore (lv' := [(7, .ref q), (0, .ref (b + 0)), (1, .int 5), (2, .int w1), (3, .int w2), (4, .int w3), (5, .int w4), (6, .ref (b + 431))]) B dL_check_19 (by decide) rfl ?_
  refine z_iconst (v := 1) B dL_check_21 (by decide) ?_
  exact z_iret B hr (by decide) (by decide) dL_check_22 ⟨rfl, _, rfl⟩
set_option maxRecDepth 100000 in
set_option maxHeartbeats 4000000 in
theorem ci_X9_check_600 (l : Launch) {g : gx_T} {σ : sx_T} {b : Nat} (hK : lay b σ) (w1 : Int32) (w2 : Int32) (w3 : Int32) (w4 : Int32) (q1_w1 : (-2147483648 : Int) ≤ w1.toInt) (q2_w1 : w1.toInt ≤ (-1 : Int)) (q1_w2 : (-2147483648 : Int) ≤ w2.toInt) (q2_w2 : w2.toInt ≤ (-1 : Int))  : Met l yX9_check (.code yX9_check cX9_check 11 (some .int) :: lw_g) { frames := 2, cells := 0, slots := 0, locals := 44 } (va_Pc [.ref (b + 405), .int 5, .int w1, .int w2, .int w3, .int w4] (zx_w g σ)) (va_Qi (fun r u => r = 0 ∧ u = (ap b σ [(405, 0, 1)] [] [])) (zx_w g) (gx_Q g)) 0 0 (gx_Q g) := by
  refine z_met (by decide) (Nat.le_of_ble_eq_true rfl) (fun p e s m below meth c B hr hin => ?_)
  refine z_eqs (σ' := (ap b σ [] [] [])) rfl ?_
  show zx p l e _ s m _ below meth c g 11 0 0 _ _ 0 [(0, .ref (b + 405)), (1, .int 5), (2, .int w1), (3, .int w2), (4, .int w3), (5, .int w4)] []
  refine z_aload_n B dX9_check_0 rfl 0 rfl ?_
  refine z_iload_n B dX9_check_1 rfl 1 rfl ?_
  refine z_iload_n B dX9_check_2 rfl 2 rfl ?_
  refine z_cSi (As := [.int 5, .int w1]) (rest := [.ref (b + 405)]) B cw_X9_238 dX9_check_3 (ci_X9_isStep_322 l (σ := (ap b σ [] [] [])) (b := b) (lyA hK) w1 q1_w1 q2_w1) rfl (by decide) rfl (Nat.le_of_ble_eq_true rfl) (by decide) (fun r u hu => ?_)
  refine z_eqs (σ' := (ap b σ [] [] [])) hu.2 ?_
  show zx p l e _ s m _ below meth c g 11 0 0 _ _ 6 [(0, .ref (b + 405)), (1, .int 5), (2, .int w1), (3, .int w2), (4, .int w3), (5, .int w4)] _
  refine z_seti (y := 0) hu.1 ?_
  refine z_iload_n B dX9_check_6 rfl 3 rfl ?_
  refine z_iload B dX9_check_7 4 rfl ?_
  refine z_iload B dX9_check_9 5 rfl ?_
  refine z_cSi (As := [.int w2, .int w3, .int w4]) (rest := [.int 0, .ref (b + 405)]) B cw_X9_242 dX9_check_11 (ci_X9_isOperation_28 l (σ := (ap b σ [] [] [])) (b := b) (lyA hK) w2 w3 w4 q1_w2 q2_w2) rfl (by decide) rfl (Nat.le_of_ble_eq_true rfl) (by decide) (fun r u hu => ?_)
  refine z_eqs (σ' := (ap b σ [] [] [])) hu.2 ?_
  show zx p l e _ s m _ below meth c g 11 0 0 _ _ 14 [(0, .ref (b + 405)), (1, .int 5), (2, .int w1), (3, .int w2), (4, .int w3), (5, .int w4)] _
  refine z_seti (y := 0) hu.1 ?_
  refine z_cVi (As := [.int 0, .int 0]) (rest := []) B cw_X9_245 cx_10 dX9_check_14 (ci_X9_needs__29 l (σ := (ap b σ [] [] [])) (b := b) (lyA hK) ) (lKA (hk_K hK 405 rfl rfl)) rfl (by decide) rfl (Nat.le_of_ble_eq_true rfl) (by decide) (fun r u hu => ?_)
  refine z_eqs (σ' := (ap b σ [(405, 0, 1)] [] [])) (hu.2.trans ap_ap) ?_
  show zx p l e _ s m _ below meth c g 11 0 0 _ _ 17 [(0, .ref (b + 405)), (1, .int 5), (2, .int w1), (3, .int w2), (4, .int w3), (5, .int w4)] _
  refine z_seti (y := 0) hu.1 ?_
  refine z_if_ne (tgt := 22) B dX9_check_17 (by decide) (fun h => absurd (by decide) h) (fun _ => ?_)
  refine z_iconst (v := 0) B dX9_check_20 (by decide) ?_
  exact z_iret B hr (by decide) (by decide) dX9_check_21 ⟨rfl, rfl⟩
set_option maxRecDepth 100000 in
set_option maxHeartbeats 4000000 in
theorem ci_X9_check_601 (l : Launch) {g : gx_T} {σ : sx_T} {b : Nat} (hK : lay b σ) (w1 : Int32) (w2 : Int32) (w3 : Int32) (w4 : Int32) (q1_w1 : (-2147483648 : Int) ≤ w1.toInt) (q2_w1 : w1.toInt ≤ (-1 : Int)) (q1_w2 : (0 : Int) ≤ w2.toInt) (q2_w2 : w2.toInt ≤ (17 : Int)) (q1_w3 : (-2147483648 : Int) ≤ w3.toInt) (q2_w3 : w3.toInt ≤ (-1 : Int))  : Met l yX9_check (.code yX9_check cX9_check 11 (some .int) :: lw_g) { frames := 2, cells := 0, slots := 0, locals := 44 } (va_Pc [.ref (b + 405), .int 5, .int w1, .int w2, .int w3, .int w4] (zx_w g σ)) (va_Qi (fun r u => r = 0 ∧ u = (ap b σ [(405, 0, 1)] [] [])) (zx_w g) (gx_Q g)) 0 0 (gx_Q g) := by
  refine z_met (by decide) (Nat.le_of_ble_eq_true rfl) (fun p e s m below meth c B hr hin => ?_)
  refine z_eqs (σ' := (ap b σ [] [] [])) rfl ?_
  show zx p l e _ s m _ below meth c g 11 0 0 _ _ 0 [(0, .ref (b + 405)), (1, .int 5), (2, .int w1), (3, .int w2), (4, .int w3), (5, .int w4)] []
  refine z_aload_n B dX9_check_0 rfl 0 rfl ?_
  refine z_iload_n B dX9_check_1 rfl 1 rfl ?_
  refine z_iload_n B dX9_check_2 rfl 2 rfl ?_
  refine z_cSi (As := [.int 5, .int w1]) (rest := [.ref (b + 405)]) B cw_X9_238 dX9_check_3 (ci_X9_isStep_322 l (σ := (ap b σ [] [] [])) (b := b) (lyA hK) w1 q1_w1 q2_w1) rfl (by decide) rfl (Nat.le_of_ble_eq_true rfl) (by decide) (fun r u hu => ?_)
  refine z_eqs (σ' := (ap b σ [] [] [])) hu.2 ?_
  show zx p l e _ s m _ below meth c g 11 0 0 _ _ 6 [(0, .ref (b + 405)), (1, .int 5), (2, .int w1), (3, .int w2), (4, .int w3), (5, .int w4)] _
  refine z_seti (y := 0) hu.1 ?_
  refine z_iload_n B dX9_check_6 rfl 3 rfl ?_
  refine z_iload B dX9_check_7 4 rfl ?_
  refine z_iload B dX9_check_9 5 rfl ?_
  refine z_cSi (As := [.int w2, .int w3, .int w4]) (rest := [.int 0, .ref (b + 405)]) B cw_X9_242 dX9_check_11 (ci_X9_isOperation_34 l (σ := (ap b σ [] [] [])) (b := b) (lyA hK) w2 w3 w4 q1_w2 q2_w2 q1_w3 q2_w3) rfl (by decide) rfl (Nat.le_of_ble_eq_true rfl) (by decide) (fun r u hu => ?_)
  refine z_eqs (σ' := (ap b σ [] [] [])) hu.2 ?_
  show zx p l e _ s m _ below meth c g 11 0 0 _ _ 14 [(0, .ref (b + 405)), (1, .int 5), (2, .int w1), (3, .int w2), (4, .int w3), (5, .int w4)] _
  refine z_seti (y := 0) hu.1 ?_
  refine z_cVi (As := [.int 0, .int 0]) (rest := []) B cw_X9_245 cx_10 dX9_check_14 (ci_X9_needs__29 l (σ := (ap b σ [] [] [])) (b := b) (lyA hK) ) (lKA (hk_K hK 405 rfl rfl)) rfl (by decide) rfl (Nat.le_of_ble_eq_true rfl) (by decide) (fun r u hu => ?_)
  refine z_eqs (σ' := (ap b σ [(405, 0, 1)] [] [])) (hu.2.trans ap_ap) ?_
  show zx p l e _ s m _ below meth c g 11 0 0 _ _ 17 [(0, .ref (b + 405)), (1, .int 5), (2, .int w1), (3, .int w2), (4, .int w3), (5, .int w4)] _
  refine z_seti (y := 0) hu.1 ?_
  refine z_if_ne (tgt := 22) B dX9_check_17 (by decide) (fun h => absurd (by decide) h) (fun _ => ?_)
  refine z_iconst (v := 0) B dX9_check_20 (by decide) ?_
  exact z_iret B hr (by decide) (by decide) dX9_check_21 ⟨rfl, rfl⟩
set_option maxRecDepth 100000 in
set_option maxHeartbeats 4000000 in
theorem ci_X9_check_602 (l : Launch) {g : gx_T} {σ : sx_T} {b : Nat} (hK : lay b σ) (w1 : Int32) (w2 : Int32) (w3 : Int32) (w4 : Int32) (q1_w1 : (-2147483648 : Int) ≤ w1.toInt) (q2_w1 : w1.toInt ≤ (-1 : Int)) (q1_w2 : (0 : Int) ≤ w2.toInt) (q2_w2 : w2.toInt ≤ (17 : Int)) (q1_w3 : (0 : Int) ≤ w3.toInt) (q2_w3 : w3.toInt ≤ (99 : Int)) (q1_w4 : (-2147483648 : Int) ≤ w4.toInt) (q2_w4 : w4.toInt ≤ (-1 : Int))  : Met l yX9_check (.code yX9_check cX9_check 11 (some .int) :: lw_g) { frames := 2, cells := 0, slots := 0, locals := 44 } (va_Pc [.ref (b + 405), .int 5, .int w1, .int w2, .int w3, .int w4] (zx_w g σ)) (va_Qi (fun r u => r = 0 ∧ u = (ap b σ [(405, 0, 1)] [] [])) (zx_w g) (gx_Q g)) 0 0 (gx_Q g) := by
  refine z_met (by decide) (Nat.le_of_ble_eq_true rfl) (fun p e s m below meth c B hr hin => ?_)
  refine z_eqs (σ' := (ap b σ [] [] [])) rfl ?_
  show zx p l e _ s m _ below meth c g 11 0 0 _ _ 0 [(0, .ref (b + 405)), (1, .int 5), (2, .int w1), (3, .int w2), (4, .int w3), (5, .int w4)] []
  refine z_aload_n B dX9_check_0 rfl 0 rfl ?_
  refine z_iload_n B dX9_check_1 rfl 1 rfl ?_
  refine z_iload_n B dX9_check_2 rfl 2 rfl ?_
  refine z_cSi (As := [.int 5, .int w1]) (rest := [.ref (b + 405)]) B cw_X9_238 dX9_check_3 (ci_X9_isStep_322 l (σ := (ap b σ [] [] [])) (b := b) (lyA hK) w1 q1_w1 q2_w1) rfl (by decide) rfl (Nat.le_of_ble_eq_true rfl) (by decide) (fun r u hu => ?_)
  refine z_eqs (σ' := (ap b σ [] [] [])) hu.2 ?_
  show zx p l e _ s m _ below meth c g 11 0 0 _ _ 6 [(0, .ref (b + 405)), (1, .int 5), (2, .int w1), (3, .int w2), (4, .int w3), (5, .int w4)] _
  refine z_seti (y := 0) hu.1 ?_
  refine z_iload_n B dX9_check_6 rfl 3 rfl ?_
  refine z_iload B dX9_check_7 4 rfl ?_
  refine z_iload B dX9_check_9 5 rfl ?_
  refine z_cSi (As := [.int w2, .int w3, .int w4]) (rest := [.int 0, .ref (b + 405)]) B cw_X9_242 dX9_check_11 (ci_X9_isOperation_37 l (σ := (ap b σ [] [] [])) (b := b) (lyA hK) w2 w3 w4 q1_w2 q2_w2 q1_w3 q2_w3 q1_w4 q2_w4) rfl (by decide) rfl (Nat.le_of_ble_eq_true rfl) (by decide) (fun r u hu => ?_)
  refine z_eqs (σ' := (ap b σ [] [] [])) hu.2 ?_
  show zx p l e _ s m _ below meth c g 11 0 0 _ _ 14 [(0, .ref (b + 405)), (1, .int 5), (2, .int w1), (3, .int w2), (4, .int w3), (5, .int w4)] _
  refine z_seti (y := 0) hu.1 ?_
  refine z_cVi (As := [.int 0, .int 0]) (rest := []) B cw_X9_245 cx_10 dX9_check_14 (ci_X9_needs__29 l (σ := (ap b σ [] [] [])) (b := b) (lyA hK) ) (lKA (hk_K hK 405 rfl rfl)) rfl (by decide) rfl (Nat.le_of_ble_eq_true rfl) (by decide) (fun r u hu => ?_)
  refine z_eqs (σ' := (ap b σ [(405, 0, 1)] [] [])) (hu.2.trans ap_ap) ?_
  show zx p l e _ s m _ below meth c g 11 0 0 _ _ 17 [(0, .ref (b + 405)), (1, .int 5), (2, .int w1), (3, .int w2), (4, .int w3), (5, .int w4)] _
  refine z_seti (y := 0) hu.1 ?_
  refine z_if_ne (tgt := 22) B dX9_check_17 (by decide) (fun h => absurd (by decide) h) (fun _ => ?_)
  refine z_iconst (v := 0) B dX9_check_20 (by decide) ?_
  exact z_iret B hr (by decide) (by decide) dX9_check_21 ⟨rfl, rfl⟩
set_option maxRecDepth 100000 in
set_option maxHeartbeats 4000000 in
theorem ci_X9_check_603 (l : Launch) {g : gx_T} {σ : sx_T} {b : Nat} (hK : lay b σ) (w1 : Int32) (w2 : Int32) (w3 : Int32) (w4 : Int32) (q1_w1 : (-2147483648 : Int) ≤ w1.toInt) (q2_w1 : w1.toInt ≤ (-1 : Int)) (q1_w2 : (0 : Int) ≤ w2.toInt) (q2_w2 : w2.toInt ≤ (17 : Int)) (q1_w3 : (0 : Int) ≤ w3.toInt) (q2_w3 : w3.toInt ≤ (99 : Int)) (q1_w4 : (0 : Int) ≤ w4.toInt) (q2_w4 : w4.toInt ≤ (99 : Int))  : Met l yX9_check (.code yX9_check cX9_check 11 (some .int) :: lw_g) { frames := 2, cells := 0, slots := 0, locals := 44 } (va_Pc [.ref (b + 405), .int 5, .int w1, .int w2, .int w3, .int w4] (zx_w g σ)) (va_Qi (fun r u => r = 0 ∧ u = (ap b σ [(405, 0, 1)] [] [])) (zx_w g) (gx_Q g)) 0 0 (gx_Q g) := by
  refine z_met (by decide) (Nat.le_of_ble_eq_true rfl) (fun p e s m below meth c B hr hin => ?_)
  refine z_eqs (σ' := (ap b σ [] [] [])) rfl ?_
  show zx p l e _ s m _ below meth c g 11 0 0 _ _ 0 [(0, .ref (b + 405)), (1, .int 5), (2, .int w1), (3, .int w2), (4, .int w3), (5, .int w4)] []
  refine z_aload_n B dX9_check_0 rfl 0 rfl ?_
  refine z_iload_n B dX9_check_1 rfl 1 rfl ?_
  refine z_iload_n B dX9_check_2 rfl 2 rfl ?_
  refine z_cSi (As := [.int 5, .int w1]) (rest := [.ref (b + 405)]) B cw_X9_238 dX9_check_3 (ci_X9_isStep_322 l (σ := (ap b σ [] [] [])) (b := b) (lyA hK) w1 q1_w1 q2_w1) rfl (by decide) rfl (Nat.le_of_ble_eq_true rfl) (by decide) (fun r u hu => ?_)
  refine z_eqs (σ' := (ap b σ [] [] [])) hu.2 ?_
  show zx p l e _ s m _ below meth c g 11 0 0 _ _ 6 [(0, .ref (b + 405)), (1, .int 5), (2, .int w1), (3, .int w2), (4, .int w3), (5, .int w4)] _
  refine z_seti (y := 0) hu.1 ?_
  refine z_iload_n B dX9_check_6 rfl 3 rfl ?_
  refine z_iload B dX9_check_7 4 rfl ?_
  refine z_iload B dX9_check_9 5 rfl ?_
  refine z_cSi (As := [.int w2, .int w3, .int w4]) (rest := [.int 0, .ref (b + 405)]) B cw_X9_242 dX9_check_11 (ci_X9_isOperation_39 l (σ := (ap b σ [] [] [])) (b := b) (lyA hK) w2 w3 w4 q1_w2 q2_w2 q1_w3 q2_w3 q1_w4 q2_w4) rfl (by decide) rfl (Nat.le_of_ble_eq_true rfl) (by decide) (fun r u hu => ?_)
  refine z_eqs (σ' := (ap b σ [] [] [])) hu.2 ?_
  show zx p l e _ s m _ below meth c g 11 0 0 _ _ 14 [(0, .ref (b + 405)), (1, .int 5), (2, .int w1), (3, .int w2), (4, .int w3), (5, .int w4)] _
  refine z_seti (y := 1) hu.1 ?_
  refine z_cVi (As := [.int 0, .int 1]) (rest := []) B cw_X9_245 cx_10 dX9_check_14 (ci_X9_needs__40 l (σ := (ap b σ [] [] [])) (b := b) (lyA hK) ) (lKA (hk_K hK 405 rfl rfl)) rfl (by decide) rfl (Nat.le_of_ble_eq_true rfl) (by decide) (fun r u hu => ?_)
  refine z_eqs (σ' := (ap b σ [(405, 0, 1)] [] [])) (hu.2.trans ap_ap) ?_
  show zx p l e _ s m _ below meth c g 11 0 0 _ _ 17 [(0, .ref (b + 405)), (1, .int 5), (2, .int w1), (3, .int w2), (4, .int w3), (5, .int w4)] _
  refine z_seti (y := 0) hu.1 ?_
  refine z_if_ne (tgt := 22) B dX9_check_17 (by decide) (fun h => absurd (by decide) h) (fun _ => ?_)
  refine z_iconst (v := 0) B dX9_check_20 (by decide) ?_
  exact z_iret B hr (by decide) (by decide) dX9_check_21 ⟨rfl, rfl⟩
set_option maxRecDepth 100000 in
set_option maxHeartbeats 4000000 in
theorem ci_X9_check_604 (l : Launch) {g : gx_T} {σ : sx_T} {b : Nat} (hK : lay b σ) (w1 : Int32) (w2 : Int32) (w3 : Int32) (w4 : Int32) (q1_w1 : (-2147483648 : Int) ≤ w1.toInt) (q2_w1 : w1.toInt ≤ (-1 : Int)) (q1_w2 : (0 : Int) ≤ w2.toInt) (q2_w2 : w2.toInt ≤ (17 : Int)) (q1_w3 : (0 : Int) ≤ w3.toInt) (q2_w3 : w3.toInt ≤ (99 : Int)) (q1_w4 : (100 : Int) ≤ w4.toInt) (q2_w4 : w4.toInt ≤ (2147483647 : Int))  : Met l yX9_check (.code yX9_check cX9_check 11 (some .int) :: lw_g) { frames := 2, cells := 0, slots := 0, locals := 44 } (va_Pc [.ref (b + 405), .int 5, .int w1, .int w2, .int w3, .int w4] (zx_w g σ)) (va_Qi (fun r u => r = 0 ∧ u = (ap b σ [(405, 0, 1)] [] [])) (zx_w g) (gx_Q g)) 0 0 (gx_Q g) := by
  refine z_met (by decide) (Nat.le_of_ble_eq_true rfl) (fun p e s m below meth c B hr hin => ?_)
  refine z_eqs (σ' := (ap b σ [] [] [])) rfl ?_
  show zx p l e _ s m _ below meth c g 11 0 0 _ _ 0 [(0, .ref (b + 405)), (1, .int 5), (2, .int w1), (3, .int w2), (4, .int w3), (5, .int w4)] []
  refine z_aload_n B dX9_check_0 rfl 0 rfl ?_
  refine z_iload_n B dX9_check_1 rfl 1 rfl ?_
  refine z_iload_n B dX9_check_2 rfl 2 rfl ?_
  refine z_cSi (As := [.int 5, .int w1]) (rest := [.ref (b + 405)]) B cw_X9_238 dX9_check_3 (ci_X9_isStep_322 l (σ := (ap b σ [] [] [])) (b := b) (lyA hK) w1 q1_w1 q2_w1) rfl (by decide) rfl (Nat.le_of_ble_eq_true rfl) (by decide) (fun r u hu => ?_)
  refine z_eqs (σ' := (ap b σ [] [] [])) hu.2 ?_
  show zx p l e _ s m _ below meth c g 11 0 0 _ _ 6 [(0, .ref (b + 405)), (1, .int 5), (2, .int w1), (3, .int w2), (4, .int w3), (5, .int w4)] _
  refine z_seti (y := 0) hu.1 ?_
  refine z_iload_n B dX9_check_6 rfl 3 rfl ?_
  refine z_iload B dX9_check_7 4 rfl ?_
  refine z_iload B dX9_check_9 5 rfl ?_
  refine z_cSi (As := [.int w2, .int w3, .int w4]) (rest := [.int 0, .ref (b + 405)]) B cw_X9_242 dX9_check_11 (ci_X9_isOperation_43 l (σ := (ap b σ [] [] [])) (b := b) (lyA hK) w2 w3 w4 q1_w2 q2_w2 q1_w3 q2_w3 q1_w4 q2_w4) rfl (by decide) rfl (Nat.le_of_ble_eq_true rfl) (by decide) (fun r u hu => ?_)
  refine z_eqs (σ' := (ap b σ [] [] [])) hu.2 ?_
  show zx p l e _ s m _ below meth c g 11 0 0 _ _ 14 [(0, .ref (b + 405)), (1, .int 5), (2, .int w1), (3, .int w2), (4, .int w3), (5, .int w4)] _
  refine z_seti (y := 0) hu.1 ?_
  refine z_cVi (As := [.int 0, .int 0]) (rest := []) B cw_X9_245 cx_10 dX9_check_14 (ci_X9_needs__29 l (σ := (ap b σ [] [] [])) (b := b) (lyA hK) ) (lKA (hk_K hK 405 rfl rfl)) rfl (by decide) rfl (Nat.le_of_ble_eq_true rfl) (by decide) (fun r u hu => ?_)
  refine z_eqs (σ' := (ap b σ [(405, 0, 1)] [] [])) (hu.2.trans ap_ap) ?_
  show zx p l e _ s m _ below meth c g 11 0 0 _ _ 17 [(0, .ref (b + 405)), (1, .int 5), (2, .int w1), (3, .int w2), (4, .int w3), (5, .int w4)] _
  refine z_seti (y := 0) hu.1 ?_
  refine z_if_ne (tgt := 22) B dX9_check_17 (by decide) (fun h => absurd (by decide) h) (fun _ => ?_)
  refine z_iconst (v := 0) B dX9_check_20 (by decide) ?_
  exact z_iret B hr (by decide) (by decide) dX9_check_21 ⟨rfl, rfl⟩
set_option maxRecDepth 100000 in
set_option maxHeartbeats 4000000 in
theorem ci_X9_check_605 (l : Launch) {g : gx_T} {σ : sx_T} {b : Nat} (hK : lay b σ) (w1 : Int32) (w2 : Int32) (w3 : Int32) (w4 : Int32) (q1_w1 : (-2147483648 : Int) ≤ w1.toInt) (q2_w1 : w1.toInt ≤ (-1 : Int)) (q1_w2 : (0 : Int) ≤ w2.toInt) (q2_w2 : w2.toInt ≤ (17 : Int)) (q1_w3 : (100 : Int) ≤ w3.toInt) (q2_w3 : w3.toInt ≤ (2147483647 : Int))  : Met l yX9_check (.code yX9_check cX9_check 11 (some .int) :: lw_g) { frames := 2, cells := 0, slots := 0, locals := 44 } (va_Pc [.ref (b + 405), .int 5, .int w1, .int w2, .int w3, .int w4] (zx_w g σ)) (va_Qi (fun r u => r = 0 ∧ u = (ap b σ [(405, 0, 1)] [] [])) (zx_w g) (gx_Q g)) 0 0 (gx_Q g) := by
  refine z_met (by decide) (Nat.le_of_ble_eq_true rfl) (fun p e s m below meth c B hr hin => ?_)
  refine z_eqs (σ' := (ap b σ [] [] [])) rfl ?_
  show zx p l e _ s m _ below meth c g 11 0 0 _ _ 0 [(0, .ref (b + 405)), (1, .int 5), (2, .int w1), (3, .int w2), (4, .int w3), (5, .int w4)] []
  refine z_aload_n B dX9_check_0 rfl 0 rfl ?_
  refine z_iload_n B dX9_check_1 rfl 1 rfl ?_
  refine z_iload_n B dX9_check_2 rfl 2 rfl ?_
  refine z_cSi (As := [.int 5, .int w1]) (rest := [.ref (b + 405)]) B cw_X9_238 dX9_check_3 (ci_X9_isStep_322 l (σ := (ap b σ [] [] [])) (b := b) (lyA hK) w1 q1_w1 q2_w1) rfl (by decide) rfl (Nat.le_of_ble_eq_true rfl) (by decide) (fun r u hu => ?_)
  refine z_eqs (σ' := (ap b σ [] [] [])) hu.2 ?_
  show zx p l e _ s m _ below meth c g 11 0 0 _ _ 6 [(0, .ref (b + 405)), (1, .int 5), (2, .int w1), (3, .int w2), (4, .int w3), (5, .int w4)] _
  refine z_seti (y := 0) hu.1 ?_
  refine z_iload_n B dX9_check_6 rfl 3 rfl ?_
  refine z_iload B dX9_check_7 4 rfl ?_
  refine z_iload B dX9_check_9 5 rfl ?_
  refine z_cSi (As := [.int w2, .int w3, .int w4]) (rest := [.int 0, .ref (b + 405)]) B cw_X9_242 dX9_check_11 (ci_X9_isOperation_45 l (σ := (ap b σ [] [] [])) (b := b) (lyA hK) w2 w3 w4 q1_w2 q2_w2 q1_w3 q2_w3) rfl (by decide) rfl (Nat.le_of_ble_eq_true rfl) (by decide) (fun r u hu => ?_)
  refine z_eqs (σ' := (ap b σ [] [] [])) hu.2 ?_
  show zx p l e _ s m _ below meth c g 11 0 0 _ _ 14 [(0, .ref (b + 405)), (1, .int 5), (2, .int w1), (3, .int w2), (4, .int w3), (5, .int w4)] _
  refine z_seti (y := 0) hu.1 ?_
  refine z_cVi (As := [.int 0, .int 0]) (rest := []) B cw_X9_245 cx_10 dX9_check_14 (ci_X9_needs__29 l (σ := (ap b σ [] [] [])) (b := b) (lyA hK) ) (lKA (hk_K hK 405 rfl rfl)) rfl (by decide) rfl (Nat.le_of_ble_eq_true rfl) (by decide) (fun r u hu => ?_)
  refine z_eqs (σ' := (ap b σ [(405, 0, 1)] [] [])) (hu.2.trans ap_ap) ?_
  show zx p l e _ s m _ below meth c g 11 0 0 _ _ 17 [(0, .ref (b + 405)), (1, .int 5), (2, .int w1), (3, .int w2), (4, .int w3), (5, .int w4)] _
  refine z_seti (y := 0) hu.1 ?_
  refine z_if_ne (tgt := 22) B dX9_check_17 (by decide) (fun h => absurd (by decide) h) (fun _ => ?_)
  refine z_iconst (v := 0) B dX9_check_20 (by decide) ?_
  exact z_iret B hr (by decide) (by decide) dX9_check_21 ⟨rfl, rfl⟩
set_option maxRecDepth 100000 in
set_option maxHeartbeats 4000000 in
theorem ci_X9_check_606 (l : Launch) {g : gx_T} {σ : sx_T} {b : Nat} (hK : lay b σ) (w1 : Int32) (w2 : Int32) (w3 : Int32) (w4 : Int32) (q1_w1 : (-2147483648 : Int) ≤ w1.toInt) (q2_w1 : w1.toInt ≤ (-1 : Int)) (q1_w2 : (18 : Int) ≤ w2.toInt) (q2_w2 : w2.toInt ≤ (2147483647 : Int))  : Met l yX9_check (.code yX9_check cX9_check 11 (some .int) :: lw_g) { frames := 2, cells := 0, slots := 0, locals := 44 } (va_Pc [.ref (b + 405), .int 5, .int w1, .int w2, .int w3, .int w4] (zx_w g σ)) (va_Qi (fun r u => r = 0 ∧ u = (ap b σ [(405, 0, 1)] [] [])) (zx_w g) (gx_Q g)) 0 0 (gx_Q g) := by
  refine z_met (by decide) (Nat.le_of_ble_eq_true rfl) (fun p e s m below meth c B hr hin => ?_)
  refine z_eqs (σ' := (ap b σ [] [] [])) rfl ?_
  show zx p l e _ s m _ below meth c g 11 0 0 _ _ 0 [(0, .ref (b + 405)), (1, .int 5), (2, .int w1), (3, .int w2), (4, .int w3), (5, .int w4)] []
  refine z_aload_n B dX9_check_0 rfl 0 rfl ?_
  refine z_iload_n B dX9_check_1 rfl 1 rfl ?_
  refine z_iload_n B dX9_check_2 rfl 2 rfl ?_
  refine z_cSi (As := [.int 5, .int w1]) (rest := [.ref (b + 405)]) B cw_X9_238 dX9_check_3 (ci_X9_isStep_322 l (σ := (ap b σ [] [] [])) (b := b) (lyA hK) w1 q1_w1 q2_w1) rfl (by decide) rfl (Nat.le_of_ble_eq_true rfl) (by decide) (fun r u hu => ?_)
  refine z_eqs (σ' := (ap b σ [] [] [])) hu.2 ?_
  show zx p l e _ s m _ below meth c g 11 0 0 _ _ 6 [(0, .ref (b + 405)), (1, .int 5), (2, .int w1), (3, .int w2), (4, .int w3), (5, .int w4)] _
  refine z_seti (y := 0) hu.1 ?_
  refine z_iload_n B dX9_check_6 rfl 3 rfl ?_
  refine z_iload B dX9_check_7 4 rfl ?_
  refine z_iload B dX9_check_9 5 rfl ?_
  refine z_cSi (As := [.int w2, .int w3, .int w4]) (rest := [.int 0, .ref (b + 405)]) B cw_X9_242 dX9_check_11 (ci_X9_isOperation_48 l (σ := (ap b σ [] [] [])) (b := b) (lyA hK) w2 w3 w4 q1_w2 q2_w2) rfl (by decide) rfl (Nat.le_of_ble_eq_true rfl) (by decide) (fun r u hu => ?_)
  refine z_eqs (σ' := (ap b σ [] [] [])) hu.2 ?_
  show zx p l e _ s m _ below meth c g 11 0 0 _ _ 14 [(0, .ref (b + 405)), (1, .int 5), (2, .int w1), (3, .int w2), (4, .int w3), (5, .int w4)] _
  refine z_seti (y := 0) hu.1 ?_
  refine z_cVi (As := [.int 0, .int 0]) (rest := []) B cw_X9_245 cx_10 dX9_check_14 (ci_X9_needs__29 l (σ := (ap b σ [] [] [])) (b := b) (lyA hK) ) (lKA (hk_K hK 405 rfl rfl)) rfl (by decide) rfl (Nat.le_of_ble_eq_true rfl) (by decide) (fun r u hu => ?_)
  refine z_eqs (σ' := (ap b σ [(405, 0, 1)] [] [])) (hu.2.trans ap_ap) ?_
  show zx p l e _ s m _ below meth c g 11 0 0 _ _ 17 [(0, .ref (b + 405)), (1, .int 5), (2, .int w1), (3, .int w2), (4, .int w3), (5, .int w4)] _
  refine z_seti (y := 0) hu.1 ?_
  refine z_if_ne (tgt := 22) B dX9_check_17 (by decide) (fun h => absurd (by decide) h) (fun _ => ?_)
  refine z_iconst (v := 0) B dX9_check_20 (by decide) ?_
  exact z_iret B hr (by decide) (by decide) dX9_check_21 ⟨rfl, rfl⟩
set_option maxRecDepth 100000 in
set_option maxHeartbeats 4000000 in
theorem ci_X8_check_607 (l : Launch) (hlt : l.stackTraces = false) {g : gx_T} {σ : sx_T} {b : Nat} (hK : lay b σ) (w1 : Int32) (w2 : Int32) (w3 : Int32) (w4 : Int32) (q1_w1 : (0 : Int) ≤ w1.toInt) (q2_w1 : w1.toInt ≤ (19 : Int)) (q1_w2 : (-2147483648 : Int) ≤ w2.toInt) (q2_w2 : w2.toInt ≤ (-1 : Int)) (hR_0_0 : sx_R σ (b + 0) 0 = (some (b + 1))) (hR_1_5 : sx_R σ (b + 1) 5 = (some (b + 29))) : vx_Met l yX8_check (.code yX8_check cX8_check 13 (some .int) :: lw_g) { frames := 7, cells := 1, slots := 6, locals := 136 } (va_Pc [.ref (b + 0), .int 5, .int w1, .int w2, .int w3, .int w4] (zx_w g σ)) (va_Qi (S := sx_T) (fun _ _ => False) (zx_w g) (gx_Q g)) (vx_X (fun u : sx_T => ∃ z, u = wx_Z σ z) (fun E u t => E = "java/lang/IllegalArgumentException" ∧ zx_h g u t.heap) (gx_Q g)) 1 6 (gx_Q g) := by
  refine z_metX (by decide) (Nat.le_of_ble_eq_true rfl) (fun p e s m below meth c B hr hin hout => ?_)
  refine z_eqs (σ' := (ap b σ [] [] [])) rfl ?_
  show zx p l e _ s m _ below meth c g 13 0 0 _ _ 0 [(0, .ref (b + 0)), (1, .int 5), (2, .int w1), (3, .int w2), (4, .int w3), (5, .int w4)] []
  refine z_aload_n B dX8_check_0 rfl 0 rfl ?_
  refine z_iload_n B dX8_check_1 rfl 1 rfl ?_
  refine z_cVq (As := [.int 5]) (rest := []) B cw_X8_64 cx_9 dX8_check_2 (ci_X8_programAt_318 l (σ := (ap b σ [] [] [])) (b := b) (lyA hK) (rR_at 0 0 hR_0_0) (rR_at 1 5 hR_1_5)) (lKA (hk_K hK 0 rfl rfl)) rfl (by decide) rfl (Nat.le_of_ble_eq_true rfl) (by decide) (fun r u hu => ?_)
  refine z_eqs (σ' := (ap b σ [] [] [])) hu.2 ?_
  show zx p l e _ s m _ below meth c g 13 0 0 _ _ 5 [(0, .ref (b + 0)), (1, .int 5), (2, .int w1), (3, .int w2), (4, .int w3), (5, .int w4)] _
  refine z_setr (y := (some (b + 29))) hu.1 ?_
  refine z_astore (lv' := [(6, .ref (b + 29)), (0, .ref (b + 0)), (1, .int 5), (2, .int w1), (3, .int w2), (4, .int w3), (5, .int w4)]) B dX8_check_5 (by decide) rfl ?_
  refine z_aload B dX8_check_7 0 rfl ?_
  refine z_ifnull (r := (some (b + 29))) (tgt := 21) B dX8_check_9 (by decide) (fun h => nomatch h) (fun _ _ => ?_)
  refine z_iload_n B dX8_check_12 rfl 3 rfl ?_
  refine z_bipush (v := 20) B dX8_check_13 (by decide) ?_
  refine z_cSi (As := [.int w1, .int 20]) (rest := []) B cw_X8_68 dX8_check_15 (ci_X8_isBelow_64 l (σ := (ap b σ [] [] [])) (b := b) (lyA hK) w1 q1_w1 q2_w1) rfl (by decide) rfl (Nat.le_of_ble_eq_true rfl) (by decide) (fun r u hu => ?_)
  refine z_eqs (σ' := (ap b σ [] [] [])) hu.2 ?_
  show zx p l e _ s m _ below meth c g 13 0 0 _ _ 18 [(6, .ref (b + 29)), (0, .ref (b + 0)), (1, .int 5), (2, .int w1), (3, .int w2), (4, .int w3), (5, .int w4)] _
  refine z_seti (y := 1) hu.1 ?_
  refine z_if_ne (tgt := 31) B dX8_check_18 (by decide) (fun _ => ?_) (fun h => absurd h (by decide))
  refine z_iload_n B dX8_check_31 rfl 4 rfl ?_
  refine z_iload B dX8_check_32 5 rfl ?_
  refine z_iload B dX8_check_34 6 rfl ?_
  refine z_cSi (As := [.int w2, .int w3, .int w4]) (rest := []) B cw_X8_79 dX8_check_36 (ci_X8_isStep_66 l (σ := (ap b σ [] [] [])) (b := b) (lyA hK) w2 w3 w4 q1_w2 q2_w2) rfl (by decide) rfl (Nat.le_of_ble_eq_true rfl) (by decide) (fun r u hu => ?_)
  refine z_eqs (σ' := (ap b σ [] [] [])) hu.2 ?_
  show zx p l e _ s m _ below meth c g 13 0 0 _ _ 39 [(6, .ref (b + 29)), (0, .ref (b + 0)), (1, .int 5), (2, .int w1), (3, .int w2), (4, .int w3), (5, .int w4)] _
  refine z_seti (y := 0) hu.1 ?_
  refine z_if_ne (tgt := 52) B dX8_check_39 (by decide) (fun h => absurd (by decide) h) (fun _ => ?_)
  exact z_throw B hlt hout (cls := "java/lang/IllegalArgumentException") (text := "no such operation") tw_X8_83_85_87 dX8_check_42 dX8_check_45 dX8_check_46 dX8_check_48 dX8_check_51 (by decide) (by decide) (by decide) (by decide) (by decide) (by decide) (fun z => ⟨z, rfl⟩)
set_option maxRecDepth 100000 in
set_option maxHeartbeats 4000000 in
theorem ci_L_check_608 (l : Launch) (hlt : l.stackTraces = false) {g : gx_T} {σ : sx_T} {b : Nat} (hK : lay b σ) (w1 : Int32) (w2 : Int32) (w3 : Int32) (w4 : Int32) (q1_w1 : (0 : Int) ≤ w1.toInt) (q2_w1 : w1.toInt ≤ (19 : Int)) (q1_w2 : (-2147483648 : Int) ≤ w2.toInt) (q2_w2 : w2.toInt ≤ (-1 : Int)) (hR_0_0 : sx_R σ (b + 0) 0 = (some (b + 1))) (hR_1_5 : sx_R σ (b + 1) 5 = (some (b + 29))) : Met l yL_check (.codeWith yL_check cL_check 8 (some .int) [(0, 16, 19, 13), (0, 16, 23, 15)] :: lw_g) { frames := 8, cells := 1, slots := 6, locals := 168 } (va_Pc [.ref (b + 0), .int 5, .int w1, .int w2, .int w3, .int w4, .ref (b + 431)] (zx_w g σ)) (va_Qi (fun r u => r = 2 ∧ ∃ z, u = (ap b (wx_Z σ z) [] [] [])) (zx_w g) (gx_Q g)) 1 6 (gx_Q g) := by
  refine z_metW (by decide) (Nat.le_of_ble_eq_true rfl) (fun p e s m below meth c B hr htab => ?_)
  refine z_eqs (σ' := (ap b σ [] [] [])) rfl ?_
  show zx p l e _ s m _ below meth c g 8 0 0 _ _ 0 [(0, .ref (b + 0)), (1, .int 5), (2, .int w1), (3, .int w2), (4, .int w3), (5, .int w4), (6, .ref (b + 431))] []
  refine z_aload B dL_check_0 6 rfl ?_
  refine z_iconst (v := 0) B dL_check_2 (by decide) ?_
  refine z_aload_n B dL_check_3 rfl 0 rfl ?_
  refine z_iload_n B dL_check_4 rfl 1 rfl ?_
  refine z_iload_n B dL_check_5 rfl 2 rfl ?_
  refine z_iload_n B dL_check_6 rfl 3 rfl ?_
  refine z_iload B dL_check_7 4 rfl ?_
  refine z_iload B dL_check_9 5 rfl ?_
  refine z_cXi (As := [.int 5, .int w1, .int w2, .int w3, .int w4]) (rest := [.int 0, .ref (b + 431)]) B htab tc_check_11_IllegalArgumentException cw_L_17 cx_9 dL_check_11 (ci_X8_check_607 l hlt (σ := (ap b σ [] [] [])) (b := b) (lyA hK) w1 w2 w3 w4 q1_w1 q2_w1 q1_w2 q2_w2 (rR_at 0 0 hR_0_0) (rR_at 1 5 hR_1_5)) (lKA (hk_K hK 0 rfl rfl)) rfl (by decide) rfl (Nat.le_of_ble_eq_true rfl) (by decide) (fun z q => ?_)
  refine z_eqs (σ' := (ap b (wx_Z σ z) [] [] [])) rfl ?_
  show zx p l e _ s m _ below meth c g 8 _ _ _ _ 23 [(0, .ref (b + 0)), (1, .int 5), (2, .int w1), (3, .int w2), (4, .int w3), (5, .int w4), (6, .ref (b + 431))] _
  refine z_astore (lv' := [(7, .ref q), (0, .ref (b + 0)), (1, .int 5), (2, .int w1), (3, .int w2), (4, .int w3), (5, .int w4), (6, .ref (b + 431))]) B dL_check_23 (by decide) rfl ?_
  refine z_iconst (v := 2) B dL_check_25 (by decide) ?_
  exact z_iret B hr (by decide) (by decide) dL_check_26 ⟨rfl, _, rfl⟩
set_option maxRecDepth 100000 in
set_option maxHeartbeats 4000000 in
theorem ci_X9_check_609 (l : Launch) {g : gx_T} {σ : sx_T} {b : Nat} (hK : lay b σ) (w1 : Int32) (w2 : Int32) (w3 : Int32) (w4 : Int32) (q1_w1 : (0 : Int) ≤ w1.toInt) (q2_w1 : w1.toInt ≤ (19 : Int)) (q1_w2 : (-2147483648 : Int) ≤ w2.toInt) (q2_w2 : w2.toInt ≤ (-1 : Int))  : Met l yX9_check (.code yX9_check cX9_check 11 (some .int) :: lw_g) { frames := 2, cells := 0, slots := 0, locals := 44 } (va_Pc [.ref (b + 405), .int 5, .int w1, .int w2, .int w3, .int w4] (zx_w g σ)) (va_Qi (fun r u => r = 0 ∧ u = (ap b σ [(405, 0, 2)] [] [])) (zx_w g) (gx_Q g)) 0 0 (gx_Q g) := by
  refine z_met (by decide) (Nat.le_of_ble_eq_true rfl) (fun p e s m below meth c B hr hin => ?_)
  refine z_eqs (σ' := (ap b σ [] [] [])) rfl ?_
  show zx p l e _ s m _ below meth c g 11 0 0 _ _ 0 [(0, .ref (b + 405)), (1, .int 5), (2, .int w1), (3, .int w2), (4, .int w3), (5, .int w4)] []
  refine z_aload_n B dX9_check_0 rfl 0 rfl ?_
  refine z_iload_n B dX9_check_1 rfl 1 rfl ?_
  refine z_iload_n B dX9_check_2 rfl 2 rfl ?_
  refine z_cSi (As := [.int 5, .int w1]) (rest := [.ref (b + 405)]) B cw_X9_238 dX9_check_3 (ci_X9_isStep_332 l (σ := (ap b σ [] [] [])) (b := b) (lyA hK) w1 q1_w1 q2_w1) rfl (by decide) rfl (Nat.le_of_ble_eq_true rfl) (by decide) (fun r u hu => ?_)
  refine z_eqs (σ' := (ap b σ [] [] [])) hu.2 ?_
  show zx p l e _ s m _ below meth c g 11 0 0 _ _ 6 [(0, .ref (b + 405)), (1, .int 5), (2, .int w1), (3, .int w2), (4, .int w3), (5, .int w4)] _
  refine z_seti (y := 1) hu.1 ?_
  refine z_iload_n B dX9_check_6 rfl 3 rfl ?_
  refine z_iload B dX9_check_7 4 rfl ?_
  refine z_iload B dX9_check_9 5 rfl ?_
  refine z_cSi (As := [.int w2, .int w3, .int w4]) (rest := [.int 1, .ref (b + 405)]) B cw_X9_242 dX9_check_11 (ci_X9_isOperation_28 l (σ := (ap b σ [] [] [])) (b := b) (lyA hK) w2 w3 w4 q1_w2 q2_w2) rfl (by decide) rfl (Nat.le_of_ble_eq_true rfl) (by decide) (fun r u hu => ?_)
  refine z_eqs (σ' := (ap b σ [] [] [])) hu.2 ?_
  show zx p l e _ s m _ below meth c g 11 0 0 _ _ 14 [(0, .ref (b + 405)), (1, .int 5), (2, .int w1), (3, .int w2), (4, .int w3), (5, .int w4)] _
  refine z_seti (y := 0) hu.1 ?_
  refine z_cVi (As := [.int 1, .int 0]) (rest := []) B cw_X9_245 cx_10 dX9_check_14 (ci_X9_needs__71 l (σ := (ap b σ [] [] [])) (b := b) (lyA hK) ) (lKA (hk_K hK 405 rfl rfl)) rfl (by decide) rfl (Nat.le_of_ble_eq_true rfl) (by decide) (fun r u hu => ?_)
  refine z_eqs (σ' := (ap b σ [(405, 0, 2)] [] [])) (hu.2.trans ap_ap) ?_
  show zx p l e _ s m _ below meth c g 11 0 0 _ _ 17 [(0, .ref (b + 405)), (1, .int 5), (2, .int w1), (3, .int w2), (4, .int w3), (5, .int w4)] _
  refine z_seti (y := 0) hu.1 ?_
  refine z_if_ne (tgt := 22) B dX9_check_17 (by decide) (fun h => absurd (by decide) h) (fun _ => ?_)
  refine z_iconst (v := 0) B dX9_check_20 (by decide) ?_
  exact z_iret B hr (by decide) (by decide) dX9_check_21 ⟨rfl, rfl⟩
set_option maxRecDepth 100000 in
set_option maxHeartbeats 4000000 in
theorem ci_X8_check_610 (l : Launch) (hlt : l.stackTraces = false) {g : gx_T} {σ : sx_T} {b : Nat} (hK : lay b σ) (w1 : Int32) (w2 : Int32) (w3 : Int32) (w4 : Int32) (q1_w1 : (0 : Int) ≤ w1.toInt) (q2_w1 : w1.toInt ≤ (19 : Int)) (q1_w2 : (0 : Int) ≤ w2.toInt) (q2_w2 : w2.toInt ≤ (17 : Int)) (q1_w3 : (-2147483648 : Int) ≤ w3.toInt) (q2_w3 : w3.toInt ≤ (-1 : Int)) (hR_0_0 : sx_R σ (b + 0) 0 = (some (b + 1))) (hR_1_5 : sx_R σ (b + 1) 5 = (some (b + 29))) : vx_Met l yX8_check (.code yX8_check cX8_check 13 (some .int) :: lw_g) { frames := 7, cells := 1, slots := 6, locals := 136 } (va_Pc [.ref (b + 0), .int 5, .int w1, .int w2, .int w3, .int w4] (zx_w g σ)) (va_Qi (S := sx_T) (fun _ _ => False) (zx_w g) (gx_Q g)) (vx_X (fun u : sx_T => ∃ z, u = wx_Z σ z) (fun E u t => E = "java/lang/IllegalArgumentException" ∧ zx_h g u t.heap) (gx_Q g)) 1 6 (gx_Q g) := by
  refine z_metX (by decide) (Nat.le_of_ble_eq_true rfl) (fun p e s m below meth c B hr hin hout => ?_)
  refine z_eqs (σ' := (ap b σ [] [] [])) rfl ?_
  show zx p l e _ s m _ below meth c g 13 0 0 _ _ 0 [(0, .ref (b + 0)), (1, .int 5), (2, .int w1), (3, .int w2), (4, .int w3), (5, .int w4)] []
  refine z_aload_n B dX8_check_0 rfl 0 rfl ?_
  refine z_iload_n B dX8_check_1 rfl 1 rfl ?_
  refine z_cVq (As := [.int 5]) (rest := []) B cw_X8_64 cx_9 dX8_check_2 (ci_X8_programAt_318 l (σ := (ap b σ [] [] [])) (b := b) (lyA hK) (rR_at 0 0 hR_0_0) (rR_at 1 5 hR_1_5)) (lKA (hk_K hK 0 rfl rfl)) rfl (by decide) rfl (Nat.le_of_ble_eq_true rfl) (by decide) (fun r u hu => ?_)
  refine z_eqs (σ' := (ap b σ [] [] [])) hu.2 ?_
  show zx p l e _ s m _ below meth c g 13 0 0 _ _ 5 [(0, .ref (b + 0)), (1, .int 5), (2, .int w1), (3, .int w2), (4, .int w3), (5, .int w4)] _
  refine z_setr (y := (some (b + 29))) hu.1 ?_
  refine z_astore (lv' := [(6, .ref (b + 29)), (0, .ref (b + 0)), (1, .int 5), (2, .int w1), (3, .int w2), (4, .int w3), (5, .int w4)]) B dX8_check_5 (by decide) rfl ?_
  refine z_aload B dX8_check_7 0 rfl ?_
  refine z_ifnull (r := (some (b + 29))) (tgt := 21) B dX8_check_9 (by decide) (fun h => nomatch h) (fun _ _ => ?_)
  refine z_iload_n B dX8_check_12 rfl 3 rfl ?_
  refine z_bipush (v := 20) B dX8_check_13 (by decide) ?_
  refine z_cSi (As := [.int w1, .int 20]) (rest := []) B cw_X8_68 dX8_check_15 (ci_X8_isBelow_64 l (σ := (ap b σ [] [] [])) (b := b) (lyA hK) w1 q1_w1 q2_w1) rfl (by decide) rfl (Nat.le_of_ble_eq_true rfl) (by decide) (fun r u hu => ?_)
  refine z_eqs (σ' := (ap b σ [] [] [])) hu.2 ?_
  show zx p l e _ s m _ below meth c g 13 0 0 _ _ 18 [(6, .ref (b + 29)), (0, .ref (b + 0)), (1, .int 5), (2, .int w1), (3, .int w2), (4, .int w3), (5, .int w4)] _
  refine z_seti (y := 1) hu.1 ?_
  refine z_if_ne (tgt := 31) B dX8_check_18 (by decide) (fun _ => ?_) (fun h => absurd h (by decide))
  refine z_iload_n B dX8_check_31 rfl 4 rfl ?_
  refine z_iload B dX8_check_32 5 rfl ?_
  refine z_iload B dX8_check_34 6 rfl ?_
  refine z_cSi (As := [.int w2, .int w3, .int w4]) (rest := []) B cw_X8_79 dX8_check_36 (ci_X8_isStep_76 l (σ := (ap b σ [] [] [])) (b := b) (lyA hK) w2 w3 w4 q1_w2 q2_w2 q1_w3 q2_w3) rfl (by decide) rfl (Nat.le_of_ble_eq_true rfl) (by decide) (fun r u hu => ?_)
  refine z_eqs (σ' := (ap b σ [] [] [])) hu.2 ?_
  show zx p l e _ s m _ below meth c g 13 0 0 _ _ 39 [(6, .ref (b + 29)), (0, .ref (b + 0)), (1, .int 5), (2, .int w1), (3, .int w2), (4, .int w3), (5, .int w4)] _
  refine z_seti (y := 0) hu.1 ?_
  refine z_if_ne (tgt := 52) B dX8_check_39 (by decide) (fun h => absurd (by decide) h) (fun _ => ?_)
  exact z_throw B hlt hout (cls := "java/lang/IllegalArgumentException") (text := "no such operation") tw_X8_83_85_87 dX8_check_42 dX8_check_45 dX8_check_46 dX8_check_48 dX8_check_51 (by decide) (by decide) (by decide) (by decide) (by decide) (by decide) (fun z => ⟨z, rfl⟩)
set_option maxRecDepth 100000 in
set_option maxHeartbeats 4000000 in
theorem ci_L_check_611 (l : Launch) (hlt : l.stackTraces = false) {g : gx_T} {σ : sx_T} {b : Nat} (hK : lay b σ) (w1 : Int32) (w2 : Int32) (w3 : Int32) (w4 : Int32) (q1_w1 : (0 : Int) ≤ w1.toInt) (q2_w1 : w1.toInt ≤ (19 : Int)) (q1_w2 : (0 : Int) ≤ w2.toInt) (q2_w2 : w2.toInt ≤ (17 : Int)) (q1_w3 : (-2147483648 : Int) ≤ w3.toInt) (q2_w3 : w3.toInt ≤ (-1 : Int)) (hR_0_0 : sx_R σ (b + 0) 0 = (some (b + 1))) (hR_1_5 : sx_R σ (b + 1) 5 = (some (b + 29))) : Met l yL_check (.codeWith yL_check cL_check 8 (some .int) [(0, 16, 19, 13), (0, 16, 23, 15)] :: lw_g) { frames := 8, cells := 1, slots := 6, locals := 168 } (va_Pc [.ref (b + 0), .int 5, .int w1, .int w2, .int w3, .int w4, .ref (b + 431)] (zx_w g σ)) (va_Qi (fun r u => r = 2 ∧ ∃ z, u = (ap b (wx_Z σ z) [] [] [])) (zx_w g) (gx_Q g)) 1 6 (gx_Q g) := by
  refine z_metW (by decide) (Nat.le_of_ble_eq_true rfl) (fun p e s m below meth c B hr htab => ?_)
  refine z_eqs (σ' := (ap b σ [] [] [])) rfl ?_
  show zx p l e _ s m _ below meth c g 8 0 0 _ _ 0 [(0, .ref (b + 0)), (1, .int 5), (2, .int w1), (3, .int w2), (4, .int w3), (5, .int w4), (6, .ref (b + 431))] []
  refine z_aload B dL_check_0 6 rfl ?_
  refine z_iconst (v := 0) B dL_check_2 (by decide) ?_
  refine z_aload_n B dL_check_3 rfl 0 rfl ?_
  refine z_iload_n B dL_check_4 rfl 1 rfl ?_
  refine z_iload_n B dL_check_5 rfl 2 rfl ?_
  refine z_iload_n B dL_check_6 rfl 3 rfl ?_
  refine z_iload B dL_check_7 4 rfl ?_
  refine z_iload B dL_check_9 5 rfl ?_
  refine z_cXi (As := [.int 5, .int w1, .int w2, .int w3, .int w4]) (rest := [.int 0, .ref (b + 431)]) B htab tc_check_11_IllegalArgumentException cw_L_17 cx_9 dL_check_11 (ci_X8_check_610 l hlt (σ := (ap b σ [] [] [])) (b := b) (lyA hK) w1 w2 w3 w4 q1_w1 q2_w1 q1_w2 q2_w2 q1_w3 q2_w3 (rR_at 0 0 hR_0_0) (rR_at 1 5 hR_1_5)) (lKA (hk_K hK 0 rfl rfl)) rfl (by decide) rfl (Nat.le_of_ble_eq_true rfl) (by decide) (fun z q => ?_)
  refine z_eqs (σ' := (ap b (wx_Z σ z) [] [] [])) rfl ?_
  show zx p l e _ s m _ below meth c g 8 _ _ _ _ 23 [(0, .ref (b + 0)), (1, .int 5), (2, .int w1), (3, .int w2), (4, .int w3), (5, .int w4), (6, .ref (b + 431))] _
  refine z_astore (lv' := [(7, .ref q), (0, .ref (b + 0)), (1, .int 5), (2, .int w1), (3, .int w2), (4, .int w3), (5, .int w4), (6, .ref (b + 431))]) B dL_check_23 (by decide) rfl ?_
  refine z_iconst (v := 2) B dL_check_25 (by decide) ?_
  exact z_iret B hr (by decide) (by decide) dL_check_26 ⟨rfl, _, rfl⟩
set_option maxRecDepth 100000 in
set_option maxHeartbeats 4000000 in
theorem ci_X9_check_612 (l : Launch) {g : gx_T} {σ : sx_T} {b : Nat} (hK : lay b σ) (w1 : Int32) (w2 : Int32) (w3 : Int32) (w4 : Int32) (q1_w1 : (0 : Int) ≤ w1.toInt) (q2_w1 : w1.toInt ≤ (19 : Int)) (q1_w2 : (0 : Int) ≤ w2.toInt) (q2_w2 : w2.toInt ≤ (17 : Int)) (q1_w3 : (-2147483648 : Int) ≤ w3.toInt) (q2_w3 : w3.toInt ≤ (-1 : Int))  : Met l yX9_check (.code yX9_check cX9_check 11 (some .int) :: lw_g) { frames := 2, cells := 0, slots := 0, locals := 44 } (va_Pc [.ref (b + 405), .int 5, .int w1, .int w2, .int w3, .int w4] (zx_w g σ)) (va_Qi (fun r u => r = 0 ∧ u = (ap b σ [(405, 0, 2)] [] [])) (zx_w g) (gx_Q g)) 0 0 (gx_Q g) := by
  refine z_met (by decide) (Nat.le_of_ble_eq_true rfl) (fun p e s m below meth c B hr hin => ?_)
  refine z_eqs (σ' := (ap b σ [] [] [])) rfl ?_
  show zx p l e _ s m _ below meth c g 11 0 0 _ _ 0 [(0, .ref (b + 405)), (1, .int 5), (2, .int w1), (3, .int w2), (4, .int w3), (5, .int w4)] []
  refine z_aload_n B dX9_check_0 rfl 0 rfl ?_
  refine z_iload_n B dX9_check_1 rfl 1 rfl ?_
  refine z_iload_n B dX9_check_2 rfl 2 rfl ?_
  refine z_cSi (As := [.int 5, .int w1]) (rest := [.ref (b + 405)]) B cw_X9_238 dX9_check_3 (ci_X9_isStep_332 l (σ := (ap b σ [] [] [])) (b := b) (lyA hK) w1 q1_w1 q2_w1) rfl (by decide) rfl (Nat.le_of_ble_eq_true rfl) (by decide) (fun r u hu => ?_)
  refine z_eqs (σ' := (ap b σ [] [] [])) hu.2 ?_
  show zx p l e _ s m _ below meth c g 11 0 0 _ _ 6 [(0, .ref (b + 405)), (1, .int 5), (2, .int w1), (3, .int w2), (4, .int w3), (5, .int w4)] _
  refine z_seti (y := 1) hu.1 ?_
  refine z_iload_n B dX9_check_6 rfl 3 rfl ?_
  refine z_iload B dX9_check_7 4 rfl ?_
  refine z_iload B dX9_check_9 5 rfl ?_
  refine z_cSi (As := [.int w2, .int w3, .int w4]) (rest := [.int 1, .ref (b + 405)]) B cw_X9_242 dX9_check_11 (ci_X9_isOperation_34 l (σ := (ap b σ [] [] [])) (b := b) (lyA hK) w2 w3 w4 q1_w2 q2_w2 q1_w3 q2_w3) rfl (by decide) rfl (Nat.le_of_ble_eq_true rfl) (by decide) (fun r u hu => ?_)
  refine z_eqs (σ' := (ap b σ [] [] [])) hu.2 ?_
  show zx p l e _ s m _ below meth c g 11 0 0 _ _ 14 [(0, .ref (b + 405)), (1, .int 5), (2, .int w1), (3, .int w2), (4, .int w3), (5, .int w4)] _
  refine z_seti (y := 0) hu.1 ?_
  refine z_cVi (As := [.int 1, .int 0]) (rest := []) B cw_X9_245 cx_10 dX9_check_14 (ci_X9_needs__71 l (σ := (ap b σ [] [] [])) (b := b) (lyA hK) ) (lKA (hk_K hK 405 rfl rfl)) rfl (by decide) rfl (Nat.le_of_ble_eq_true rfl) (by decide) (fun r u hu => ?_)
  refine z_eqs (σ' := (ap b σ [(405, 0, 2)] [] [])) (hu.2.trans ap_ap) ?_
  show zx p l e _ s m _ below meth c g 11 0 0 _ _ 17 [(0, .ref (b + 405)), (1, .int 5), (2, .int w1), (3, .int w2), (4, .int w3), (5, .int w4)] _
  refine z_seti (y := 0) hu.1 ?_
  refine z_if_ne (tgt := 22) B dX9_check_17 (by decide) (fun h => absurd (by decide) h) (fun _ => ?_)
  refine z_iconst (v := 0) B dX9_check_20 (by decide) ?_
  exact z_iret B hr (by decide) (by decide) dX9_check_21 ⟨rfl, rfl⟩
set_option maxRecDepth 100000 in
set_option maxHeartbeats 4000000 in
theorem ci_X8_check_613 (l : Launch) (hlt : l.stackTraces = false) {g : gx_T} {σ : sx_T} {b : Nat} (hK : lay b σ) (w1 : Int32) (w2 : Int32) (w3 : Int32) (w4 : Int32) (q1_w1 : (0 : Int) ≤ w1.toInt) (q2_w1 : w1.toInt ≤ (19 : Int)) (q1_w2 : (0 : Int) ≤ w2.toInt) (q2_w2 : w2.toInt ≤ (17 : Int)) (q1_w3 : (0 : Int) ≤ w3.toInt) (q2_w3 : w3.toInt ≤ (99 : Int)) (q1_w4 : (-2147483648 : Int) ≤ w4.toInt) (q2_w4 : w4.toInt ≤ (-1 : Int)) (hR_0_0 : sx_R σ (b + 0) 0 = (some (b + 1))) (hR_1_5 : sx_R σ (b + 1) 5 = (some (b + 29))) : vx_Met l yX8_check (.code yX8_check cX8_check 13 (some .int) :: lw_g) { frames := 7, cells := 1, slots := 6, locals := 136 } (va_Pc [.ref (b + 0), .int 5, .int w1, .int w2, .int w3, .int w4] (zx_w g σ)) (va_Qi (S := sx_T) (fun _ _ => False) (zx_w g) (gx_Q g)) (vx_X (fun u : sx_T => ∃ z, u = wx_Z σ z) (fun E u t => E = "java/lang/IllegalArgumentException" ∧ zx_h g u t.heap) (gx_Q g)) 1 6 (gx_Q g) := by
  refine z_metX (by decide) (Nat.le_of_ble_eq_true rfl) (fun p e s m below meth c B hr hin hout => ?_)
  refine z_eqs (σ' := (ap b σ [] [] [])) rfl ?_
  show zx p l e _ s m _ below meth c g 13 0 0 _ _ 0 [(0, .ref (b + 0)), (1, .int 5), (2, .int w1), (3, .int w2), (4, .int w3), (5, .int w4)] []
  refine z_aload_n B dX8_check_0 rfl 0 rfl ?_
  refine z_iload_n B dX8_check_1 rfl 1 rfl ?_
  refine z_cVq (As := [.int 5]) (rest := []) B cw_X8_64 cx_9 dX8_check_2 (ci_X8_programAt_318 l (σ := (ap b σ [] [] [])) (b := b) (lyA hK) (rR_at 0 0 hR_0_0) (rR_at 1 5 hR_1_5)) (lKA (hk_K hK 0 rfl rfl)) rfl (by decide) rfl (Nat.le_of_ble_eq_true rfl) (by decide) (fun r u hu => ?_)
  refine z_eqs (σ' := (ap b σ [] [] [])) hu.2 ?_
  show zx p l e _ s m _ below meth c g 13 0 0 _ _ 5 [(0, .ref (b + 0)), (1, .int 5), (2, .int w1), (3, .int w2), (4, .int w3), (5, .int w4)] _
  refine z_setr (y := (some (b + 29))) hu.1 ?_
  refine z_astore (lv' := [(6, .ref (b + 29)), (0, .ref (b + 0)), (1, .int 5), (2, .int w1), (3, .int w2), (4, .int w3), (5, .int w4)]) B dX8_check_5 (by decide) rfl ?_
  refine z_aload B dX8_check_7 0 rfl ?_
  refine z_ifnull (r := (some (b + 29))) (tgt := 21) B dX8_check_9 (by decide) (fun h => nomatch h) (fun _ _ => ?_)
  refine z_iload_n B dX8_check_12 rfl 3 rfl ?_
  refine z_bipush (v := 20) B dX8_check_13 (by decide) ?_
  refine z_cSi (As := [.int w1, .int 20]) (rest := []) B cw_X8_68 dX8_check_15 (ci_X8_isBelow_64 l (σ := (ap b σ [] [] [])) (b := b) (lyA hK) w1 q1_w1 q2_w1) rfl (by decide) rfl (Nat.le_of_ble_eq_true rfl) (by decide) (fun r u hu => ?_)
  refine z_eqs (σ' := (ap b σ [] [] [])) hu.2 ?_
  show zx p l e _ s m _ below meth c g 13 0 0 _ _ 18 [(6, .ref (b + 29)), (0, .ref (b + 0)), (1, .int 5), (2, .int w1), (3, .int w2), (4, .int w3), (5, .int w4)] _
  refine z_seti (y := 1) hu.1 ?_
  refine z_if_ne (tgt := 31) B dX8_check_18 (by decide) (fun _ => ?_) (fun h => absurd h (by decide))
  refine z_iload_n B dX8_check_31 rfl 4 rfl ?_
  refine z_iload B dX8_check_32 5 rfl ?_
  refine z_iload B dX8_check_34 6 rfl ?_
  refine z_cSi (As := [.int w2, .int w3, .int w4]) (rest := []) B cw_X8_79 dX8_check_36 (ci_X8_isStep_81 l (σ := (ap b σ [] [] [])) (b := b) (lyA hK) w2 w3 w4 q1_w2 q2_w2 q1_w3 q2_w3 q1_w4 q2_w4) rfl (by decide) rfl (Nat.le_of_ble_eq_true rfl) (by decide) (fun r u hu => ?_)
  refine z_eqs (σ' := (ap b σ [] [] [])) hu.2 ?_
  show zx p l e _ s m _ below meth c g 13 0 0 _ _ 39 [(6, .ref (b + 29)), (0, .ref (b + 0)), (1, .int 5), (2, .int w1), (3, .int w2), (4, .int w3), (5, .int w4)] _
  refine z_seti (y := 0) hu.1 ?_
  refine z_if_ne (tgt := 52) B dX8_check_39 (by decide) (fun h => absurd (by decide) h) (fun _ => ?_)
  exact z_throw B hlt hout (cls := "java/lang/IllegalArgumentException") (text := "no such operation") tw_X8_83_85_87 dX8_check_42 dX8_check_45 dX8_check_46 dX8_check_48 dX8_check_51 (by decide) (by decide) (by decide) (by decide) (by decide) (by decide) (fun z => ⟨z, rfl⟩)
set_option maxRecDepth 100000 in
set_option maxHeartbeats 4000000 in
theorem ci_L_check_614 (l : Launch) (hlt : l.stackTraces = false) {g : gx_T} {σ : sx_T} {b : Nat} (hK : lay b σ) (w1 : Int32) (w2 : Int32) (w3 : Int32) (w4 : Int32) (q1_w1 : (0 : Int) ≤ w1.toInt) (q2_w1 : w1.toInt ≤ (19 : Int)) (q1_w2 : (0 : Int) ≤ w2.toInt) (q2_w2 : w2.toInt ≤ (17 : Int)) (q1_w3 : (0 : Int) ≤ w3.toInt) (q2_w3 : w3.toInt ≤ (99 : Int)) (q1_w4 : (-2147483648 : Int) ≤ w4.toInt) (q2_w4 : w4.toInt ≤ (-1 : Int)) (hR_0_0 : sx_R σ (b + 0) 0 = (some (b + 1))) (hR_1_5 : sx_R σ (b + 1) 5 = (some (b + 29))) : Met l yL_check (.codeWith yL_check cL_check 8 (some .int) [(0, 16, 19, 13), (0, 16, 23, 15)] :: lw_g) { frames := 8, cells := 1, slots := 6, locals := 168 } (va_Pc [.ref (b + 0), .int 5, .int w1, .int w2, .int w3, .int w4, .ref (b + 431)] (zx_w g σ)) (va_Qi (fun r u => r = 2 ∧ ∃ z, u = (ap b (wx_Z σ z) [] [] [])) (zx_w g) (gx_Q g)) 1 6 (gx_Q g) := by
  refine z_metW (by decide) (Nat.le_of_ble_eq_true rfl) (fun p e s m below meth c B hr htab => ?_)
  refine z_eqs (σ' := (ap b σ [] [] [])) rfl ?_
  show zx p l e _ s m _ below meth c g 8 0 0 _ _ 0 [(0, .ref (b + 0)), (1, .int 5), (2, .int w1), (3, .int w2), (4, .int w3), (5, .int w4), (6, .ref (b + 431))] []
  refine z_aload B dL_check_0 6 rfl ?_
  refine z_iconst (v := 0) B dL_check_2 (by decide) ?_
  refine z_aload_n B dL_check_3 rfl 0 rfl ?_
  refine z_iload_n B dL_check_4 rfl 1 rfl ?_
  refine z_iload_n B dL_check_5 rfl 2 rfl ?_
  refine z_iload_n B dL_check_6 rfl 3 rfl ?_
  refine z_iload B dL_check_7 4 rfl ?_
  refine z_iload B dL_check_9 5 rfl ?_
  refine z_cXi (As := [.int 5, .int w1, .int w2, .int w3, .int w4]) (rest := [.int 0, .ref (b + 431)]) B htab tc_check_11_IllegalArgumentException cw_L_17 cx_9 dL_check_11 (ci_X8_check_613 l hlt (σ := (ap b σ [] [] [])) (b := b) (lyA hK) w1 w2 w3 w4 q1_w1 q2_w1 q1_w2 q2_w2 q1_w3 q2_w3 q1_w4 q2_w4 (rR_at 0 0 hR_0_0) (rR_at 1 5 hR_1_5)) (lKA (hk_K hK 0 rfl rfl)) rfl (by decide) rfl (Nat.le_of_ble_eq_true rfl) (by decide) (fun z q => ?_)
  refine z_eqs (σ' := (ap b (wx_Z σ z) [] [] [])) rfl ?_
  show zx p l e _ s m _ below meth c g 8 _ _ _ _ 23 [(0, .ref (b + 0)), (1, .int 5), (2, .int w1), (3, .int w2), (4, .int w3), (5, .int w4), (6, .ref (b + 431))] _
  refine z_astore (lv' := [(7, .ref q), (0, .ref (b + 0)), (1, .int 5), (2, .int w1), (3, .int w2), (4, .int w3), (5, .int w4), (6, .ref (b + 431))]) B dL_check_23 (by decide) rfl ?_
  refine z_iconst (v := 2) B dL_check_25 (by decide) ?_
  exact z_iret B hr (by decide) (by decide) dL_check_26 ⟨rfl, _, rfl⟩
set_option maxRecDepth 100000 in
set_option maxHeartbeats 4000000 in
theorem ci_X9_check_615 (l : Launch) {g : gx_T} {σ : sx_T} {b : Nat} (hK : lay b σ) (w1 : Int32) (w2 : Int32) (w3 : Int32) (w4 : Int32) (q1_w1 : (0 : Int) ≤ w1.toInt) (q2_w1 : w1.toInt ≤ (19 : Int)) (q1_w2 : (0 : Int) ≤ w2.toInt) (q2_w2 : w2.toInt ≤ (17 : Int)) (q1_w3 : (0 : Int) ≤ w3.toInt) (q2_w3 : w3.toInt ≤ (99 : Int)) (q1_w4 : (-2147483648 : Int) ≤ w4.toInt) (q2_w4 : w4.toInt ≤ (-1 : Int))  : Met l yX9_check (.code yX9_check cX9_check 11 (some .int) :: lw_g) { frames := 2, cells := 0, slots := 0, locals := 44 } (va_Pc [.ref (b + 405), .int 5, .int w1, .int w2, .int w3, .int w4] (zx_w g σ)) (va_Qi (fun r u => r = 0 ∧ u = (ap b σ [(405, 0, 2)] [] [])) (zx_w g) (gx_Q g)) 0 0 (gx_Q g) := by
  refine z_met (by decide) (Nat.le_of_ble_eq_true rfl) (fun p e s m below meth c B hr hin => ?_)
  refine z_eqs (σ' := (ap b σ [] [] [])) rfl ?_
  show zx p l e _ s m _ below meth c g 11 0 0 _ _ 0 [(0, .ref (b + 405)), (1, .int 5), (2, .int w1), (3, .int w2), (4, .int w3), (5, .int w4)] []
  refine z_aload_n B dX9_check_0 rfl 0 rfl ?_
  refine z_iload_n B dX9_check_1 rfl 1 rfl ?_
  refine z_iload_n B dX9_check_2 rfl 2 rfl ?_
  refine z_cSi (As := [.int 5, .int w1]) (rest := [.ref (b + 405)]) B cw_X9_238 dX9_check_3 (ci_X9_isStep_332 l (σ := (ap b σ [] [] [])) (b := b) (lyA hK) w1 q1_w1 q2_w1) rfl (by decide) rfl (Nat.le_of_ble_eq_true rfl) (by decide) (fun r u hu => ?_)
  refine z_eqs (σ' := (ap b σ [] [] [])) hu.2 ?_
  show zx p l e _ s m _ below meth c g 11 0 0 _ _ 6 [(0, .ref (b + 405)), (1, .int 5), (2, .int w1), (3, .int w2), (4, .int w3), (5, .int w4)] _
  refine z_seti (y := 1) hu.1 ?_
  refine z_iload_n B dX9_check_6 rfl 3 rfl ?_
  refine z_iload B dX9_check_7 4 rfl ?_
  refine z_iload B dX9_check_9 5 rfl ?_
  refine z_cSi (As := [.int w2, .int w3, .int w4]) (rest := [.int 1, .ref (b + 405)]) B cw_X9_242 dX9_check_11 (ci_X9_isOperation_37 l (σ := (ap b σ [] [] [])) (b := b) (lyA hK) w2 w3 w4 q1_w2 q2_w2 q1_w3 q2_w3 q1_w4 q2_w4) rfl (by decide) rfl (Nat.le_of_ble_eq_true rfl) (by decide) (fun r u hu => ?_)
  refine z_eqs (σ' := (ap b σ [] [] [])) hu.2 ?_
  show zx p l e _ s m _ below meth c g 11 0 0 _ _ 14 [(0, .ref (b + 405)), (1, .int 5), (2, .int w1), (3, .int w2), (4, .int w3), (5, .int w4)] _
  refine z_seti (y := 0) hu.1 ?_
  refine z_cVi (As := [.int 1, .int 0]) (rest := []) B cw_X9_245 cx_10 dX9_check_14 (ci_X9_needs__71 l (σ := (ap b σ [] [] [])) (b := b) (lyA hK) ) (lKA (hk_K hK 405 rfl rfl)) rfl (by decide) rfl (Nat.le_of_ble_eq_true rfl) (by decide) (fun r u hu => ?_)
  refine z_eqs (σ' := (ap b σ [(405, 0, 2)] [] [])) (hu.2.trans ap_ap) ?_
  show zx p l e _ s m _ below meth c g 11 0 0 _ _ 17 [(0, .ref (b + 405)), (1, .int 5), (2, .int w1), (3, .int w2), (4, .int w3), (5, .int w4)] _
  refine z_seti (y := 0) hu.1 ?_
  refine z_if_ne (tgt := 22) B dX9_check_17 (by decide) (fun h => absurd (by decide) h) (fun _ => ?_)
  refine z_iconst (v := 0) B dX9_check_20 (by decide) ?_
  exact z_iret B hr (by decide) (by decide) dX9_check_21 ⟨rfl, rfl⟩
set_option maxRecDepth 100000 in
set_option maxHeartbeats 4000000 in
theorem ci_X4_operation_616 (l : Launch) {g : gx_T} {σ : sx_T} {b : Nat} (hK : lay b σ) (w1 : Int32) (q1_w1 : (0 : Int) ≤ w1.toInt) (q2_w1 : w1.toInt ≤ (19 : Int)) (hR_29_1 : sx_R σ (b + 29) 1 = (some (b + 30))) : Met l yX4_operation (.code yX4_operation cX4_operation 2 (some .int) :: lw_g) { frames := 0, cells := 0, slots := 0, locals := 0 } (va_Pc [.ref (b + 29), .int w1] (zx_w g σ)) (va_Qi (fun r u => ∃ y1 : Int32, r = y1 ∧ u = σ) (zx_w g) (gx_Q g)) 0 0 (gx_Q g) := by
  refine z_met (by decide) (Nat.le_of_ble_eq_true rfl) (fun p e s m below meth c B hr hin => ?_)
  refine z_eqs (σ' := (ap b σ [] [] [])) rfl ?_
  show zx p l e _ s m _ below meth c g 2 0 0 _ _ 0 [(0, .ref (b + 29)), (1, .int w1)] []
  refine z_iload_n B dX4_operation_0 rfl 1 rfl ?_
  refine z_if_lt (tgt := 22) B dX4_operation_1 (by decide) (fun h => absurd h (iv_nlt q1_w1 (by decide))) (fun _ => ?_)
  refine z_iload_n B dX4_operation_4 rfl 1 rfl ?_
  refine z_aload_n B dX4_operation_5 rfl 0 rfl ?_
  refine gf_X4_9 (x := (some (b + 30))) B (lKA (hk_K hK 29 rfl rfl)) (rR_at 29 1 hR_29_1) dX4_operation_6 ?_
  refine z_alen (kd := 13) (ti := 1) (v := 20) B (lKA (hk_K hK 30 rfl rfl)) (by decide) rfl (congrArg Int32.ofNat (lNA (hk_N hK 30 rfl rfl))) dX4_operation_9 ?_
  refine z_icmp_ge (tgt := 22) B dX4_operation_10 (by decide) (fun h => absurd h (iv_nge q2_w1 (by decide))) (fun _ => ?_)
  refine z_aload_n B dX4_operation_13 rfl 0 rfl ?_
  refine gf_X4_9 (x := (some (b + 30))) B (lKA (hk_K hK 29 rfl rfl)) (rR_at 29 1 hR_29_1) dX4_operation_14 ?_
  refine z_iload_n B dX4_operation_17 rfl 1 rfl ?_
  refine z_iald (j := w1.toNatClampNeg) B (lKA (hk_K hK 30 rfl rfl)) rfl (in_of (lNA (hk_N hK 30 rfl rfl)) (iv_in q1_w1 q2_w1 (by decide) (by decide))) rfl dX4_operation_18 ?_
  refine z_topi (fun y1 e_y1 => ?_)
  refine z_goto (tgt := 23) B dX4_operation_19 (by decide) ?_
  exact z_iret B hr (by decide) (by decide) dX4_operation_23 ⟨y1, rfl, rfl⟩
set_option maxRecDepth 100000 in
set_option maxHeartbeats 4000000 in
theorem ci_X4_first_617 (l : Launch) {g : gx_T} {σ : sx_T} {b : Nat} (hK : lay b σ) (w1 : Int32) (q1_w1 : (0 : Int) ≤ w1.toInt) (q2_w1 : w1.toInt ≤ (19 : Int)) (hR_29_2 : sx_R σ (b + 29) 2 = (some (b + 31))) : Met l yX4_first (.code yX4_first cX4_first 2 (some .int) :: lw_g) { frames := 0, cells := 0, slots := 0, locals := 0 } (va_Pc [.ref (b + 29), .int w1] (zx_w g σ)) (va_Qi (fun r u => ∃ y2 : Int32, r = y2 ∧ u = σ) (zx_w g) (gx_Q g)) 0 0 (gx_Q g) := by
  refine z_met (by decide) (Nat.le_of_ble_eq_true rfl) (fun p e s m below meth c B hr hin => ?_)
  refine z_eqs (σ' := (ap b σ [] [] [])) rfl ?_
  show zx p l e _ s m _ below meth c g 2 0 0 _ _ 0 [(0, .ref (b + 29)), (1, .int w1)] []
  refine z_iload_n B dX4_first_0 rfl 1 rfl ?_
  refine z_if_lt (tgt := 22) B dX4_first_1 (by decide) (fun h => absurd h (iv_nlt q1_w1 (by decide))) (fun _ => ?_)
  refine z_iload_n B dX4_first_4 rfl 1 rfl ?_
  refine z_aload_n B dX4_first_5 rfl 0 rfl ?_
  refine gf_X4_15 (x := (some (b + 31))) B (lKA (hk_K hK 29 rfl rfl)) (rR_at 29 2 hR_29_2) dX4_first_6 ?_
  refine z_alen (kd := 13) (ti := 1) (v := 20) B (lKA (hk_K hK 31 rfl rfl)) (by decide) rfl (congrArg Int32.ofNat (lNA (hk_N hK 31 rfl rfl))) dX4_first_9 ?_
  refine z_icmp_ge (tgt := 22) B dX4_first_10 (by decide) (fun h => absurd h (iv_nge q2_w1 (by decide))) (fun _ => ?_)
  refine z_aload_n B dX4_first_13 rfl 0 rfl ?_
  refine gf_X4_15 (x := (some (b + 31))) B (lKA (hk_K hK 29 rfl rfl)) (rR_at 29 2 hR_29_2) dX4_first_14 ?_
  refine z_iload_n B dX4_first_17 rfl 1 rfl ?_
  refine z_iald (j := w1.toNatClampNeg) B (lKA (hk_K hK 31 rfl rfl)) rfl (in_of (lNA (hk_N hK 31 rfl rfl)) (iv_in q1_w1 q2_w1 (by decide) (by decide))) rfl dX4_first_18 ?_
  refine z_topi (fun y2 e_y2 => ?_)
  refine z_goto (tgt := 23) B dX4_first_19 (by decide) ?_
  exact z_iret B hr (by decide) (by decide) dX4_first_23 ⟨y2, rfl, rfl⟩
set_option maxRecDepth 100000 in
set_option maxHeartbeats 4000000 in
theorem ci_X4_second_618 (l : Launch) {g : gx_T} {σ : sx_T} {b : Nat} (hK : lay b σ) (w1 : Int32) (q1_w1 : (0 : Int) ≤ w1.toInt) (q2_w1 : w1.toInt ≤ (19 : Int)) (hR_29_3 : sx_R σ (b + 29) 3 = (some (b + 32))) : Met l yX4_second (.code yX4_second cX4_second 2 (some .int) :: lw_g) { frames := 0, cells := 0, slots := 0, locals := 0 } (va_Pc [.ref (b + 29), .int w1] (zx_w g σ)) (va_Qi (fun r u => ∃ y3 : Int32, r = y3 ∧ u = σ) (zx_w g) (gx_Q g)) 0 0 (gx_Q g) := by
  refine z_met (by decide) (Nat.le_of_ble_eq_true rfl) (fun p e s m below meth c B hr hin => ?_)
  refine z_eqs (σ' := (ap b σ [] [] [])) rfl ?_
  show zx p l e _ s m _ below meth c g 2 0 0 _ _ 0 [(0, .ref (b + 29)), (1, .int w1)] []
  refine z_iload_n B dX4_second_0 rfl 1 rfl ?_
  refine z_if_lt (tgt := 22) B dX4_second_1 (by decide) (fun h => absurd h (iv_nlt q1_w1 (by decide))) (fun _ => ?_)
  refine z_iload_n B dX4_second_4 rfl 1 rfl ?_
  refine z_aload_n B dX4_second_5 rfl 0 rfl ?_
  refine gf_X4_18 (x := (some (b + 32))) B (lKA (hk_K hK 29 rfl rfl)) (rR_at 29 3 hR_29_3) dX4_second_6 ?_
  refine z_alen (kd := 13) (ti := 1) (v := 20) B (lKA (hk_K hK 32 rfl rfl)) (by decide) rfl (congrArg Int32.ofNat (lNA (hk_N hK 32 rfl rfl))) dX4_second_9 ?_
  refine z_icmp_ge (tgt := 22) B dX4_second_10 (by decide) (fun h => absurd h (iv_nge q2_w1 (by decide))) (fun _ => ?_)
  refine z_aload_n B dX4_second_13 rfl 0 rfl ?_
  refine gf_X4_18 (x := (some (b + 32))) B (lKA (hk_K hK 29 rfl rfl)) (rR_at 29 3 hR_29_3) dX4_second_14 ?_
  refine z_iload_n B dX4_second_17 rfl 1 rfl ?_
  refine z_iald (j := w1.toNatClampNeg) B (lKA (hk_K hK 32 rfl rfl)) rfl (in_of (lNA (hk_N hK 32 rfl rfl)) (iv_in q1_w1 q2_w1 (by decide) (by decide))) rfl dX4_second_18 ?_
  refine z_topi (fun y3 e_y3 => ?_)
  refine z_goto (tgt := 23) B dX4_second_19 (by decide) ?_
  exact z_iret B hr (by decide) (by decide) dX4_second_23 ⟨y3, rfl, rfl⟩
set_option maxRecDepth 100000 in
set_option maxHeartbeats 4000000 in
theorem ci_X8_check_619 (l : Launch) {g : gx_T} {σ : sx_T} {b : Nat} (hK : lay b σ) (w1 : Int32) (w2 : Int32) (w3 : Int32) (w4 : Int32) (q1_w1 : (0 : Int) ≤ w1.toInt) (q2_w1 : w1.toInt ≤ (19 : Int)) (q1_w2 : (0 : Int) ≤ w2.toInt) (q2_w2 : w2.toInt ≤ (17 : Int)) (q1_w3 : (0 : Int) ≤ w3.toInt) (q2_w3 : w3.toInt ≤ (99 : Int)) (q1_w4 : (0 : Int) ≤ w4.toInt) (q2_w4 : w4.toInt ≤ (99 : Int)) (hI_0_7 : sx_I σ (b + 0) 7 = 0) (hR_0_0 : sx_R σ (b + 0) 0 = (some (b + 1))) (hR_1_5 : sx_R σ (b + 1) 5 = (some (b + 29))) (hR_29_1 : sx_R σ (b + 29) 1 = (some (b + 30))) (hR_29_2 : sx_R σ (b + 29) 2 = (some (b + 31))) (hR_29_3 : sx_R σ (b + 29) 3 = (some (b + 32))) : Met l yX8_check (.code yX8_check cX8_check 13 (some .int) :: lw_g) { frames := 2, cells := 0, slots := 0, locals := 43 } (va_Pc [.ref (b + 0), .int 5, .int w1, .int w2, .int w3, .int w4] (zx_w g σ)) (va_Qi (fun r u => ∃ y1 y2 y3 : Int32, r = 0 ∧ u = (ap b (wx_I (ap b (wx_I (ap b (wx_I (ap b (ap b (wx_I (ap b (wx_I (ap b (wx_I (ap b (ap b σ [] [] []) [] [] []) (b + 30) w1.toNatClampNeg w2) [] [] []) (b + 31) w1.toNatClampNeg w3) [] [] []) (b + 32) w1.toNatClampNeg w4) [] [] []) [] [] []) (b + 30) w1.toNatClampNeg y1) [] [] []) (b + 31) w1.toNatClampNeg y2) [] [] []) (b + 32) w1.toNatClampNeg y3) [] [] [])) (zx_w g) (gx_Q g)) 0 0 (gx_Q g) := by
  refine z_met (by decide) (Nat.le_of_ble_eq_true rfl) (fun p e s m below meth c B hr hin => ?_)
  refine z_eqs (σ' := (ap b σ [] [] [])) rfl ?_
  show zx p l e _ s m _ below meth c g 13 0 0 _ _ 0 [(0, .ref (b + 0)), (1, .int 5), (2, .int w1), (3, .int w2), (4, .int w3), (5, .int w4)] []
  refine z_aload_n B dX8_check_0 rfl 0 rfl ?_
  refine z_iload_n B dX8_check_1 rfl 1 rfl ?_
  refine z_cVq (As := [.int 5]) (rest := []) B cw_X8_64 cx_9 dX8_check_2 (ci_X8_programAt_318 l (σ := (ap b σ [] [] [])) (b := b) (lyA hK) (rR_at 0 0 hR_0_0) (rR_at 1 5 hR_1_5)) (lKA (hk_K hK 0 rfl rfl)) rfl (by decide) rfl (Nat.le_of_ble_eq_true rfl) (by decide) (fun r u hu => ?_)
  refine z_eqs (σ' := (ap b σ [] [] [])) hu.2 ?_
  show zx p l e _ s m _ below meth c g 13 0 0 _ _ 5 [(0, .ref (b + 0)), (1, .int 5), (2, .int w1), (3, .int w2), (4, .int w3), (5, .int w4)] _
  refine z_setr (y := (some (b + 29))) hu.1 ?_
  refine z_astore (lv' := [(6, .ref (b + 29)), (0, .ref (b + 0)), (1, .int 5), (2, .int w1), (3, .int w2), (4, .int w3), (5, .int w4)]) B dX8_check_5 (by decide) rfl ?_
  refine z_aload B dX8_check_7 0 rfl ?_
  refine z_ifnull (r := (some (b + 29))) (tgt := 21) B dX8_check_9 (by decide) (fun h => nomatch h) (fun _ _ => ?_)
  refine z_iload_n B dX8_check_12 rfl 3 rfl ?_
  refine z_bipush (v := 20) B dX8_check_13 (by decide) ?_
  refine z_cSi (As := [.int w1, .int 20]) (rest := []) B cw_X8_68 dX8_check_15 (ci_X8_isBelow_64 l (σ := (ap b σ [] [] [])) (b := b) (lyA hK) w1 q1_w1 q2_w1) rfl (by decide) rfl (Nat.le_of_ble_eq_true rfl) (by decide) (fun r u hu => ?_)
  refine z_eqs (σ' := (ap b σ [] [] [])) hu.2 ?_
  show zx p l e _ s m _ below meth c g 13 0 0 _ _ 18 [(6, .ref (b + 29)), (0, .ref (b + 0)), (1, .int 5), (2, .int w1), (3, .int w2), (4, .int w3), (5, .int w4)] _
  refine z_seti (y := 1) hu.1 ?_
  refine z_if_ne (tgt := 31) B dX8_check_18 (by decide) (fun _ => ?_) (fun h => absurd h (by decide))
  refine z_iload_n B dX8_check_31 rfl 4 rfl ?_
  refine z_iload B dX8_check_32 5 rfl ?_
  refine z_iload B dX8_check_34 6 rfl ?_
  refine z_cSi (As := [.int w2, .int w3, .int w4]) (rest := []) B cw_X8_79 dX8_check_36 (ci_X8_isStep_85 l (σ := (ap b σ [] [] [])) (b := b) (lyA hK) w2 w3 w4 q1_w2 q2_w2 q1_w3 q2_w3 q1_w4 q2_w4) rfl (by decide) rfl (Nat.le_of_ble_eq_true rfl) (by decide) (fun r u hu => ?_)
  refine z_eqs (σ' := (ap b σ [] [] [])) hu.2 ?_
  show zx p l e _ s m _ below meth c g 13 0 0 _ _ 39 [(6, .ref (b + 29)), (0, .ref (b + 0)), (1, .int 5), (2, .int w1), (3, .int w2), (4, .int w3), (5, .int w4)] _
  refine z_seti (y := 1) hu.1 ?_
  refine z_if_ne (tgt := 52) B dX8_check_39 (by decide) (fun _ => ?_) (fun h => absurd h (by decide))
  refine z_aload B dX8_check_52 0 rfl ?_
  refine z_iload_n B dX8_check_54 rfl 3 rfl ?_
  refine z_cVi (As := [.int w1]) (rest := []) B cw_X8_119 cx_5 dX8_check_55 (ci_X4_operation_616 l (σ := (ap b σ [] [] [])) (b := b) (lyA hK) w1 q1_w1 q2_w1 (rR_at 29 1 hR_29_1)) (lKA (hk_K hK 29 rfl rfl)) rfl (by decide) rfl (Nat.le_of_ble_eq_true rfl) (by decide) (fun r u hu => ?_)
  obtain ⟨y1, hu⟩ := hu
  refine z_eqs (σ' := (ap b σ [] [] [])) hu.2 ?_
  show zx p l e _ s m _ below meth c g 13 0 0 _ _ 58 [(6, .ref (b + 29)), (0, .ref (b + 0)), (1, .int 5), (2, .int w1), (3, .int w2), (4, .int w3), (5, .int w4)] _
  refine z_seti (y := y1) hu.1 ?_
  refine z_istore (lv' := [(7, .int y1), (6, .ref (b + 29)), (0, .ref (b + 0)), (1, .int 5), (2, .int w1), (3, .int w2), (4, .int w3), (5, .int w4)]) B dX8_check_58 (by decide) rfl ?_
  refine z_aload B dX8_check_60 1 rfl ?_
  refine z_iload_n B dX8_check_62 rfl 4 rfl ?_
  refine z_cVi (As := [.int w1]) (rest := []) B cw_X8_123 cx_5 dX8_check_63 (ci_X4_first_617 l (σ := (ap b σ [] [] [])) (b := b) (lyA hK) w1 q1_w1 q2_w1 (rR_at 29 2 hR_29_2)) (lKA (hk_K hK 29 rfl rfl)) rfl (by decide) rfl (Nat.le_of_ble_eq_true rfl) (by decide) (fun r u hu => ?_)
  obtain ⟨y2, hu⟩ := hu
  refine z_eqs (σ' := (ap b σ [] [] [])) hu.2 ?_
  show zx p l e _ s m _ below meth c g 13 0 0 _ _ 66 [(7, .int y1), (6, .ref (b + 29)), (0, .ref (b + 0)), (1, .int 5), (2, .int w1), (3, .int w2), (4, .int w3), (5, .int w4)] _
  refine z_seti (y := y2) hu.1 ?_
  refine z_istore (lv' := [(8, .int y2), (7, .int y1), (6, .ref (b + 29)), (0, .ref (b + 0)), (1, .int 5), (2, .int w1), (3, .int w2), (4, .int w3), (5, .int w4)]) B dX8_check_66 (by decide) rfl ?_
  refine z_aload B dX8_check_68 2 rfl ?_
  refine z_iload_n B dX8_check_70 rfl 5 rfl ?_
  refine z_cVi (As := [.int w1]) (rest := []) B cw_X8_126 cx_5 dX8_check_71 (ci_X4_second_618 l (σ := (ap b σ [] [] [])) (b := b) (lyA hK) w1 q1_w1 q2_w1 (rR_at 29 3 hR_29_3)) (lKA (hk_K hK 29 rfl rfl)) rfl (by decide) rfl (Nat.le_of_ble_eq_true rfl) (by decide) (fun r u hu => ?_)
  obtain ⟨y3, hu⟩ := hu
  refine z_eqs (σ' := (ap b σ [] [] [])) hu.2 ?_
  show zx p l e _ s m _ below meth c g 13 0 0 _ _ 74 [(8, .int y2), (7, .int y1), (6, .ref (b + 29)), (0, .ref (b + 0)), (1, .int 5), (2, .int w1), (3, .int w2), (4, .int w3), (5, .int w4)] _
  refine z_seti (y := y3) hu.1 ?_
  refine z_istore (lv' := [(9, .int y3), (8, .int y2), (7, .int y1), (6, .ref (b + 29)), (0, .ref (b + 0)), (1, .int 5), (2, .int w1), (3, .int w2), (4, .int w3), (5, .int w4)]) B dX8_check_74 (by decide) rfl ?_
  refine z_aload B dX8_check_76 3 rfl ?_
  refine z_iload_n B dX8_check_78 rfl 6 rfl ?_
  refine z_iload_n B dX8_check_79 rfl 7 rfl ?_
  refine z_iload B dX8_check_80 8 rfl ?_
  refine z_iload B dX8_check_82 9 rfl ?_
  refine z_cVv (As := [.int w1, .int w2, .int w3, .int w4]) (rest := []) B cw_X8_88 cx_5 dX8_check_84 (ci_X4_put_340 l (σ := (ap b σ [] [] [])) (b := b) (lyA hK) w1 w2 w3 w4 q1_w1 q2_w1 (rR_at 29 1 hR_29_1) (rR_at 29 2 hR_29_2) (rR_at 29 3 hR_29_3)) (lKA (hk_K hK 29 rfl rfl)) rfl (by decide) rfl (Nat.le_of_ble_eq_true rfl) (by decide) (fun u hu => ?_)
  refine z_eqs (σ' := (ap b (wx_I (ap b (wx_I (ap b (wx_I (ap b (ap b σ [] [] []) [] [] []) (b + 30) w1.toNatClampNeg w2) [] [] []) (b + 31) w1.toNatClampNeg w3) [] [] []) (b + 32) w1.toNatClampNeg w4) [] [] [])) hu ?_
  show zx p l e _ s m _ below meth c g 13 0 0 _ _ 87 [(9, .int y3), (8, .int y2), (7, .int y1), (6, .ref (b + 29)), (0, .ref (b + 0)), (1, .int 5), (2, .int w1), (3, .int w2), (4, .int w3), (5, .int w4)] _
  refine z_iconst (v := 0) B dX8_check_87 (by decide) ?_
  refine z_istore (lv' := [(10, .int 0), (9, .int y3), (8, .int y2), (7, .int y1), (6, .ref (b + 29)), (0, .ref (b + 0)), (1, .int 5), (2, .int w1), (3, .int w2), (4, .int w3), (5, .int w4)]) B dX8_check_88 (by decide) rfl ?_
  refine z_iconst (v := 0) B dX8_check_90 (by decide) ?_
  refine z_istore (lv' := [(11, .int 0), (10, .int 0), (9, .int y3), (8, .int y2), (7, .int y1), (6, .ref (b + 29)), (0, .ref (b + 0)), (1, .int 5), (2, .int w1), (3, .int w2), (4, .int w3), (5, .int w4)]) B dX8_check_91 (by decide) rfl ?_
  refine z_iload B dX8_check_93 0 rfl ?_
  refine z_aload_n B dX8_check_95 rfl 6 rfl ?_
  refine gf_X8_96 (x := 0) B (lKA (lKW (lKA (lKW (lKA (lKW (lKA (lKA (hk_K hK 0 rfl rfl))))))))) (rI_at 0 7 ((ux_a (by omega)).trans (rI_at 0 7 ((ux_a (by omega)).trans (rI_at 0 7 ((ux_a (by omega)).trans (rI_at 0 7 (rI_at 0 7 hI_0_7)))))))) dX8_check_96 ?_
  refine z_icmp_ge (tgt := 154) B dX8_check_99 (by decide) (fun _ => ?_) (fun h => absurd (by decide) h)
  refine z_aload B dX8_check_154 5 rfl ?_
  refine z_iload_n B dX8_check_156 rfl 8 rfl ?_
  refine z_iload B dX8_check_157 4 rfl ?_
  refine z_iload B dX8_check_159 3 rfl ?_
  refine z_iload B dX8_check_161 2 rfl ?_
  refine z_cVv (As := [.int w1, .int y1, .int y2, .int y3]) (rest := []) B cw_X8_88 cx_5 dX8_check_163 (ci_X4_put_340 l (σ := (ap b (wx_I (ap b (wx_I (ap b (wx_I (ap b (ap b σ [] [] []) [] [] []) (b + 30) w1.toNatClampNeg w2) [] [] []) (b + 31) w1.toNatClampNeg w3) [] [] []) (b + 32) w1.toNatClampNeg w4) [] [] [])) (b := b) (lyA (lyW (lyA (lyW (lyA (lyW (lyA (lyA hK)))))))) w1 y1 y2 y3 q1_w1 q2_w1 (rR_at 29 1 (rR_w (rR_at 29 1 (rR_w (rR_at 29 1 (rR_w (rR_at 29 1 (rR_at 29 1 hR_29_1)))))))) (rR_at 29 2 (rR_w (rR_at 29 2 (rR_w (rR_at 29 2 (rR_w (rR_at 29 2 (rR_at 29 2 hR_29_2)))))))) (rR_at 29 3 (rR_w (rR_at 29 3 (rR_w (rR_at 29 3 (rR_w (rR_at 29 3 (rR_at 29 3 hR_29_3))))))))) (lKA (lKW (lKA (lKW (lKA (lKW (lKA (lKA (hk_K hK 29 rfl rfl))))))))) rfl (by decide) rfl (Nat.le_of_ble_eq_true rfl) (by decide) (fun u hu => ?_)
  refine z_eqs (σ' := (ap b (wx_I (ap b (wx_I (ap b (wx_I (ap b (ap b (wx_I (ap b (wx_I (ap b (wx_I (ap b (ap b σ [] [] []) [] [] []) (b + 30) w1.toNatClampNeg w2) [] [] []) (b + 31) w1.toNatClampNeg w3) [] [] []) (b + 32) w1.toNatClampNeg w4) [] [] []) [] [] []) (b + 30) w1.toNatClampNeg y1) [] [] []) (b + 31) w1.toNatClampNeg y2) [] [] []) (b + 32) w1.toNatClampNeg y3) [] [] [])) hu ?_
  show zx p l e _ s m _ below meth c g 13 0 0 _ _ 166 [(11, .int 0), (10, .int 0), (9, .int y3), (8, .int y2), (7, .int y1), (6, .ref (b + 29)), (0, .ref (b + 0)), (1, .int 5), (2, .int w1), (3, .int w2), (4, .int w3), (5, .int w4)] _
  refine z_iload B dX8_check_166 1 rfl ?_
  exact z_iret B hr (by decide) (by decide) dX8_check_168 ⟨y1, y2, y3, rfl, rfl⟩
set_option maxRecDepth 100000 in
set_option maxHeartbeats 4000000 in
theorem ci_L_check_620 (l : Launch) {g : gx_T} {σ : sx_T} {b : Nat} (hK : lay b σ) (w1 : Int32) (w2 : Int32) (w3 : Int32) (w4 : Int32) (q1_w1 : (0 : Int) ≤ w1.toInt) (q2_w1 : w1.toInt ≤ (19 : Int)) (q1_w2 : (0 : Int) ≤ w2.toInt) (q2_w2 : w2.toInt ≤ (17 : Int)) (q1_w3 : (0 : Int) ≤ w3.toInt) (q2_w3 : w3.toInt ≤ (99 : Int)) (q1_w4 : (0 : Int) ≤ w4.toInt) (q2_w4 : w4.toInt ≤ (99 : Int)) (hI_0_7 : sx_I σ (b + 0) 7 = 0) (hR_0_0 : sx_R σ (b + 0) 0 = (some (b + 1))) (hR_1_5 : sx_R σ (b + 1) 5 = (some (b + 29))) (hR_29_1 : sx_R σ (b + 29) 1 = (some (b + 30))) (hR_29_2 : sx_R σ (b + 29) 2 = (some (b + 31))) (hR_29_3 : sx_R σ (b + 29) 3 = (some (b + 32))) : Met l yL_check (.codeWith yL_check cL_check 8 (some .int) [(0, 16, 19, 13), (0, 16, 23, 15)] :: lw_g) { frames := 3, cells := 0, slots := 0, locals := 75 } (va_Pc [.ref (b + 0), .int 5, .int w1, .int w2, .int w3, .int w4, .ref (b + 431)] (zx_w g σ)) (va_Qi (fun r u => ∃ y1 y2 y3 : Int32, r = 0 ∧ u = (ap b (wx_I (ap b (wx_I (ap b (wx_I (ap b (ap b (wx_I (ap b (wx_I (ap b (wx_I (ap b (ap b (ap b σ [] [] []) [] [] []) [] [] []) (b + 30) w1.toNatClampNeg w2) [] [] []) (b + 31) w1.toNatClampNeg w3) [] [] []) (b + 32) w1.toNatClampNeg w4) [] [] []) [] [] []) (b + 30) w1.toNatClampNeg y1) [] [] []) (b + 31) w1.toNatClampNeg y2) [] [] []) (b + 32) w1.toNatClampNeg y3) [] [(431, 0, 0)] [])) (zx_w g) (gx_Q g)) 0 0 (gx_Q g) := by
  refine z_metW (by decide) (Nat.le_of_ble_eq_true rfl) (fun p e s m below meth c B hr htab => ?_)
  refine z_eqs (σ' := (ap b σ [] [] [])) rfl ?_
  show zx p l e _ s m _ below meth c g 8 0 0 _ _ 0 [(0, .ref (b + 0)), (1, .int 5), (2, .int w1), (3, .int w2), (4, .int w3), (5, .int w4), (6, .ref (b + 431))] []
  refine z_aload B dL_check_0 6 rfl ?_
  refine z_iconst (v := 0) B dL_check_2 (by decide) ?_
  refine z_aload_n B dL_check_3 rfl 0 rfl ?_
  refine z_iload_n B dL_check_4 rfl 1 rfl ?_
  refine z_iload_n B dL_check_5 rfl 2 rfl ?_
  refine z_iload_n B dL_check_6 rfl 3 rfl ?_
  refine z_iload B dL_check_7 4 rfl ?_
  refine z_iload B dL_check_9 5 rfl ?_
  refine z_cVi (As := [.int 5, .int w1, .int w2, .int w3, .int w4]) (rest := [.int 0, .ref (b + 431)]) B cw_L_17 cx_9 dL_check_11 (ci_X8_check_619 l (σ := (ap b σ [] [] [])) (b := b) (lyA hK) w1 w2 w3 w4 q1_w1 q2_w1 q1_w2 q2_w2 q1_w3 q2_w3 q1_w4 q2_w4 (rI_at 0 7 hI_0_7) (rR_at 0 0 hR_0_0) (rR_at 1 5 hR_1_5) (rR_at 29 1 hR_29_1) (rR_at 29 2 hR_29_2) (rR_at 29 3 hR_29_3)) (lKA (hk_K hK 0 rfl rfl)) rfl (by decide) rfl (Nat.le_of_ble_eq_true rfl) (by decide) (fun r u hu => ?_)
  obtain ⟨y1, y2, y3, hu⟩ := hu
  refine z_eqs (σ' := (ap b (wx_I (ap b (wx_I (ap b (wx_I (ap b (ap b (wx_I (ap b (wx_I (ap b (wx_I (ap b (ap b (ap b σ [] [] []) [] [] []) [] [] []) (b + 30) w1.toNatClampNeg w2) [] [] []) (b + 31) w1.toNatClampNeg w3) [] [] []) (b + 32) w1.toNatClampNeg w4) [] [] []) [] [] []) (b + 30) w1.toNatClampNeg y1) [] [] []) (b + 31) w1.toNatClampNeg y2) [] [] []) (b + 32) w1.toNatClampNeg y3) [] [] [])) hu.2 ?_
  show zx p l e _ s m _ below meth c g 8 0 0 _ _ 14 [(0, .ref (b + 0)), (1, .int 5), (2, .int w1), (3, .int w2), (4, .int w3), (5, .int w4), (6, .ref (b + 431))] _
  refine z_seti (y := 0) hu.1 ?_
  refine z_i2l (v := 0) B dL_check_14 (by decide) ?_
  refine z_last (j := 0) (σ' := (ap b (wx_I (ap b (wx_I (ap b (wx_I (ap b (ap b (wx_I (ap b (wx_I (ap b (wx_I (ap b (ap b (ap b σ [] [] []) [] [] []) [] [] []) (b + 30) w1.toNatClampNeg w2) [] [] []) (b + 31) w1.toNatClampNeg w3) [] [] []) (b + 32) w1.toNatClampNeg w4) [] [] []) [] [] []) (b + 30) w1.toNatClampNeg y1) [] [] []) (b + 31) w1.toNatClampNeg y2) [] [] []) (b + 32) w1.toNatClampNeg y3) [] [(431, 0, 0)] [])) B (lKA (lKW (lKA (lKW (lKA (lKW (lKA (lKA (lKW (lKA (lKW (lKA (lKW (lKA (lKA (lKA (hk_K hK 431 rfl rfl))))))))))))))))) (by decide) (in_of (lNA (lNW (lNA (lNW (lNA (lNW (lNA (lNA (lNW (lNA (lNW (lNA (lNW (lNA (lNA (lNA (hk_N hK 431 rfl rfl))))))))))))))))) (show ¬ ((0 : Int32) < 0 ∨ 1 ≤ (0 : Int32).toNatClampNeg) by decide)) wJ_ap dL_check_15 ?_
  refine z_goto (tgt := 27) B dL_check_16 (by decide) ?_
  refine z_iconst (v := 0) B dL_check_27 (by decide) ?_
  exact z_iret B hr (by decide) (by decide) dL_check_28 ⟨y1, y2, y3, rfl, rfl⟩
set_option maxRecDepth 100000 in
set_option maxHeartbeats 4000000 in
theorem ci_X9_check_621 (l : Launch) {g : gx_T} {σ : sx_T} {b : Nat} (hK : lay b σ) (w1 : Int32) (w2 : Int32) (w3 : Int32) (w4 : Int32) (q1_w1 : (0 : Int) ≤ w1.toInt) (q2_w1 : w1.toInt ≤ (19 : Int)) (q1_w2 : (0 : Int) ≤ w2.toInt) (q2_w2 : w2.toInt ≤ (17 : Int)) (q1_w3 : (0 : Int) ≤ w3.toInt) (q2_w3 : w3.toInt ≤ (99 : Int)) (q1_w4 : (0 : Int) ≤ w4.toInt) (q2_w4 : w4.toInt ≤ (99 : Int)) (hI_405_6 : sx_I σ (b + 405) 6 = 0) (hR_405_3 : sx_R σ (b + 405) 3 = (some (b + 406))) (hR_405_4 : sx_R σ (b + 405) 4 = (some (b + 407))) (hR_405_5 : sx_R σ (b + 405) 5 = (some (b + 408))) : Met l yX9_check (.code yX9_check cX9_check 11 (some .int) :: lw_g) { frames := 2, cells := 0, slots := 0, locals := 44 } (va_Pc [.ref (b + 405), .int 5, .int w1, .int w2, .int w3, .int w4] (zx_w g σ)) (va_Qi (fun r u => ∃ y4 y5 y6 : Int32, r = 0 ∧ u = (ap b (wx_I (ap b (wx_I (ap b (wx_I (ap b (ap b (wx_I (ap b (wx_I (ap b (wx_I (ap b (ap b σ [(405, 0, 0)] [] []) [] [] []) (b + 406) (100 + w1).toNatClampNeg w2) [] [] []) (b + 407) (100 + w1).toNatClampNeg w3) [] [] []) (b + 408) (100 + w1).toNatClampNeg w4) [] [] []) [] [] []) (b + 406) (100 + w1).toNatClampNeg y4) [] [] []) (b + 407) (100 + w1).toNatClampNeg y5) [] [] []) (b + 408) (100 + w1).toNatClampNeg y6) [] [] [])) (zx_w g) (gx_Q g)) 0 0 (gx_Q g) := by
  refine z_met (by decide) (Nat.le_of_ble_eq_true rfl) (fun p e s m below meth c B hr hin => ?_)
  refine z_eqs (σ' := (ap b σ [] [] [])) rfl ?_
  show zx p l e _ s m _ below meth c g 11 0 0 _ _ 0 [(0, .ref (b + 405)), (1, .int 5), (2, .int w1), (3, .int w2), (4, .int w3), (5, .int w4)] []
  refine z_aload_n B dX9_check_0 rfl 0 rfl ?_
  refine z_iload_n B dX9_check_1 rfl 1 rfl ?_
  refine z_iload_n B dX9_check_2 rfl 2 rfl ?_
  refine z_cSi (As := [.int 5, .int w1]) (rest := [.ref (b + 405)]) B cw_X9_238 dX9_check_3 (ci_X9_isStep_332 l (σ := (ap b σ [] [] [])) (b := b) (lyA hK) w1 q1_w1 q2_w1) rfl (by decide) rfl (Nat.le_of_ble_eq_true rfl) (by decide) (fun r u hu => ?_)
  refine z_eqs (σ' := (ap b σ [] [] [])) hu.2 ?_
  show zx p l e _ s m _ below meth c g 11 0 0 _ _ 6 [(0, .ref (b + 405)), (1, .int 5), (2, .int w1), (3, .int w2), (4, .int w3), (5, .int w4)] _
  refine z_seti (y := 1) hu.1 ?_
  refine z_iload_n B dX9_check_6 rfl 3 rfl ?_
  refine z_iload B dX9_check_7 4 rfl ?_
  refine z_iload B dX9_check_9 5 rfl ?_
  refine z_cSi (As := [.int w2, .int w3, .int w4]) (rest := [.int 1, .ref (b + 405)]) B cw_X9_242 dX9_check_11 (ci_X9_isOperation_39 l (σ := (ap b σ [] [] [])) (b := b) (lyA hK) w2 w3 w4 q1_w2 q2_w2 q1_w3 q2_w3 q1_w4 q2_w4) rfl (by decide) rfl (Nat.le_of_ble_eq_true rfl) (by decide) (fun r u hu => ?_)
  refine z_eqs (σ' := (ap b σ [] [] [])) hu.2 ?_
  show zx p l e _ s m _ below meth c g 11 0 0 _ _ 14 [(0, .ref (b + 405)), (1, .int 5), (2, .int w1), (3, .int w2), (4, .int w3), (5, .int w4)] _
  refine z_seti (y := 1) hu.1 ?_
  refine z_cVi (As := [.int 1, .int 1]) (rest := []) B cw_X9_245 cx_10 dX9_check_14 (ci_X9_needs__91 l (σ := (ap b σ [] [] [])) (b := b) (lyA hK) ) (lKA (hk_K hK 405 rfl rfl)) rfl (by decide) rfl (Nat.le_of_ble_eq_true rfl) (by decide) (fun r u hu => ?_)
  refine z_eqs (σ' := (ap b σ [(405, 0, 0)] [] [])) (hu.2.trans ap_ap) ?_
  show zx p l e _ s m _ below meth c g 11 0 0 _ _ 17 [(0, .ref (b + 405)), (1, .int 5), (2, .int w1), (3, .int w2), (4, .int w3), (5, .int w4)] _
  refine z_seti (y := 1) hu.1 ?_
  refine z_if_ne (tgt := 22) B dX9_check_17 (by decide) (fun _ => ?_) (fun h => absurd h (by decide))
  refine z_bipush (v := 20) B dX9_check_22 (by decide) ?_
  refine z_iload_n B dX9_check_24 rfl 1 rfl ?_
  refine z_imul B dX9_check_25 ?_
  refine z_seti (y := 100) (by decide) ?_
  refine z_iload_n B dX9_check_26 rfl 2 rfl ?_
  refine z_iadd B dX9_check_27 ?_
  refine z_istore (lv' := [(6, .int (100 + w1)), (0, .ref (b + 405)), (1, .int 5), (2, .int w1), (3, .int w2), (4, .int w3), (5, .int w4)]) B dX9_check_28 (by decide) rfl ?_
  refine z_aload_n B dX9_check_30 rfl 1 rfl ?_
  refine gf_X9_13 (x := (some (b + 406))) B (lKA (hk_K hK 405 rfl rfl)) (rR_at 405 3 hR_405_3) dX9_check_31 ?_
  refine z_iload B dX9_check_34 0 rfl ?_
  refine z_iald (j := (100 + w1).toNatClampNeg) B (lKA (hk_K hK 406 rfl rfl)) rfl (in_of (lNA (hk_N hK 406 rfl rfl)) (iv_inadd q1_w1 q2_w1 (by decide) (by decide))) rfl dX9_check_36 ?_
  refine z_topi (fun y4 e_y4 => ?_)
  refine z_istore (lv' := [(7, .int y4), (6, .int (100 + w1)), (0, .ref (b + 405)), (1, .int 5), (2, .int w1), (3, .int w2), (4, .int w3), (5, .int w4)]) B dX9_check_37 (by decide) rfl ?_
  refine z_aload_n B dX9_check_39 rfl 2 rfl ?_
  refine gf_X9_17 (x := (some (b + 407))) B (lKA (hk_K hK 405 rfl rfl)) (rR_at 405 4 hR_405_4) dX9_check_40 ?_
  refine z_iload B dX9_check_43 1 rfl ?_
  refine z_iald (j := (100 + w1).toNatClampNeg) B (lKA (hk_K hK 407 rfl rfl)) rfl (in_of (lNA (hk_N hK 407 rfl rfl)) (iv_inadd q1_w1 q2_w1 (by decide) (by decide))) rfl dX9_check_45 ?_
  refine z_topi (fun y5 e_y5 => ?_)
  refine z_istore (lv' := [(8, .int y5), (7, .int y4), (6, .int (100 + w1)), (0, .ref (b + 405)), (1, .int 5), (2, .int w1), (3, .int w2), (4, .int w3), (5, .int w4)]) B dX9_check_46 (by decide) rfl ?_
  refine z_aload_n B dX9_check_48 rfl 3 rfl ?_
  refine gf_X9_20 (x := (some (b + 408))) B (lKA (hk_K hK 405 rfl rfl)) (rR_at 405 5 hR_405_5) dX9_check_49 ?_
  refine z_iload B dX9_check_52 2 rfl ?_
  refine z_iald (j := (100 + w1).toNatClampNeg) B (lKA (hk_K hK 408 rfl rfl)) rfl (in_of (lNA (hk_N hK 408 rfl rfl)) (iv_inadd q1_w1 q2_w1 (by decide) (by decide))) rfl dX9_check_54 ?_
  refine z_topi (fun y6 e_y6 => ?_)
  refine z_istore (lv' := [(9, .int y6), (8, .int y5), (7, .int y4), (6, .int (100 + w1)), (0, .ref (b + 405)), (1, .int 5), (2, .int w1), (3, .int w2), (4, .int w3), (5, .int w4)]) B dX9_check_55 (by decide) rfl ?_
  refine z_aload_n B dX9_check_57 rfl 4 rfl ?_
  refine z_iload_n B dX9_check_58 rfl 5 rfl ?_
  refine z_iload_n B dX9_check_59 rfl 6 rfl ?_
  refine z_iload_n B dX9_check_60 rfl 7 rfl ?_
  refine z_iload B dX9_check_61 8 rfl ?_
  refine z_iload B dX9_check_63 9 rfl ?_
  refine z_cVv (As := [.int 5, .int w1, .int w2, .int w3, .int w4]) (rest := []) B cw_X9_249 cx_10 dX9_check_65 (ci_X9_lays_345 l (σ := (ap b σ [(405, 0, 0)] [] [])) (b := b) (lyA hK) w1 w2 w3 w4 q1_w1 q2_w1 (rR_at 405 3 hR_405_3) (rR_at 405 4 hR_405_4) (rR_at 405 5 hR_405_5)) (lKA (hk_K hK 405 rfl rfl)) rfl (by decide) rfl (Nat.le_of_ble_eq_true rfl) (by decide) (fun u hu => ?_)
  refine z_eqs (σ' := (ap b (wx_I (ap b (wx_I (ap b (wx_I (ap b (ap b σ [(405, 0, 0)] [] []) [] [] []) (b + 406) (100 + w1).toNatClampNeg w2) [] [] []) (b + 407) (100 + w1).toNatClampNeg w3) [] [] []) (b + 408) (100 + w1).toNatClampNeg w4) [] [] [])) hu ?_
  show zx p l e _ s m _ below meth c g 11 0 0 _ _ 68 [(9, .int y6), (8, .int y5), (7, .int y4), (6, .int (100 + w1)), (0, .ref (b + 405)), (1, .int 5), (2, .int w1), (3, .int w2), (4, .int w3), (5, .int w4)] _
  refine z_aload_n B dX9_check_68 rfl 4 rfl ?_
  refine z_iload_n B dX9_check_69 rfl 5 rfl ?_
  refine z_cVi (As := [.int 5]) (rest := []) B cw_X9_256 cx_10 dX9_check_70 (ci_X9_unfit_346 l (σ := (ap b (wx_I (ap b (wx_I (ap b (wx_I (ap b (ap b σ [(405, 0, 0)] [] []) [] [] []) (b + 406) (100 + w1).toNatClampNeg w2) [] [] []) (b + 407) (100 + w1).toNatClampNeg w3) [] [] []) (b + 408) (100 + w1).toNatClampNeg w4) [] [] [])) (b := b) (lyA (lyW (lyA (lyW (lyA (lyW (lyA (lyA hK)))))))) (rI_at 405 6 ((ux_a (by omega)).trans (rI_at 405 6 ((ux_a (by omega)).trans (rI_at 405 6 ((ux_a (by omega)).trans (rI_at 405 6 (rI_at 405 6 hI_405_6))))))))) (lKA (lKW (lKA (lKW (lKA (lKW (lKA (lKA (hk_K hK 405 rfl rfl))))))))) rfl (by decide) rfl (Nat.le_of_ble_eq_true rfl) (by decide) (fun r u hu => ?_)
  refine z_eqs (σ' := (ap b (wx_I (ap b (wx_I (ap b (wx_I (ap b (ap b σ [(405, 0, 0)] [] []) [] [] []) (b + 406) (100 + w1).toNatClampNeg w2) [] [] []) (b + 407) (100 + w1).toNatClampNeg w3) [] [] []) (b + 408) (100 + w1).toNatClampNeg w4) [] [] [])) hu.2 ?_
  show zx p l e _ s m _ below meth c g 11 0 0 _ _ 73 [(9, .int y6), (8, .int y5), (7, .int y4), (6, .int (100 + w1)), (0, .ref (b + 405)), (1, .int 5), (2, .int w1), (3, .int w2), (4, .int w3), (5, .int w4)] _
  refine z_seti (y := 0) hu.1 ?_
  refine z_istore (lv' := [(10, .int 0), (9, .int y6), (8, .int y5), (7, .int y4), (6, .int (100 + w1)), (0, .ref (b + 405)), (1, .int 5), (2, .int w1), (3, .int w2), (4, .int w3), (5, .int w4)]) B dX9_check_73 (by decide) rfl ?_
  refine z_aload_n B dX9_check_75 rfl 5 rfl ?_
  refine z_iload_n B dX9_check_76 rfl 6 rfl ?_
  refine z_iload_n B dX9_check_77 rfl 7 rfl ?_
  refine z_iload B dX9_check_78 3 rfl ?_
  refine z_iload B dX9_check_80 2 rfl ?_
  refine z_iload B dX9_check_82 1 rfl ?_
  refine z_cVv (As := [.int 5, .int w1, .int y4, .int y5, .int y6]) (rest := []) B cw_X9_249 cx_10 dX9_check_84 (ci_X9_lays_345 l (σ := (ap b (wx_I (ap b (wx_I (ap b (wx_I (ap b (ap b σ [(405, 0, 0)] [] []) [] [] []) (b + 406) (100 + w1).toNatClampNeg w2) [] [] []) (b + 407) (100 + w1).toNatClampNeg w3) [] [] []) (b + 408) (100 + w1).toNatClampNeg w4) [] [] [])) (b := b) (lyA (lyW (lyA (lyW (lyA (lyW (lyA (lyA hK)))))))) w1 y4 y5 y6 q1_w1 q2_w1 (rR_at 405 3 (rR_w (rR_at 405 3 (rR_w (rR_at 405 3 (rR_w (rR_at 405 3 (rR_at 405 3 hR_405_3)))))))) (rR_at 405 4 (rR_w (rR_at 405 4 (rR_w (rR_at 405 4 (rR_w (rR_at 405 4 (rR_at 405 4 hR_405_4)))))))) (rR_at 405 5 (rR_w (rR_at 405 5 (rR_w (rR_at 405 5 (rR_w (rR_at 405 5 (rR_at 405 5 hR_405_5))))))))) (lKA (lKW (lKA (lKW (lKA (lKW (lKA (lKA (hk_K hK 405 rfl rfl))))))))) rfl (by decide) rfl (Nat.le_of_ble_eq_true rfl) (by decide) (fun u hu => ?_)
  refine z_eqs (σ' := (ap b (wx_I (ap b (wx_I (ap b (wx_I (ap b (ap b (wx_I (ap b (wx_I (ap b (wx_I (ap b (ap b σ [(405, 0, 0)] [] []) [] [] []) (b + 406) (100 + w1).toNatClampNeg w2) [] [] []) (b + 407) (100 + w1).toNatClampNeg w3) [] [] []) (b + 408) (100 + w1).toNatClampNeg w4) [] [] []) [] [] []) (b + 406) (100 + w1).toNatClampNeg y4) [] [] []) (b + 407) (100 + w1).toNatClampNeg y5) [] [] []) (b + 408) (100 + w1).toNatClampNeg y6) [] [] [])) hu ?_
  show zx p l e _ s m _ below meth c g 11 0 0 _ _ 87 [(10, .int 0), (9, .int y6), (8, .int y5), (7, .int y4), (6, .int (100 + w1)), (0, .ref (b + 405)), (1, .int 5), (2, .int w1), (3, .int w2), (4, .int w3), (5, .int w4)] _
  refine z_iload B dX9_check_87 0 rfl ?_
  exact z_iret B hr (by decide) (by decide) dX9_check_89 ⟨y4, y5, y6, rfl, rfl⟩
set_option maxRecDepth 100000 in
set_option maxHeartbeats 4000000 in
theorem ci_X8_check_622 (l : Launch) (hlt : l.stackTraces = false) {g : gx_T} {σ : sx_T} {b : Nat} (hK : lay b σ) (w1 : Int32) (w2 : Int32) (w3 : Int32) (w4 : Int32) (q1_w1 : (0 : Int) ≤ w1.toInt) (q2_w1 : w1.toInt ≤ (19 : Int)) (q1_w2 : (0 : Int) ≤ w2.toInt) (q2_w2 : w2.toInt ≤ (17 : Int)) (q1_w3 : (0 : Int) ≤ w3.toInt) (q2_w3 : w3.toInt ≤ (99 : Int)) (q1_w4 : (100 : Int) ≤ w4.toInt) (q2_w4 : w4.toInt ≤ (2147483647 : Int)) (hR_0_0 : sx_R σ (b + 0) 0 = (some (b + 1))) (hR_1_5 : sx_R σ (b + 1) 5 = (some (b + 29))) : vx_Met l yX8_check (.code yX8_check cX8_check 13 (some .int) :: lw_g) { frames := 7, cells := 1, slots := 6, locals := 136 } (va_Pc [.ref (b + 0), .int 5, .int w1, .int w2, .int w3, .int w4] (zx_w g σ)) (va_Qi (S := sx_T) (fun _ _ => False) (zx_w g) (gx_Q g)) (vx_X (fun u : sx_T => ∃ z, u = wx_Z σ z) (fun E u t => E = "java/lang/IllegalArgumentException" ∧ zx_h g u t.heap) (gx_Q g)) 1 6 (gx_Q g) := by
  refine z_metX (by decide) (Nat.le_of_ble_eq_true rfl) (fun p e s m below meth c B hr hin hout => ?_)
  refine z_eqs (σ' := (ap b σ [] [] [])) rfl ?_
  show zx p l e _ s m _ below meth c g 13 0 0 _ _ 0 [(0, .ref (b + 0)), (1, .int 5), (2, .int w1), (3, .int w2), (4, .int w3), (5, .int w4)] []
  refine z_aload_n B dX8_check_0 rfl 0 rfl ?_
  refine z_iload_n B dX8_check_1 rfl 1 rfl ?_
  refine z_cVq (As := [.int 5]) (rest := []) B cw_X8_64 cx_9 dX8_check_2 (ci_X8_programAt_318 l (σ := (ap b σ [] [] [])) (b := b) (lyA hK) (rR_at 0 0 hR_0_0) (rR_at 1 5 hR_1_5)) (lKA (hk_K hK 0 rfl rfl)) rfl (by decide) rfl (Nat.le_of_ble_eq_true rfl) (by decide) (fun r u hu => ?_)
  refine z_eqs (σ' := (ap b σ [] [] [])) hu.2 ?_
  show zx p l e _ s m _ below meth c g 13 0 0 _ _ 5 [(0, .ref (b + 0)), (1, .int 5), (2, .int w1), (3, .int w2), (4, .int w3), (5, .int w4)] _
  refine z_setr (y := (some (b + 29))) hu.1 ?_
  refine z_astore (lv' := [(6, .ref (b + 29)), (0, .ref (b + 0)), (1, .int 5), (2, .int w1), (3, .int w2), (4, .int w3), (5, .int w4)]) B dX8_check_5 (by decide) rfl ?_
  refine z_aload B dX8_check_7 0 rfl ?_
  refine z_ifnull (r := (some (b + 29))) (tgt := 21) B dX8_check_9 (by decide) (fun h => nomatch h) (fun _ _ => ?_)
  refine z_iload_n B dX8_check_12 rfl 3 rfl ?_
  refine z_bipush (v := 20) B dX8_check_13 (by decide) ?_
  refine z_cSi (As := [.int w1, .int 20]) (rest := []) B cw_X8_68 dX8_check_15 (ci_X8_isBelow_64 l (σ := (ap b σ [] [] [])) (b := b) (lyA hK) w1 q1_w1 q2_w1) rfl (by decide) rfl (Nat.le_of_ble_eq_true rfl) (by decide) (fun r u hu => ?_)
  refine z_eqs (σ' := (ap b σ [] [] [])) hu.2 ?_
  show zx p l e _ s m _ below meth c g 13 0 0 _ _ 18 [(6, .ref (b + 29)), (0, .ref (b + 0)), (1, .int 5), (2, .int w1), (3, .int w2), (4, .int w3), (5, .int w4)] _
  refine z_seti (y := 1) hu.1 ?_
  refine z_if_ne (tgt := 31) B dX8_check_18 (by decide) (fun _ => ?_) (fun h => absurd h (by decide))
  refine z_iload_n B dX8_check_31 rfl 4 rfl ?_
  refine z_iload B dX8_check_32 5 rfl ?_
  refine z_iload B dX8_check_34 6 rfl ?_
  refine z_cSi (As := [.int w2, .int w3, .int w4]) (rest := []) B cw_X8_79 dX8_check_36 (ci_X8_isStep_97 l (σ := (ap b σ [] [] [])) (b := b) (lyA hK) w2 w3 w4 q1_w2 q2_w2 q1_w3 q2_w3 q1_w4 q2_w4) rfl (by decide) rfl (Nat.le_of_ble_eq_true rfl) (by decide) (fun r u hu => ?_)
  refine z_eqs (σ' := (ap b σ [] [] [])) hu.2 ?_
  show zx p l e _ s m _ below meth c g 13 0 0 _ _ 39 [(6, .ref (b + 29)), (0, .ref (b + 0)), (1, .int 5), (2, .int w1), (3, .int w2), (4, .int w3), (5, .int w4)] _
  refine z_seti (y := 0) hu.1 ?_
  refine z_if_ne (tgt := 52) B dX8_check_39 (by decide) (fun h => absurd (by decide) h) (fun _ => ?_)
  exact z_throw B hlt hout (cls := "java/lang/IllegalArgumentException") (text := "no such operation") tw_X8_83_85_87 dX8_check_42 dX8_check_45 dX8_check_46 dX8_check_48 dX8_check_51 (by decide) (by decide) (by decide) (by decide) (by decide) (by decide) (fun z => ⟨z, rfl⟩)
set_option maxRecDepth 100000 in
set_option maxHeartbeats 4000000 in
theorem ci_L_check_623 (l : Launch) (hlt : l.stackTraces = false) {g : gx_T} {σ : sx_T} {b : Nat} (hK : lay b σ) (w1 : Int32) (w2 : Int32) (w3 : Int32) (w4 : Int32) (q1_w1 : (0 : Int) ≤ w1.toInt) (q2_w1 : w1.toInt ≤ (19 : Int)) (q1_w2 : (0 : Int) ≤ w2.toInt) (q2_w2 : w2.toInt ≤ (17 : Int)) (q1_w3 : (0 : Int) ≤ w3.toInt) (q2_w3 : w3.toInt ≤ (99 : Int)) (q1_w4 : (100 : Int) ≤ w4.toInt) (q2_w4 : w4.toInt ≤ (2147483647 : Int)) (hR_0_0 : sx_R σ (b + 0) 0 = (some (b + 1))) (hR_1_5 : sx_R σ (b + 1) 5 = (some (b + 29))) : Met l yL_check (.codeWith yL_check cL_check 8 (some .int) [(0, 16, 19, 13), (0, 16, 23, 15)] :: lw_g) { frames := 8, cells := 1, slots := 6, locals := 168 } (va_Pc [.ref (b + 0), .int 5, .int w1, .int w2, .int w3, .int w4, .ref (b + 431)] (zx_w g σ)) (va_Qi (fun r u => r = 2 ∧ ∃ z, u = (ap b (wx_Z σ z) [] [] [])) (zx_w g) (gx_Q g)) 1 6 (gx_Q g) := by
  refine z_metW (by decide) (Nat.le_of_ble_eq_true rfl) (fun p e s m below meth c B hr htab => ?_)
  refine z_eqs (σ' := (ap b σ [] [] [])) rfl ?_
  show zx p l e _ s m _ below meth c g 8 0 0 _ _ 0 [(0, .ref (b + 0)), (1, .int 5), (2, .int w1), (3, .int w2), (4, .int w3), (5, .int w4), (6, .ref (b + 431))] []
  refine z_aload B dL_check_0 6 rfl ?_
  refine z_iconst (v := 0) B dL_check_2 (by decide) ?_
  refine z_aload_n B dL_check_3 rfl 0 rfl ?_
  refine z_iload_n B dL_check_4 rfl 1 rfl ?_
  refine z_iload_n B dL_check_5 rfl 2 rfl ?_
  refine z_iload_n B dL_check_6 rfl 3 rfl ?_
  refine z_iload B dL_check_7 4 rfl ?_
  refine z_iload B dL_check_9 5 rfl ?_
  refine z_cXi (As := [.int 5, .int w1, .int w2, .int w3, .int w4]) (rest := [.int 0, .ref (b + 431)]) B htab tc_check_11_IllegalArgumentException cw_L_17 cx_9 dL_check_11 (ci_X8_check_622 l hlt (σ := (ap b σ [] [] [])) (b := b) (lyA hK) w1 w2 w3 w4 q1_w1 q2_w1 q1_w2 q2_w2 q1_w3 q2_w3 q1_w4 q2_w4 (rR_at 0 0 hR_0_0) (rR_at 1 5 hR_1_5)) (lKA (hk_K hK 0 rfl rfl)) rfl (by decide) rfl (Nat.le_of_ble_eq_true rfl) (by decide) (fun z q => ?_)
  refine z_eqs (σ' := (ap b (wx_Z σ z) [] [] [])) rfl ?_
  show zx p l e _ s m _ below meth c g 8 _ _ _ _ 23 [(0, .ref (b + 0)), (1, .int 5), (2, .int w1), (3, .int w2), (4, .int w3), (5, .int w4), (6, .ref (b + 431))] _
  refine z_astore (lv' := [(7, .ref q), (0, .ref (b + 0)), (1, .int 5), (2, .int w1), (3, .int w2), (4, .int w3), (5, .int w4), (6, .ref (b + 431))]) B dL_check_23 (by decide) rfl ?_
  refine z_iconst (v := 2) B dL_check_25 (by decide) ?_
  exact z_iret B hr (by decide) (by decide) dL_check_26 ⟨rfl, _, rfl⟩
set_option maxRecDepth 100000 in
set_option maxHeartbeats 4000000 in
theorem ci_X9_check_624 (l : Launch) {g : gx_T} {σ : sx_T} {b : Nat} (hK : lay b σ) (w1 : Int32) (w2 : Int32) (w3 : Int32) (w4 : Int32) (q1_w1 : (0 : Int) ≤ w1.toInt) (q2_w1 : w1.toInt ≤ (19 : Int)) (q1_w2 : (0 : Int) ≤ w2.toInt) (q2_w2 : w2.toInt ≤ (17 : Int)) (q1_w3 : (0 : Int) ≤ w3.toInt) (q2_w3 : w3.toInt ≤ (99 : Int)) (q1_w4 : (100 : Int) ≤ w4.toInt) (q2_w4 : w4.toInt ≤ (2147483647 : Int))  : Met l yX9_check (.code yX9_check cX9_check 11 (some .int) :: lw_g) { frames := 2, cells := 0, slots := 0, locals := 44 } (va_Pc [.ref (b + 405), .int 5, .int w1, .int w2, .int w3, .int w4] (zx_w g σ)) (va_Qi (fun r u => r = 0 ∧ u = (ap b σ [(405, 0, 2)] [] [])) (zx_w g) (gx_Q g)) 0 0 (gx_Q g) := by
  refine z_met (by decide) (Nat.le_of_ble_eq_true rfl) (fun p e s m below meth c B hr hin => ?_)
  refine z_eqs (σ' := (ap b σ [] [] [])) rfl ?_
  show zx p l e _ s m _ below meth c g 11 0 0 _ _ 0 [(0, .ref (b + 405)), (1, .int 5), (2, .int w1), (3, .int w2), (4, .int w3), (5, .int w4)] []
  refine z_aload_n B dX9_check_0 rfl 0 rfl ?_
  refine z_iload_n B dX9_check_1 rfl 1 rfl ?_
  refine z_iload_n B dX9_check_2 rfl 2 rfl ?_
  refine z_cSi (As := [.int 5, .int w1]) (rest := [.ref (b + 405)]) B cw_X9_238 dX9_check_3 (ci_X9_isStep_332 l (σ := (ap b σ [] [] [])) (b := b) (lyA hK) w1 q1_w1 q2_w1) rfl (by decide) rfl (Nat.le_of_ble_eq_true rfl) (by decide) (fun r u hu => ?_)
  refine z_eqs (σ' := (ap b σ [] [] [])) hu.2 ?_
  show zx p l e _ s m _ below meth c g 11 0 0 _ _ 6 [(0, .ref (b + 405)), (1, .int 5), (2, .int w1), (3, .int w2), (4, .int w3), (5, .int w4)] _
  refine z_seti (y := 1) hu.1 ?_
  refine z_iload_n B dX9_check_6 rfl 3 rfl ?_
  refine z_iload B dX9_check_7 4 rfl ?_
  refine z_iload B dX9_check_9 5 rfl ?_
  refine z_cSi (As := [.int w2, .int w3, .int w4]) (rest := [.int 1, .ref (b + 405)]) B cw_X9_242 dX9_check_11 (ci_X9_isOperation_43 l (σ := (ap b σ [] [] [])) (b := b) (lyA hK) w2 w3 w4 q1_w2 q2_w2 q1_w3 q2_w3 q1_w4 q2_w4) rfl (by decide) rfl (Nat.le_of_ble_eq_true rfl) (by decide) (fun r u hu => ?_)
  refine z_eqs (σ' := (ap b σ [] [] [])) hu.2 ?_
  show zx p l e _ s m _ below meth c g 11 0 0 _ _ 14 [(0, .ref (b + 405)), (1, .int 5), (2, .int w1), (3, .int w2), (4, .int w3), (5, .int w4)] _
  refine z_seti (y := 0) hu.1 ?_
  refine z_cVi (As := [.int 1, .int 0]) (rest := []) B cw_X9_245 cx_10 dX9_check_14 (ci_X9_needs__71 l (σ := (ap b σ [] [] [])) (b := b) (lyA hK) ) (lKA (hk_K hK 405 rfl rfl)) rfl (by decide) rfl (Nat.le_of_ble_eq_true rfl) (by decide) (fun r u hu => ?_)
  refine z_eqs (σ' := (ap b σ [(405, 0, 2)] [] [])) (hu.2.trans ap_ap) ?_
  show zx p l e _ s m _ below meth c g 11 0 0 _ _ 17 [(0, .ref (b + 405)), (1, .int 5), (2, .int w1), (3, .int w2), (4, .int w3), (5, .int w4)] _
  refine z_seti (y := 0) hu.1 ?_
  refine z_if_ne (tgt := 22) B dX9_check_17 (by decide) (fun h => absurd (by decide) h) (fun _ => ?_)
  refine z_iconst (v := 0) B dX9_check_20 (by decide) ?_
  exact z_iret B hr (by decide) (by decide) dX9_check_21 ⟨rfl, rfl⟩
set_option maxRecDepth 100000 in
set_option maxHeartbeats 4000000 in
theorem ci_X8_check_625 (l : Launch) (hlt : l.stackTraces = false) {g : gx_T} {σ : sx_T} {b : Nat} (hK : lay b σ) (w1 : Int32) (w2 : Int32) (w3 : Int32) (w4 : Int32) (q1_w1 : (0 : Int) ≤ w1.toInt) (q2_w1 : w1.toInt ≤ (19 : Int)) (q1_w2 : (0 : Int) ≤ w2.toInt) (q2_w2 : w2.toInt ≤ (17 : Int)) (q1_w3 : (100 : Int) ≤ w3.toInt) (q2_w3 : w3.toInt ≤ (2147483647 : Int)) (hR_0_0 : sx_R σ (b + 0) 0 = (some (b + 1))) (hR_1_5 : sx_R σ (b + 1) 5 = (some (b + 29))) : vx_Met l yX8_check (.code yX8_check cX8_check 13 (some .int) :: lw_g) { frames := 7, cells := 1, slots := 6, locals := 136 } (va_Pc [.ref (b + 0), .int 5, .int w1, .int w2, .int w3, .int w4] (zx_w g σ)) (va_Qi (S := sx_T) (fun _ _ => False) (zx_w g) (gx_Q g)) (vx_X (fun u : sx_T => ∃ z, u = wx_Z σ z) (fun E u t => E = "java/lang/IllegalArgumentException" ∧ zx_h g u t.heap) (gx_Q g)) 1 6 (gx_Q g) := by
  refine z_metX (by decide) (Nat.le_of_ble_eq_true rfl) (fun p e s m below meth c B hr hin hout => ?_)
  refine z_eqs (σ' := (ap b σ [] [] [])) rfl ?_
  show zx p l e _ s m _ below meth c g 13 0 0 _ _ 0 [(0, .ref (b + 0)), (1, .int 5), (2, .int w1), (3, .int w2), (4, .int w3), (5, .int w4)] []
  refine z_aload_n B dX8_check_0 rfl 0 rfl ?_
  refine z_iload_n B dX8_check_1 rfl 1 rfl ?_
  refine z_cVq (As := [.int 5]) (rest := []) B cw_X8_64 cx_9 dX8_check_2 (ci_X8_programAt_318 l (σ := (ap b σ [] [] [])) (b := b) (lyA hK) (rR_at 0 0 hR_0_0) (rR_at 1 5 hR_1_5)) (lKA (hk_K hK 0 rfl rfl)) rfl (by decide) rfl (Nat.le_of_ble_eq_true rfl) (by decide) (fun r u hu => ?_)
  refine z_eqs (σ' := (ap b σ [] [] [])) hu.2 ?_
  show zx p l e _ s m _ below meth c g 13 0 0 _ _ 5 [(0, .ref (b + 0)), (1, .int 5), (2, .int w1), (3, .int w2), (4, .int w3), (5, .int w4)] _
  refine z_setr (y := (some (b + 29))) hu.1 ?_
  refine z_astore (lv' := [(6, .ref (b + 29)), (0, .ref (b + 0)), (1, .int 5), (2, .int w1), (3, .int w2), (4, .int w3), (5, .int w4)]) B dX8_check_5 (by decide) rfl ?_
  refine z_aload B dX8_check_7 0 rfl ?_
  refine z_ifnull (r := (some (b + 29))) (tgt := 21) B dX8_check_9 (by decide) (fun h => nomatch h) (fun _ _ => ?_)
  refine z_iload_n B dX8_check_12 rfl 3 rfl ?_
  refine z_bipush (v := 20) B dX8_check_13 (by decide) ?_
  refine z_cSi (As := [.int w1, .int 20]) (rest := []) B cw_X8_68 dX8_check_15 (ci_X8_isBelow_64 l (σ := (ap b σ [] [] [])) (b := b) (lyA hK) w1 q1_w1 q2_w1) rfl (by decide) rfl (Nat.le_of_ble_eq_true rfl) (by decide) (fun r u hu => ?_)
  refine z_eqs (σ' := (ap b σ [] [] [])) hu.2 ?_
  show zx p l e _ s m _ below meth c g 13 0 0 _ _ 18 [(6, .ref (b + 29)), (0, .ref (b + 0)), (1, .int 5), (2, .int w1), (3, .int w2), (4, .int w3), (5, .int w4)] _
  refine z_seti (y := 1) hu.1 ?_
  refine z_if_ne (tgt := 31) B dX8_check_18 (by decide) (fun _ => ?_) (fun h => absurd h (by decide))
  refine z_iload_n B dX8_check_31 rfl 4 rfl ?_
  refine z_iload B dX8_check_32 5 rfl ?_
  refine z_iload B dX8_check_34 6 rfl ?_
  refine z_cSi (As := [.int w2, .int w3, .int w4]) (rest := []) B cw_X8_79 dX8_check_36 (ci_X8_isStep_101 l (σ := (ap b σ [] [] [])) (b := b) (lyA hK) w2 w3 w4 q1_w2 q2_w2 q1_w3 q2_w3) rfl (by decide) rfl (Nat.le_of_ble_eq_true rfl) (by decide) (fun r u hu => ?_)
  refine z_eqs (σ' := (ap b σ [] [] [])) hu.2 ?_
  show zx p l e _ s m _ below meth c g 13 0 0 _ _ 39 [(6, .ref (b + 29)), (0, .ref (b + 0)), (1, .int 5), (2, .int w1), (3, .int w2), (4, .int w3), (5, .int w4)] _
  refine z_seti (y := 0) hu.1 ?_
  refine z_if_ne (tgt := 52) B dX8_check_39 (by decide) (fun h => absurd (by decide) h) (fun _ => ?_)
  exact z_throw B hlt hout (cls := "java/lang/IllegalArgumentException") (text := "no such operation") tw_X8_83_85_87 dX8_check_42 dX8_check_45 dX8_check_46 dX8_check_48 dX8_check_51 (by decide) (by decide) (by decide) (by decide) (by decide) (by decide) (fun z => ⟨z, rfl⟩)
set_option maxRecDepth 100000 in
set_option maxHeartbeats 4000000 in
theorem ci_L_check_626 (l : Launch) (hlt : l.stackTraces = false) {g : gx_T} {σ : sx_T} {b : Nat} (hK : lay b σ) (w1 : Int32) (w2 : Int32) (w3 : Int32) (w4 : Int32) (q1_w1 : (0 : Int) ≤ w1.toInt) (q2_w1 : w1.toInt ≤ (19 : Int)) (q1_w2 : (0 : Int) ≤ w2.toInt) (q2_w2 : w2.toInt ≤ (17 : Int)) (q1_w3 : (100 : Int) ≤ w3.toInt) (q2_w3 : w3.toInt ≤ (2147483647 : Int)) (hR_0_0 : sx_R σ (b + 0) 0 = (some (b + 1))) (hR_1_5 : sx_R σ (b + 1) 5 = (some (b + 29))) : Met l yL_check (.codeWith yL_check cL_check 8 (some .int) [(0, 16, 19, 13), (0, 16, 23, 15)] :: lw_g) { frames := 8, cells := 1, slots := 6, locals := 168 } (va_Pc [.ref (b + 0), .int 5, .int w1, .int w2, .int w3, .int w4, .ref (b + 431)] (zx_w g σ)) (va_Qi (fun r u => r = 2 ∧ ∃ z, u = (ap b (wx_Z σ z) [] [] [])) (zx_w g) (gx_Q g)) 1 6 (gx_Q g) := by
  refine z_metW (by decide) (Nat.le_of_ble_eq_true rfl) (fun p e s m below meth c B hr htab => ?_)
  refine z_eqs (σ' := (ap b σ [] [] [])) rfl ?_
  show zx p l e _ s m _ below meth c g 8 0 0 _ _ 0 [(0, .ref (b + 0)), (1, .int 5), (2, .int w1), (3, .int w2), (4, .int w3), (5, .int w4), (6, .ref (b + 431))] []
  refine z_aload B dL_check_0 6 rfl ?_
  refine z_iconst (v := 0) B dL_check_2 (by decide) ?_
  refine z_aload_n B dL_check_3 rfl 0 rfl ?_
  refine z_iload_n B dL_check_4 rfl 1 rfl ?_
  refine z_iload_n B dL_check_5 rfl 2 rfl ?_
  refine z_iload_n B dL_check_6 rfl 3 rfl ?_
  refine z_iload B dL_check_7 4 rfl ?_
  refine z_iload B dL_check_9 5 rfl ?_
  refine z_cXi (As := [.int 5, .int w1, .int w2, .int w3, .int w4]) (rest := [.int 0, .ref (b + 431)]) B htab tc_check_11_IllegalArgumentException cw_L_17 cx_9 dL_check_11 (ci_X8_check_625 l hlt (σ := (ap b σ [] [] [])) (b := b) (lyA hK) w1 w2 w3 w4 q1_w1 q2_w1 q1_w2 q2_w2 q1_w3 q2_w3 (rR_at 0 0 hR_0_0) (rR_at 1 5 hR_1_5)) (lKA (hk_K hK 0 rfl rfl)) rfl (by decide) rfl (Nat.le_of_ble_eq_true rfl) (by decide) (fun z q => ?_)
  refine z_eqs (σ' := (ap b (wx_Z σ z) [] [] [])) rfl ?_
  show zx p l e _ s m _ below meth c g 8 _ _ _ _ 23 [(0, .ref (b + 0)), (1, .int 5), (2, .int w1), (3, .int w2), (4, .int w3), (5, .int w4), (6, .ref (b + 431))] _
  refine z_astore (lv' := [(7, .ref q), (0, .ref (b + 0)), (1, .int 5), (2, .int w1), (3, .int w2), (4, .int w3), (5, .int w4), (6, .ref (b + 431))]) B dL_check_23 (by decide) rfl ?_
  refine z_iconst (v := 2) B dL_check_25 (by decide) ?_
  exact z_iret B hr (by decide) (by decide) dL_check_26 ⟨rfl, _, rfl⟩
set_option maxRecDepth 100000 in
set_option maxHeartbeats 4000000 in
theorem ci_X9_check_627 (l : Launch) {g : gx_T} {σ : sx_T} {b : Nat} (hK : lay b σ) (w1 : Int32) (w2 : Int32) (w3 : Int32) (w4 : Int32) (q1_w1 : (0 : Int) ≤ w1.toInt) (q2_w1 : w1.toInt ≤ (19 : Int)) (q1_w2 : (0 : Int) ≤ w2.toInt) (q2_w2 : w2.toInt ≤ (17 : Int)) (q1_w3 : (100 : Int) ≤ w3.toInt) (q2_w3 : w3.toInt ≤ (2147483647 : Int))  : Met l yX9_check (.code yX9_check cX9_check 11 (some .int) :: lw_g) { frames := 2, cells := 0, slots := 0, locals := 44 } (va_Pc [.ref (b + 405), .int 5, .int w1, .int w2, .int w3, .int w4] (zx_w g σ)) (va_Qi (fun r u => r = 0 ∧ u = (ap b σ [(405, 0, 2)] [] [])) (zx_w g) (gx_Q g)) 0 0 (gx_Q g) := by
  refine z_met (by decide) (Nat.le_of_ble_eq_true rfl) (fun p e s m below meth c B hr hin => ?_)
  refine z_eqs (σ' := (ap b σ [] [] [])) rfl ?_
  show zx p l e _ s m _ below meth c g 11 0 0 _ _ 0 [(0, .ref (b + 405)), (1, .int 5), (2, .int w1), (3, .int w2), (4, .int w3), (5, .int w4)] []
  refine z_aload_n B dX9_check_0 rfl 0 rfl ?_
  refine z_iload_n B dX9_check_1 rfl 1 rfl ?_
  refine z_iload_n B dX9_check_2 rfl 2 rfl ?_
  refine z_cSi (As := [.int 5, .int w1]) (rest := [.ref (b + 405)]) B cw_X9_238 dX9_check_3 (ci_X9_isStep_332 l (σ := (ap b σ [] [] [])) (b := b) (lyA hK) w1 q1_w1 q2_w1) rfl (by decide) rfl (Nat.le_of_ble_eq_true rfl) (by decide) (fun r u hu => ?_)
  refine z_eqs (σ' := (ap b σ [] [] [])) hu.2 ?_
  show zx p l e _ s m _ below meth c g 11 0 0 _ _ 6 [(0, .ref (b + 405)), (1, .int 5), (2, .int w1), (3, .int w2), (4, .int w3), (5, .int w4)] _
  refine z_seti (y := 1) hu.1 ?_
  refine z_iload_n B dX9_check_6 rfl 3 rfl ?_
  refine z_iload B dX9_check_7 4 rfl ?_
  refine z_iload B dX9_check_9 5 rfl ?_
  refine z_cSi (As := [.int w2, .int w3, .int w4]) (rest := [.int 1, .ref (b + 405)]) B cw_X9_242 dX9_check_11 (ci_X9_isOperation_45 l (σ := (ap b σ [] [] [])) (b := b) (lyA hK) w2 w3 w4 q1_w2 q2_w2 q1_w3 q2_w3) rfl (by decide) rfl (Nat.le_of_ble_eq_true rfl) (by decide) (fun r u hu => ?_)
  refine z_eqs (σ' := (ap b σ [] [] [])) hu.2 ?_
  show zx p l e _ s m _ below meth c g 11 0 0 _ _ 14 [(0, .ref (b + 405)), (1, .int 5), (2, .int w1), (3, .int w2), (4, .int w3), (5, .int w4)] _
  refine z_seti (y := 0) hu.1 ?_
  refine z_cVi (As := [.int 1, .int 0]) (rest := []) B cw_X9_245 cx_10 dX9_check_14 (ci_X9_needs__71 l (σ := (ap b σ [] [] [])) (b := b) (lyA hK) ) (lKA (hk_K hK 405 rfl rfl)) rfl (by decide) rfl (Nat.le_of_ble_eq_true rfl) (by decide) (fun r u hu => ?_)
  refine z_eqs (σ' := (ap b σ [(405, 0, 2)] [] [])) (hu.2.trans ap_ap) ?_
  show zx p l e _ s m _ below meth c g 11 0 0 _ _ 17 [(0, .ref (b + 405)), (1, .int 5), (2, .int w1), (3, .int w2), (4, .int w3), (5, .int w4)] _
  refine z_seti (y := 0) hu.1 ?_
  refine z_if_ne (tgt := 22) B dX9_check_17 (by decide) (fun h => absurd (by decide) h) (fun _ => ?_)
  refine z_iconst (v := 0) B dX9_check_20 (by decide) ?_
  exact z_iret B hr (by decide) (by decide) dX9_check_21 ⟨rfl, rfl⟩
set_option maxRecDepth 100000 in
set_option maxHeartbeats 4000000 in
theorem ci_X8_check_628 (l : Launch) (hlt : l.stackTraces = false) {g : gx_T} {σ : sx_T} {b : Nat} (hK : lay b σ) (w1 : Int32) (w2 : Int32) (w3 : Int32) (w4 : Int32) (q1_w1 : (0 : Int) ≤ w1.toInt) (q2_w1 : w1.toInt ≤ (19 : Int)) (q1_w2 : (18 : Int) ≤ w2.toInt) (q2_w2 : w2.toInt ≤ (2147483647 : Int)) (hR_0_0 : sx_R σ (b + 0) 0 = (some (b + 1))) (hR_1_5 : sx_R σ (b + 1) 5 = (some (b + 29))) : vx_Met l yX8_check (.code yX8_check cX8_check 13 (some .int) :: lw_g) { frames := 7, cells := 1, slots := 6, locals := 136 } (va_Pc [.ref (b + 0), .int 5, .int w1, .int w2, .int w3, .int w4] (zx_w g σ)) (va_Qi (S := sx_T) (fun _ _ => False) (zx_w g) (gx_Q g)) (vx_X (fun u : sx_T => ∃ z, u = wx_Z σ z) (fun E u t => E = "java/lang/IllegalArgumentException" ∧ zx_h g u t.heap) (gx_Q g)) 1 6 (gx_Q g) := by
  refine z_metX (by decide) (Nat.le_of_ble_eq_true rfl) (fun p e s m below meth c B hr hin hout => ?_)
  refine z_eqs (σ' := (ap b σ [] [] [])) rfl ?_
  show zx p l e _ s m _ below meth c g 13 0 0 _ _ 0 [(0, .ref (b + 0)), (1, .int 5), (2, .int w1), (3, .int w2), (4, .int w3), (5, .int w4)] []
  refine z_aload_n B dX8_check_0 rfl 0 rfl ?_
  refine z_iload_n B dX8_check_1 rfl 1 rfl ?_
  refine z_cVq (As := [.int 5]) (rest := []) B cw_X8_64 cx_9 dX8_check_2 (ci_X8_programAt_318 l (σ := (ap b σ [] [] [])) (b := b) (lyA hK) (rR_at 0 0 hR_0_0) (rR_at 1 5 hR_1_5)) (lKA (hk_K hK 0 rfl rfl)) rfl (by decide) rfl (Nat.le_of_ble_eq_true rfl) (by decide) (fun r u hu => ?_)
  refine z_eqs (σ' := (ap b σ [] [] [])) hu.2 ?_
  show zx p l e _ s m _ below meth c g 13 0 0 _ _ 5 [(0, .ref (b + 0)), (1, .int 5), (2, .int w1), (3, .int w2), (4, .int w3), (5, .int w4)] _
  refine z_setr (y := (some (b + 29))) hu.1 ?_
  refine z_astore (lv' := [(6, .ref (b + 29)), (0, .ref (b + 0)), (1, .int 5), (2, .int w1), (3, .int w2), (4, .int w3), (5, .int w4)]) B dX8_check_5 (by decide) rfl ?_
  refine z_aload B dX8_check_7 0 rfl ?_
  refine z_ifnull (r := (some (b + 29))) (tgt := 21) B dX8_check_9 (by decide) (fun h => nomatch h) (fun _ _ => ?_)
  refine z_iload_n B dX8_check_12 rfl 3 rfl ?_
  refine z_bipush (v := 20) B dX8_check_13 (by decide) ?_
  refine z_cSi (As := [.int w1, .int 20]) (rest := []) B cw_X8_68 dX8_check_15 (ci_X8_isBelow_64 l (σ := (ap b σ [] [] [])) (b := b) (lyA hK) w1 q1_w1 q2_w1) rfl (by decide) rfl (Nat.le_of_ble_eq_true rfl) (by decide) (fun r u hu => ?_)
  refine z_eqs (σ' := (ap b σ [] [] [])) hu.2 ?_
  show zx p l e _ s m _ below meth c g 13 0 0 _ _ 18 [(6, .ref (b + 29)), (0, .ref (b + 0)), (1, .int 5), (2, .int w1), (3, .int w2), (4, .int w3), (5, .int w4)] _
  refine z_seti (y := 1) hu.1 ?_
  refine z_if_ne (tgt := 31) B dX8_check_18 (by decide) (fun _ => ?_) (fun h => absurd h (by decide))
  refine z_iload_n B dX8_check_31 rfl 4 rfl ?_
  refine z_iload B dX8_check_32 5 rfl ?_
  refine z_iload B dX8_check_34 6 rfl ?_
  refine z_cSi (As := [.int w2, .int w3, .int w4]) (rest := []) B cw_X8_79 dX8_check_36 (ci_X8_isStep_106 l (σ := (ap b σ [] [] [])) (b := b) (lyA hK) w2 w3 w4 q1_w2 q2_w2) rfl (by decide) rfl (Nat.le_of_ble_eq_true rfl) (by decide) (fun r u hu => ?_)
  refine z_eqs (σ' := (ap b σ [] [] [])) hu.2 ?_
  show zx p l e _ s m _ below meth c g 13 0 0 _ _ 39 [(6, .ref (b + 29)), (0, .ref (b + 0)), (1, .int 5), (2, .int w1), (3, .int w2), (4, .int w3), (5, .int w4)] _
  refine z_seti (y := 0) hu.1 ?_
  refine z_if_ne (tgt := 52) B dX8_check_39 (by decide) (fun h => absurd (by decide) h) (fun _ => ?_)
  exact z_throw B hlt hout (cls := "java/lang/IllegalArgumentException") (text := "no such operation") tw_X8_83_85_87 dX8_check_42 dX8_check_45 dX8_check_46 dX8_check_48 dX8_check_51 (by decide) (by decide) (by decide) (by decide) (by decide) (by decide) (fun z => ⟨z, rfl⟩)
set_option maxRecDepth 100000 in
set_option maxHeartbeats 4000000 in
theorem ci_L_check_629 (l : Launch) (hlt : l.stackTraces = false) {g : gx_T} {σ : sx_T} {b : Nat} (hK : lay b σ) (w1 : Int32) (w2 : Int32) (w3 : Int32) (w4 : Int32) (q1_w1 : (0 : Int) ≤ w1.toInt) (q2_w1 : w1.toInt ≤ (19 : Int)) (q1_w2 : (18 : Int) ≤ w2.toInt) (q2_w2 : w2.toInt ≤ (2147483647 : Int)) (hR_0_0 : sx_R σ (b + 0) 0 = (some (b + 1))) (hR_1_5 : sx_R σ (b + 1) 5 = (some (b + 29))) : Met l yL_check (.codeWith yL_check cL_check 8 (some .int) [(0, 16, 19, 13), (0, 16, 23, 15)] :: lw_g) { frames := 8, cells := 1, slots := 6, locals := 168 } (va_Pc [.ref (b + 0), .int 5, .int w1, .int w2, .int w3, .int w4, .ref (b + 431)] (zx_w g σ)) (va_Qi (fun r u => r = 2 ∧ ∃ z, u = (ap b (wx_Z σ z) [] [] [])) (zx_w g) (gx_Q g)) 1 6 (gx_Q g) := by
  refine z_metW (by decide) (Nat.le_of_ble_eq_true rfl) (fun p e s m below meth c B hr htab => ?_)
  refine z_eqs (σ' := (ap b σ [] [] [])) rfl ?_
  show zx p l e _ s m _ below meth c g 8 0 0 _ _ 0 [(0, .ref (b + 0)), (1, .int 5), (2, .int w1), (3, .int w2), (4, .int w3), (5, .int w4), (6, .ref (b + 431))] []
  refine z_aload B dL_check_0 6 rfl ?_
  refine z_iconst (v := 0) B dL_check_2 (by decide) ?_
  refine z_aload_n B dL_check_3 rfl 0 rfl ?_
  refine z_iload_n B dL_check_4 rfl 1 rfl ?_
  refine z_iload_n B dL_check_5 rfl 2 rfl ?_
  refine z_iload_n B dL_check_6 rfl 3 rfl ?_
  refine z_iload B dL_check_7 4 rfl ?_
  refine z_iload B dL_check_9 5 rfl ?_
  refine z_cXi (As := [.int 5, .int w1, .int w2, .int w3, .int w4]) (rest := [.int 0, .ref (b + 431)]) B htab tc_check_11_IllegalArgumentException cw_L_17 cx_9 dL_check_11 (ci_X8_check_628 l hlt (σ := (ap b σ [] [] [])) (b := b) (lyA hK) w1 w2 w3 w4 q1_w1 q2_w1 q1_w2 q2_w2 (rR_at 0 0 hR_0_0) (rR_at 1 5 hR_1_5)) (lKA (hk_K hK 0 rfl rfl)) rfl (by decide) rfl (Nat.le_of_ble_eq_true rfl) (by decide) (fun z q => ?_)
  refine z_eqs (σ' := (ap b (wx_Z σ z) [] [] [])) rfl ?_
  show zx p l e _ s m _ below meth c g 8 _ _ _ _ 23 [(0, .ref (b + 0)), (1, .int 5), (2, .int w1), (3, .int w2), (4, .int w3), (5, .int w4), (6, .ref (b + 431))] _
  refine z_astore (lv' := [(7, .ref q), (0, .ref (b + 0)), (1, .int 5), (2, .int w1), (3, .int w2), (4, .int w3), (5, .int w4), (6, .ref (b + 431))]) B dL_check_23 (by decide) rfl ?_
  refine z_iconst (v := 2) B dL_check_25 (by decide) ?_
  exact z_iret B hr (by decide) (by decide) dL_check_26 ⟨rfl, _, rfl⟩
set_option maxRecDepth 100000 in
set_option maxHeartbeats 4000000 in
theorem ci_X9_check_630 (l : Launch) {g : gx_T} {σ : sx_T} {b : Nat} (hK : lay b σ) (w1 : Int32) (w2 : Int32) (w3 : Int32) (w4 : Int32) (q1_w1 : (0 : Int) ≤ w1.toInt) (q2_w1 : w1.toInt ≤ (19 : Int)) (q1_w2 : (18 : Int) ≤ w2.toInt) (q2_w2 : w2.toInt ≤ (2147483647 : Int))  : Met l yX9_check (.code yX9_check cX9_check 11 (some .int) :: lw_g) { frames := 2, cells := 0, slots := 0, locals := 44 } (va_Pc [.ref (b + 405), .int 5, .int w1, .int w2, .int w3, .int w4] (zx_w g σ)) (va_Qi (fun r u => r = 0 ∧ u = (ap b σ [(405, 0, 2)] [] [])) (zx_w g) (gx_Q g)) 0 0 (gx_Q g) := by
  refine z_met (by decide) (Nat.le_of_ble_eq_true rfl) (fun p e s m below meth c B hr hin => ?_)
  refine z_eqs (σ' := (ap b σ [] [] [])) rfl ?_
  show zx p l e _ s m _ below meth c g 11 0 0 _ _ 0 [(0, .ref (b + 405)), (1, .int 5), (2, .int w1), (3, .int w2), (4, .int w3), (5, .int w4)] []
  refine z_aload_n B dX9_check_0 rfl 0 rfl ?_
  refine z_iload_n B dX9_check_1 rfl 1 rfl ?_
  refine z_iload_n B dX9_check_2 rfl 2 rfl ?_
  refine z_cSi (As := [.int 5, .int w1]) (rest := [.ref (b + 405)]) B cw_X9_238 dX9_check_3 (ci_X9_isStep_332 l (σ := (ap b σ [] [] [])) (b := b) (lyA hK) w1 q1_w1 q2_w1) rfl (by decide) rfl (Nat.le_of_ble_eq_true rfl) (by decide) (fun r u hu => ?_)
  refine z_eqs (σ' := (ap b σ [] [] [])) hu.2 ?_
  show zx p l e _ s m _ below meth c g 11 0 0 _ _ 6 [(0, .ref (b + 405)), (1, .int 5), (2, .int w1), (3, .int w2), (4, .int w3), (5, .int w4)] _
  refine z_seti (y := 1) hu.1 ?_
  refine z_iload_n B dX9_check_6 rfl 3 rfl ?_
  refine z_iload B dX9_check_7 4 rfl ?_
  refine z_iload B dX9_check_9 5 rfl ?_
  refine z_cSi (As := [.int w2, .int w3, .int w4]) (rest := [.int 1, .ref (b + 405)]) B cw_X9_242 dX9_check_11 (ci_X9_isOperation_48 l (σ := (ap b σ [] [] [])) (b := b) (lyA hK) w2 w3 w4 q1_w2 q2_w2) rfl (by decide) rfl (Nat.le_of_ble_eq_true rfl) (by decide) (fun r u hu => ?_)
  refine z_eqs (σ' := (ap b σ [] [] [])) hu.2 ?_
  show zx p l e _ s m _ below meth c g 11 0 0 _ _ 14 [(0, .ref (b + 405)), (1, .int 5), (2, .int w1), (3, .int w2), (4, .int w3), (5, .int w4)] _
  refine z_seti (y := 0) hu.1 ?_
  refine z_cVi (As := [.int 1, .int 0]) (rest := []) B cw_X9_245 cx_10 dX9_check_14 (ci_X9_needs__71 l (σ := (ap b σ [] [] [])) (b := b) (lyA hK) ) (lKA (hk_K hK 405 rfl rfl)) rfl (by decide) rfl (Nat.le_of_ble_eq_true rfl) (by decide) (fun r u hu => ?_)
  refine z_eqs (σ' := (ap b σ [(405, 0, 2)] [] [])) (hu.2.trans ap_ap) ?_
  show zx p l e _ s m _ below meth c g 11 0 0 _ _ 17 [(0, .ref (b + 405)), (1, .int 5), (2, .int w1), (3, .int w2), (4, .int w3), (5, .int w4)] _
  refine z_seti (y := 0) hu.1 ?_
  refine z_if_ne (tgt := 22) B dX9_check_17 (by decide) (fun h => absurd (by decide) h) (fun _ => ?_)
  refine z_iconst (v := 0) B dX9_check_20 (by decide) ?_
  exact z_iret B hr (by decide) (by decide) dX9_check_21 ⟨rfl, rfl⟩
set_option maxRecDepth 100000 in
set_option maxHeartbeats 4000000 in
theorem ci_X8_check_631 (l : Launch) (hlt : l.stackTraces = false) {g : gx_T} {σ : sx_T} {b : Nat} (hK : lay b σ) (w1 : Int32) (w2 : Int32) (w3 : Int32) (w4 : Int32) (q1_w1 : (20 : Int) ≤ w1.toInt) (q2_w1 : w1.toInt ≤ (2147483647 : Int)) (hR_0_0 : sx_R σ (b + 0) 0 = (some (b + 1))) (hR_1_5 : sx_R σ (b + 1) 5 = (some (b + 29))) : vx_Met l yX8_check (.code yX8_check cX8_check 13 (some .int) :: lw_g) { frames := 7, cells := 1, slots := 6, locals := 136 } (va_Pc [.ref (b + 0), .int 5, .int w1, .int w2, .int w3, .int w4] (zx_w g σ)) (va_Qi (S := sx_T) (fun _ _ => False) (zx_w g) (gx_Q g)) (vx_X (fun u : sx_T => ∃ z, u = wx_Z σ z) (fun E u t => E = "java/lang/IndexOutOfBoundsException" ∧ zx_h g u t.heap) (gx_Q g)) 1 6 (gx_Q g) := by
  refine z_metX (by decide) (Nat.le_of_ble_eq_true rfl) (fun p e s m below meth c B hr hin hout => ?_)
  refine z_eqs (σ' := (ap b σ [] [] [])) rfl ?_
  show zx p l e _ s m _ below meth c g 13 0 0 _ _ 0 [(0, .ref (b + 0)), (1, .int 5), (2, .int w1), (3, .int w2), (4, .int w3), (5, .int w4)] []
  refine z_aload_n B dX8_check_0 rfl 0 rfl ?_
  refine z_iload_n B dX8_check_1 rfl 1 rfl ?_
  refine z_cVq (As := [.int 5]) (rest := []) B cw_X8_64 cx_9 dX8_check_2 (ci_X8_programAt_318 l (σ := (ap b σ [] [] [])) (b := b) (lyA hK) (rR_at 0 0 hR_0_0) (rR_at 1 5 hR_1_5)) (lKA (hk_K hK 0 rfl rfl)) rfl (by decide) rfl (Nat.le_of_ble_eq_true rfl) (by decide) (fun r u hu => ?_)
  refine z_eqs (σ' := (ap b σ [] [] [])) hu.2 ?_
  show zx p l e _ s m _ below meth c g 13 0 0 _ _ 5 [(0, .ref (b + 0)), (1, .int 5), (2, .int w1), (3, .int w2), (4, .int w3), (5, .int w4)] _
  refine z_setr (y := (some (b + 29))) hu.1 ?_
  refine z_astore (lv' := [(6, .ref (b + 29)), (0, .ref (b + 0)), (1, .int 5), (2, .int w1), (3, .int w2), (4, .int w3), (5, .int w4)]) B dX8_check_5 (by decide) rfl ?_
  refine z_aload B dX8_check_7 0 rfl ?_
  refine z_ifnull (r := (some (b + 29))) (tgt := 21) B dX8_check_9 (by decide) (fun h => nomatch h) (fun _ _ => ?_)
  refine z_iload_n B dX8_check_12 rfl 3 rfl ?_
  refine z_bipush (v := 20) B dX8_check_13 (by decide) ?_
  refine z_cSi (As := [.int w1, .int 20]) (rest := []) B cw_X8_68 dX8_check_15 (ci_X8_isBelow_110 l (σ := (ap b σ [] [] [])) (b := b) (lyA hK) w1 q1_w1 q2_w1) rfl (by decide) rfl (Nat.le_of_ble_eq_true rfl) (by decide) (fun r u hu => ?_)
  refine z_eqs (σ' := (ap b σ [] [] [])) hu.2 ?_
  show zx p l e _ s m _ below meth c g 13 0 0 _ _ 18 [(6, .ref (b + 29)), (0, .ref (b + 0)), (1, .int 5), (2, .int w1), (3, .int w2), (4, .int w3), (5, .int w4)] _
  refine z_seti (y := 0) hu.1 ?_
  refine z_if_ne (tgt := 31) B dX8_check_18 (by decide) (fun h => absurd (by decide) h) (fun _ => ?_)
  exact z_throw B hlt hout (cls := "java/lang/IndexOutOfBoundsException") (text := "no such step") tw_X8_72_74_76 dX8_check_21 dX8_check_24 dX8_check_25 dX8_check_27 dX8_check_30 (by decide) (by decide) (by decide) (by decide) (by decide) (by decide) (fun z => ⟨z, rfl⟩)
set_option maxRecDepth 100000 in
set_option maxHeartbeats 4000000 in
theorem ci_L_check_632 (l : Launch) (hlt : l.stackTraces = false) {g : gx_T} {σ : sx_T} {b : Nat} (hK : lay b σ) (w1 : Int32) (w2 : Int32) (w3 : Int32) (w4 : Int32) (q1_w1 : (20 : Int) ≤ w1.toInt) (q2_w1 : w1.toInt ≤ (2147483647 : Int)) (hR_0_0 : sx_R σ (b + 0) 0 = (some (b + 1))) (hR_1_5 : sx_R σ (b + 1) 5 = (some (b + 29))) : Met l yL_check (.codeWith yL_check cL_check 8 (some .int) [(0, 16, 19, 13), (0, 16, 23, 15)] :: lw_g) { frames := 8, cells := 1, slots := 6, locals := 168 } (va_Pc [.ref (b + 0), .int 5, .int w1, .int w2, .int w3, .int w4, .ref (b + 431)] (zx_w g σ)) (va_Qi (fun r u => r = 1 ∧ ∃ z, u = (ap b (wx_Z σ z) [] [] [])) (zx_w g) (gx_Q g)) 1 6 (gx_Q g) := by
  refine z_metW (by decide) (Nat.le_of_ble_eq_true rfl) (fun p e s m below meth c B hr htab => ?_)
  refine z_eqs (σ' := (ap b σ [] [] [])) rfl ?_
  show zx p l e _ s m _ below meth c g 8 0 0 _ _ 0 [(0, .ref (b + 0)), (1, .int 5), (2, .int w1), (3, .int w2), (4, .int w3), (5, .int w4), (6, .ref (b + 431))] []
  refine z_aload B dL_check_0 6 rfl ?_
  refine z_iconst (v := 0) B dL_check_2 (by decide) ?_
  refine z_aload_n B dL_check_3 rfl 0 rfl ?_
  refine z_iload_n B dL_check_4 rfl 1 rfl ?_
  refine z_iload_n B dL_check_5 rfl 2 rfl ?_
  refine z_iload_n B dL_check_6 rfl 3 rfl ?_
  refine z_iload B dL_check_7 4 rfl ?_
  refine z_iload B dL_check_9 5 rfl ?_
  refine z_cXi (As := [.int 5, .int w1, .int w2, .int w3, .int w4]) (rest := [.int 0, .ref (b + 431)]) B htab tc_check_11_IndexOutOfBoundsException cw_L_17 cx_9 dL_check_11 (ci_X8_check_631 l hlt (σ := (ap b σ [] [] [])) (b := b) (lyA hK) w1 w2 w3 w4 q1_w1 q2_w1 (rR_at 0 0 hR_0_0) (rR_at 1 5 hR_1_5)) (lKA (hk_K hK 0 rfl rfl)) rfl (by decide) rfl (Nat.le_of_ble_eq_true rfl) (by decide) (fun z q => ?_)
  refine z_eqs (σ' := (ap b (wx_Z σ z) [] [] [])) rfl ?_
  show zx p l e _ s m _ below meth c g 8 _ _ _ _ 19 [(0, .ref (b + 0)), (1, .int 5), (2, .int w1), (3, .int w2), (4, .int w3), (5, .int w4), (6, .ref (b + 431))] _
  refine z_astore (lv' := [(7, .ref q), (0, .ref (b + 0)), (1, .int 5), (2, .int w1), (3, .int w2), (4, .int w3), (5, .int w4), (6, .ref (b + 431))]) B dL_check_19 (by decide) rfl ?_
  refine z_iconst (v := 1) B dL_check_21 (by decide) ?_
  exact z_iret B hr (by decide) (by decide) dL_check_22 ⟨rfl, _, rfl⟩
set_option maxRecDepth 100000 in
set_option maxHeartbeats 4000000 in
theorem ci_X9_check_633 (l : Launch) {g : gx_T} {σ : sx_T} {b : Nat} (hK : lay b σ) (w1 : Int32) (w2 : Int32) (w3 : Int32) (w4 : Int32) (q1_w1 : (20 : Int) ≤ w1.toInt) (q2_w1 : w1.toInt ≤ (2147483647 : Int)) (q1_w2 : (-2147483648 : Int) ≤ w2.toInt) (q2_w2 : w2.toInt ≤ (-1 : Int))  : Met l yX9_check (.code yX9_check cX9_check 11 (some .int) :: lw_g) { frames := 2, cells := 0, slots := 0, locals := 44 } (va_Pc [.ref (b + 405), .int 5, .int w1, .int w2, .int w3, .int w4] (zx_w g σ)) (va_Qi (fun r u => r = 0 ∧ u = (ap b σ [(405, 0, 1)] [] [])) (zx_w g) (gx_Q g)) 0 0 (gx_Q g) := by
  refine z_met (by decide) (Nat.le_of_ble_eq_true rfl) (fun p e s m below meth c B hr hin => ?_)
  refine z_eqs (σ' := (ap b σ [] [] [])) rfl ?_
  show zx p l e _ s m _ below meth c g 11 0 0 _ _ 0 [(0, .ref (b + 405)), (1, .int 5), (2, .int w1), (3, .int w2), (4, .int w3), (5, .int w4)] []
  refine z_aload_n B dX9_check_0 rfl 0 rfl ?_
  refine z_iload_n B dX9_check_1 rfl 1 rfl ?_
  refine z_iload_n B dX9_check_2 rfl 2 rfl ?_
  refine z_cSi (As := [.int 5, .int w1]) (rest := [.ref (b + 405)]) B cw_X9_238 dX9_check_3 (ci_X9_isStep_359 l (σ := (ap b σ [] [] [])) (b := b) (lyA hK) w1 q1_w1 q2_w1) rfl (by decide) rfl (Nat.le_of_ble_eq_true rfl) (by decide) (fun r u hu => ?_)
  refine z_eqs (σ' := (ap b σ [] [] [])) hu.2 ?_
  show zx p l e _ s m _ below meth c g 11 0 0 _ _ 6 [(0, .ref (b + 405)), (1, .int 5), (2, .int w1), (3, .int w2), (4, .int w3), (5, .int w4)] _
  refine z_seti (y := 0) hu.1 ?_
  refine z_iload_n B dX9_check_6 rfl 3 rfl ?_
  refine z_iload B dX9_check_7 4 rfl ?_
  refine z_iload B dX9_check_9 5 rfl ?_
  refine z_cSi (As := [.int w2, .int w3, .int w4]) (rest := [.int 0, .ref (b + 405)]) B cw_X9_242 dX9_check_11 (ci_X9_isOperation_28 l (σ := (ap b σ [] [] [])) (b := b) (lyA hK) w2 w3 w4 q1_w2 q2_w2) rfl (by decide) rfl (Nat.le_of_ble_eq_true rfl) (by decide) (fun r u hu => ?_)
  refine z_eqs (σ' := (ap b σ [] [] [])) hu.2 ?_
  show zx p l e _ s m _ below meth c g 11 0 0 _ _ 14 [(0, .ref (b + 405)), (1, .int 5), (2, .int w1), (3, .int w2), (4, .int w3), (5, .int w4)] _
  refine z_seti (y := 0) hu.1 ?_
  refine z_cVi (As := [.int 0, .int 0]) (rest := []) B cw_X9_245 cx_10 dX9_check_14 (ci_X9_needs__29 l (σ := (ap b σ [] [] [])) (b := b) (lyA hK) ) (lKA (hk_K hK 405 rfl rfl)) rfl (by decide) rfl (Nat.le_of_ble_eq_true rfl) (by decide) (fun r u hu => ?_)
  refine z_eqs (σ' := (ap b σ [(405, 0, 1)] [] [])) (hu.2.trans ap_ap) ?_
  show zx p l e _ s m _ below meth c g 11 0 0 _ _ 17 [(0, .ref (b + 405)), (1, .int 5), (2, .int w1), (3, .int w2), (4, .int w3), (5, .int w4)] _
  refine z_seti (y := 0) hu.1 ?_
  refine z_if_ne (tgt := 22) B dX9_check_17 (by decide) (fun h => absurd (by decide) h) (fun _ => ?_)
  refine z_iconst (v := 0) B dX9_check_20 (by decide) ?_
  exact z_iret B hr (by decide) (by decide) dX9_check_21 ⟨rfl, rfl⟩
set_option maxRecDepth 100000 in
set_option maxHeartbeats 4000000 in
theorem ci_X9_check_634 (l : Launch) {g : gx_T} {σ : sx_T} {b : Nat} (hK : lay b σ) (w1 : Int32) (w2 : Int32) (w3 : Int32) (w4 : Int32) (q1_w1 : (20 : Int) ≤ w1.toInt) (q2_w1 : w1.toInt ≤ (2147483647 : Int)) (q1_w2 : (0 : Int) ≤ w2.toInt) (q2_w2 : w2.toInt ≤ (17 : Int)) (q1_w3 : (-2147483648 : Int) ≤ w3.toInt) (q2_w3 : w3.toInt ≤ (-1 : Int))  : Met l yX9_check (.code yX9_check cX9_check 11 (some .int) :: lw_g) { frames := 2, cells := 0, slots := 0, locals := 44 } (va_Pc [.ref (b + 405), .int 5, .int w1, .int w2, .int w3, .int w4] (zx_w g σ)) (va_Qi (fun r u => r = 0 ∧ u = (ap b σ [(405, 0, 1)] [] [])) (zx_w g) (gx_Q g)) 0 0 (gx_Q g) := by
  refine z_met (by decide) (Nat.le_of_ble_eq_true rfl) (fun p e s m below meth c B hr hin => ?_)
  refine z_eqs (σ' := (ap b σ [] [] [])) rfl ?_
  show zx p l e _ s m _ below meth c g 11 0 0 _ _ 0 [(0, .ref (b + 405)), (1, .int 5), (2, .int w1), (3, .int w2), (4, .int w3), (5, .int w4)] []
  refine z_aload_n B dX9_check_0 rfl 0 rfl ?_
  refine z_iload_n B dX9_check_1 rfl 1 rfl ?_
  refine z_iload_n B dX9_check_2 rfl 2 rfl ?_
  refine z_cSi (As := [.int 5, .int w1]) (rest := [.ref (b + 405)]) B cw_X9_238 dX9_check_3 (ci_X9_isStep_359 l (σ := (ap b σ [] [] [])) (b := b) (lyA hK) w1 q1_w1 q2_w1) rfl (by decide) rfl (Nat.le_of_ble_eq_true rfl) (by decide) (fun r u hu => ?_)
  refine z_eqs (σ' := (ap b σ [] [] [])) hu.2 ?_
  show zx p l e _ s m _ below meth c g 11 0 0 _ _ 6 [(0, .ref (b + 405)), (1, .int 5), (2, .int w1), (3, .int w2), (4, .int w3), (5, .int w4)] _
  refine z_seti (y := 0) hu.1 ?_
  refine z_iload_n B dX9_check_6 rfl 3 rfl ?_
  refine z_iload B dX9_check_7 4 rfl ?_
  refine z_iload B dX9_check_9 5 rfl ?_
  refine z_cSi (As := [.int w2, .int w3, .int w4]) (rest := [.int 0, .ref (b + 405)]) B cw_X9_242 dX9_check_11 (ci_X9_isOperation_34 l (σ := (ap b σ [] [] [])) (b := b) (lyA hK) w2 w3 w4 q1_w2 q2_w2 q1_w3 q2_w3) rfl (by decide) rfl (Nat.le_of_ble_eq_true rfl) (by decide) (fun r u hu => ?_)
  refine z_eqs (σ' := (ap b σ [] [] [])) hu.2 ?_
  show zx p l e _ s m _ below meth c g 11 0 0 _ _ 14 [(0, .ref (b + 405)), (1, .int 5), (2, .int w1), (3, .int w2), (4, .int w3), (5, .int w4)] _
  refine z_seti (y := 0) hu.1 ?_
  refine z_cVi (As := [.int 0, .int 0]) (rest := []) B cw_X9_245 cx_10 dX9_check_14 (ci_X9_needs__29 l (σ := (ap b σ [] [] [])) (b := b) (lyA hK) ) (lKA (hk_K hK 405 rfl rfl)) rfl (by decide) rfl (Nat.le_of_ble_eq_true rfl) (by decide) (fun r u hu => ?_)
  refine z_eqs (σ' := (ap b σ [(405, 0, 1)] [] [])) (hu.2.trans ap_ap) ?_
  show zx p l e _ s m _ below meth c g 11 0 0 _ _ 17 [(0, .ref (b + 405)), (1, .int 5), (2, .int w1), (3, .int w2), (4, .int w3), (5, .int w4)] _
  refine z_seti (y := 0) hu.1 ?_
  refine z_if_ne (tgt := 22) B dX9_check_17 (by decide) (fun h => absurd (by decide) h) (fun _ => ?_)
  refine z_iconst (v := 0) B dX9_check_20 (by decide) ?_
  exact z_iret B hr (by decide) (by decide) dX9_check_21 ⟨rfl, rfl⟩
set_option maxRecDepth 100000 in
set_option maxHeartbeats 4000000 in
theorem ci_X9_check_635 (l : Launch) {g : gx_T} {σ : sx_T} {b : Nat} (hK : lay b σ) (w1 : Int32) (w2 : Int32) (w3 : Int32) (w4 : Int32) (q1_w1 : (20 : Int) ≤ w1.toInt) (q2_w1 : w1.toInt ≤ (2147483647 : Int)) (q1_w2 : (0 : Int) ≤ w2.toInt) (q2_w2 : w2.toInt ≤ (17 : Int)) (q1_w3 : (0 : Int) ≤ w3.toInt) (q2_w3 : w3.toInt ≤ (99 : Int)) (q1_w4 : (-2147483648 : Int) ≤ w4.toInt) (q2_w4 : w4.toInt ≤ (-1 : Int))  : Met l yX9_check (.code yX9_check cX9_check 11 (some .int) :: lw_g) { frames := 2, cells := 0, slots := 0, locals := 44 } (va_Pc [.ref (b + 405), .int 5, .int w1, .int w2, .int w3, .int w4] (zx_w g σ)) (va_Qi (fun r u => r = 0 ∧ u = (ap b σ [(405, 0, 1)] [] [])) (zx_w g) (gx_Q g)) 0 0 (gx_Q g) := by
  refine z_met (by decide) (Nat.le_of_ble_eq_true rfl) (fun p e s m below meth c B hr hin => ?_)
  refine z_eqs (σ' := (ap b σ [] [] [])) rfl ?_
  show zx p l e _ s m _ below meth c g 11 0 0 _ _ 0 [(0, .ref (b + 405)), (1, .int 5), (2, .int w1), (3, .int w2), (4, .int w3), (5, .int w4)] []
  refine z_aload_n B dX9_check_0 rfl 0 rfl ?_
  refine z_iload_n B dX9_check_1 rfl 1 rfl ?_
  refine z_iload_n B dX9_check_2 rfl 2 rfl ?_
  refine z_cSi (As := [.int 5, .int w1]) (rest := [.ref (b + 405)]) B cw_X9_238 dX9_check_3 (ci_X9_isStep_359 l (σ := (ap b σ [] [] [])) (b := b) (lyA hK) w1 q1_w1 q2_w1) rfl (by decide) rfl (Nat.le_of_ble_eq_true rfl) (by decide) (fun r u hu => ?_)
  refine z_eqs (σ' := (ap b σ [] [] [])) hu.2 ?_
  show zx p l e _ s m _ below meth c g 11 0 0 _ _ 6 [(0, .ref (b + 405)), (1, .int 5), (2, .int w1), (3, .int w2), (4, .int w3), (5, .int w4)] _
  refine z_seti (y := 0) hu.1 ?_
  refine z_iload_n B dX9_check_6 rfl 3 rfl ?_
  refine z_iload B dX9_check_7 4 rfl ?_
  refine z_iload B dX9_check_9 5 rfl ?_
  refine z_cSi (As := [.int w2, .int w3, .int w4]) (rest := [.int 0, .ref (b + 405)]) B cw_X9_242 dX9_check_11 (ci_X9_isOperation_37 l (σ := (ap b σ [] [] [])) (b := b) (lyA hK) w2 w3 w4 q1_w2 q2_w2 q1_w3 q2_w3 q1_w4 q2_w4) rfl (by decide) rfl (Nat.le_of_ble_eq_true rfl) (by decide) (fun r u hu => ?_)
  refine z_eqs (σ' := (ap b σ [] [] [])) hu.2 ?_
  show zx p l e _ s m _ below meth c g 11 0 0 _ _ 14 [(0, .ref (b + 405)), (1, .int 5), (2, .int w1), (3, .int w2), (4, .int w3), (5, .int w4)] _
  refine z_seti (y := 0) hu.1 ?_
  refine z_cVi (As := [.int 0, .int 0]) (rest := []) B cw_X9_245 cx_10 dX9_check_14 (ci_X9_needs__29 l (σ := (ap b σ [] [] [])) (b := b) (lyA hK) ) (lKA (hk_K hK 405 rfl rfl)) rfl (by decide) rfl (Nat.le_of_ble_eq_true rfl) (by decide) (fun r u hu => ?_)
  refine z_eqs (σ' := (ap b σ [(405, 0, 1)] [] [])) (hu.2.trans ap_ap) ?_
  show zx p l e _ s m _ below meth c g 11 0 0 _ _ 17 [(0, .ref (b + 405)), (1, .int 5), (2, .int w1), (3, .int w2), (4, .int w3), (5, .int w4)] _
  refine z_seti (y := 0) hu.1 ?_
  refine z_if_ne (tgt := 22) B dX9_check_17 (by decide) (fun h => absurd (by decide) h) (fun _ => ?_)
  refine z_iconst (v := 0) B dX9_check_20 (by decide) ?_
  exact z_iret B hr (by decide) (by decide) dX9_check_21 ⟨rfl, rfl⟩
set_option maxRecDepth 100000 in
set_option maxHeartbeats 4000000 in
theorem ci_X9_check_636 (l : Launch) {g : gx_T} {σ : sx_T} {b : Nat} (hK : lay b σ) (w1 : Int32) (w2 : Int32) (w3 : Int32) (w4 : Int32) (q1_w1 : (20 : Int) ≤ w1.toInt) (q2_w1 : w1.toInt ≤ (2147483647 : Int)) (q1_w2 : (0 : Int) ≤ w2.toInt) (q2_w2 : w2.toInt ≤ (17 : Int)) (q1_w3 : (0 : Int) ≤ w3.toInt) (q2_w3 : w3.toInt ≤ (99 : Int)) (q1_w4 : (0 : Int) ≤ w4.toInt) (q2_w4 : w4.toInt ≤ (99 : Int))  : Met l yX9_check (.code yX9_check cX9_check 11 (some .int) :: lw_g) { frames := 2, cells := 0, slots := 0, locals := 44 } (va_Pc [.ref (b + 405), .int 5, .int w1, .int w2, .int w3, .int w4] (zx_w g σ)) (va_Qi (fun r u => r = 0 ∧ u = (ap b σ [(405, 0, 1)] [] [])) (zx_w g) (gx_Q g)) 0 0 (gx_Q g) := by
  refine z_met (by decide) (Nat.le_of_ble_eq_true rfl) (fun p e s m below meth c B hr hin => ?_)
  refine z_eqs (σ' := (ap b σ [] [] [])) rfl ?_
  show zx p l e _ s m _ below meth c g 11 0 0 _ _ 0 [(0, .ref (b + 405)), (1, .int 5), (2, .int w1), (3, .int w2), (4, .int w3), (5, .int w4)] []
  refine z_aload_n B dX9_check_0 rfl 0 rfl ?_
  refine z_iload_n B dX9_check_1 rfl 1 rfl ?_
  refine z_iload_n B dX9_check_2 rfl 2 rfl ?_
  refine z_cSi (As := [.int 5, .int w1]) (rest := [.ref (b + 405)]) B cw_X9_238 dX9_check_3 (ci_X9_isStep_359 l (σ := (ap b σ [] [] [])) (b := b) (lyA hK) w1 q1_w1 q2_w1) rfl (by decide) rfl (Nat.le_of_ble_eq_true rfl) (by decide) (fun r u hu => ?_)
  refine z_eqs (σ' := (ap b σ [] [] [])) hu.2 ?_
  show zx p l e _ s m _ below meth c g 11 0 0 _ _ 6 [(0, .ref (b + 405)), (1, .int 5), (2, .int w1), (3, .int w2), (4, .int w3), (5, .int w4)] _
  refine z_seti (y := 0) hu.1 ?_
  refine z_iload_n B dX9_check_6 rfl 3 rfl ?_
  refine z_iload B dX9_check_7 4 rfl ?_
  refine z_iload B dX9_check_9 5 rfl ?_
  refine z_cSi (As := [.int w2, .int w3, .int w4]) (rest := [.int 0, .ref (b + 405)]) B cw_X9_242 dX9_check_11 (ci_X9_isOperation_39 l (σ := (ap b σ [] [] [])) (b := b) (lyA hK) w2 w3 w4 q1_w2 q2_w2 q1_w3 q2_w3 q1_w4 q2_w4) rfl (by decide) rfl (Nat.le_of_ble_eq_true rfl) (by decide) (fun r u hu => ?_)
  refine z_eqs (σ' := (ap b σ [] [] [])) hu.2 ?_
  show zx p l e _ s m _ below meth c g 11 0 0 _ _ 14 [(0, .ref (b + 405)), (1, .int 5), (2, .int w1), (3, .int w2), (4, .int w3), (5, .int w4)] _
  refine z_seti (y := 1) hu.1 ?_
  refine z_cVi (As := [.int 0, .int 1]) (rest := []) B cw_X9_245 cx_10 dX9_check_14 (ci_X9_needs__40 l (σ := (ap b σ [] [] [])) (b := b) (lyA hK) ) (lKA (hk_K hK 405 rfl rfl)) rfl (by decide) rfl (Nat.le_of_ble_eq_true rfl) (by decide) (fun r u hu => ?_)
  refine z_eqs (σ' := (ap b σ [(405, 0, 1)] [] [])) (hu.2.trans ap_ap) ?_
  show zx p l e _ s m _ below meth c g 11 0 0 _ _ 17 [(0, .ref (b + 405)), (1, .int 5), (2, .int w1), (3, .int w2), (4, .int w3), (5, .int w4)] _
  refine z_seti (y := 0) hu.1 ?_
  refine z_if_ne (tgt := 22) B dX9_check_17 (by decide) (fun h => absurd (by decide) h) (fun _ => ?_)
  refine z_iconst (v := 0) B dX9_check_20 (by decide) ?_
  exact z_iret B hr (by decide) (by decide) dX9_check_21 ⟨rfl, rfl⟩
set_option maxRecDepth 100000 in
set_option maxHeartbeats 4000000 in
theorem ci_X9_check_637 (l : Launch) {g : gx_T} {σ : sx_T} {b : Nat} (hK : lay b σ) (w1 : Int32) (w2 : Int32) (w3 : Int32) (w4 : Int32) (q1_w1 : (20 : Int) ≤ w1.toInt) (q2_w1 : w1.toInt ≤ (2147483647 : Int)) (q1_w2 : (0 : Int) ≤ w2.toInt) (q2_w2 : w2.toInt ≤ (17 : Int)) (q1_w3 : (0 : Int) ≤ w3.toInt) (q2_w3 : w3.toInt ≤ (99 : Int)) (q1_w4 : (100 : Int) ≤ w4.toInt) (q2_w4 : w4.toInt ≤ (2147483647 : Int))  : Met l yX9_check (.code yX9_check cX9_check 11 (some .int) :: lw_g) { frames := 2, cells := 0, slots := 0, locals := 44 } (va_Pc [.ref (b + 405), .int 5, .int w1, .int w2, .int w3, .int w4] (zx_w g σ)) (va_Qi (fun r u => r = 0 ∧ u = (ap b σ [(405, 0, 1)] [] [])) (zx_w g) (gx_Q g)) 0 0 (gx_Q g) := by
  refine z_met (by decide) (Nat.le_of_ble_eq_true rfl) (fun p e s m below meth c B hr hin => ?_)
  refine z_eqs (σ' := (ap b σ [] [] [])) rfl ?_
  show zx p l e _ s m _ below meth c g 11 0 0 _ _ 0 [(0, .ref (b + 405)), (1, .int 5), (2, .int w1), (3, .int w2), (4, .int w3), (5, .int w4)] []
  refine z_aload_n B dX9_check_0 rfl 0 rfl ?_
  refine z_iload_n B dX9_check_1 rfl 1 rfl ?_
  refine z_iload_n B dX9_check_2 rfl 2 rfl ?_
  refine z_cSi (As := [.int 5, .int w1]) (rest := [.ref (b + 405)]) B cw_X9_238 dX9_check_3 (ci_X9_isStep_359 l (σ := (ap b σ [] [] [])) (b := b) (lyA hK) w1 q1_w1 q2_w1) rfl (by decide) rfl (Nat.le_of_ble_eq_true rfl) (by decide) (fun r u hu => ?_)
  refine z_eqs (σ' := (ap b σ [] [] [])) hu.2 ?_
  show zx p l e _ s m _ below meth c g 11 0 0 _ _ 6 [(0, .ref (b + 405)), (1, .int 5), (2, .int w1), (3, .int w2), (4, .int w3), (5, .int w4)] _
  refine z_seti (y := 0) hu.1 ?_
  refine z_iload_n B dX9_check_6 rfl 3 rfl ?_
  refine z_iload B dX9_check_7 4 rfl ?_
  refine z_iload B dX9_check_9 5 rfl ?_
  refine z_cSi (As := [.int w2, .int w3, .int w4]) (rest := [.int 0, .ref (b + 405)]) B cw_X9_242 dX9_check_11 (ci_X9_isOperation_43 l (σ := (ap b σ [] [] [])) (b := b) (lyA hK) w2 w3 w4 q1_w2 q2_w2 q1_w3 q2_w3 q1_w4 q2_w4) rfl (by decide) rfl (Nat.le_of_ble_eq_true rfl) (by decide) (fun r u hu => ?_)
  refine z_eqs (σ' := (ap b σ [] [] [])) hu.2 ?_
  show zx p l e _ s m _ below meth c g 11 0 0 _ _ 14 [(0, .ref (b + 405)), (1, .int 5), (2, .int w1), (3, .int w2), (4, .int w3), (5, .int w4)] _
  refine z_seti (y := 0) hu.1 ?_
  refine z_cVi (As := [.int 0, .int 0]) (rest := []) B cw_X9_245 cx_10 dX9_check_14 (ci_X9_needs__29 l (σ := (ap b σ [] [] [])) (b := b) (lyA hK) ) (lKA (hk_K hK 405 rfl rfl)) rfl (by decide) rfl (Nat.le_of_ble_eq_true rfl) (by decide) (fun r u hu => ?_)
  refine z_eqs (σ' := (ap b σ [(405, 0, 1)] [] [])) (hu.2.trans ap_ap) ?_
  show zx p l e _ s m _ below meth c g 11 0 0 _ _ 17 [(0, .ref (b + 405)), (1, .int 5), (2, .int w1), (3, .int w2), (4, .int w3), (5, .int w4)] _
  refine z_seti (y := 0) hu.1 ?_
  refine z_if_ne (tgt := 22) B dX9_check_17 (by decide) (fun h => absurd (by decide) h) (fun _ => ?_)
  refine z_iconst (v := 0) B dX9_check_20 (by decide) ?_
  exact z_iret B hr (by decide) (by decide) dX9_check_21 ⟨rfl, rfl⟩
set_option maxRecDepth 100000 in
set_option maxHeartbeats 4000000 in
theorem ci_X9_check_638 (l : Launch) {g : gx_T} {σ : sx_T} {b : Nat} (hK : lay b σ) (w1 : Int32) (w2 : Int32) (w3 : Int32) (w4 : Int32) (q1_w1 : (20 : Int) ≤ w1.toInt) (q2_w1 : w1.toInt ≤ (2147483647 : Int)) (q1_w2 : (0 : Int) ≤ w2.toInt) (q2_w2 : w2.toInt ≤ (17 : Int)) (q1_w3 : (100 : Int) ≤ w3.toInt) (q2_w3 : w3.toInt ≤ (2147483647 : Int))  : Met l yX9_check (.code yX9_check cX9_check 11 (some .int) :: lw_g) { frames := 2, cells := 0, slots := 0, locals := 44 } (va_Pc [.ref (b + 405), .int 5, .int w1, .int w2, .int w3, .int w4] (zx_w g σ)) (va_Qi (fun r u => r = 0 ∧ u = (ap b σ [(405, 0, 1)] [] [])) (zx_w g) (gx_Q g)) 0 0 (gx_Q g) := by
  refine z_met (by decide) (Nat.le_of_ble_eq_true rfl) (fun p e s m below meth c B hr hin => ?_)
  refine z_eqs (σ' := (ap b σ [] [] [])) rfl ?_
  show zx p l e _ s m _ below meth c g 11 0 0 _ _ 0 [(0, .ref (b + 405)), (1, .int 5), (2, .int w1), (3, .int w2), (4, .int w3), (5, .int w4)] []
  refine z_aload_n B dX9_check_0 rfl 0 rfl ?_
  refine z_iload_n B dX9_check_1 rfl 1 rfl ?_
  refine z_iload_n B dX9_check_2 rfl 2 rfl ?_
  refine z_cSi (As := [.int 5, .int w1]) (rest := [.ref (b + 405)]) B cw_X9_238 dX9_check_3 (ci_X9_isStep_359 l (σ := (ap b σ [] [] [])) (b := b) (lyA hK) w1 q1_w1 q2_w1) rfl (by decide) rfl (Nat.le_of_ble_eq_true rfl) (by decide) (fun r u hu => ?_)
  refine z_eqs (σ' := (ap b σ [] [] [])) hu.2 ?_
  show zx p l e _ s m _ below meth c g 11 0 0 _ _ 6 [(0, .ref (b + 405)), (1, .int 5), (2, .int w1), (3, .int w2), (4, .int w3), (5, .int w4)] _
  refine z_seti (y := 0) hu.1 ?_
  refine z_iload_n B dX9_check_6 rfl 3 rfl ?_
  refine z_iload B dX9_check_7 4 rfl ?_
  refine z_iload B dX9_check_9 5 rfl ?_
  refine z_cSi (As := [.int w2, .int w3, .int w4]) (rest := [.int 0, .ref (b + 405)]) B cw_X9_242 dX9_check_11 (ci_X9_isOperation_45 l (σ := (ap b σ [] [] [])) (b := b) (lyA hK) w2 w3 w4 q1_w2 q2_w2 q1_w3 q2_w3) rfl (by decide) rfl (Nat.le_of_ble_eq_true rfl) (by decide) (fun r u hu => ?_)
  refine z_eqs (σ' := (ap b σ [] [] [])) hu.2 ?_
  show zx p l e _ s m _ below meth c g 11 0 0 _ _ 14 [(0, .ref (b + 405)), (1, .int 5), (2, .int w1), (3, .int w2), (4, .int w3), (5, .int w4)] _
  refine z_seti (y := 0) hu.1 ?_
  refine z_cVi (As := [.int 0, .int 0]) (rest := []) B cw_X9_245 cx_10 dX9_check_14 (ci_X9_needs__29 l (σ := (ap b σ [] [] [])) (b := b) (lyA hK) ) (lKA (hk_K hK 405 rfl rfl)) rfl (by decide) rfl (Nat.le_of_ble_eq_true rfl) (by decide) (fun r u hu => ?_)
  refine z_eqs (σ' := (ap b σ [(405, 0, 1)] [] [])) (hu.2.trans ap_ap) ?_
  show zx p l e _ s m _ below meth c g 11 0 0 _ _ 17 [(0, .ref (b + 405)), (1, .int 5), (2, .int w1), (3, .int w2), (4, .int w3), (5, .int w4)] _
  refine z_seti (y := 0) hu.1 ?_
  refine z_if_ne (tgt := 22) B dX9_check_17 (by decide) (fun h => absurd (by decide) h) (fun _ => ?_)
  refine z_iconst (v := 0) B dX9_check_20 (by decide) ?_
  exact z_iret B hr (by decide) (by decide) dX9_check_21 ⟨rfl, rfl⟩
set_option maxRecDepth 100000 in
set_option maxHeartbeats 4000000 in
theorem ci_X9_check_639 (l : Launch) {g : gx_T} {σ : sx_T} {b : Nat} (hK : lay b σ) (w1 : Int32) (w2 : Int32) (w3 : Int32) (w4 : Int32) (q1_w1 : (20 : Int) ≤ w1.toInt) (q2_w1 : w1.toInt ≤ (2147483647 : Int)) (q1_w2 : (18 : Int) ≤ w2.toInt) (q2_w2 : w2.toInt ≤ (2147483647 : Int))  : Met l yX9_check (.code yX9_check cX9_check 11 (some .int) :: lw_g) { frames := 2, cells := 0, slots := 0, locals := 44 } (va_Pc [.ref (b + 405), .int 5, .int w1, .int w2, .int w3, .int w4] (zx_w g σ)) (va_Qi (fun r u => r = 0 ∧ u = (ap b σ [(405, 0, 1)] [] [])) (zx_w g) (gx_Q g)) 0 0 (gx_Q g) := by
  refine z_met (by decide) (Nat.le_of_ble_eq_true rfl) (fun p e s m below meth c B hr hin => ?_)
  refine z_eqs (σ' := (ap b σ [] [] [])) rfl ?_
  show zx p l e _ s m _ below meth c g 11 0 0 _ _ 0 [(0, .ref (b + 405)), (1, .int 5), (2, .int w1), (3, .int w2), (4, .int w3), (5, .int w4)] []
  refine z_aload_n B dX9_check_0 rfl 0 rfl ?_
  refine z_iload_n B dX9_check_1 rfl 1 rfl ?_
  refine z_iload_n B dX9_check_2 rfl 2 rfl ?_
  refine z_cSi (As := [.int 5, .int w1]) (rest := [.ref (b + 405)]) B cw_X9_238 dX9_check_3 (ci_X9_isStep_359 l (σ := (ap b σ [] [] [])) (b := b) (lyA hK) w1 q1_w1 q2_w1) rfl (by decide) rfl (Nat.le_of_ble_eq_true rfl) (by decide) (fun r u hu => ?_)
  refine z_eqs (σ' := (ap b σ [] [] [])) hu.2 ?_
  show zx p l e _ s m _ below meth c g 11 0 0 _ _ 6 [(0, .ref (b + 405)), (1, .int 5), (2, .int w1), (3, .int w2), (4, .int w3), (5, .int w4)] _
  refine z_seti (y := 0) hu.1 ?_
  refine z_iload_n B dX9_check_6 rfl 3 rfl ?_
  refine z_iload B dX9_check_7 4 rfl ?_
  refine z_iload B dX9_check_9 5 rfl ?_
  refine z_cSi (As := [.int w2, .int w3, .int w4]) (rest := [.int 0, .ref (b + 405)]) B cw_X9_242 dX9_check_11 (ci_X9_isOperation_48 l (σ := (ap b σ [] [] [])) (b := b) (lyA hK) w2 w3 w4 q1_w2 q2_w2) rfl (by decide) rfl (Nat.le_of_ble_eq_true rfl) (by decide) (fun r u hu => ?_)
  refine z_eqs (σ' := (ap b σ [] [] [])) hu.2 ?_
  show zx p l e _ s m _ below meth c g 11 0 0 _ _ 14 [(0, .ref (b + 405)), (1, .int 5), (2, .int w1), (3, .int w2), (4, .int w3), (5, .int w4)] _
  refine z_seti (y := 0) hu.1 ?_
  refine z_cVi (As := [.int 0, .int 0]) (rest := []) B cw_X9_245 cx_10 dX9_check_14 (ci_X9_needs__29 l (σ := (ap b σ [] [] [])) (b := b) (lyA hK) ) (lKA (hk_K hK 405 rfl rfl)) rfl (by decide) rfl (Nat.le_of_ble_eq_true rfl) (by decide) (fun r u hu => ?_)
  refine z_eqs (σ' := (ap b σ [(405, 0, 1)] [] [])) (hu.2.trans ap_ap) ?_
  show zx p l e _ s m _ below meth c g 11 0 0 _ _ 17 [(0, .ref (b + 405)), (1, .int 5), (2, .int w1), (3, .int w2), (4, .int w3), (5, .int w4)] _
  refine z_seti (y := 0) hu.1 ?_
  refine z_if_ne (tgt := 22) B dX9_check_17 (by decide) (fun h => absurd (by decide) h) (fun _ => ?_)
  refine z_iconst (v := 0) B dX9_check_20 (by decide) ?_
  exact z_iret B hr (by decide) (by decide) dX9_check_21 ⟨rfl, rfl⟩
set_option maxRecDepth 100000 in
set_option maxHeartbeats 4000000 in
theorem ci_X8_check_640 (l : Launch) (hlt : l.stackTraces = false) {g : gx_T} {σ : sx_T} {b : Nat} (hK : lay b σ) (w1 : Int32) (w2 : Int32) (w3 : Int32) (w4 : Int32) (w5 : Int32) (q1_w1 : (6 : Int) ≤ w1.toInt) (q2_w1 : w1.toInt ≤ (2147483647 : Int)) (hR_0_0 : sx_R σ (b + 0) 0 = (some (b + 1))) : vx_Met l yX8_check (.code yX8_check cX8_check 13 (some .int) :: lw_g) { frames := 7, cells := 1, slots := 6, locals := 136 } (va_Pc [.ref (b + 0), .int w1, .int w2, .int w3, .int w4, .int w5] (zx_w g σ)) (va_Qi (S := sx_T) (fun _ _ => False) (zx_w g) (gx_Q g)) (vx_X (fun u : sx_T => ∃ z, u = wx_Z σ z) (fun E u t => E = "java/lang/IndexOutOfBoundsException" ∧ zx_h g u t.heap) (gx_Q g)) 1 6 (gx_Q g) := by
  refine z_metX (by decide) (Nat.le_of_ble_eq_true rfl) (fun p e s m below meth c B hr hin hout => ?_)
  refine z_eqs (σ' := (ap b σ [] [] [])) rfl ?_
  show zx p l e _ s m _ below meth c g 13 0 0 _ _ 0 [(0, .ref (b + 0)), (1, .int w1), (2, .int w2), (3, .int w3), (4, .int w4), (5, .int w5)] []
  refine z_aload_n B dX8_check_0 rfl 0 rfl ?_
  refine z_iload_n B dX8_check_1 rfl 1 rfl ?_
  refine z_cVq (As := [.int w1]) (rest := []) B cw_X8_64 cx_9 dX8_check_2 (ci_X8_programAt_367 l (σ := (ap b σ [] [] [])) (b := b) (lyA hK) w1 q1_w1 q2_w1 (rR_at 0 0 hR_0_0)) (lKA (hk_K hK 0 rfl rfl)) rfl (by decide) rfl (Nat.le_of_ble_eq_true rfl) (by decide) (fun r u hu => ?_)
  refine z_eqs (σ' := (ap b σ [] [] [])) hu.2 ?_
  show zx p l e _ s m _ below meth c g 13 0 0 _ _ 5 [(0, .ref (b + 0)), (1, .int w1), (2, .int w2), (3, .int w3), (4, .int w4), (5, .int w5)] _
  refine z_setr (y := none) hu.1 ?_
  refine z_qstore (r := none) (lv' := [(6, .null), (0, .ref (b + 0)), (1, .int w1), (2, .int w2), (3, .int w3), (4, .int w4), (5, .int w5)]) B dX8_check_5 (by decide) rfl ?_
  refine z_qload (r := none) B dX8_check_7 0 rfl ?_
  refine z_ifnull (r := none) (tgt := 21) B dX8_check_9 (by decide) (fun _ => ?_) (fun a h => nomatch h)
  exact z_throw B hlt hout (cls := "java/lang/IndexOutOfBoundsException") (text := "no such step") tw_X8_72_74_76 dX8_check_21 dX8_check_24 dX8_check_25 dX8_check_27 dX8_check_30 (by decide) (by decide) (by decide) (by decide) (by decide) (by decide) (fun z => ⟨z, rfl⟩)
set_option maxRecDepth 100000 in
set_option maxHeartbeats 4000000 in
theorem ci_L_check_641 (l : Launch) (hlt : l.stackTraces = false) {g : gx_T} {σ : sx_T} {b : Nat} (hK : lay b σ) (w1 : Int32) (w2 : Int32) (w3 : Int32) (w4 : Int32) (w5 : Int32) (q1_w1 : (6 : Int) ≤ w1.toInt) (q2_w1 : w1.toInt ≤ (2147483647 : Int)) (hR_0_0 : sx_R σ (b + 0) 0 = (some (b + 1))) : Met l yL_check (.codeWith yL_check cL_check 8 (some .int) [(0, 16, 19, 13), (0, 16, 23, 15)] :: lw_g) { frames := 8, cells := 1, slots := 6, locals := 168 } (va_Pc [.ref (b + 0), .int w1, .int w2, .int w3, .int w4, .int w5, .ref (b + 431)] (zx_w g σ)) (va_Qi (fun r u => r = 1 ∧ ∃ z, u = (ap b (wx_Z σ z) [] [] [])) (zx_w g) (gx_Q g)) 1 6 (gx_Q g) := by
  refine z_metW (by decide) (Nat.le_of_ble_eq_true rfl) (fun p e s m below meth c B hr htab => ?_)
  refine z_eqs (σ' := (ap b σ [] [] [])) rfl ?_
  show zx p l e _ s m _ below meth c g 8 0 0 _ _ 0 [(0, .ref (b + 0)), (1, .int w1), (2, .int w2), (3, .int w3), (4, .int w4), (5, .int w5), (6, .ref (b + 431))] []
  refine z_aload B dL_check_0 6 rfl ?_
  refine z_iconst (v := 0) B dL_check_2 (by decide) ?_
  refine z_aload_n B dL_check_3 rfl 0 rfl ?_
  refine z_iload_n B dL_check_4 rfl 1 rfl ?_
  refine z_iload_n B dL_check_5 rfl 2 rfl ?_
  refine z_iload_n B dL_check_6 rfl 3 rfl ?_
  refine z_iload B dL_check_7 4 rfl ?_
  refine z_iload B dL_check_9 5 rfl ?_
  refine z_cXi (As := [.int w1, .int w2, .int w3, .int w4, .int w5]) (rest := [.int 0, .ref (b + 431)]) B htab tc_check_11_IndexOutOfBoundsException cw_L_17 cx_9 dL_check_11 (ci_X8_check_640 l hlt (σ := (ap b σ [] [] [])) (b := b) (lyA hK) w1 w2 w3 w4 w5 q1_w1 q2_w1 (rR_at 0 0 hR_0_0)) (lKA (hk_K hK 0 rfl rfl)) rfl (by decide) rfl (Nat.le_of_ble_eq_true rfl) (by decide) (fun z q => ?_)
  refine z_eqs (σ' := (ap b (wx_Z σ z) [] [] [])) rfl ?_
  show zx p l e _ s m _ below meth c g 8 _ _ _ _ 19 [(0, .ref (b + 0)), (1, .int w1), (2, .int w2), (3, .int w3), (4, .int w4), (5, .int w5), (6, .ref (b + 431))] _
  refine z_astore (lv' := [(7, .ref q), (0, .ref (b + 0)), (1, .int w1), (2, .int w2), (3, .int w3), (4, .int w4), (5, .int w5), (6, .ref (b + 431))]) B dL_check_19 (by decide) rfl ?_
  refine z_iconst (v := 1) B dL_check_21 (by decide) ?_
  exact z_iret B hr (by decide) (by decide) dL_check_22 ⟨rfl, _, rfl⟩
set_option maxRecDepth 100000 in
set_option maxHeartbeats 4000000 in
theorem ci_X9_check_642 (l : Launch) {g : gx_T} {σ : sx_T} {b : Nat} (hK : lay b σ) (w1 : Int32) (w2 : Int32) (w3 : Int32) (w4 : Int32) (w5 : Int32) (q1_w1 : (6 : Int) ≤ w1.toInt) (q2_w1 : w1.toInt ≤ (2147483647 : Int)) (q1_w3 : (-2147483648 : Int) ≤ w3.toInt) (q2_w3 : w3.toInt ≤ (-1 : Int))  : Met l yX9_check (.code yX9_check cX9_check 11 (some .int) :: lw_g) { frames := 2, cells := 0, slots := 0, locals := 44 } (va_Pc [.ref (b + 405), .int w1, .int w2, .int w3, .int w4, .int w5] (zx_w g σ)) (va_Qi (fun r u => r = 0 ∧ u = (ap b σ [(405, 0, 1)] [] [])) (zx_w g) (gx_Q g)) 0 0 (gx_Q g) := by
  refine z_met (by decide) (Nat.le_of_ble_eq_true rfl) (fun p e s m below meth c B hr hin => ?_)
  refine z_eqs (σ' := (ap b σ [] [] [])) rfl ?_
  show zx p l e _ s m _ below meth c g 11 0 0 _ _ 0 [(0, .ref (b + 405)), (1, .int w1), (2, .int w2), (3, .int w3), (4, .int w4), (5, .int w5)] []
  refine z_aload_n B dX9_check_0 rfl 0 rfl ?_
  refine z_iload_n B dX9_check_1 rfl 1 rfl ?_
  refine z_iload_n B dX9_check_2 rfl 2 rfl ?_
  refine z_cSi (As := [.int w1, .int w2]) (rest := [.ref (b + 405)]) B cw_X9_238 dX9_check_3 (ci_X9_isStep_371 l (σ := (ap b σ [] [] [])) (b := b) (lyA hK) w1 w2 q1_w1 q2_w1) rfl (by decide) rfl (Nat.le_of_ble_eq_true rfl) (by decide) (fun r u hu => ?_)
  refine z_eqs (σ' := (ap b σ [] [] [])) hu.2 ?_
  show zx p l e _ s m _ below meth c g 11 0 0 _ _ 6 [(0, .ref (b + 405)), (1, .int w1), (2, .int w2), (3, .int w3), (4, .int w4), (5, .int w5)] _
  refine z_seti (y := 0) hu.1 ?_
  refine z_iload_n B dX9_check_6 rfl 3 rfl ?_
  refine z_iload B dX9_check_7 4 rfl ?_
  refine z_iload B dX9_check_9 5 rfl ?_
  refine z_cSi (As := [.int w3, .int w4, .int w5]) (rest := [.int 0, .ref (b + 405)]) B cw_X9_242 dX9_check_11 (ci_X9_isOperation_28 l (σ := (ap b σ [] [] [])) (b := b) (lyA hK) w3 w4 w5 q1_w3 q2_w3) rfl (by decide) rfl (Nat.le_of_ble_eq_true rfl) (by decide) (fun r u hu => ?_)
  refine z_eqs (σ' := (ap b σ [] [] [])) hu.2 ?_
  show zx p l e _ s m _ below meth c g 11 0 0 _ _ 14 [(0, .ref (b + 405)), (1, .int w1), (2, .int w2), (3, .int w3), (4, .int w4), (5, .int w5)] _
  refine z_seti (y := 0) hu.1 ?_
  refine z_cVi (As := [.int 0, .int 0]) (rest := []) B cw_X9_245 cx_10 dX9_check_14 (ci_X9_needs__29 l (σ := (ap b σ [] [] [])) (b := b) (lyA hK) ) (lKA (hk_K hK 405 rfl rfl)) rfl (by decide) rfl (Nat.le_of_ble_eq_true rfl) (by decide) (fun r u hu => ?_)
  refine z_eqs (σ' := (ap b σ [(405, 0, 1)] [] [])) (hu.2.trans ap_ap) ?_
  show zx p l e _ s m _ below meth c g 11 0 0 _ _ 17 [(0, .ref (b + 405)), (1, .int w1), (2, .int w2), (3, .int w3), (4, .int w4), (5, .int w5)] _
  refine z_seti (y := 0) hu.1 ?_
  refine z_if_ne (tgt := 22) B dX9_check_17 (by decide) (fun h => absurd (by decide) h) (fun _ => ?_)
  refine z_iconst (v := 0) B dX9_check_20 (by decide) ?_
  exact z_iret B hr (by decide) (by decide) dX9_check_21 ⟨rfl, rfl⟩
set_option maxRecDepth 100000 in
set_option maxHeartbeats 4000000 in
theorem ci_X9_check_643 (l : Launch) {g : gx_T} {σ : sx_T} {b : Nat} (hK : lay b σ) (w1 : Int32) (w2 : Int32) (w3 : Int32) (w4 : Int32) (w5 : Int32) (q1_w1 : (6 : Int) ≤ w1.toInt) (q2_w1 : w1.toInt ≤ (2147483647 : Int)) (q1_w3 : (0 : Int) ≤ w3.toInt) (q2_w3 : w3.toInt ≤ (17 : Int)) (q1_w4 : (-2147483648 : Int) ≤ w4.toInt) (q2_w4 : w4.toInt ≤ (-1 : Int))  : Met l yX9_check (.code yX9_check cX9_check 11 (some .int) :: lw_g) { frames := 2, cells := 0, slots := 0, locals := 44 } (va_Pc [.ref (b + 405), .int w1, .int w2, .int w3, .int w4, .int w5] (zx_w g σ)) (va_Qi (fun r u => r = 0 ∧ u = (ap b σ [(405, 0, 1)] [] [])) (zx_w g) (gx_Q g)) 0 0 (gx_Q g) := by
  refine z_met (by decide) (Nat.le_of_ble_eq_true rfl) (fun p e s m below meth c B hr hin => ?_)
  refine z_eqs (σ' := (ap b σ [] [] [])) rfl ?_
  show zx p l e _ s m _ below meth c g 11 0 0 _ _ 0 [(0, .ref (b + 405)), (1, .int w1), (2, .int w2), (3, .int w3), (4, .int w4), (5, .int w5)] []
  refine z_aload_n B dX9_check_0 rfl 0 rfl ?_
  refine z_iload_n B dX9_check_1 rfl 1 rfl ?_
  refine z_iload_n B dX9_check_2 rfl 2 rfl ?_
  refine z_cSi (As := [.int w1, .int w2]) (rest := [.ref (b + 405)]) B cw_X9_238 dX9_check_3 (ci_X9_isStep_371 l (σ := (ap b σ [] [] [])) (b := b) (lyA hK) w1 w2 q1_w1 q2_w1) rfl (by decide) rfl (Nat.le_of_ble_eq_true rfl) (by decide) (fun r u hu => ?_)
  refine z_eqs (σ' := (ap b σ [] [] [])) hu.2 ?_
  show zx p l e _ s m _ below meth c g 11 0 0 _ _ 6 [(0, .ref (b + 405)), (1, .int w1), (2, .int w2), (3, .int w3), (4, .int w4), (5, .int w5)] _
  refine z_seti (y := 0) hu.1 ?_
  refine z_iload_n B dX9_check_6 rfl 3 rfl ?_
  refine z_iload B dX9_check_7 4 rfl ?_
  refine z_iload B dX9_check_9 5 rfl ?_
  refine z_cSi (As := [.int w3, .int w4, .int w5]) (rest := [.int 0, .ref (b + 405)]) B cw_X9_242 dX9_check_11 (ci_X9_isOperation_34 l (σ := (ap b σ [] [] [])) (b := b) (lyA hK) w3 w4 w5 q1_w3 q2_w3 q1_w4 q2_w4) rfl (by decide) rfl (Nat.le_of_ble_eq_true rfl) (by decide) (fun r u hu => ?_)
  refine z_eqs (σ' := (ap b σ [] [] [])) hu.2 ?_
  show zx p l e _ s m _ below meth c g 11 0 0 _ _ 14 [(0, .ref (b + 405)), (1, .int w1), (2, .int w2), (3, .int w3), (4, .int w4), (5, .int w5)] _
  refine z_seti (y := 0) hu.1 ?_
  refine z_cVi (As := [.int 0, .int 0]) (rest := []) B cw_X9_245 cx_10 dX9_check_14 (ci_X9_needs__29 l (σ := (ap b σ [] [] [])) (b := b) (lyA hK) ) (lKA (hk_K hK 405 rfl rfl)) rfl (by decide) rfl (Nat.le_of_ble_eq_true rfl) (by decide) (fun r u hu => ?_)
  refine z_eqs (σ' := (ap b σ [(405, 0, 1)] [] [])) (hu.2.trans ap_ap) ?_
  show zx p l e _ s m _ below meth c g 11 0 0 _ _ 17 [(0, .ref (b + 405)), (1, .int w1), (2, .int w2), (3, .int w3), (4, .int w4), (5, .int w5)] _
  refine z_seti (y := 0) hu.1 ?_
  refine z_if_ne (tgt := 22) B dX9_check_17 (by decide) (fun h => absurd (by decide) h) (fun _ => ?_)
  refine z_iconst (v := 0) B dX9_check_20 (by decide) ?_
  exact z_iret B hr (by decide) (by decide) dX9_check_21 ⟨rfl, rfl⟩
set_option maxRecDepth 100000 in
set_option maxHeartbeats 4000000 in
theorem ci_X9_check_644 (l : Launch) {g : gx_T} {σ : sx_T} {b : Nat} (hK : lay b σ) (w1 : Int32) (w2 : Int32) (w3 : Int32) (w4 : Int32) (w5 : Int32) (q1_w1 : (6 : Int) ≤ w1.toInt) (q2_w1 : w1.toInt ≤ (2147483647 : Int)) (q1_w3 : (0 : Int) ≤ w3.toInt) (q2_w3 : w3.toInt ≤ (17 : Int)) (q1_w4 : (0 : Int) ≤ w4.toInt) (q2_w4 : w4.toInt ≤ (99 : Int)) (q1_w5 : (-2147483648 : Int) ≤ w5.toInt) (q2_w5 : w5.toInt ≤ (-1 : Int))  : Met l yX9_check (.code yX9_check cX9_check 11 (some .int) :: lw_g) { frames := 2, cells := 0, slots := 0, locals := 44 } (va_Pc [.ref (b + 405), .int w1, .int w2, .int w3, .int w4, .int w5] (zx_w g σ)) (va_Qi (fun r u => r = 0 ∧ u = (ap b σ [(405, 0, 1)] [] [])) (zx_w g) (gx_Q g)) 0 0 (gx_Q g) := by
  refine z_met (by decide) (Nat.le_of_ble_eq_true rfl) (fun p e s m below meth c B hr hin => ?_)
  refine z_eqs (σ' := (ap b σ [] [] [])) rfl ?_
  show zx p l e _ s m _ below meth c g 11 0 0 _ _ 0 [(0, .ref (b + 405)), (1, .int w1), (2, .int w2), (3, .int w3), (4, .int w4), (5, .int w5)] []
  refine z_aload_n B dX9_check_0 rfl 0 rfl ?_
  refine z_iload_n B dX9_check_1 rfl 1 rfl ?_
  refine z_iload_n B dX9_check_2 rfl 2 rfl ?_
  refine z_cSi (As := [.int w1, .int w2]) (rest := [.ref (b + 405)]) B cw_X9_238 dX9_check_3 (ci_X9_isStep_371 l (σ := (ap b σ [] [] [])) (b := b) (lyA hK) w1 w2 q1_w1 q2_w1) rfl (by decide) rfl (Nat.le_of_ble_eq_true rfl) (by decide) (fun r u hu => ?_)
  refine z_eqs (σ' := (ap b σ [] [] [])) hu.2 ?_
  show zx p l e _ s m _ below meth c g 11 0 0 _ _ 6 [(0, .ref (b + 405)), (1, .int w1), (2, .int w2), (3, .int w3), (4, .int w4), (5, .int w5)] _
  refine z_seti (y := 0) hu.1 ?_
  refine z_iload_n B dX9_check_6 rfl 3 rfl ?_
  refine z_iload B dX9_check_7 4 rfl ?_
  refine z_iload B dX9_check_9 5 rfl ?_
  refine z_cSi (As := [.int w3, .int w4, .int w5]) (rest := [.int 0, .ref (b + 405)]) B cw_X9_242 dX9_check_11 (ci_X9_isOperation_37 l (σ := (ap b σ [] [] [])) (b := b) (lyA hK) w3 w4 w5 q1_w3 q2_w3 q1_w4 q2_w4 q1_w5 q2_w5) rfl (by decide) rfl (Nat.le_of_ble_eq_true rfl) (by decide) (fun r u hu => ?_)
  refine z_eqs (σ' := (ap b σ [] [] [])) hu.2 ?_
  show zx p l e _ s m _ below meth c g 11 0 0 _ _ 14 [(0, .ref (b + 405)), (1, .int w1), (2, .int w2), (3, .int w3), (4, .int w4), (5, .int w5)] _
  refine z_seti (y := 0) hu.1 ?_
  refine z_cVi (As := [.int 0, .int 0]) (rest := []) B cw_X9_245 cx_10 dX9_check_14 (ci_X9_needs__29 l (σ := (ap b σ [] [] [])) (b := b) (lyA hK) ) (lKA (hk_K hK 405 rfl rfl)) rfl (by decide) rfl (Nat.le_of_ble_eq_true rfl) (by decide) (fun r u hu => ?_)
  refine z_eqs (σ' := (ap b σ [(405, 0, 1)] [] [])) (hu.2.trans ap_ap) ?_
  show zx p l e _ s m _ below meth c g 11 0 0 _ _ 17 [(0, .ref (b + 405)), (1, .int w1), (2, .int w2), (3, .int w3), (4, .int w4), (5, .int w5)] _
  refine z_seti (y := 0) hu.1 ?_
  refine z_if_ne (tgt := 22) B dX9_check_17 (by decide) (fun h => absurd (by decide) h) (fun _ => ?_)
  refine z_iconst (v := 0) B dX9_check_20 (by decide) ?_
  exact z_iret B hr (by decide) (by decide) dX9_check_21 ⟨rfl, rfl⟩
set_option maxRecDepth 100000 in
set_option maxHeartbeats 4000000 in
theorem ci_X9_check_645 (l : Launch) {g : gx_T} {σ : sx_T} {b : Nat} (hK : lay b σ) (w1 : Int32) (w2 : Int32) (w3 : Int32) (w4 : Int32) (w5 : Int32) (q1_w1 : (6 : Int) ≤ w1.toInt) (q2_w1 : w1.toInt ≤ (2147483647 : Int)) (q1_w3 : (0 : Int) ≤ w3.toInt) (q2_w3 : w3.toInt ≤ (17 : Int)) (q1_w4 : (0 : Int) ≤ w4.toInt) (q2_w4 : w4.toInt ≤ (99 : Int)) (q1_w5 : (0 : Int) ≤ w5.toInt) (q2_w5 : w5.toInt ≤ (99 : Int))  : Met l yX9_check (.code yX9_check cX9_check 11 (some .int) :: lw_g) { frames := 2, cells := 0, slots := 0, locals := 44 } (va_Pc [.ref (b + 405), .int w1, .int w2, .int w3, .int w4, .int w5] (zx_w g σ)) (va_Qi (fun r u => r = 0 ∧ u = (ap b σ [(405, 0, 1)] [] [])) (zx_w g) (gx_Q g)) 0 0 (gx_Q g) := by
  refine z_met (by decide) (Nat.le_of_ble_eq_true rfl) (fun p e s m below meth c B hr hin => ?_)
  refine z_eqs (σ' := (ap b σ [] [] [])) rfl ?_
  show zx p l e _ s m _ below meth c g 11 0 0 _ _ 0 [(0, .ref (b + 405)), (1, .int w1), (2, .int w2), (3, .int w3), (4, .int w4), (5, .int w5)] []
  refine z_aload_n B dX9_check_0 rfl 0 rfl ?_
  refine z_iload_n B dX9_check_1 rfl 1 rfl ?_
  refine z_iload_n B dX9_check_2 rfl 2 rfl ?_
  refine z_cSi (As := [.int w1, .int w2]) (rest := [.ref (b + 405)]) B cw_X9_238 dX9_check_3 (ci_X9_isStep_371 l (σ := (ap b σ [] [] [])) (b := b) (lyA hK) w1 w2 q1_w1 q2_w1) rfl (by decide) rfl (Nat.le_of_ble_eq_true rfl) (by decide) (fun r u hu => ?_)
  refine z_eqs (σ' := (ap b σ [] [] [])) hu.2 ?_
  show zx p l e _ s m _ below meth c g 11 0 0 _ _ 6 [(0, .ref (b + 405)), (1, .int w1), (2, .int w2), (3, .int w3), (4, .int w4), (5, .int w5)] _
  refine z_seti (y := 0) hu.1 ?_
  refine z_iload_n B dX9_check_6 rfl 3 rfl ?_
  refine z_iload B dX9_check_7 4 rfl ?_
  refine z_iload B dX9_check_9 5 rfl ?_
  refine z_cSi (As := [.int w3, .int w4, .int w5]) (rest := [.int 0, .ref (b + 405)]) B cw_X9_242 dX9_check_11 (ci_X9_isOperation_39 l (σ := (ap b σ [] [] [])) (b := b) (lyA hK) w3 w4 w5 q1_w3 q2_w3 q1_w4 q2_w4 q1_w5 q2_w5) rfl (by decide) rfl (Nat.le_of_ble_eq_true rfl) (by decide) (fun r u hu => ?_)
  refine z_eqs (σ' := (ap b σ [] [] [])) hu.2 ?_
  show zx p l e _ s m _ below meth c g 11 0 0 _ _ 14 [(0, .ref (b + 405)), (1, .int w1), (2, .int w2), (3, .int w3), (4, .int w4), (5, .int w5)] _
  refine z_seti (y := 1) hu.1 ?_
  refine z_cVi (As := [.int 0, .int 1]) (rest := []) B cw_X9_245 cx_10 dX9_check_14 (ci_X9_needs__40 l (σ := (ap b σ [] [] [])) (b := b) (lyA hK) ) (lKA (hk_K hK 405 rfl rfl)) rfl (by decide) rfl (Nat.le_of_ble_eq_true rfl) (by decide) (fun r u hu => ?_)
  refine z_eqs (σ' := (ap b σ [(405, 0, 1)] [] [])) (hu.2.trans ap_ap) ?_
  show zx p l e _ s m _ below meth c g 11 0 0 _ _ 17 [(0, .ref (b + 405)), (1, .int w1), (2, .int w2), (3, .int w3), (4, .int w4), (5, .int w5)] _
  refine z_seti (y := 0) hu.1 ?_
  refine z_if_ne (tgt := 22) B dX9_check_17 (by decide) (fun h => absurd (by decide) h) (fun _ => ?_)
  refine z_iconst (v := 0) B dX9_check_20 (by decide) ?_
  exact z_iret B hr (by decide) (by decide) dX9_check_21 ⟨rfl, rfl⟩
set_option maxRecDepth 100000 in
set_option maxHeartbeats 4000000 in
theorem ci_X9_check_646 (l : Launch) {g : gx_T} {σ : sx_T} {b : Nat} (hK : lay b σ) (w1 : Int32) (w2 : Int32) (w3 : Int32) (w4 : Int32) (w5 : Int32) (q1_w1 : (6 : Int) ≤ w1.toInt) (q2_w1 : w1.toInt ≤ (2147483647 : Int)) (q1_w3 : (0 : Int) ≤ w3.toInt) (q2_w3 : w3.toInt ≤ (17 : Int)) (q1_w4 : (0 : Int) ≤ w4.toInt) (q2_w4 : w4.toInt ≤ (99 : Int)) (q1_w5 : (100 : Int) ≤ w5.toInt) (q2_w5 : w5.toInt ≤ (2147483647 : Int))  : Met l yX9_check (.code yX9_check cX9_check 11 (some .int) :: lw_g) { frames := 2, cells := 0, slots := 0, locals := 44 } (va_Pc [.ref (b + 405), .int w1, .int w2, .int w3, .int w4, .int w5] (zx_w g σ)) (va_Qi (fun r u => r = 0 ∧ u = (ap b σ [(405, 0, 1)] [] [])) (zx_w g) (gx_Q g)) 0 0 (gx_Q g) := by
  refine z_met (by decide) (Nat.le_of_ble_eq_true rfl) (fun p e s m below meth c B hr hin => ?_)
  refine z_eqs (σ' := (ap b σ [] [] [])) rfl ?_
  show zx p l e _ s m _ below meth c g 11 0 0 _ _ 0 [(0, .ref (b + 405)), (1, .int w1), (2, .int w2), (3, .int w3), (4, .int w4), (5, .int w5)] []
  refine z_aload_n B dX9_check_0 rfl 0 rfl ?_
  refine z_iload_n B dX9_check_1 rfl 1 rfl ?_
  refine z_iload_n B dX9_check_2 rfl 2 rfl ?_
  refine z_cSi (As := [.int w1, .int w2]) (rest := [.ref (b + 405)]) B cw_X9_238 dX9_check_3 (ci_X9_isStep_371 l (σ := (ap b σ [] [] [])) (b := b) (lyA hK) w1 w2 q1_w1 q2_w1) rfl (by decide) rfl (Nat.le_of_ble_eq_true rfl) (by decide) (fun r u hu => ?_)
  refine z_eqs (σ' := (ap b σ [] [] [])) hu.2 ?_
  show zx p l e _ s m _ below meth c g 11 0 0 _ _ 6 [(0, .ref (b + 405)), (1, .int w1), (2, .int w2), (3, .int w3), (4, .int w4), (5, .int w5)] _
  refine z_seti (y := 0) hu.1 ?_
  refine z_iload_n B dX9_check_6 rfl 3 rfl ?_
  refine z_iload B dX9_check_7 4 rfl ?_
  refine z_iload B dX9_check_9 5 rfl ?_
  refine z_cSi (As := [.int w3, .int w4, .int w5]) (rest := [.int 0, .ref (b + 405)]) B cw_X9_242 dX9_check_11 (ci_X9_isOperation_43 l (σ := (ap b σ [] [] [])) (b := b) (lyA hK) w3 w4 w5 q1_w3 q2_w3 q1_w4 q2_w4 q1_w5 q2_w5) rfl (by decide) rfl (Nat.le_of_ble_eq_true rfl) (by decide) (fun r u hu => ?_)
  refine z_eqs (σ' := (ap b σ [] [] [])) hu.2 ?_
  show zx p l e _ s m _ below meth c g 11 0 0 _ _ 14 [(0, .ref (b + 405)), (1, .int w1), (2, .int w2), (3, .int w3), (4, .int w4), (5, .int w5)] _
  refine z_seti (y := 0) hu.1 ?_
  refine z_cVi (As := [.int 0, .int 0]) (rest := []) B cw_X9_245 cx_10 dX9_check_14 (ci_X9_needs__29 l (σ := (ap b σ [] [] [])) (b := b) (lyA hK) ) (lKA (hk_K hK 405 rfl rfl)) rfl (by decide) rfl (Nat.le_of_ble_eq_true rfl) (by decide) (fun r u hu => ?_)
  refine z_eqs (σ' := (ap b σ [(405, 0, 1)] [] [])) (hu.2.trans ap_ap) ?_
  show zx p l e _ s m _ below meth c g 11 0 0 _ _ 17 [(0, .ref (b + 405)), (1, .int w1), (2, .int w2), (3, .int w3), (4, .int w4), (5, .int w5)] _
  refine z_seti (y := 0) hu.1 ?_
  refine z_if_ne (tgt := 22) B dX9_check_17 (by decide) (fun h => absurd (by decide) h) (fun _ => ?_)
  refine z_iconst (v := 0) B dX9_check_20 (by decide) ?_
  exact z_iret B hr (by decide) (by decide) dX9_check_21 ⟨rfl, rfl⟩
set_option maxRecDepth 100000 in
set_option maxHeartbeats 4000000 in
theorem ci_X9_check_647 (l : Launch) {g : gx_T} {σ : sx_T} {b : Nat} (hK : lay b σ) (w1 : Int32) (w2 : Int32) (w3 : Int32) (w4 : Int32) (w5 : Int32) (q1_w1 : (6 : Int) ≤ w1.toInt) (q2_w1 : w1.toInt ≤ (2147483647 : Int)) (q1_w3 : (0 : Int) ≤ w3.toInt) (q2_w3 : w3.toInt ≤ (17 : Int)) (q1_w4 : (100 : Int) ≤ w4.toInt) (q2_w4 : w4.toInt ≤ (2147483647 : Int))  : Met l yX9_check (.code yX9_check cX9_check 11 (some .int) :: lw_g) { frames := 2, cells := 0, slots := 0, locals := 44 } (va_Pc [.ref (b + 405), .int w1, .int w2, .int w3, .int w4, .int w5] (zx_w g σ)) (va_Qi (fun r u => r = 0 ∧ u = (ap b σ [(405, 0, 1)] [] [])) (zx_w g) (gx_Q g)) 0 0 (gx_Q g) := by
  refine z_met (by decide) (Nat.le_of_ble_eq_true rfl) (fun p e s m below meth c B hr hin => ?_)
  refine z_eqs (σ' := (ap b σ [] [] [])) rfl ?_
  show zx p l e _ s m _ below meth c g 11 0 0 _ _ 0 [(0, .ref (b + 405)), (1, .int w1), (2, .int w2), (3, .int w3), (4, .int w4), (5, .int w5)] []
  refine z_aload_n B dX9_check_0 rfl 0 rfl ?_
  refine z_iload_n B dX9_check_1 rfl 1 rfl ?_
  refine z_iload_n B dX9_check_2 rfl 2 rfl ?_
  refine z_cSi (As := [.int w1, .int w2]) (rest := [.ref (b + 405)]) B cw_X9_238 dX9_check_3 (ci_X9_isStep_371 l (σ := (ap b σ [] [] [])) (b := b) (lyA hK) w1 w2 q1_w1 q2_w1) rfl (by decide) rfl (Nat.le_of_ble_eq_true rfl) (by decide) (fun r u hu => ?_)
  refine z_eqs (σ' := (ap b σ [] [] [])) hu.2 ?_
  show zx p l e _ s m _ below meth c g 11 0 0 _ _ 6 [(0, .ref (b + 405)), (1, .int w1), (2, .int w2), (3, .int w3), (4, .int w4), (5, .int w5)] _
  refine z_seti (y := 0) hu.1 ?_
  refine z_iload_n B dX9_check_6 rfl 3 rfl ?_
  refine z_iload B dX9_check_7 4 rfl ?_
  refine z_iload B dX9_check_9 5 rfl ?_
  refine z_cSi (As := [.int w3, .int w4, .int w5]) (rest := [.int 0, .ref (b + 405)]) B cw_X9_242 dX9_check_11 (ci_X9_isOperation_45 l (σ := (ap b σ [] [] [])) (b := b) (lyA hK) w3 w4 w5 q1_w3 q2_w3 q1_w4 q2_w4) rfl (by decide) rfl (Nat.le_of_ble_eq_true rfl) (by decide) (fun r u hu => ?_)
  refine z_eqs (σ' := (ap b σ [] [] [])) hu.2 ?_
  show zx p l e _ s m _ below meth c g 11 0 0 _ _ 14 [(0, .ref (b + 405)), (1, .int w1), (2, .int w2), (3, .int w3), (4, .int w4), (5, .int w5)] _
  refine z_seti (y := 0) hu.1 ?_
  refine z_cVi (As := [.int 0, .int 0]) (rest := []) B cw_X9_245 cx_10 dX9_check_14 (ci_X9_needs__29 l (σ := (ap b σ [] [] [])) (b := b) (lyA hK) ) (lKA (hk_K hK 405 rfl rfl)) rfl (by decide) rfl (Nat.le_of_ble_eq_true rfl) (by decide) (fun r u hu => ?_)
  refine z_eqs (σ' := (ap b σ [(405, 0, 1)] [] [])) (hu.2.trans ap_ap) ?_
  show zx p l e _ s m _ below meth c g 11 0 0 _ _ 17 [(0, .ref (b + 405)), (1, .int w1), (2, .int w2), (3, .int w3), (4, .int w4), (5, .int w5)] _
  refine z_seti (y := 0) hu.1 ?_
  refine z_if_ne (tgt := 22) B dX9_check_17 (by decide) (fun h => absurd (by decide) h) (fun _ => ?_)
  refine z_iconst (v := 0) B dX9_check_20 (by decide) ?_
  exact z_iret B hr (by decide) (by decide) dX9_check_21 ⟨rfl, rfl⟩
set_option maxRecDepth 100000 in
set_option maxHeartbeats 4000000 in
theorem ci_X9_check_648 (l : Launch) {g : gx_T} {σ : sx_T} {b : Nat} (hK : lay b σ) (w1 : Int32) (w2 : Int32) (w3 : Int32) (w4 : Int32) (w5 : Int32) (q1_w1 : (6 : Int) ≤ w1.toInt) (q2_w1 : w1.toInt ≤ (2147483647 : Int)) (q1_w3 : (18 : Int) ≤ w3.toInt) (q2_w3 : w3.toInt ≤ (2147483647 : Int))  : Met l yX9_check (.code yX9_check cX9_check 11 (some .int) :: lw_g) { frames := 2, cells := 0, slots := 0, locals := 44 } (va_Pc [.ref (b + 405), .int w1, .int w2, .int w3, .int w4, .int w5] (zx_w g σ)) (va_Qi (fun r u => r = 0 ∧ u = (ap b σ [(405, 0, 1)] [] [])) (zx_w g) (gx_Q g)) 0 0 (gx_Q g) := by
  refine z_met (by decide) (Nat.le_of_ble_eq_true rfl) (fun p e s m below meth c B hr hin => ?_)
  refine z_eqs (σ' := (ap b σ [] [] [])) rfl ?_
  show zx p l e _ s m _ below meth c g 11 0 0 _ _ 0 [(0, .ref (b + 405)), (1, .int w1), (2, .int w2), (3, .int w3), (4, .int w4), (5, .int w5)] []
  refine z_aload_n B dX9_check_0 rfl 0 rfl ?_
  refine z_iload_n B dX9_check_1 rfl 1 rfl ?_
  refine z_iload_n B dX9_check_2 rfl 2 rfl ?_
  refine z_cSi (As := [.int w1, .int w2]) (rest := [.ref (b + 405)]) B cw_X9_238 dX9_check_3 (ci_X9_isStep_371 l (σ := (ap b σ [] [] [])) (b := b) (lyA hK) w1 w2 q1_w1 q2_w1) rfl (by decide) rfl (Nat.le_of_ble_eq_true rfl) (by decide) (fun r u hu => ?_)
  refine z_eqs (σ' := (ap b σ [] [] [])) hu.2 ?_
  show zx p l e _ s m _ below meth c g 11 0 0 _ _ 6 [(0, .ref (b + 405)), (1, .int w1), (2, .int w2), (3, .int w3), (4, .int w4), (5, .int w5)] _
  refine z_seti (y := 0) hu.1 ?_
  refine z_iload_n B dX9_check_6 rfl 3 rfl ?_
  refine z_iload B dX9_check_7 4 rfl ?_
  refine z_iload B dX9_check_9 5 rfl ?_
  refine z_cSi (As := [.int w3, .int w4, .int w5]) (rest := [.int 0, .ref (b + 405)]) B cw_X9_242 dX9_check_11 (ci_X9_isOperation_48 l (σ := (ap b σ [] [] [])) (b := b) (lyA hK) w3 w4 w5 q1_w3 q2_w3) rfl (by decide) rfl (Nat.le_of_ble_eq_true rfl) (by decide) (fun r u hu => ?_)
  refine z_eqs (σ' := (ap b σ [] [] [])) hu.2 ?_
  show zx p l e _ s m _ below meth c g 11 0 0 _ _ 14 [(0, .ref (b + 405)), (1, .int w1), (2, .int w2), (3, .int w3), (4, .int w4), (5, .int w5)] _
  refine z_seti (y := 0) hu.1 ?_
  refine z_cVi (As := [.int 0, .int 0]) (rest := []) B cw_X9_245 cx_10 dX9_check_14 (ci_X9_needs__29 l (σ := (ap b σ [] [] [])) (b := b) (lyA hK) ) (lKA (hk_K hK 405 rfl rfl)) rfl (by decide) rfl (Nat.le_of_ble_eq_true rfl) (by decide) (fun r u hu => ?_)
  refine z_eqs (σ' := (ap b σ [(405, 0, 1)] [] [])) (hu.2.trans ap_ap) ?_
  show zx p l e _ s m _ below meth c g 11 0 0 _ _ 17 [(0, .ref (b + 405)), (1, .int w1), (2, .int w2), (3, .int w3), (4, .int w4), (5, .int w5)] _
  refine z_seti (y := 0) hu.1 ?_
  refine z_if_ne (tgt := 22) B dX9_check_17 (by decide) (fun h => absurd (by decide) h) (fun _ => ?_)
  refine z_iconst (v := 0) B dX9_check_20 (by decide) ?_
  exact z_iret B hr (by decide) (by decide) dX9_check_21 ⟨rfl, rfl⟩
set_option maxRecDepth 100000 in
set_option maxHeartbeats 4000000 in
theorem ci_X8_start_649 (l : Launch) (hlt : l.stackTraces = false) {g : gx_T} {σ : sx_T} {b : Nat} (hK : lay b σ) (w1 : Int32) (w2 : Int32) (q1_w1 : (-2147483648 : Int) ≤ w1.toInt) (q2_w1 : w1.toInt ≤ (-1 : Int))  : vx_Met l yX8_start (.code yX8_start cX8_start 5 (some .int) :: lw_g) { frames := 7, cells := 1, slots := 6, locals := 136 } (va_Pc [.ref (b + 0), .int w1, .int w2] (zx_w g σ)) (va_Qi (S := sx_T) (fun _ _ => False) (zx_w g) (gx_Q g)) (vx_X (fun u : sx_T => ∃ z, u = wx_Z σ z) (fun E u t => E = "java/lang/IndexOutOfBoundsException" ∧ zx_h g u t.heap) (gx_Q g)) 1 6 (gx_Q g) := by
  refine z_metX (by decide) (Nat.le_of_ble_eq_true rfl) (fun p e s m below meth c B hr hin hout => ?_)
  refine z_eqs (σ' := (ap b σ [] [] [])) rfl ?_
  show zx p l e _ s m _ below meth c g 5 0 0 _ _ 0 [(0, .ref (b + 0)), (1, .int w1), (2, .int w2)] []
  refine z_aload_n B dX8_start_0 rfl 0 rfl ?_
  refine z_iload_n B dX8_start_1 rfl 1 rfl ?_
  refine z_cVq (As := [.int w1]) (rest := []) B cw_X8_64 cx_9 dX8_start_2 (ci_X8_programAt_22 l (σ := (ap b σ [] [] [])) (b := b) (lyA hK) w1 q1_w1 q2_w1) (lKA (hk_K hK 0 rfl rfl)) rfl (by decide) rfl (Nat.le_of_ble_eq_true rfl) (by decide) (fun r u hu => ?_)
  refine z_eqs (σ' := (ap b σ [] [] [])) hu.2 ?_
  show zx p l e _ s m _ below meth c g 5 0 0 _ _ 5 [(0, .ref (b + 0)), (1, .int w1), (2, .int w2)] _
  refine z_setr (y := none) hu.1 ?_
  refine z_qstore_n (r := none) (lv' := [(3, .null), (0, .ref (b + 0)), (1, .int w1), (2, .int w2)]) B dX8_start_5 rfl (by decide) rfl ?_
  refine z_qload_n (r := none) B dX8_start_6 rfl 0 rfl ?_
  refine z_ifnonnull (r := none) (tgt := 20) B dX8_start_7 (by decide) (fun a h => nomatch h) (fun _ => ?_)
  exact z_throw B hlt hout (cls := "java/lang/IndexOutOfBoundsException") (text := "no such program") tw_X8_72_137_76 dX8_start_10 dX8_start_13 dX8_start_14 dX8_start_16 dX8_start_19 (by decide) (by decide) (by decide) (by decide) (by decide) (by decide) (fun z => ⟨z, rfl⟩)
set_option maxRecDepth 100000 in
set_option maxHeartbeats 4000000 in
theorem ci_L_start_650 (l : Launch) (hlt : l.stackTraces = false) {g : gx_T} {σ : sx_T} {b : Nat} (hK : lay b σ) (w1 : Int32) (w2 : Int32) (q1_w1 : (-2147483648 : Int) ≤ w1.toInt) (q2_w1 : w1.toInt ≤ (-1 : Int))  : Met l yL_start (.codeWith yL_start cL_start 5 (some .int) [(0, 10, 13, 13), (0, 10, 17, 15), (0, 10, 21, 24)] :: lw_g) { frames := 8, cells := 1, slots := 6, locals := 160 } (va_Pc [.ref (b + 0), .int w1, .int w2, .ref (b + 431)] (zx_w g σ)) (va_Qi (fun r u => r = 1 ∧ ∃ z, u = (ap b (wx_Z σ z) [] [] [])) (zx_w g) (gx_Q g)) 1 6 (gx_Q g) := by
  refine z_metW (by decide) (Nat.le_of_ble_eq_true rfl) (fun p e s m below meth c B hr htab => ?_)
  refine z_eqs (σ' := (ap b σ [] [] [])) rfl ?_
  show zx p l e _ s m _ below meth c g 5 0 0 _ _ 0 [(0, .ref (b + 0)), (1, .int w1), (2, .int w2), (3, .ref (b + 431))] []
  refine z_aload_n B dL_start_0 rfl 3 rfl ?_
  refine z_iconst (v := 0) B dL_start_1 (by decide) ?_
  refine z_aload_n B dL_start_2 rfl 0 rfl ?_
  refine z_iload_n B dL_start_3 rfl 1 rfl ?_
  refine z_iload_n B dL_start_4 rfl 2 rfl ?_
  refine z_cXi (As := [.int w1, .int w2]) (rest := [.int 0, .ref (b + 431)]) B htab tc_start_5_IndexOutOfBoundsException cw_L_20 cx_9 dL_start_5 (ci_X8_start_649 l hlt (σ := (ap b σ [] [] [])) (b := b) (lyA hK) w1 w2 q1_w1 q2_w1) (lKA (hk_K hK 0 rfl rfl)) rfl (by decide) rfl (Nat.le_of_ble_eq_true rfl) (by decide) (fun z q => ?_)
  refine z_eqs (σ' := (ap b (wx_Z σ z) [] [] [])) rfl ?_
  show zx p l e _ s m _ below meth c g 5 _ _ _ _ 13 [(0, .ref (b + 0)), (1, .int w1), (2, .int w2), (3, .ref (b + 431))] _
  refine z_astore (lv' := [(4, .ref q), (0, .ref (b + 0)), (1, .int w1), (2, .int w2), (3, .ref (b + 431))]) B dL_start_13 (by decide) rfl ?_
  refine z_iconst (v := 1) B dL_start_15 (by decide) ?_
  exact z_iret B hr (by decide) (by decide) dL_start_16 ⟨rfl, _, rfl⟩
set_option maxRecDepth 100000 in
set_option maxHeartbeats 4000000 in
theorem ci_X9_in_651 (l : Launch) {g : gx_T} {σ : sx_T} {b : Nat} (hK : lay b σ) (w1 : Int32) (q1_w1 : (-2147483648 : Int) ≤ w1.toInt) (q2_w1 : w1.toInt ≤ (-1000 : Int))  : Met l yX9_in (.code yX9_in cX9_in 3 (some .boolean) :: lw_g) { frames := 0, cells := 0, slots := 0, locals := 0 } (va_Pc [.int w1, .int (-999), .int 999] (zx_w g σ)) (va_Qi (fun r u => r = 0 ∧ u = σ) (zx_w g) (gx_Q g)) 0 0 (gx_Q g) := by
  refine z_met (by decide) (Nat.le_of_ble_eq_true rfl) (fun p e s m below meth c B hr hin => ?_)
  refine z_eqs (σ' := (ap b σ [] [] [])) rfl ?_
  show zx p l e _ s m _ below meth c g 3 0 0 _ _ 0 [(0, .int w1), (1, .int (-999)), (2, .int 999)] []
  refine z_iload_n B dX9_in_0 rfl 0 rfl ?_
  refine z_iload_n B dX9_in_1 rfl 1 rfl ?_
  refine z_icmp_lt (tgt := 14) B dX9_in_2 (by decide) (fun _ => ?_) (fun h => absurd (iv_lt q2_w1 (by decide)) h)
  refine z_iconst (v := 0) B dX9_in_14 (by decide) ?_
  exact z_zret B hr (by decide) (by decide) (by decide) dX9_in_15 ⟨rfl, rfl⟩
set_option maxRecDepth 100000 in
set_option maxHeartbeats 4000000 in
theorem ci_X9_needs___652 (l : Launch) {g : gx_T} {σ : sx_T} {b : Nat} (hK : lay b σ)    : Met l yX9_needs__ (.code yX9_needs__ cX9_needs__ 4 (some .boolean) :: lw_g) { frames := 0, cells := 0, slots := 0, locals := 0 } (va_Pc [.ref (b + 405), .int 0, .int 0, .int 1] (zx_w g σ)) (va_Qi (fun r u => r = 0 ∧ u = (ap b σ [(405, 0, 1)] [] [])) (zx_w g) (gx_Q g)) 0 0 (gx_Q g) := by
  refine z_met (by decide) (Nat.le_of_ble_eq_true rfl) (fun p e s m below meth c B hr hin => ?_)
  refine z_eqs (σ' := (ap b σ [] [] [])) rfl ?_
  show zx p l e _ s m _ below meth c g 4 0 0 _ _ 0 [(0, .ref (b + 405)), (1, .int 0), (2, .int 0), (3, .int 1)] []
  refine z_aload_n B dX9_needs___0 rfl 0 rfl ?_
  refine z_iload_n B dX9_needs___1 rfl 1 rfl ?_
  refine z_if_ne (tgt := 9) B dX9_needs___2 (by decide) (fun h => absurd (by decide) h) (fun _ => ?_)
  refine z_iconst (v := 1) B dX9_needs___5 (by decide) ?_
  refine z_goto (tgt := 26) B dX9_needs___6 (by decide) ?_
  refine pf_X9_90 (x := 1) (σ' := (ap b σ [(405, 0, 1)] [] [])) B (lKA (hk_K hK 405 rfl rfl)) wI_ap dX9_needs___26 ?_
  refine z_aload_n B dX9_needs___29 rfl 0 rfl ?_
  refine gf_X9_90 (x := 1) B (lKA (hk_K hK 405 rfl rfl)) (rI_at 405 0 rfl) dX9_needs___30 ?_
  refine z_if_ne (tgt := 40) B dX9_needs___33 (by decide) (fun _ => ?_) (fun h => absurd h (by decide))
  refine z_iconst (v := 0) B dX9_needs___40 (by decide) ?_
  exact z_zret B hr (by decide) (by decide) (by decide) dX9_needs___41 ⟨rfl, rfl⟩
set_option maxRecDepth 100000 in
set_option maxHeartbeats 4000000 in
theorem ci_X9_start_653 (l : Launch) {g : gx_T} {σ : sx_T} {b : Nat} (hK : lay b σ) (w1 : Int32) (w2 : Int32) (q1_w1 : (-2147483648 : Int) ≤ w1.toInt) (q2_w1 : w1.toInt ≤ (-1 : Int)) (q1_w2 : (-2147483648 : Int) ≤ w2.toInt) (q2_w2 : w2.toInt ≤ (-1000 : Int)) (hI_405_6 : sx_I σ (b + 405) 6 = 0) : Met l yX9_start (.code yX9_start cX9_start 4 (some .int) :: lw_g) { frames := 1, cells := 0, slots := 0, locals := 23 } (va_Pc [.ref (b + 405), .int w1, .int w2] (zx_w g σ)) (va_Qi (fun r u => r = 0 ∧ u = (ap b σ [(405, 0, 1)] [] [])) (zx_w g) (gx_Q g)) 0 0 (gx_Q g) := by
  refine z_met (by decide) (Nat.le_of_ble_eq_true rfl) (fun p e s m below meth c B hr hin => ?_)
  refine z_eqs (σ' := (ap b σ [] [] [])) rfl ?_
  show zx p l e _ s m _ below meth c g 4 0 0 _ _ 0 [(0, .ref (b + 405)), (1, .int w1), (2, .int w2)] []
  refine z_aload_n B dX9_start_0 rfl 0 rfl ?_
  refine z_iload_n B dX9_start_1 rfl 1 rfl ?_
  refine z_iconst (v := 0) B dX9_start_2 (by decide) ?_
  refine z_iconst (v := 5) B dX9_start_3 (by decide) ?_
  refine z_cSi (As := [.int w1, .int 0, .int 5]) (rest := [.ref (b + 405)]) B cw_X9_96 dX9_start_4 (ci_X9_in_25 l (σ := (ap b σ [] [] [])) (b := b) (lyA hK) w1 q1_w1 q2_w1) rfl (by decide) rfl (Nat.le_of_ble_eq_true rfl) (by decide) (fun r u hu => ?_)
  refine z_eqs (σ' := (ap b σ [] [] [])) hu.2 ?_
  show zx p l e _ s m _ below meth c g 4 0 0 _ _ 7 [(0, .ref (b + 405)), (1, .int w1), (2, .int w2)] _
  refine z_seti (y := 0) hu.1 ?_
  refine z_iload_n B dX9_start_7 rfl 2 rfl ?_
  refine z_sipush (v := (-999)) B dX9_start_8 (by decide) ?_
  refine z_sipush (v := 999) B dX9_start_11 (by decide) ?_
  refine z_cSi (As := [.int w2, .int (-999), .int 999]) (rest := [.int 0, .ref (b + 405)]) B cw_X9_96 dX9_start_14 (ci_X9_in_651 l (σ := (ap b σ [] [] [])) (b := b) (lyA hK) w2 q1_w2 q2_w2) rfl (by decide) rfl (Nat.le_of_ble_eq_true rfl) (by decide) (fun r u hu => ?_)
  refine z_eqs (σ' := (ap b σ [] [] [])) hu.2 ?_
  show zx p l e _ s m _ below meth c g 4 0 0 _ _ 17 [(0, .ref (b + 405)), (1, .int w1), (2, .int w2)] _
  refine z_seti (y := 0) hu.1 ?_
  refine z_aload_n B dX9_start_17 rfl 0 rfl ?_
  refine gf_X9_93 (x := 0) B (lKA (hk_K hK 405 rfl rfl)) (rI_at 405 6 hI_405_6) dX9_start_18 ?_
  refine z_bipush (v := 40) B dX9_start_21 (by decide) ?_
  refine z_icmp_ge (tgt := 30) B dX9_start_23 (by decide) (fun h => absurd h (by decide)) (fun _ => ?_)
  refine z_iconst (v := 1) B dX9_start_26 (by decide) ?_
  refine z_goto (tgt := 31) B dX9_start_27 (by decide) ?_
  refine z_cVi (As := [.int 0, .int 0, .int 1]) (rest := []) B cw_X9_259 cx_10 dX9_start_31 (ci_X9_needs___652 l (σ := (ap b σ [] [] [])) (b := b) (lyA hK) ) (lKA (hk_K hK 405 rfl rfl)) rfl (by decide) rfl (Nat.le_of_ble_eq_true rfl) (by decide) (fun r u hu => ?_)
  refine z_eqs (σ' := (ap b σ [(405, 0, 1)] [] [])) (hu.2.trans ap_ap) ?_
  show zx p l e _ s m _ below meth c g 4 0 0 _ _ 34 [(0, .ref (b + 405)), (1, .int w1), (2, .int w2)] _
  refine z_seti (y := 0) hu.1 ?_
  refine z_if_ne (tgt := 39) B dX9_start_34 (by decide) (fun h => absurd (by decide) h) (fun _ => ?_)
  refine z_iconst (v := 0) B dX9_start_37 (by decide) ?_
  exact z_iret B hr (by decide) (by decide) dX9_start_38 ⟨rfl, rfl⟩
set_option maxRecDepth 100000 in
set_option maxHeartbeats 4000000 in
theorem ci_X9_in_654 (l : Launch) {g : gx_T} {σ : sx_T} {b : Nat} (hK : lay b σ) (w1 : Int32) (q1_w1 : (-999 : Int) ≤ w1.toInt) (q2_w1 : w1.toInt ≤ (999 : Int))  : Met l yX9_in (.code yX9_in cX9_in 3 (some .boolean) :: lw_g) { frames := 0, cells := 0, slots := 0, locals := 0 } (va_Pc [.int w1, .int (-999), .int 999] (zx_w g σ)) (va_Qi (fun r u => r = 1 ∧ u = σ) (zx_w g) (gx_Q g)) 0 0 (gx_Q g) := by
  refine z_met (by decide) (Nat.le_of_ble_eq_true rfl) (fun p e s m below meth c B hr hin => ?_)
  refine z_eqs (σ' := (ap b σ [] [] [])) rfl ?_
  show zx p l e _ s m _ below meth c g 3 0 0 _ _ 0 [(0, .int w1), (1, .int (-999)), (2, .int 999)] []
  refine z_iload_n B dX9_in_0 rfl 0 rfl ?_
  refine z_iload_n B dX9_in_1 rfl 1 rfl ?_
  refine z_icmp_lt (tgt := 14) B dX9_in_2 (by decide) (fun h => absurd h (iv_nlt q1_w1 (by decide))) (fun _ => ?_)
  refine z_iload_n B dX9_in_5 rfl 0 rfl ?_
  refine z_iload_n B dX9_in_6 rfl 2 rfl ?_
  refine z_icmp_gt (tgt := 14) B dX9_in_7 (by decide) (fun h => absurd h (iv_ngt q2_w1 (by decide))) (fun _ => ?_)
  refine z_iconst (v := 1) B dX9_in_10 (by decide) ?_
  refine z_goto (tgt := 15) B dX9_in_11 (by decide) ?_
  exact z_zret B hr (by decide) (by decide) (by decide) dX9_in_15 ⟨rfl, rfl⟩
set_option maxRecDepth 100000 in
set_option maxHeartbeats 4000000 in
theorem ci_X9_needs___655 (l : Launch) {g : gx_T} {σ : sx_T} {b : Nat} (hK : lay b σ)    : Met l yX9_needs__ (.code yX9_needs__ cX9_needs__ 4 (some .boolean) :: lw_g) { frames := 0, cells := 0, slots := 0, locals := 0 } (va_Pc [.ref (b + 405), .int 0, .int 1, .int 1] (zx_w g σ)) (va_Qi (fun r u => r = 0 ∧ u = (ap b σ [(405, 0, 1)] [] [])) (zx_w g) (gx_Q g)) 0 0 (gx_Q g) := by
  refine z_met (by decide) (Nat.le_of_ble_eq_true rfl) (fun p e s m below meth c B hr hin => ?_)
  refine z_eqs (σ' := (ap b σ [] [] [])) rfl ?_
  show zx p l e _ s m _ below meth c g 4 0 0 _ _ 0 [(0, .ref (b + 405)), (1, .int 0), (2, .int 1), (3, .int 1)] []
  refine z_aload_n B dX9_needs___0 rfl 0 rfl ?_
  refine z_iload_n B dX9_needs___1 rfl 1 rfl ?_
  refine z_if_ne (tgt := 9) B dX9_needs___2 (by decide) (fun h => absurd (by decide) h) (fun _ => ?_)
  refine z_iconst (v := 1) B dX9_needs___5 (by decide) ?_
  refine z_goto (tgt := 26) B dX9_needs___6 (by decide) ?_
  refine pf_X9_90 (x := 1) (σ' := (ap b σ [(405, 0, 1)] [] [])) B (lKA (hk_K hK 405 rfl rfl)) wI_ap dX9_needs___26 ?_
  refine z_aload_n B dX9_needs___29 rfl 0 rfl ?_
  refine gf_X9_90 (x := 1) B (lKA (hk_K hK 405 rfl rfl)) (rI_at 405 0 rfl) dX9_needs___30 ?_
  refine z_if_ne (tgt := 40) B dX9_needs___33 (by decide) (fun _ => ?_) (fun h => absurd h (by decide))
  refine z_iconst (v := 0) B dX9_needs___40 (by decide) ?_
  exact z_zret B hr (by decide) (by decide) (by decide) dX9_needs___41 ⟨rfl, rfl⟩
set_option maxRecDepth 100000 in
set_option maxHeartbeats 4000000 in
theorem ci_X9_start_656 (l : Launch) {g : gx_T} {σ : sx_T} {b : Nat} (hK : lay b σ) (w1 : Int32) (w2 : Int32) (q1_w1 : (-2147483648 : Int) ≤ w1.toInt) (q2_w1 : w1.toInt ≤ (-1 : Int)) (q1_w2 : (-999 : Int) ≤ w2.toInt) (q2_w2 : w2.toInt ≤ (999 : Int)) (hI_405_6 : sx_I σ (b + 405) 6 = 0) : Met l yX9_start (.code yX9_start cX9_start 4 (some .int) :: lw_g) { frames := 1, cells := 0, slots := 0, locals := 23 } (va_Pc [.ref (b + 405), .int w1, .int w2] (zx_w g σ)) (va_Qi (fun r u => r = 0 ∧ u = (ap b σ [(405, 0, 1)] [] [])) (zx_w g) (gx_Q g)) 0 0 (gx_Q g) := by
  refine z_met (by decide) (Nat.le_of_ble_eq_true rfl) (fun p e s m below meth c B hr hin => ?_)
  refine z_eqs (σ' := (ap b σ [] [] [])) rfl ?_
  show zx p l e _ s m _ below meth c g 4 0 0 _ _ 0 [(0, .ref (b + 405)), (1, .int w1), (2, .int w2)] []
  refine z_aload_n B dX9_start_0 rfl 0 rfl ?_
  refine z_iload_n B dX9_start_1 rfl 1 rfl ?_
  refine z_iconst (v := 0) B dX9_start_2 (by decide) ?_
  refine z_iconst (v := 5) B dX9_start_3 (by decide) ?_
  refine z_cSi (As := [.int w1, .int 0, .int 5]) (rest := [.ref (b + 405)]) B cw_X9_96 dX9_start_4 (ci_X9_in_25 l (σ := (ap b σ [] [] [])) (b := b) (lyA hK) w1 q1_w1 q2_w1) rfl (by decide) rfl (Nat.le_of_ble_eq_true rfl) (by decide) (fun r u hu => ?_)
  refine z_eqs (σ' := (ap b σ [] [] [])) hu.2 ?_
  show zx p l e _ s m _ below meth c g 4 0 0 _ _ 7 [(0, .ref (b + 405)), (1, .int w1), (2, .int w2)] _
  refine z_seti (y := 0) hu.1 ?_
  refine z_iload_n B dX9_start_7 rfl 2 rfl ?_
  refine z_sipush (v := (-999)) B dX9_start_8 (by decide) ?_
  refine z_sipush (v := 999) B dX9_start_11 (by decide) ?_
  refine z_cSi (As := [.int w2, .int (-999), .int 999]) (rest := [.int 0, .ref (b + 405)]) B cw_X9_96 dX9_start_14 (ci_X9_in_654 l (σ := (ap b σ [] [] [])) (b := b) (lyA hK) w2 q1_w2 q2_w2) rfl (by decide) rfl (Nat.le_of_ble_eq_true rfl) (by decide) (fun r u hu => ?_)
  refine z_eqs (σ' := (ap b σ [] [] [])) hu.2 ?_
  show zx p l e _ s m _ below meth c g 4 0 0 _ _ 17 [(0, .ref (b + 405)), (1, .int w1), (2, .int w2)] _
  refine z_seti (y := 1) hu.1 ?_
  refine z_aload_n B dX9_start_17 rfl 0 rfl ?_
  refine gf_X9_93 (x := 0) B (lKA (hk_K hK 405 rfl rfl)) (rI_at 405 6 hI_405_6) dX9_start_18 ?_
  refine z_bipush (v := 40) B dX9_start_21 (by decide) ?_
  refine z_icmp_ge (tgt := 30) B dX9_start_23 (by decide) (fun h => absurd h (by decide)) (fun _ => ?_)
  refine z_iconst (v := 1) B dX9_start_26 (by decide) ?_
  refine z_goto (tgt := 31) B dX9_start_27 (by decide) ?_
  refine z_cVi (As := [.int 0, .int 1, .int 1]) (rest := []) B cw_X9_259 cx_10 dX9_start_31 (ci_X9_needs___655 l (σ := (ap b σ [] [] [])) (b := b) (lyA hK) ) (lKA (hk_K hK 405 rfl rfl)) rfl (by decide) rfl (Nat.le_of_ble_eq_true rfl) (by decide) (fun r u hu => ?_)
  refine z_eqs (σ' := (ap b σ [(405, 0, 1)] [] [])) (hu.2.trans ap_ap) ?_
  show zx p l e _ s m _ below meth c g 4 0 0 _ _ 34 [(0, .ref (b + 405)), (1, .int w1), (2, .int w2)] _
  refine z_seti (y := 0) hu.1 ?_
  refine z_if_ne (tgt := 39) B dX9_start_34 (by decide) (fun h => absurd (by decide) h) (fun _ => ?_)
  refine z_iconst (v := 0) B dX9_start_37 (by decide) ?_
  exact z_iret B hr (by decide) (by decide) dX9_start_38 ⟨rfl, rfl⟩
set_option maxRecDepth 100000 in
set_option maxHeartbeats 4000000 in
theorem ci_X9_in_657 (l : Launch) {g : gx_T} {σ : sx_T} {b : Nat} (hK : lay b σ) (w1 : Int32) (q1_w1 : (1000 : Int) ≤ w1.toInt) (q2_w1 : w1.toInt ≤ (2147483647 : Int))  : Met l yX9_in (.code yX9_in cX9_in 3 (some .boolean) :: lw_g) { frames := 0, cells := 0, slots := 0, locals := 0 } (va_Pc [.int w1, .int (-999), .int 999] (zx_w g σ)) (va_Qi (fun r u => r = 0 ∧ u = σ) (zx_w g) (gx_Q g)) 0 0 (gx_Q g) := by
  refine z_met (by decide) (Nat.le_of_ble_eq_true rfl) (fun p e s m below meth c B hr hin => ?_)
  refine z_eqs (σ' := (ap b σ [] [] [])) rfl ?_
  show zx p l e _ s m _ below meth c g 3 0 0 _ _ 0 [(0, .int w1), (1, .int (-999)), (2, .int 999)] []
  refine z_iload_n B dX9_in_0 rfl 0 rfl ?_
  refine z_iload_n B dX9_in_1 rfl 1 rfl ?_
  refine z_icmp_lt (tgt := 14) B dX9_in_2 (by decide) (fun h => absurd h (iv_nlt q1_w1 (by decide))) (fun _ => ?_)
  refine z_iload_n B dX9_in_5 rfl 0 rfl ?_
  refine z_iload_n B dX9_in_6 rfl 2 rfl ?_
  refine z_icmp_gt (tgt := 14) B dX9_in_7 (by decide) (fun _ => ?_) (fun h => absurd (iv_gt q1_w1 (by decide)) h)
  refine z_iconst (v := 0) B dX9_in_14 (by decide) ?_
  exact z_zret B hr (by decide) (by decide) (by decide) dX9_in_15 ⟨rfl, rfl⟩
set_option maxRecDepth 100000 in
set_option maxHeartbeats 4000000 in
theorem ci_X9_start_658 (l : Launch) {g : gx_T} {σ : sx_T} {b : Nat} (hK : lay b σ) (w1 : Int32) (w2 : Int32) (q1_w1 : (-2147483648 : Int) ≤ w1.toInt) (q2_w1 : w1.toInt ≤ (-1 : Int)) (q1_w2 : (1000 : Int) ≤ w2.toInt) (q2_w2 : w2.toInt ≤ (2147483647 : Int)) (hI_405_6 : sx_I σ (b + 405) 6 = 0) : Met l yX9_start (.code yX9_start cX9_start 4 (some .int) :: lw_g) { frames := 1, cells := 0, slots := 0, locals := 23 } (va_Pc [.ref (b + 405), .int w1, .int w2] (zx_w g σ)) (va_Qi (fun r u => r = 0 ∧ u = (ap b σ [(405, 0, 1)] [] [])) (zx_w g) (gx_Q g)) 0 0 (gx_Q g) := by
  refine z_met (by decide) (Nat.le_of_ble_eq_true rfl) (fun p e s m below meth c B hr hin => ?_)
  refine z_eqs (σ' := (ap b σ [] [] [])) rfl ?_
  show zx p l e _ s m _ below meth c g 4 0 0 _ _ 0 [(0, .ref (b + 405)), (1, .int w1), (2, .int w2)] []
  refine z_aload_n B dX9_start_0 rfl 0 rfl ?_
  refine z_iload_n B dX9_start_1 rfl 1 rfl ?_
  refine z_iconst (v := 0) B dX9_start_2 (by decide) ?_
  refine z_iconst (v := 5) B dX9_start_3 (by decide) ?_
  refine z_cSi (As := [.int w1, .int 0, .int 5]) (rest := [.ref (b + 405)]) B cw_X9_96 dX9_start_4 (ci_X9_in_25 l (σ := (ap b σ [] [] [])) (b := b) (lyA hK) w1 q1_w1 q2_w1) rfl (by decide) rfl (Nat.le_of_ble_eq_true rfl) (by decide) (fun r u hu => ?_)
  refine z_eqs (σ' := (ap b σ [] [] [])) hu.2 ?_
  show zx p l e _ s m _ below meth c g 4 0 0 _ _ 7 [(0, .ref (b + 405)), (1, .int w1), (2, .int w2)] _
  refine z_seti (y := 0) hu.1 ?_
  refine z_iload_n B dX9_start_7 rfl 2 rfl ?_
  refine z_sipush (v := (-999)) B dX9_start_8 (by decide) ?_
  refine z_sipush (v := 999) B dX9_start_11 (by decide) ?_
  refine z_cSi (As := [.int w2, .int (-999), .int 999]) (rest := [.int 0, .ref (b + 405)]) B cw_X9_96 dX9_start_14 (ci_X9_in_657 l (σ := (ap b σ [] [] [])) (b := b) (lyA hK) w2 q1_w2 q2_w2) rfl (by decide) rfl (Nat.le_of_ble_eq_true rfl) (by decide) (fun r u hu => ?_)
  refine z_eqs (σ' := (ap b σ [] [] [])) hu.2 ?_
  show zx p l e _ s m _ below meth c g 4 0 0 _ _ 17 [(0, .ref (b + 405)), (1, .int w1), (2, .int w2)] _
  refine z_seti (y := 0) hu.1 ?_
  refine z_aload_n B dX9_start_17 rfl 0 rfl ?_
  refine gf_X9_93 (x := 0) B (lKA (hk_K hK 405 rfl rfl)) (rI_at 405 6 hI_405_6) dX9_start_18 ?_
  refine z_bipush (v := 40) B dX9_start_21 (by decide) ?_
  refine z_icmp_ge (tgt := 30) B dX9_start_23 (by decide) (fun h => absurd h (by decide)) (fun _ => ?_)
  refine z_iconst (v := 1) B dX9_start_26 (by decide) ?_
  refine z_goto (tgt := 31) B dX9_start_27 (by decide) ?_
  refine z_cVi (As := [.int 0, .int 0, .int 1]) (rest := []) B cw_X9_259 cx_10 dX9_start_31 (ci_X9_needs___652 l (σ := (ap b σ [] [] [])) (b := b) (lyA hK) ) (lKA (hk_K hK 405 rfl rfl)) rfl (by decide) rfl (Nat.le_of_ble_eq_true rfl) (by decide) (fun r u hu => ?_)
  refine z_eqs (σ' := (ap b σ [(405, 0, 1)] [] [])) (hu.2.trans ap_ap) ?_
  show zx p l e _ s m _ below meth c g 4 0 0 _ _ 34 [(0, .ref (b + 405)), (1, .int w1), (2, .int w2)] _
  refine z_seti (y := 0) hu.1 ?_
  refine z_if_ne (tgt := 39) B dX9_start_34 (by decide) (fun h => absurd (by decide) h) (fun _ => ?_)
  refine z_iconst (v := 0) B dX9_start_37 (by decide) ?_
  exact z_iret B hr (by decide) (by decide) dX9_start_38 ⟨rfl, rfl⟩
set_option maxRecDepth 100000 in
set_option maxHeartbeats 4000000 in
theorem ci_X8_start_659 (l : Launch) (hlt : l.stackTraces = false) {g : gx_T} {σ : sx_T} {b : Nat} (hK : lay b σ) (w1 : Int32) (q1_w1 : (-2147483648 : Int) ≤ w1.toInt) (q2_w1 : w1.toInt ≤ (-1000 : Int)) (hR_0_0 : sx_R σ (b + 0) 0 = (some (b + 1))) (hR_1_0 : sx_R σ (b + 1) 0 = (some (b + 9))) : vx_Met l yX8_start (.code yX8_start cX8_start 5 (some .int) :: lw_g) { frames := 7, cells := 1, slots := 6, locals := 136 } (va_Pc [.ref (b + 0), .int 0, .int w1] (zx_w g σ)) (va_Qi (S := sx_T) (fun _ _ => False) (zx_w g) (gx_Q g)) (vx_X (fun u : sx_T => ∃ z, u = wx_Z σ z) (fun E u t => E = "java/lang/IllegalArgumentException" ∧ zx_h g u t.heap) (gx_Q g)) 1 6 (gx_Q g) := by
  refine z_metX (by decide) (Nat.le_of_ble_eq_true rfl) (fun p e s m below meth c B hr hin hout => ?_)
  refine z_eqs (σ' := (ap b σ [] [] [])) rfl ?_
  show zx p l e _ s m _ below meth c g 5 0 0 _ _ 0 [(0, .ref (b + 0)), (1, .int 0), (2, .int w1)] []
  refine z_aload_n B dX8_start_0 rfl 0 rfl ?_
  refine z_iload_n B dX8_start_1 rfl 1 rfl ?_
  refine z_cVq (As := [.int 0]) (rest := []) B cw_X8_64 cx_9 dX8_start_2 (ci_X8_programAt_50 l (σ := (ap b σ [] [] [])) (b := b) (lyA hK) (rR_at 0 0 hR_0_0) (rR_at 1 0 hR_1_0)) (lKA (hk_K hK 0 rfl rfl)) rfl (by decide) rfl (Nat.le_of_ble_eq_true rfl) (by decide) (fun r u hu => ?_)
  refine z_eqs (σ' := (ap b σ [] [] [])) hu.2 ?_
  show zx p l e _ s m _ below meth c g 5 0 0 _ _ 5 [(0, .ref (b + 0)), (1, .int 0), (2, .int w1)] _
  refine z_setr (y := (some (b + 9))) hu.1 ?_
  refine z_astore_n (lv' := [(3, .ref (b + 9)), (0, .ref (b + 0)), (1, .int 0), (2, .int w1)]) B dX8_start_5 rfl (by decide) rfl ?_
  refine z_aload_n B dX8_start_6 rfl 0 rfl ?_
  refine z_ifnonnull (r := (some (b + 9))) (tgt := 20) B dX8_start_7 (by decide) (fun _ _ => ?_) (fun h => nomatch h)
  refine z_iload_n B dX8_start_20 rfl 3 rfl ?_
  refine z_sipush (v := (-999)) B dX8_start_21 (by decide) ?_
  refine z_icmp_lt (tgt := 34) B dX8_start_24 (by decide) (fun _ => ?_) (fun h => absurd (iv_lt q2_w1 (by decide)) h)
  exact z_throw B hlt hout (cls := "java/lang/IllegalArgumentException") (text := "input is out of range") tw_X8_83_139_87 dX8_start_34 dX8_start_37 dX8_start_38 dX8_start_40 dX8_start_43 (by decide) (by decide) (by decide) (by decide) (by decide) (by decide) (fun z => ⟨z, rfl⟩)
set_option maxRecDepth 100000 in
set_option maxHeartbeats 4000000 in
theorem ci_L_start_660 (l : Launch) (hlt : l.stackTraces = false) {g : gx_T} {σ : sx_T} {b : Nat} (hK : lay b σ) (w1 : Int32) (q1_w1 : (-2147483648 : Int) ≤ w1.toInt) (q2_w1 : w1.toInt ≤ (-1000 : Int)) (hR_0_0 : sx_R σ (b + 0) 0 = (some (b + 1))) (hR_1_0 : sx_R σ (b + 1) 0 = (some (b + 9))) : Met l yL_start (.codeWith yL_start cL_start 5 (some .int) [(0, 10, 13, 13), (0, 10, 17, 15), (0, 10, 21, 24)] :: lw_g) { frames := 8, cells := 1, slots := 6, locals := 160 } (va_Pc [.ref (b + 0), .int 0, .int w1, .ref (b + 431)] (zx_w g σ)) (va_Qi (fun r u => r = 2 ∧ ∃ z, u = (ap b (wx_Z σ z) [] [] [])) (zx_w g) (gx_Q g)) 1 6 (gx_Q g) := by
  refine z_metW (by decide) (Nat.le_of_ble_eq_true rfl) (fun p e s m below meth c B hr htab => ?_)
  refine z_eqs (σ' := (ap b σ [] [] [])) rfl ?_
  show zx p l e _ s m _ below meth c g 5 0 0 _ _ 0 [(0, .ref (b + 0)), (1, .int 0), (2, .int w1), (3, .ref (b + 431))] []
  refine z_aload_n B dL_start_0 rfl 3 rfl ?_
  refine z_iconst (v := 0) B dL_start_1 (by decide) ?_
  refine z_aload_n B dL_start_2 rfl 0 rfl ?_
  refine z_iload_n B dL_start_3 rfl 1 rfl ?_
  refine z_iload_n B dL_start_4 rfl 2 rfl ?_
  refine z_cXi (As := [.int 0, .int w1]) (rest := [.int 0, .ref (b + 431)]) B htab tc_start_5_IllegalArgumentException cw_L_20 cx_9 dL_start_5 (ci_X8_start_659 l hlt (σ := (ap b σ [] [] [])) (b := b) (lyA hK) w1 q1_w1 q2_w1 (rR_at 0 0 hR_0_0) (rR_at 1 0 hR_1_0)) (lKA (hk_K hK 0 rfl rfl)) rfl (by decide) rfl (Nat.le_of_ble_eq_true rfl) (by decide) (fun z q => ?_)
  refine z_eqs (σ' := (ap b (wx_Z σ z) [] [] [])) rfl ?_
  show zx p l e _ s m _ below meth c g 5 _ _ _ _ 17 [(0, .ref (b + 0)), (1, .int 0), (2, .int w1), (3, .ref (b + 431))] _
  refine z_astore (lv' := [(4, .ref q), (0, .ref (b + 0)), (1, .int 0), (2, .int w1), (3, .ref (b + 431))]) B dL_start_17 (by decide) rfl ?_
  refine z_iconst (v := 2) B dL_start_19 (by decide) ?_
  exact z_iret B hr (by decide) (by decide) dL_start_20 ⟨rfl, _, rfl⟩
set_option maxRecDepth 100000 in
set_option maxHeartbeats 4000000 in
theorem ci_X9_needs___661 (l : Launch) {g : gx_T} {σ : sx_T} {b : Nat} (hK : lay b σ)    : Met l yX9_needs__ (.code yX9_needs__ cX9_needs__ 4 (some .boolean) :: lw_g) { frames := 0, cells := 0, slots := 0, locals := 0 } (va_Pc [.ref (b + 405), .int 1, .int 0, .int 1] (zx_w g σ)) (va_Qi (fun r u => r = 0 ∧ u = (ap b σ [(405, 0, 2)] [] [])) (zx_w g) (gx_Q g)) 0 0 (gx_Q g) := by
  refine z_met (by decide) (Nat.le_of_ble_eq_true rfl) (fun p e s m below meth c B hr hin => ?_)
  refine z_eqs (σ' := (ap b σ [] [] [])) rfl ?_
  show zx p l e _ s m _ below meth c g 4 0 0 _ _ 0 [(0, .ref (b + 405)), (1, .int 1), (2, .int 0), (3, .int 1)] []
  refine z_aload_n B dX9_needs___0 rfl 0 rfl ?_
  refine z_iload_n B dX9_needs___1 rfl 1 rfl ?_
  refine z_if_ne (tgt := 9) B dX9_needs___2 (by decide) (fun _ => ?_) (fun h => absurd h (by decide))
  refine z_iload_n B dX9_needs___9 rfl 2 rfl ?_
  refine z_if_ne (tgt := 17) B dX9_needs___10 (by decide) (fun h => absurd (by decide) h) (fun _ => ?_)
  refine z_iconst (v := 2) B dX9_needs___13 (by decide) ?_
  refine z_goto (tgt := 26) B dX9_needs___14 (by decide) ?_
  refine pf_X9_90 (x := 2) (σ' := (ap b σ [(405, 0, 2)] [] [])) B (lKA (hk_K hK 405 rfl rfl)) wI_ap dX9_needs___26 ?_
  refine z_aload_n B dX9_needs___29 rfl 0 rfl ?_
  refine gf_X9_90 (x := 2) B (lKA (hk_K hK 405 rfl rfl)) (rI_at 405 0 rfl) dX9_needs___30 ?_
  refine z_if_ne (tgt := 40) B dX9_needs___33 (by decide) (fun _ => ?_) (fun h => absurd h (by decide))
  refine z_iconst (v := 0) B dX9_needs___40 (by decide) ?_
  exact z_zret B hr (by decide) (by decide) (by decide) dX9_needs___41 ⟨rfl, rfl⟩
set_option maxRecDepth 100000 in
set_option maxHeartbeats 4000000 in
theorem ci_X9_start_662 (l : Launch) {g : gx_T} {σ : sx_T} {b : Nat} (hK : lay b σ) (w1 : Int32) (q1_w1 : (-2147483648 : Int) ≤ w1.toInt) (q2_w1 : w1.toInt ≤ (-1000 : Int)) (hI_405_6 : sx_I σ (b + 405) 6 = 0) : Met l yX9_start (.code yX9_start cX9_start 4 (some .int) :: lw_g) { frames := 1, cells := 0, slots := 0, locals := 23 } (va_Pc [.ref (b + 405), .int 0, .int w1] (zx_w g σ)) (va_Qi (fun r u => r = 0 ∧ u = (ap b σ [(405, 0, 2)] [] [])) (zx_w g) (gx_Q g)) 0 0 (gx_Q g) := by
  refine z_met (by decide) (Nat.le_of_ble_eq_true rfl) (fun p e s m below meth c B hr hin => ?_)
  refine z_eqs (σ' := (ap b σ [] [] [])) rfl ?_
  show zx p l e _ s m _ below meth c g 4 0 0 _ _ 0 [(0, .ref (b + 405)), (1, .int 0), (2, .int w1)] []
  refine z_aload_n B dX9_start_0 rfl 0 rfl ?_
  refine z_iload_n B dX9_start_1 rfl 1 rfl ?_
  refine z_iconst (v := 0) B dX9_start_2 (by decide) ?_
  refine z_iconst (v := 5) B dX9_start_3 (by decide) ?_
  refine z_cSi (As := [.int 0, .int 0, .int 5]) (rest := [.ref (b + 405)]) B cw_X9_96 dX9_start_4 (ci_X9_in_54 l (σ := (ap b σ [] [] [])) (b := b) (lyA hK) ) rfl (by decide) rfl (Nat.le_of_ble_eq_true rfl) (by decide) (fun r u hu => ?_)
  refine z_eqs (σ' := (ap b σ [] [] [])) hu.2 ?_
  show zx p l e _ s m _ below meth c g 4 0 0 _ _ 7 [(0, .ref (b + 405)), (1, .int 0), (2, .int w1)] _
  refine z_seti (y := 1) hu.1 ?_
  refine z_iload_n B dX9_start_7 rfl 2 rfl ?_
  refine z_sipush (v := (-999)) B dX9_start_8 (by decide) ?_
  refine z_sipush (v := 999) B dX9_start_11 (by decide) ?_
  refine z_cSi (As := [.int w1, .int (-999), .int 999]) (rest := [.int 1, .ref (b + 405)]) B cw_X9_96 dX9_start_14 (ci_X9_in_651 l (σ := (ap b σ [] [] [])) (b := b) (lyA hK) w1 q1_w1 q2_w1) rfl (by decide) rfl (Nat.le_of_ble_eq_true rfl) (by decide) (fun r u hu => ?_)
  refine z_eqs (σ' := (ap b σ [] [] [])) hu.2 ?_
  show zx p l e _ s m _ below meth c g 4 0 0 _ _ 17 [(0, .ref (b + 405)), (1, .int 0), (2, .int w1)] _
  refine z_seti (y := 0) hu.1 ?_
  refine z_aload_n B dX9_start_17 rfl 0 rfl ?_
  refine gf_X9_93 (x := 0) B (lKA (hk_K hK 405 rfl rfl)) (rI_at 405 6 hI_405_6) dX9_start_18 ?_
  refine z_bipush (v := 40) B dX9_start_21 (by decide) ?_
  refine z_icmp_ge (tgt := 30) B dX9_start_23 (by decide) (fun h => absurd h (by decide)) (fun _ => ?_)
  refine z_iconst (v := 1) B dX9_start_26 (by decide) ?_
  refine z_goto (tgt := 31) B dX9_start_27 (by decide) ?_
  refine z_cVi (As := [.int 1, .int 0, .int 1]) (rest := []) B cw_X9_259 cx_10 dX9_start_31 (ci_X9_needs___661 l (σ := (ap b σ [] [] [])) (b := b) (lyA hK) ) (lKA (hk_K hK 405 rfl rfl)) rfl (by decide) rfl (Nat.le_of_ble_eq_true rfl) (by decide) (fun r u hu => ?_)
  refine z_eqs (σ' := (ap b σ [(405, 0, 2)] [] [])) (hu.2.trans ap_ap) ?_
  show zx p l e _ s m _ below meth c g 4 0 0 _ _ 34 [(0, .ref (b + 405)), (1, .int 0), (2, .int w1)] _
  refine z_seti (y := 0) hu.1 ?_
  refine z_if_ne (tgt := 39) B dX9_start_34 (by decide) (fun h => absurd (by decide) h) (fun _ => ?_)
  refine z_iconst (v := 0) B dX9_start_37 (by decide) ?_
  exact z_iret B hr (by decide) (by decide) dX9_start_38 ⟨rfl, rfl⟩
set_option maxRecDepth 100000 in
set_option maxHeartbeats 4000000 in
theorem ci_X1_add_663 (l : Launch) {g : gx_T} {σ : sx_T} {b : Nat} (hK : lay b σ) (w1 : Int64)  (hI_37_2 : sx_I σ (b + 37) 2 = 0) (hR_37_0 : sx_R σ (b + 37) 0 = (some (b + 38))) (hR_37_1 : sx_R σ (b + 37) 1 = (some (b + 39))) : Met l yX1_add (.code yX1_add cX1_add 4 none :: lw_g) { frames := 0, cells := 0, slots := 0, locals := 0 } (va_Pc [.ref (b + 37), .int 0, .long w1] (zx_w g σ)) (va_Qv (fun u => u = (ap b σ [(37, 2, 1), (38, 0, 0)] [(39, 0, w1)] [])) (zx_w g) (gx_Q g)) 0 0 (gx_Q g) := by
  refine z_met (by decide) (Nat.le_of_ble_eq_true rfl) (fun p e s m below meth c B hr hin => ?_)
  refine z_eqs (σ' := (ap b σ [] [] [])) rfl ?_
  show zx p l e _ s m _ below meth c g 4 0 0 _ _ 0 [(0, .ref (b + 37)), (1, .int 0), (2, .long w1)] []
  refine z_aload_n B dX1_add_0 rfl 0 rfl ?_
  refine gf_X1_19 (x := 0) B (lKA (hk_K hK 37 rfl rfl)) (rI_at 37 2 hI_37_2) dX1_add_1 ?_
  refine z_if_lt (tgt := 62) B dX1_add_4 (by decide) (fun h => absurd h (by decide)) (fun _ => ?_)
  refine z_aload_n B dX1_add_7 rfl 0 rfl ?_
  refine gf_X1_19 (x := 0) B (lKA (hk_K hK 37 rfl rfl)) (rI_at 37 2 hI_37_2) dX1_add_8 ?_
  refine z_aload_n B dX1_add_11 rfl 0 rfl ?_
  refine gf_X1_9 (x := (some (b + 38))) B (lKA (hk_K hK 37 rfl rfl)) (rR_at 37 0 hR_37_0) dX1_add_12 ?_
  refine z_alen (kd := 12) (ti := 0) (v := 140) B (lKA (hk_K hK 38 rfl rfl)) (by decide) rfl (congrArg Int32.ofNat (lNA (hk_N hK 38 rfl rfl))) dX1_add_15 ?_
  refine z_icmp_ge (tgt := 62) B dX1_add_16 (by decide) (fun h => absurd h (by decide)) (fun _ => ?_)
  refine z_aload_n B dX1_add_19 rfl 0 rfl ?_
  refine gf_X1_19 (x := 0) B (lKA (hk_K hK 37 rfl rfl)) (rI_at 37 2 hI_37_2) dX1_add_20 ?_
  refine z_aload_n B dX1_add_23 rfl 0 rfl ?_
  refine gf_X1_15 (x := (some (b + 39))) B (lKA (hk_K hK 37 rfl rfl)) (rR_at 37 1 hR_37_1) dX1_add_24 ?_
  refine z_alen (kd := 14) (ti := 2) (v := 140) B (lKA (hk_K hK 39 rfl rfl)) (by decide) rfl (congrArg Int32.ofNat (lNA (hk_N hK 39 rfl rfl))) dX1_add_27 ?_
  refine z_icmp_ge (tgt := 62) B dX1_add_28 (by decide) (fun h => absurd h (by decide)) (fun _ => ?_)
  refine z_aload_n B dX1_add_31 rfl 0 rfl ?_
  refine gf_X1_9 (x := (some (b + 38))) B (lKA (hk_K hK 37 rfl rfl)) (rR_at 37 0 hR_37_0) dX1_add_32 ?_
  refine z_aload_n B dX1_add_35 rfl 0 rfl ?_
  refine gf_X1_19 (x := 0) B (lKA (hk_K hK 37 rfl rfl)) (rI_at 37 2 hI_37_2) dX1_add_36 ?_
  refine z_iload_n B dX1_add_39 rfl 1 rfl ?_
  refine z_i2b (v := 0) B dX1_add_40 (by decide) ?_
  refine z_bast (j := 0) (σ' := (ap b σ [(38, 0, 0)] [] [])) B (lKA (hk_K hK 38 rfl rfl)) (by decide) (in_of (lNA (hk_N hK 38 rfl rfl)) (show ¬ ((0 : Int32) < 0 ∨ 140 ≤ (0 : Int32).toNatClampNeg) by decide)) (wI_ap2 (by decide)) dX1_add_41 ?_
  refine z_aload_n B dX1_add_42 rfl 0 rfl ?_
  refine gf_X1_15 (x := (some (b + 39))) B (lKA (hk_K hK 37 rfl rfl)) (rR_at 37 1 hR_37_1) dX1_add_43 ?_
  refine z_aload_n B dX1_add_46 rfl 0 rfl ?_
  refine gf_X1_19 (x := 0) B (lKA (hk_K hK 37 rfl rfl)) (rI_at 37 2 hI_37_2) dX1_add_47 ?_
  refine z_lload_n B dX1_add_50 rfl 2 rfl ?_
  refine z_last (j := 0) (σ' := (ap b σ [(38, 0, 0)] [(39, 0, w1)] [])) B (lKA (hk_K hK 39 rfl rfl)) (by decide) (in_of (lNA (hk_N hK 39 rfl rfl)) (show ¬ ((0 : Int32) < 0 ∨ 140 ≤ (0 : Int32).toNatClampNeg) by decide)) wJ_ap dX1_add_51 ?_
  refine z_aload_n B dX1_add_52 rfl 0 rfl ?_
  refine z_dup B dX1_add_53 rfl ?_
  refine gf_X1_19 (x := 0) B (lKA (hk_K hK 37 rfl rfl)) (rI_at 37 2 hI_37_2) dX1_add_54 ?_
  refine z_iconst (v := 1) B dX1_add_57 (by decide) ?_
  refine z_iadd B dX1_add_58 ?_
  refine z_seti (y := 1) (by decide) ?_
  refine pf_X1_19 (x := 1) (σ' := (ap b σ [(37, 2, 1), (38, 0, 0)] [(39, 0, w1)] [])) B (lKA (hk_K hK 37 rfl rfl)) wI_ap dX1_add_59 ?_
  exact z_vret B hr (by decide) (by decide) dX1_add_62 rfl
set_option maxRecDepth 100000 in
set_option maxHeartbeats 4000000 in
theorem ci_X1_numberAt_664 (l : Launch) {g : gx_T} {σ : sx_T} {b : Nat} (hK : lay b σ) (w1 : Int64)  (hI_37_2 : sx_I σ (b + 37) 2 = 1) (hJ_39_0 : sx_J σ (b + 39) 0 = w1) (hR_37_1 : sx_R σ (b + 37) 1 = (some (b + 39))) : Met l yX1_numberAt (.code yX1_numberAt cX1_numberAt 2 (some .long) :: lw_g) { frames := 0, cells := 0, slots := 0, locals := 0 } (va_Pc [.ref (b + 37), .int 0] (zx_w g σ)) (va_Ql (fun r u => r = w1 ∧ u = σ) (zx_w g) (gx_Q g)) 0 0 (gx_Q g) := by
  refine z_met (by decide) (Nat.le_of_ble_eq_true rfl) (fun p e s m below meth c B hr hin => ?_)
  refine z_eqs (σ' := (ap b σ [] [] [])) rfl ?_
  show zx p l e _ s m _ below meth c g 2 0 0 _ _ 0 [(0, .ref (b + 37)), (1, .int 0)] []
  refine z_iload_n B dX1_numberAt_0 rfl 1 rfl ?_
  refine z_if_lt (tgt := 30) B dX1_numberAt_1 (by decide) (fun h => absurd h (by decide)) (fun _ => ?_)
  refine z_iload_n B dX1_numberAt_4 rfl 1 rfl ?_
  refine z_aload_n B dX1_numberAt_5 rfl 0 rfl ?_
  refine gf_X1_19 (x := 1) B (lKA (hk_K hK 37 rfl rfl)) (rI_at 37 2 hI_37_2) dX1_numberAt_6 ?_
  refine z_icmp_ge (tgt := 30) B dX1_numberAt_9 (by decide) (fun h => absurd h (by decide)) (fun _ => ?_)
  refine z_iload_n B dX1_numberAt_12 rfl 1 rfl ?_
  refine z_aload_n B dX1_numberAt_13 rfl 0 rfl ?_
  refine gf_X1_15 (x := (some (b + 39))) B (lKA (hk_K hK 37 rfl rfl)) (rR_at 37 1 hR_37_1) dX1_numberAt_14 ?_
  refine z_alen (kd := 14) (ti := 2) (v := 140) B (lKA (hk_K hK 39 rfl rfl)) (by decide) rfl (congrArg Int32.ofNat (lNA (hk_N hK 39 rfl rfl))) dX1_numberAt_17 ?_
  refine z_icmp_ge (tgt := 30) B dX1_numberAt_18 (by decide) (fun h => absurd h (by decide)) (fun _ => ?_)
  refine z_aload_n B dX1_numberAt_21 rfl 0 rfl ?_
  refine gf_X1_15 (x := (some (b + 39))) B (lKA (hk_K hK 37 rfl rfl)) (rR_at 37 1 hR_37_1) dX1_numberAt_22 ?_
  refine z_iload_n B dX1_numberAt_25 rfl 1 rfl ?_
  refine z_lald (j := 0) (x := w1) B (lKA (hk_K hK 39 rfl rfl)) (by decide) (in_of (lNA (hk_N hK 39 rfl rfl)) (show ¬ ((0 : Int32) < 0 ∨ 140 ≤ (0 : Int32).toNatClampNeg) by decide)) (rJ_at 39 0 hJ_39_0) dX1_numberAt_26 ?_
  refine z_goto (tgt := 31) B dX1_numberAt_27 (by decide) ?_
  exact z_lret B hr (by decide) (by decide) dX1_numberAt_31 ⟨rfl, rfl⟩
set_option maxRecDepth 100000 in
set_option maxHeartbeats 4000000 in
theorem ci_X5_begin_665 (l : Launch) {g : gx_T} {σ : sx_T} {b : Nat} (hK : lay b σ) (w1 : Int64)  (hI_37_2 : sx_I σ (b + 37) 2 = 1) (hJ_39_0 : sx_J σ (b + 39) 0 = w1) (hR_37_1 : sx_R σ (b + 37) 1 = (some (b + 39))) (hR_41_0 : sx_R σ (b + 41) 0 = (some (b + 42))) (hR_41_1 : sx_R σ (b + 41) 1 = (some (b + 44))) : Met l yX5_begin (.code yX5_begin cX5_begin 3 none :: lw_g) { frames := 1, cells := 0, slots := 0, locals := 21 } (va_Pc [.ref (b + 41), .ref (b + 9), .ref (b + 37)] (zx_w g σ)) (va_Qv (fun u => u = (ap b σ [(41, 19, 0), (41, 18, (-1)), (41, 16, (-1)), (41, 15, 0), (41, 14, 0), (41, 13, 0), (41, 12, 0), (41, 10, (-1)), (41, 9, (-1)), (41, 8, 0), (41, 7, 0), (41, 6, (w1.toInt32)), (41, 5, 0), (41, 4, 1), (44, 1, 0), (42, 1, 0)] [(41, 17, 0), (41, 11, 0)] [(41, 3, (some (b + 37))), (41, 2, (some (b + 9)))])) (zx_w g) (gx_Q g)) 0 0 (gx_Q g) := by
  refine z_met (by decide) (Nat.le_of_ble_eq_true rfl) (fun p e s m below meth c B hr hin => ?_)
  refine z_eqs (σ' := (ap b σ [] [] [])) rfl ?_
  show zx p l e _ s m _ below meth c g 3 0 0 _ _ 0 [(0, .ref (b + 41)), (1, .ref (b + 9)), (2, .ref (b + 37))] []
  refine z_aload_n B dX5_begin_0 rfl 0 rfl ?_
  refine z_aload_n B dX5_begin_1 rfl 1 rfl ?_
  refine pf_X5_25 (x := (some (b + 9))) (σ' := (ap b σ [] [] [(41, 2, (some (b + 9)))])) B (lKA (hk_K hK 41 rfl rfl)) wR_ap dX5_begin_2 ?_
  refine z_aload_n B dX5_begin_5 rfl 0 rfl ?_
  refine z_aload_n B dX5_begin_6 rfl 2 rfl ?_
  refine pf_X5_29 (x := (some (b + 37))) (σ' := (ap b σ [] [] [(41, 3, (some (b + 37))), (41, 2, (some (b + 9)))])) B (lKA (hk_K hK 41 rfl rfl)) wR_ap dX5_begin_7 ?_
  refine z_aload_n B dX5_begin_10 rfl 0 rfl ?_
  refine gf_X5_12 (x := (some (b + 42))) B (lKA (hk_K hK 41 rfl rfl)) (rR_at 41 0 hR_41_0) dX5_begin_11 ?_
  refine z_iconst (v := 0) B dX5_begin_14 (by decide) ?_
  refine pf_X5_33 (x := 0) (σ' := (ap b σ [(42, 1, 0)] [] [(41, 3, (some (b + 37))), (41, 2, (some (b + 9)))])) B (lKA (hk_K hK 42 rfl rfl)) wI_ap dX5_begin_15 ?_
  refine z_aload_n B dX5_begin_18 rfl 0 rfl ?_
  refine gf_X5_21 (x := (some (b + 44))) B (lKA (hk_K hK 41 rfl rfl)) (rR_at 41 1 hR_41_1) dX5_begin_19 ?_
  refine z_iconst (v := 0) B dX5_begin_22 (by decide) ?_
  refine pf_X5_37 (x := 0) (σ' := (ap b σ [(44, 1, 0), (42, 1, 0)] [] [(41, 3, (some (b + 37))), (41, 2, (some (b + 9)))])) B (lKA (hk_K hK 44 rfl rfl)) wI_ap dX5_begin_23 ?_
  refine z_aload_n B dX5_begin_26 rfl 0 rfl ?_
  refine z_iconst (v := 1) B dX5_begin_27 (by decide) ?_
  refine pf_X5_38 (x := 1) (σ' := (ap b σ [(41, 4, 1), (44, 1, 0), (42, 1, 0)] [] [(41, 3, (some (b + 37))), (41, 2, (some (b + 9)))])) B (lKA (hk_K hK 41 rfl rfl)) wI_ap dX5_begin_28 ?_
  refine z_aload_n B dX5_begin_31 rfl 0 rfl ?_
  refine z_iconst (v := 0) B dX5_begin_32 (by decide) ?_
  refine pf_X5_41 (x := 0) (σ' := (ap b σ [(41, 5, 0), (41, 4, 1), (44, 1, 0), (42, 1, 0)] [] [(41, 3, (some (b + 37))), (41, 2, (some (b + 9)))])) B (lKA (hk_K hK 41 rfl rfl)) wI_ap dX5_begin_33 ?_
  refine z_aload_n B dX5_begin_36 rfl 0 rfl ?_
  refine z_aload_n B dX5_begin_37 rfl 2 rfl ?_
  refine z_iconst (v := 0) B dX5_begin_38 (by decide) ?_
  refine z_cVl (As := [.int 0]) (rest := [.ref (b + 41)]) B cw_X5_44 cx_2 dX5_begin_39 (ci_X1_numberAt_664 l (σ := (ap b σ [(41, 5, 0), (41, 4, 1), (44, 1, 0), (42, 1, 0)] [] [(41, 3, (some (b + 37))), (41, 2, (some (b + 9)))])) (b := b) (lyA hK) w1 (rI_at 37 2 hI_37_2) (rJ_at 39 0 hJ_39_0) (rR_at 37 1 hR_37_1)) (lKA (hk_K hK 37 rfl rfl)) rfl (by decide) rfl (Nat.le_of_ble_eq_true rfl) (by decide) (fun r u hu => ?_)
  refine z_eqs (σ' := (ap b σ [(41, 5, 0), (41, 4, 1), (44, 1, 0), (42, 1, 0)] [] [(41, 3, (some (b + 37))), (41, 2, (some (b + 9)))])) hu.2 ?_
  show zx p l e _ s m _ below meth c g 3 0 0 _ _ 42 [(0, .ref (b + 41)), (1, .ref (b + 9)), (2, .ref (b + 37))] _
  refine z_setl (y := w1) hu.1 ?_
  refine z_l2i B dX5_begin_42 rfl ?_
  refine pf_X5_50 (x := (w1.toInt32)) (σ' := (ap b σ [(41, 6, (w1.toInt32)), (41, 5, 0), (41, 4, 1), (44, 1, 0), (42, 1, 0)] [] [(41, 3, (some (b + 37))), (41, 2, (some (b + 9)))])) B (lKA (hk_K hK 41 rfl rfl)) wI_ap dX5_begin_43 ?_
  refine z_aload_n B dX5_begin_46 rfl 0 rfl ?_
  refine z_iconst (v := 0) B dX5_begin_47 (by decide) ?_
  refine pf_X5_53 (x := 0) (σ' := (ap b σ [(41, 7, 0), (41, 6, (w1.toInt32)), (41, 5, 0), (41, 4, 1), (44, 1, 0), (42, 1, 0)] [] [(41, 3, (some (b + 37))), (41, 2, (some (b + 9)))])) B (lKA (hk_K hK 41 rfl rfl)) wI_ap dX5_begin_48 ?_
  refine z_aload_n B dX5_begin_51 rfl 0 rfl ?_
  refine z_iconst (v := 0) B dX5_begin_52 (by decide) ?_
  refine pf_X5_56 (x := 0) (σ' := (ap b σ [(41, 8, 0), (41, 7, 0), (41, 6, (w1.toInt32)), (41, 5, 0), (41, 4, 1), (44, 1, 0), (42, 1, 0)] [] [(41, 3, (some (b + 37))), (41, 2, (some (b + 9)))])) B (lKA (hk_K hK 41 rfl rfl)) wI_ap dX5_begin_53 ?_
  refine z_aload_n B dX5_begin_56 rfl 0 rfl ?_
  refine z_iconst (v := (-1)) B dX5_begin_57 (by decide) ?_
  refine pf_X5_59 (x := (-1)) (σ' := (ap b σ [(41, 9, (-1)), (41, 8, 0), (41, 7, 0), (41, 6, (w1.toInt32)), (41, 5, 0), (41, 4, 1), (44, 1, 0), (42, 1, 0)] [] [(41, 3, (some (b + 37))), (41, 2, (some (b + 9)))])) B (lKA (hk_K hK 41 rfl rfl)) wI_ap dX5_begin_58 ?_
  refine z_aload_n B dX5_begin_61 rfl 0 rfl ?_
  refine z_iconst (v := (-1)) B dX5_begin_62 (by decide) ?_
  refine pf_X5_62 (x := (-1)) (σ' := (ap b σ [(41, 10, (-1)), (41, 9, (-1)), (41, 8, 0), (41, 7, 0), (41, 6, (w1.toInt32)), (41, 5, 0), (41, 4, 1), (44, 1, 0), (42, 1, 0)] [] [(41, 3, (some (b + 37))), (41, 2, (some (b + 9)))])) B (lKA (hk_K hK 41 rfl rfl)) wI_ap dX5_begin_63 ?_
  refine z_aload_n B dX5_begin_66 rfl 0 rfl ?_
  refine z_lconst (v := 0) B dX5_begin_67 (by decide) ?_
  refine pf_X5_65 (x := 0) (σ' := (ap b σ [(41, 10, (-1)), (41, 9, (-1)), (41, 8, 0), (41, 7, 0), (41, 6, (w1.toInt32)), (41, 5, 0), (41, 4, 1), (44, 1, 0), (42, 1, 0)] [(41, 11, 0)] [(41, 3, (some (b + 37))), (41, 2, (some (b + 9)))])) B (lKA (hk_K hK 41 rfl rfl)) wJ_ap dX5_begin_68 ?_
  refine z_aload_n B dX5_begin_71 rfl 0 rfl ?_
  refine z_iconst (v := 0) B dX5_begin_72 (by decide) ?_
  refine pf_X5_69 (x := 0) (σ' := (ap b σ [(41, 12, 0), (41, 10, (-1)), (41, 9, (-1)), (41, 8, 0), (41, 7, 0), (41, 6, (w1.toInt32)), (41, 5, 0), (41, 4, 1), (44, 1, 0), (42, 1, 0)] [(41, 11, 0)] [(41, 3, (some (b + 37))), (41, 2, (some (b + 9)))])) B (by decide) (lKA (hk_K hK 41 rfl rfl)) wI_ap dX5_begin_73 ?_
  refine z_aload_n B dX5_begin_76 rfl 0 rfl ?_
  refine z_iconst (v := 0) B dX5_begin_77 (by decide) ?_
  refine pf_X5_73 (x := 0) (σ' := (ap b σ [(41, 13, 0), (41, 12, 0), (41, 10, (-1)), (41, 9, (-1)), (41, 8, 0), (41, 7, 0), (41, 6, (w1.toInt32)), (41, 5, 0), (41, 4, 1), (44, 1, 0), (42, 1, 0)] [(41, 11, 0)] [(41, 3, (some (b + 37))), (41, 2, (some (b + 9)))])) B (by decide) (lKA (hk_K hK 41 rfl rfl)) wI_ap dX5_begin_78 ?_
  refine z_aload_n B dX5_begin_81 rfl 0 rfl ?_
  refine z_iconst (v := 0) B dX5_begin_82 (by decide) ?_
  refine pf_X5_76 (x := 0) (σ' := (ap b σ [(41, 14, 0), (41, 13, 0), (41, 12, 0), (41, 10, (-1)), (41, 9, (-1)), (41, 8, 0), (41, 7, 0), (41, 6, (w1.toInt32)), (41, 5, 0), (41, 4, 1), (44, 1, 0), (42, 1, 0)] [(41, 11, 0)] [(41, 3, (some (b + 37))), (41, 2, (some (b + 9)))])) B (lKA (hk_K hK 41 rfl rfl)) wI_ap dX5_begin_83 ?_
  refine z_aload_n B dX5_begin_86 rfl 0 rfl ?_
  refine z_iconst (v := 0) B dX5_begin_87 (by decide) ?_
  refine pf_X5_79 (x := 0) (σ' := (ap b σ [(41, 15, 0), (41, 14, 0), (41, 13, 0), (41, 12, 0), (41, 10, (-1)), (41, 9, (-1)), (41, 8, 0), (41, 7, 0), (41, 6, (w1.toInt32)), (41, 5, 0), (41, 4, 1), (44, 1, 0), (42, 1, 0)] [(41, 11, 0)] [(41, 3, (some (b + 37))), (41, 2, (some (b + 9)))])) B (by decide) (lKA (hk_K hK 41 rfl rfl)) wI_ap dX5_begin_88 ?_
  refine z_aload_n B dX5_begin_91 rfl 0 rfl ?_
  refine z_iconst (v := (-1)) B dX5_begin_92 (by decide) ?_
  refine pf_X5_82 (x := (-1)) (σ' := (ap b σ [(41, 16, (-1)), (41, 15, 0), (41, 14, 0), (41, 13, 0), (41, 12, 0), (41, 10, (-1)), (41, 9, (-1)), (41, 8, 0), (41, 7, 0), (41, 6, (w1.toInt32)), (41, 5, 0), (41, 4, 1), (44, 1, 0), (42, 1, 0)] [(41, 11, 0)] [(41, 3, (some (b + 37))), (41, 2, (some (b + 9)))])) B (lKA (hk_K hK 41 rfl rfl)) wI_ap dX5_begin_93 ?_
  refine z_aload_n B dX5_begin_96 rfl 0 rfl ?_
  refine z_lconst (v := 0) B dX5_begin_97 (by decide) ?_
  refine pf_X5_85 (x := 0) (σ' := (ap b σ [(41, 16, (-1)), (41, 15, 0), (41, 14, 0), (41, 13, 0), (41, 12, 0), (41, 10, (-1)), (41, 9, (-1)), (41, 8, 0), (41, 7, 0), (41, 6, (w1.toInt32)), (41, 5, 0), (41, 4, 1), (44, 1, 0), (42, 1, 0)] [(41, 17, 0), (41, 11, 0)] [(41, 3, (some (b + 37))), (41, 2, (some (b + 9)))])) B (lKA (hk_K hK 41 rfl rfl)) wJ_ap dX5_begin_98 ?_
  refine z_aload_n B dX5_begin_101 rfl 0 rfl ?_
  refine z_iconst (v := (-1)) B dX5_begin_102 (by decide) ?_
  refine pf_X5_88 (x := (-1)) (σ' := (ap b σ [(41, 18, (-1)), (41, 16, (-1)), (41, 15, 0), (41, 14, 0), (41, 13, 0), (41, 12, 0), (41, 10, (-1)), (41, 9, (-1)), (41, 8, 0), (41, 7, 0), (41, 6, (w1.toInt32)), (41, 5, 0), (41, 4, 1), (44, 1, 0), (42, 1, 0)] [(41, 17, 0), (41, 11, 0)] [(41, 3, (some (b + 37))), (41, 2, (some (b + 9)))])) B (lKA (hk_K hK 41 rfl rfl)) wI_ap dX5_begin_103 ?_
  refine z_aload_n B dX5_begin_106 rfl 0 rfl ?_
  refine z_iconst (v := 0) B dX5_begin_107 (by decide) ?_
  refine pf_X5_91 (x := 0) (σ' := (ap b σ [(41, 19, 0), (41, 18, (-1)), (41, 16, (-1)), (41, 15, 0), (41, 14, 0), (41, 13, 0), (41, 12, 0), (41, 10, (-1)), (41, 9, (-1)), (41, 8, 0), (41, 7, 0), (41, 6, (w1.toInt32)), (41, 5, 0), (41, 4, 1), (44, 1, 0), (42, 1, 0)] [(41, 17, 0), (41, 11, 0)] [(41, 3, (some (b + 37))), (41, 2, (some (b + 9)))])) B (by decide) (lKA (hk_K hK 41 rfl rfl)) wI_ap dX5_begin_108 ?_
  exact z_vret B hr (by decide) (by decide) dX5_begin_111 rfl
set_option maxRecDepth 100000 in
set_option maxHeartbeats 4000000 in
theorem ci_X8_open_666 (l : Launch) {g : gx_T} {σ : sx_T} {b : Nat} (hK : lay b σ) (w1 : Int32)  (hI_0_7 : sx_I σ (b + 0) 7 = 0) (hI_37_2 : sx_I σ (b + 37) 2 = 0) (hI_40_0 : sx_I σ (b + 40) 0 = 0) (hR_0_2 : sx_R σ (b + 0) 2 = (some (b + 3))) (hR_3_0 : sx_R σ (b + 3) 0 = (some (b + 40))) (hR_37_0 : sx_R σ (b + 37) 0 = (some (b + 38))) (hR_37_1 : sx_R σ (b + 37) 1 = (some (b + 39))) (hR_40_1 : sx_R σ (b + 40) 1 = (some (b + 37))) (hR_40_2 : sx_R σ (b + 40) 2 = (some (b + 41))) (hR_41_0 : sx_R σ (b + 41) 0 = (some (b + 42))) (hR_41_1 : sx_R σ (b + 41) 1 = (some (b + 44))) : Met l yX8_open (.code yX8_open cX8_open 6 (some (.object "Loomkeeper$Flow")) :: lw_g) { frames := 2, cells := 0, slots := 0, locals := 43 } (va_Pc [.ref (b + 0), .ref (b + 9), .int w1, .int (-1), .int (-1)] (zx_w g σ)) (va_Qq (fun r u => r = (some (b + 40)) ∧ u = (ap b σ [(41, 19, 0), (41, 18, (-1)), (41, 16, (-1)), (41, 15, 0), (41, 14, 0), (41, 13, 0), (41, 12, 0), (41, 10, (-1)), (41, 9, (-1)), (41, 8, 0), (41, 7, 0), (41, 6, ((w1.toInt64).toInt32)), (41, 5, 0), (41, 4, 1), (44, 1, 0), (42, 1, 0), (37, 2, 1), (38, 0, 0), (40, 5, 0), (40, 4, (-1)), (0, 7, 1)] [(41, 17, 0), (41, 11, 0), (39, 0, (w1.toInt64))] [(41, 3, (some (b + 37))), (41, 2, (some (b + 9))), (40, 3, (some (b + 9)))])) (zx_w g) (gx_Q g)) 0 0 (gx_Q g) := by
  refine z_met (by decide) (Nat.le_of_ble_eq_true rfl) (fun p e s m below meth c B hr hin => ?_)
  refine z_eqs (σ' := (ap b σ [] [] [])) rfl ?_
  show zx p l e _ s m _ below meth c g 6 0 0 _ _ 0 [(0, .ref (b + 0)), (1, .ref (b + 9)), (2, .int w1), (3, .int (-1)), (4, .int (-1))] []
  refine z_aload_n B dX8_open_0 rfl 1 rfl ?_
  refine z_ifnull (r := (some (b + 9))) (tgt := 23) B dX8_open_1 (by decide) (fun h => nomatch h) (fun _ _ => ?_)
  refine z_aload_n B dX8_open_4 rfl 0 rfl ?_
  refine gf_X8_96 (x := 0) B (lKA (hk_K hK 0 rfl rfl)) (rI_at 0 7 hI_0_7) dX8_open_5 ?_
  refine z_if_lt (tgt := 23) B dX8_open_8 (by decide) (fun h => absurd h (by decide)) (fun _ => ?_)
  refine z_aload_n B dX8_open_11 rfl 0 rfl ?_
  refine gf_X8_96 (x := 0) B (lKA (hk_K hK 0 rfl rfl)) (rI_at 0 7 hI_0_7) dX8_open_12 ?_
  refine z_aload_n B dX8_open_15 rfl 0 rfl ?_
  refine gf_X8_21 (x := (some (b + 3))) B (lKA (hk_K hK 0 rfl rfl)) (rR_at 0 2 hR_0_2) dX8_open_16 ?_
  refine z_alen (kd := 15) (ti := 3) (v := 40) B (lKA (hk_K hK 3 rfl rfl)) (by decide) rfl (congrArg Int32.ofNat (lNA (hk_N hK 3 rfl rfl))) dX8_open_19 ?_
  refine z_icmp_lt (tgt := 25) B dX8_open_20 (by decide) (fun _ => ?_) (fun h => absurd (by decide) h)
  refine z_aload_n B dX8_open_25 rfl 0 rfl ?_
  refine gf_X8_21 (x := (some (b + 3))) B (lKA (hk_K hK 0 rfl rfl)) (rR_at 0 2 hR_0_2) dX8_open_26 ?_
  refine z_aload_n B dX8_open_29 rfl 0 rfl ?_
  refine gf_X8_96 (x := 0) B (lKA (hk_K hK 0 rfl rfl)) (rI_at 0 7 hI_0_7) dX8_open_30 ?_
  refine z_qald (j := 0) (kd := 15) (ti := 3) (r := (some (b + 40))) B (lKA (hk_K hK 3 rfl rfl)) (by decide) rfl (by decide) (in_of (lNA (hk_N hK 3 rfl rfl)) (show ¬ ((0 : Int32) < 0 ∨ 40 ≤ (0 : Int32).toNatClampNeg) by decide)) (rR_at 3 0 hR_3_0) dX8_open_33 ?_
  refine z_astore (lv' := [(5, .ref (b + 40)), (0, .ref (b + 0)), (1, .ref (b + 9)), (2, .int w1), (3, .int (-1)), (4, .int (-1))]) B dX8_open_34 (by decide) rfl ?_
  refine z_aload B dX8_open_36 0 rfl ?_
  refine z_ifnonnull (r := (some (b + 40))) (tgt := 43) B dX8_open_38 (by decide) (fun _ _ => ?_) (fun h => nomatch h)
  refine z_aload_n B dX8_open_43 rfl 1 rfl ?_
  refine z_dup B dX8_open_44 rfl ?_
  refine gf_X8_96 (x := 0) B (lKA (hk_K hK 0 rfl rfl)) (rI_at 0 7 hI_0_7) dX8_open_45 ?_
  refine z_iconst (v := 1) B dX8_open_48 (by decide) ?_
  refine z_iadd B dX8_open_49 ?_
  refine z_seti (y := 1) (by decide) ?_
  refine pf_X8_96 (x := 1) (σ' := (ap b σ [(0, 7, 1)] [] [])) B (lKA (hk_K hK 0 rfl rfl)) wI_ap dX8_open_50 ?_
  refine z_aload B dX8_open_53 0 rfl ?_
  refine z_aload_n B dX8_open_55 rfl 2 rfl ?_
  refine pf_X8_103 (x := (some (b + 9))) (σ' := (ap b σ [(0, 7, 1)] [] [(40, 3, (some (b + 9)))])) B (lKA (hk_K hK 40 rfl rfl)) wR_ap dX8_open_56 ?_
  refine z_aload B dX8_open_59 0 rfl ?_
  refine z_iload_n B dX8_open_61 rfl 4 rfl ?_
  refine pf_X8_259 (x := (-1)) (σ' := (ap b σ [(40, 4, (-1)), (0, 7, 1)] [] [(40, 3, (some (b + 9)))])) B (lKA (hk_K hK 40 rfl rfl)) wI_ap dX8_open_62 ?_
  refine z_aload B dX8_open_65 0 rfl ?_
  refine z_iload B dX8_open_67 5 rfl ?_
  refine z_iconst (v := (-1)) B dX8_open_69 (by decide) ?_
  refine z_icmp_ne (tgt := 81) B dX8_open_70 (by decide) (fun h => absurd (by decide) h) (fun _ => ?_)
  refine z_aload B dX8_open_73 0 rfl ?_
  refine gf_X8_150 (x := 0) B (lKA (hk_K hK 40 rfl rfl)) (rI_at 40 0 hI_40_0) dX8_open_75 ?_
  refine z_goto (tgt := 83) B dX8_open_78 (by decide) ?_
  refine pf_X8_406 (x := 0) (σ' := (ap b σ [(40, 5, 0), (40, 4, (-1)), (0, 7, 1)] [] [(40, 3, (some (b + 9)))])) B (lKA (hk_K hK 40 rfl rfl)) wI_ap dX8_open_83 ?_
  refine z_aload B dX8_open_86 0 rfl ?_
  refine gf_X8_179 (x := (some (b + 37))) B (lKA (hk_K hK 40 rfl rfl)) (rR_at 40 1 hR_40_1) dX8_open_88 ?_
  refine z_iconst (v := 0) B dX8_open_91 (by decide) ?_
  refine z_iload_n B dX8_open_92 rfl 3 rfl ?_
  refine z_i2l B dX8_open_93 rfl ?_
  refine z_cVv (As := [.int 0, .long (w1.toInt64)]) (rest := []) B cw_X8_333 cx_2 dX8_open_94 (ci_X1_add_663 l (σ := (ap b σ [(40, 5, 0), (40, 4, (-1)), (0, 7, 1)] [] [(40, 3, (some (b + 9)))])) (b := b) (lyA hK) (w1.toInt64) (rI_at 37 2 hI_37_2) (rR_at 37 0 hR_37_0) (rR_at 37 1 hR_37_1)) (lKA (hk_K hK 37 rfl rfl)) rfl (by decide) rfl (Nat.le_of_ble_eq_true rfl) (by decide) (fun u hu => ?_)
  refine z_eqs (σ' := (ap b σ [(37, 2, 1), (38, 0, 0), (40, 5, 0), (40, 4, (-1)), (0, 7, 1)] [(39, 0, (w1.toInt64))] [(40, 3, (some (b + 9)))])) (hu.trans ap_ap) ?_
  show zx p l e _ s m _ below meth c g 6 0 0 _ _ 97 [(5, .ref (b + 40)), (0, .ref (b + 0)), (1, .ref (b + 9)), (2, .int w1), (3, .int (-1)), (4, .int (-1))] _
  refine z_aload B dX8_open_97 0 rfl ?_
  refine gf_X8_249 (x := (some (b + 41))) B (lKA (hk_K hK 40 rfl rfl)) (rR_at 40 2 hR_40_2) dX8_open_99 ?_
  refine z_aload_n B dX8_open_102 rfl 2 rfl ?_
  refine z_aload B dX8_open_103 0 rfl ?_
  refine gf_X8_179 (x := (some (b + 37))) B (lKA (hk_K hK 40 rfl rfl)) (rR_at 40 1 hR_40_1) dX8_open_105 ?_
  refine z_cVv (As := [.ref (b + 9), .ref (b + 37)]) (rest := []) B cw_X8_286 cx_6 dX8_open_108 (ci_X5_begin_665 l (σ := (ap b σ [(37, 2, 1), (38, 0, 0), (40, 5, 0), (40, 4, (-1)), (0, 7, 1)] [(39, 0, (w1.toInt64))] [(40, 3, (some (b + 9)))])) (b := b) (lyA hK) (w1.toInt64) (rI_at 37 2 rfl) (rJ_at 39 0 rfl) (rR_at 37 1 hR_37_1) (rR_at 41 0 hR_41_0) (rR_at 41 1 hR_41_1)) (lKA (hk_K hK 41 rfl rfl)) rfl (by decide) rfl (Nat.le_of_ble_eq_true rfl) (by decide) (fun u hu => ?_)
  refine z_eqs (σ' := (ap b σ [(41, 19, 0), (41, 18, (-1)), (41, 16, (-1)), (41, 15, 0), (41, 14, 0), (41, 13, 0), (41, 12, 0), (41, 10, (-1)), (41, 9, (-1)), (41, 8, 0), (41, 7, 0), (41, 6, ((w1.toInt64).toInt32)), (41, 5, 0), (41, 4, 1), (44, 1, 0), (42, 1, 0), (37, 2, 1), (38, 0, 0), (40, 5, 0), (40, 4, (-1)), (0, 7, 1)] [(41, 17, 0), (41, 11, 0), (39, 0, (w1.toInt64))] [(41, 3, (some (b + 37))), (41, 2, (some (b + 9))), (40, 3, (some (b + 9)))])) (hu.trans ap_ap) ?_
  show zx p l e _ s m _ below meth c g 6 0 0 _ _ 111 [(5, .ref (b + 40)), (0, .ref (b + 0)), (1, .ref (b + 9)), (2, .int w1), (3, .int (-1)), (4, .int (-1))] _
  refine z_aload B dX8_open_111 0 rfl ?_
  exact z_qret (r := (some (b + 40))) B hr (by decide) (by decide) dX8_open_113 ⟨rfl, rfl⟩
set_option maxRecDepth 100000 in
set_option maxHeartbeats 4000000 in
theorem ci_X2_addLast_667 (l : Launch) {g : gx_T} {σ : sx_T} {b : Nat} (hK : lay b σ)   (hI_5_2 : sx_I σ (b + 5) 2 = 0) (hR_5_0 : sx_R σ (b + 5) 0 = (some (b + 6))) : Met l yX2_addLast (.code yX2_addLast cX2_addLast 2 none :: lw_g) { frames := 0, cells := 0, slots := 0, locals := 0 } (va_Pc [.ref (b + 5), .ref (b + 40)] (zx_w g σ)) (va_Qv (fun u => u = (ap b σ [(5, 2, 1)] [] [(6, 0, (some (b + 40)))])) (zx_w g) (gx_Q g)) 0 0 (gx_Q g) := by
  refine z_met (by decide) (Nat.le_of_ble_eq_true rfl) (fun p e s m below meth c B hr hin => ?_)
  refine z_eqs (σ' := (ap b σ [] [] [])) rfl ?_
  show zx p l e _ s m _ below meth c g 2 0 0 _ _ 0 [(0, .ref (b + 5)), (1, .ref (b + 40))] []
  refine z_aload_n B dX2_addLast_0 rfl 1 rfl ?_
  refine z_ifnull (r := (some (b + 40))) (tgt := 43) B dX2_addLast_1 (by decide) (fun h => nomatch h) (fun _ _ => ?_)
  refine z_aload_n B dX2_addLast_4 rfl 0 rfl ?_
  refine gf_X2_21 (x := 0) B (lKA (hk_K hK 5 rfl rfl)) (rI_at 5 2 hI_5_2) dX2_addLast_5 ?_
  refine z_if_lt (tgt := 43) B dX2_addLast_8 (by decide) (fun h => absurd h (by decide)) (fun _ => ?_)
  refine z_aload_n B dX2_addLast_11 rfl 0 rfl ?_
  refine gf_X2_21 (x := 0) B (lKA (hk_K hK 5 rfl rfl)) (rI_at 5 2 hI_5_2) dX2_addLast_12 ?_
  refine z_aload_n B dX2_addLast_15 rfl 0 rfl ?_
  refine gf_X2_11 (x := (some (b + 6))) B (lKA (hk_K hK 5 rfl rfl)) (rR_at 5 0 hR_5_0) dX2_addLast_16 ?_
  refine z_alen (kd := 15) (ti := 3) (v := 128) B (lKA (hk_K hK 6 rfl rfl)) (by decide) rfl (congrArg Int32.ofNat (lNA (hk_N hK 6 rfl rfl))) dX2_addLast_19 ?_
  refine z_icmp_ge (tgt := 43) B dX2_addLast_20 (by decide) (fun h => absurd h (by decide)) (fun _ => ?_)
  refine z_aload_n B dX2_addLast_23 rfl 0 rfl ?_
  refine gf_X2_11 (x := (some (b + 6))) B (lKA (hk_K hK 5 rfl rfl)) (rR_at 5 0 hR_5_0) dX2_addLast_24 ?_
  refine z_aload_n B dX2_addLast_27 rfl 0 rfl ?_
  refine gf_X2_21 (x := 0) B (lKA (hk_K hK 5 rfl rfl)) (rI_at 5 2 hI_5_2) dX2_addLast_28 ?_
  refine z_aload_n B dX2_addLast_31 rfl 1 rfl ?_
  refine z_qast (j := 0) (kd := 15) (ti := 3) (σ' := (ap b σ [] [] [(6, 0, (some (b + 40)))])) B cx_1 (lKA (hk_K hK 40 rfl rfl)) (lKA (hk_K hK 6 rfl rfl)) (by decide) rfl (by decide) (in_of (lNA (hk_N hK 6 rfl rfl)) (show ¬ ((0 : Int32) < 0 ∨ 128 ≤ (0 : Int32).toNatClampNeg) by decide)) wR_ap dX2_addLast_32 ?_
  refine z_aload_n B dX2_addLast_33 rfl 0 rfl ?_
  refine z_dup B dX2_addLast_34 rfl ?_
  refine gf_X2_21 (x := 0) B (lKA (hk_K hK 5 rfl rfl)) (rI_at 5 2 hI_5_2) dX2_addLast_35 ?_
  refine z_iconst (v := 1) B dX2_addLast_38 (by decide) ?_
  refine z_iadd B dX2_addLast_39 ?_
  refine z_seti (y := 1) (by decide) ?_
  refine pf_X2_21 (x := 1) (σ' := (ap b σ [(5, 2, 1)] [] [(6, 0, (some (b + 40)))])) B (lKA (hk_K hK 5 rfl rfl)) wI_ap dX2_addLast_40 ?_
  exact z_vret B hr (by decide) (by decide) dX2_addLast_43 rfl
set_option maxRecDepth 100000 in
set_option maxHeartbeats 4000000 in
theorem ci_X2_isEmpty_668 (l : Launch) {g : gx_T} {σ : sx_T} {b : Nat} (hK : lay b σ)   (hI_5_1 : sx_I σ (b + 5) 1 = 0) (hI_5_2 : sx_I σ (b + 5) 2 = 1) : Met l yX2_isEmpty (.code yX2_isEmpty cX2_isEmpty 1 (some .boolean) :: lw_g) { frames := 0, cells := 0, slots := 0, locals := 0 } (va_Pc [.ref (b + 5)] (zx_w g σ)) (va_Qi (fun r u => r = 0 ∧ u = σ) (zx_w g) (gx_Q g)) 0 0 (gx_Q g) := by
  refine z_met (by decide) (Nat.le_of_ble_eq_true rfl) (fun p e s m below meth c B hr hin => ?_)
  refine z_eqs (σ' := (ap b σ [] [] [])) rfl ?_
  show zx p l e _ s m _ below meth c g 1 0 0 _ _ 0 [(0, .ref (b + 5))] []
  refine z_aload_n B dX2_isEmpty_0 rfl 0 rfl ?_
  refine gf_X2_17 (x := 0) B (lKA (hk_K hK 5 rfl rfl)) (rI_at 5 1 hI_5_1) dX2_isEmpty_1 ?_
  refine z_aload_n B dX2_isEmpty_4 rfl 0 rfl ?_
  refine gf_X2_21 (x := 1) B (lKA (hk_K hK 5 rfl rfl)) (rI_at 5 2 hI_5_2) dX2_isEmpty_5 ?_
  refine z_icmp_lt (tgt := 15) B dX2_isEmpty_8 (by decide) (fun _ => ?_) (fun h => absurd (by decide) h)
  refine z_iconst (v := 0) B dX2_isEmpty_15 (by decide) ?_
  exact z_zret B hr (by decide) (by decide) (by decide) dX2_isEmpty_16 ⟨rfl, rfl⟩
set_option maxRecDepth 100000 in
set_option maxHeartbeats 4000000 in
theorem ci_X2_last_669 (l : Launch) {g : gx_T} {σ : sx_T} {b : Nat} (hK : lay b σ)   (hI_5_1 : sx_I σ (b + 5) 1 = 0) (hI_5_2 : sx_I σ (b + 5) 2 = 1) (hR_5_0 : sx_R σ (b + 5) 0 = (some (b + 6))) (hR_6_0 : sx_R σ (b + 6) 0 = (some (b + 40))) : Met l yX2_last (.code yX2_last cX2_last 2 (some (.object "Loomkeeper$Flow")) :: lw_g) { frames := 0, cells := 0, slots := 0, locals := 0 } (va_Pc [.ref (b + 5)] (zx_w g σ)) (va_Qq (fun r u => r = (some (b + 40)) ∧ u = σ) (zx_w g) (gx_Q g)) 0 0 (gx_Q g) := by
  refine z_met (by decide) (Nat.le_of_ble_eq_true rfl) (fun p e s m below meth c B hr hin => ?_)
  refine z_eqs (σ' := (ap b σ [] [] [])) rfl ?_
  show zx p l e _ s m _ below meth c g 2 0 0 _ _ 0 [(0, .ref (b + 5))] []
  refine z_aload_n B dX2_last_0 rfl 0 rfl ?_
  refine gf_X2_21 (x := 1) B (lKA (hk_K hK 5 rfl rfl)) (rI_at 5 2 hI_5_2) dX2_last_1 ?_
  refine z_iconst (v := 1) B dX2_last_4 (by decide) ?_
  refine z_isub B dX2_last_5 ?_
  refine z_seti (y := 0) (by decide) ?_
  refine z_istore_n (lv' := [(1, .int 0), (0, .ref (b + 5))]) B dX2_last_6 rfl (by decide) rfl ?_
  refine z_iload_n B dX2_last_7 rfl 0 rfl ?_
  refine z_aload_n B dX2_last_8 rfl 1 rfl ?_
  refine gf_X2_17 (x := 0) B (lKA (hk_K hK 5 rfl rfl)) (rI_at 5 1 hI_5_1) dX2_last_9 ?_
  refine z_icmp_lt (tgt := 37) B dX2_last_12 (by decide) (fun h => absurd h (by decide)) (fun _ => ?_)
  refine z_iload_n B dX2_last_15 rfl 0 rfl ?_
  refine z_if_lt (tgt := 37) B dX2_last_16 (by decide) (fun h => absurd h (by decide)) (fun _ => ?_)
  refine z_iload_n B dX2_last_19 rfl 0 rfl ?_
  refine z_aload_n B dX2_last_20 rfl 1 rfl ?_
  refine gf_X2_11 (x := (some (b + 6))) B (lKA (hk_K hK 5 rfl rfl)) (rR_at 5 0 hR_5_0) dX2_last_21 ?_
  refine z_alen (kd := 15) (ti := 3) (v := 128) B (lKA (hk_K hK 6 rfl rfl)) (by decide) rfl (congrArg Int32.ofNat (lNA (hk_N hK 6 rfl rfl))) dX2_last_24 ?_
  refine z_icmp_ge (tgt := 37) B dX2_last_25 (by decide) (fun h => absurd h (by decide)) (fun _ => ?_)
  refine z_aload_n B dX2_last_28 rfl 1 rfl ?_
  refine gf_X2_11 (x := (some (b + 6))) B (lKA (hk_K hK 5 rfl rfl)) (rR_at 5 0 hR_5_0) dX2_last_29 ?_
  refine z_iload_n B dX2_last_32 rfl 0 rfl ?_
  refine z_qald (j := 0) (kd := 15) (ti := 3) (r := (some (b + 40))) B (lKA (hk_K hK 6 rfl rfl)) (by decide) rfl (by decide) (in_of (lNA (hk_N hK 6 rfl rfl)) (show ¬ ((0 : Int32) < 0 ∨ 128 ≤ (0 : Int32).toNatClampNeg) by decide)) (rR_at 6 0 hR_6_0) dX2_last_33 ?_
  refine z_goto (tgt := 38) B dX2_last_34 (by decide) ?_
  exact z_qret (r := (some (b + 40))) B hr (by decide) (by decide) dX2_last_38 ⟨rfl, rfl⟩
set_option maxRecDepth 100000 in
set_option maxHeartbeats 4000000 in
theorem ci_X1_size_670 (l : Launch) {g : gx_T} {σ : sx_T} {b : Nat} (hK : lay b σ)   (hI_37_2 : sx_I σ (b + 37) 2 = 1) : Met l yX1_size (.code yX1_size cX1_size 1 (some .int) :: lw_g) { frames := 0, cells := 0, slots := 0, locals := 0 } (va_Pc [.ref (b + 37)] (zx_w g σ)) (va_Qi (fun r u => r = 1 ∧ u = σ) (zx_w g) (gx_Q g)) 0 0 (gx_Q g) := by
  refine z_met (by decide) (Nat.le_of_ble_eq_true rfl) (fun p e s m below meth c B hr hin => ?_)
  refine z_eqs (σ' := (ap b σ [] [] [])) rfl ?_
  show zx p l e _ s m _ below meth c g 1 0 0 _ _ 0 [(0, .ref (b + 37))] []
  refine z_aload_n B dX1_size_0 rfl 0 rfl ?_
  refine gf_X1_19 (x := 1) B (lKA (hk_K hK 37 rfl rfl)) (rI_at 37 2 hI_37_2) dX1_size_1 ?_
  exact z_iret B hr (by decide) (by decide) dX1_size_4 ⟨rfl, rfl⟩
set_option maxRecDepth 100000 in
set_option maxHeartbeats 4000000 in
theorem ci_X4_operation_671 (l : Launch) {g : gx_T} {σ : sx_T} {b : Nat} (hK : lay b σ)   (hI_10_0 : sx_I σ (b + 10) 0 = 0) (hR_9_1 : sx_R σ (b + 9) 1 = (some (b + 10))) : Met l yX4_operation (.code yX4_operation cX4_operation 2 (some .int) :: lw_g) { frames := 0, cells := 0, slots := 0, locals := 0 } (va_Pc [.ref (b + 9), .int 0] (zx_w g σ)) (va_Qi (fun r u => r = 0 ∧ u = σ) (zx_w g) (gx_Q g)) 0 0 (gx_Q g) := by
  refine z_met (by decide) (Nat.le_of_ble_eq_true rfl) (fun p e s m below meth c B hr hin => ?_)
  refine z_eqs (σ' := (ap b σ [] [] [])) rfl ?_
  show zx p l e _ s m _ below meth c g 2 0 0 _ _ 0 [(0, .ref (b + 9)), (1, .int 0)] []
  refine z_iload_n B dX4_operation_0 rfl 1 rfl ?_
  refine z_if_lt (tgt := 22) B dX4_operation_1 (by decide) (fun h => absurd h (by decide)) (fun _ => ?_)
  refine z_iload_n B dX4_operation_4 rfl 1 rfl ?_
  refine z_aload_n B dX4_operation_5 rfl 0 rfl ?_
  refine gf_X4_9 (x := (some (b + 10))) B (lKA (hk_K hK 9 rfl rfl)) (rR_at 9 1 hR_9_1) dX4_operation_6 ?_
  refine z_alen (kd := 13) (ti := 1) (v := 20) B (lKA (hk_K hK 10 rfl rfl)) (by decide) rfl (congrArg Int32.ofNat (lNA (hk_N hK 10 rfl rfl))) dX4_operation_9 ?_
  refine z_icmp_ge (tgt := 22) B dX4_operation_10 (by decide) (fun h => absurd h (by decide)) (fun _ => ?_)
  refine z_aload_n B dX4_operation_13 rfl 0 rfl ?_
  refine gf_X4_9 (x := (some (b + 10))) B (lKA (hk_K hK 9 rfl rfl)) (rR_at 9 1 hR_9_1) dX4_operation_14 ?_
  refine z_iload_n B dX4_operation_17 rfl 1 rfl ?_
  refine z_iald (j := 0) (x := 0) B (lKA (hk_K hK 10 rfl rfl)) (by decide) (in_of (lNA (hk_N hK 10 rfl rfl)) (show ¬ ((0 : Int32) < 0 ∨ 20 ≤ (0 : Int32).toNatClampNeg) by decide)) (rI_at 10 0 hI_10_0) dX4_operation_18 ?_
  refine z_goto (tgt := 23) B dX4_operation_19 (by decide) ?_
  exact z_iret B hr (by decide) (by decide) dX4_operation_23 ⟨rfl, rfl⟩
set_option maxRecDepth 100000 in
set_option maxHeartbeats 4000000 in
theorem ci_X4_first_672 (l : Launch) {g : gx_T} {σ : sx_T} {b : Nat} (hK : lay b σ)   (hI_11_0 : sx_I σ (b + 11) 0 = 0) (hR_9_2 : sx_R σ (b + 9) 2 = (some (b + 11))) : Met l yX4_first (.code yX4_first cX4_first 2 (some .int) :: lw_g) { frames := 0, cells := 0, slots := 0, locals := 0 } (va_Pc [.ref (b + 9), .int 0] (zx_w g σ)) (va_Qi (fun r u => r = 0 ∧ u = σ) (zx_w g) (gx_Q g)) 0 0 (gx_Q g) := by
  refine z_met (by decide) (Nat.le_of_ble_eq_true rfl) (fun p e s m below meth c B hr hin => ?_)
  refine z_eqs (σ' := (ap b σ [] [] [])) rfl ?_
  show zx p l e _ s m _ below meth c g 2 0 0 _ _ 0 [(0, .ref (b + 9)), (1, .int 0)] []
  refine z_iload_n B dX4_first_0 rfl 1 rfl ?_
  refine z_if_lt (tgt := 22) B dX4_first_1 (by decide) (fun h => absurd h (by decide)) (fun _ => ?_)
  refine z_iload_n B dX4_first_4 rfl 1 rfl ?_
  refine z_aload_n B dX4_first_5 rfl 0 rfl ?_
  refine gf_X4_15 (x := (some (b + 11))) B (lKA (hk_K hK 9 rfl rfl)) (rR_at 9 2 hR_9_2) dX4_first_6 ?_
  refine z_alen (kd := 13) (ti := 1) (v := 20) B (lKA (hk_K hK 11 rfl rfl)) (by decide) rfl (congrArg Int32.ofNat (lNA (hk_N hK 11 rfl rfl))) dX4_first_9 ?_
  refine z_icmp_ge (tgt := 22) B dX4_first_10 (by decide) (fun h => absurd h (by decide)) (fun _ => ?_)
  refine z_aload_n B dX4_first_13 rfl 0 rfl ?_
  refine gf_X4_15 (x := (some (b + 11))) B (lKA (hk_K hK 9 rfl rfl)) (rR_at 9 2 hR_9_2) dX4_first_14 ?_
  refine z_iload_n B dX4_first_17 rfl 1 rfl ?_
  refine z_iald (j := 0) (x := 0) B (lKA (hk_K hK 11 rfl rfl)) (by decide) (in_of (lNA (hk_N hK 11 rfl rfl)) (show ¬ ((0 : Int32) < 0 ∨ 20 ≤ (0 : Int32).toNatClampNeg) by decide)) (rI_at 11 0 hI_11_0) dX4_first_18 ?_
  refine z_goto (tgt := 23) B dX4_first_19 (by decide) ?_
  exact z_iret B hr (by decide) (by decide) dX4_first_23 ⟨rfl, rfl⟩
set_option maxRecDepth 100000 in
set_option maxHeartbeats 4000000 in
theorem ci_X4_second_673 (l : Launch) {g : gx_T} {σ : sx_T} {b : Nat} (hK : lay b σ)   (hI_12_0 : sx_I σ (b + 12) 0 = 0) (hR_9_3 : sx_R σ (b + 9) 3 = (some (b + 12))) : Met l yX4_second (.code yX4_second cX4_second 2 (some .int) :: lw_g) { frames := 0, cells := 0, slots := 0, locals := 0 } (va_Pc [.ref (b + 9), .int 0] (zx_w g σ)) (va_Qi (fun r u => r = 0 ∧ u = σ) (zx_w g) (gx_Q g)) 0 0 (gx_Q g) := by
  refine z_met (by decide) (Nat.le_of_ble_eq_true rfl) (fun p e s m below meth c B hr hin => ?_)
  refine z_eqs (σ' := (ap b σ [] [] [])) rfl ?_
  show zx p l e _ s m _ below meth c g 2 0 0 _ _ 0 [(0, .ref (b + 9)), (1, .int 0)] []
  refine z_iload_n B dX4_second_0 rfl 1 rfl ?_
  refine z_if_lt (tgt := 22) B dX4_second_1 (by decide) (fun h => absurd h (by decide)) (fun _ => ?_)
  refine z_iload_n B dX4_second_4 rfl 1 rfl ?_
  refine z_aload_n B dX4_second_5 rfl 0 rfl ?_
  refine gf_X4_18 (x := (some (b + 12))) B (lKA (hk_K hK 9 rfl rfl)) (rR_at 9 3 hR_9_3) dX4_second_6 ?_
  refine z_alen (kd := 13) (ti := 1) (v := 20) B (lKA (hk_K hK 12 rfl rfl)) (by decide) rfl (congrArg Int32.ofNat (lNA (hk_N hK 12 rfl rfl))) dX4_second_9 ?_
  refine z_icmp_ge (tgt := 22) B dX4_second_10 (by decide) (fun h => absurd h (by decide)) (fun _ => ?_)
  refine z_aload_n B dX4_second_13 rfl 0 rfl ?_
  refine gf_X4_18 (x := (some (b + 12))) B (lKA (hk_K hK 9 rfl rfl)) (rR_at 9 3 hR_9_3) dX4_second_14 ?_
  refine z_iload_n B dX4_second_17 rfl 1 rfl ?_
  refine z_iald (j := 0) (x := 0) B (lKA (hk_K hK 12 rfl rfl)) (by decide) (in_of (lNA (hk_N hK 12 rfl rfl)) (show ¬ ((0 : Int32) < 0 ∨ 20 ≤ (0 : Int32).toNatClampNeg) by decide)) (rI_at 12 0 hI_12_0) dX4_second_18 ?_
  refine z_goto (tgt := 23) B dX4_second_19 (by decide) ?_
  exact z_iret B hr (by decide) (by decide) dX4_second_23 ⟨rfl, rfl⟩
set_option maxRecDepth 100000 in
set_option maxHeartbeats 4000000 in
theorem ci_X5_isRefused_674 (l : Launch) {g : gx_T} {σ : sx_T} {b : Nat} (hK : lay b σ)    : Met l yX5_isRefused (.code yX5_isRefused cX5_isRefused 3 (some .boolean) :: lw_g) { frames := 0, cells := 0, slots := 0, locals := 0 } (va_Pc [.ref (b + 41), .int 0, .int 0] (zx_w g σ)) (va_Qi (fun r u => r = 0 ∧ u = σ) (zx_w g) (gx_Q g)) 0 0 (gx_Q g) := by
  refine z_met (by decide) (Nat.le_of_ble_eq_true rfl) (fun p e s m below meth c B hr hin => ?_)
  refine z_eqs (σ' := (ap b σ [] [] [])) rfl ?_
  show zx p l e _ s m _ below meth c g 3 0 0 _ _ 0 [(0, .ref (b + 41)), (1, .int 0), (2, .int 0)] []
  refine z_iload_n B dX5_isRefused_0 rfl 1 rfl ?_
  refine z_tableOut (tgt := 134) B dX5_isRefused_1 (by decide) (by decide) ?_
  refine z_iconst (v := 0) B dX5_isRefused_134 (by decide) ?_
  exact z_zret B hr (by decide) (by decide) (by decide) dX5_isRefused_135 ⟨rfl, rfl⟩
set_option maxRecDepth 100000 in
set_option maxHeartbeats 4000000 in
theorem ci_X5_want_675 (l : Launch) {g : gx_T} {σ : sx_T} {b : Nat} (hK : lay b σ) (w1 : Int64)   : Met l yX5_want (.code yX5_want cX5_want 4 none :: lw_g) { frames := 0, cells := 0, slots := 0, locals := 0 } (va_Pc [.ref (b + 41), .int 13, .long w1] (zx_w g σ)) (va_Qv (fun u => u = (ap b σ [(41, 16, 13)] [(41, 17, w1)] [])) (zx_w g) (gx_Q g)) 0 0 (gx_Q g) := by
  refine z_met (by decide) (Nat.le_of_ble_eq_true rfl) (fun p e s m below meth c B hr hin => ?_)
  refine z_eqs (σ' := (ap b σ [] [] [])) rfl ?_
  show zx p l e _ s m _ below meth c g 4 0 0 _ _ 0 [(0, .ref (b + 41)), (1, .int 13), (2, .long w1)] []
  refine z_aload_n B dX5_want_0 rfl 0 rfl ?_
  refine z_iload_n B dX5_want_1 rfl 1 rfl ?_
  refine pf_X5_82 (x := 13) (σ' := (ap b σ [(41, 16, 13)] [] [])) B (lKA (hk_K hK 41 rfl rfl)) wI_ap dX5_want_2 ?_
  refine z_aload_n B dX5_want_5 rfl 0 rfl ?_
  refine z_lload_n B dX5_want_6 rfl 2 rfl ?_
  refine pf_X5_85 (x := w1) (σ' := (ap b σ [(41, 16, 13)] [(41, 17, w1)] [])) B (lKA (hk_K hK 41 rfl rfl)) wJ_ap dX5_want_7 ?_
  exact z_vret B hr (by decide) (by decide) dX5_want_10 rfl
set_option maxRecDepth 100000 in
set_option maxHeartbeats 4000000 in
theorem ci_X5_step_676 (l : Launch) {g : gx_T} {σ : sx_T} {b : Nat} (hK : lay b σ) (w1 : Int32)  (hI_10_0 : sx_I σ (b + 10) 0 = 0) (hI_11_0 : sx_I σ (b + 11) 0 = 0) (hI_12_0 : sx_I σ (b + 12) 0 = 0) (hI_41_5 : sx_I σ (b + 41) 5 = 0) (hI_41_6 : sx_I σ (b + 41) 6 = w1) (hI_41_7 : sx_I σ (b + 41) 7 = 0) (hR_9_1 : sx_R σ (b + 9) 1 = (some (b + 10))) (hR_9_2 : sx_R σ (b + 9) 2 = (some (b + 11))) (hR_9_3 : sx_R σ (b + 9) 3 = (some (b + 12))) (hR_41_2 : sx_R σ (b + 41) 2 = (some (b + 9))) : Met l yX5_step (.code yX5_step cX5_step 4 none :: lw_g) { frames := 1, cells := 0, slots := 0, locals := 23 } (va_Pc [.ref (b + 41)] (zx_w g σ)) (va_Qv (fun u => u = (ap b σ [(41, 16, 13), (41, 7, 1), (41, 5, 1)] [(41, 17, ((10 * (w1.toInt64)) + 1))] [])) (zx_w g) (gx_Q g)) 0 0 (gx_Q g) := by
  refine z_met (by decide) (Nat.le_of_ble_eq_true rfl) (fun p e s m below meth c B hr hin => ?_)
  refine z_eqs (σ' := (ap b σ [] [] [])) rfl ?_
  show zx p l e _ s m _ below meth c g 4 0 0 _ _ 0 [(0, .ref (b + 41))] []
  refine z_aload_n B dX5_step_0 rfl 0 rfl ?_
  refine gf_X5_25 (x := (some (b + 9))) B (lKA (hk_K hK 41 rfl rfl)) (rR_at 41 2 hR_41_2) dX5_step_1 ?_
  refine z_aload_n B dX5_step_4 rfl 0 rfl ?_
  refine gf_X5_41 (x := 0) B (lKA (hk_K hK 41 rfl rfl)) (rI_at 41 5 hI_41_5) dX5_step_5 ?_
  refine z_cVi (As := [.int 0]) (rest := []) B cw_X5_155 cx_5 dX5_step_8 (ci_X4_operation_671 l (σ := (ap b σ [] [] [])) (b := b) (lyA hK) (rI_at 10 0 hI_10_0) (rR_at 9 1 hR_9_1)) (lKA (hk_K hK 9 rfl rfl)) rfl (by decide) rfl (Nat.le_of_ble_eq_true rfl) (by decide) (fun r u hu => ?_)
  refine z_eqs (σ' := (ap b σ [] [] [])) hu.2 ?_
  show zx p l e _ s m _ below meth c g 4 0 0 _ _ 11 [(0, .ref (b + 41))] _
  refine z_seti (y := 0) hu.1 ?_
  refine z_istore_n (lv' := [(1, .int 0), (0, .ref (b + 41))]) B dX5_step_11 rfl (by decide) rfl ?_
  refine z_aload_n B dX5_step_12 rfl 1 rfl ?_
  refine gf_X5_25 (x := (some (b + 9))) B (lKA (hk_K hK 41 rfl rfl)) (rR_at 41 2 hR_41_2) dX5_step_13 ?_
  refine z_aload_n B dX5_step_16 rfl 1 rfl ?_
  refine gf_X5_41 (x := 0) B (lKA (hk_K hK 41 rfl rfl)) (rI_at 41 5 hI_41_5) dX5_step_17 ?_
  refine z_cVi (As := [.int 0]) (rest := []) B cw_X5_160 cx_5 dX5_step_20 (ci_X4_first_672 l (σ := (ap b σ [] [] [])) (b := b) (lyA hK) (rI_at 11 0 hI_11_0) (rR_at 9 2 hR_9_2)) (lKA (hk_K hK 9 rfl rfl)) rfl (by decide) rfl (Nat.le_of_ble_eq_true rfl) (by decide) (fun r u hu => ?_)
  refine z_eqs (σ' := (ap b σ [] [] [])) hu.2 ?_
  show zx p l e _ s m _ below meth c g 4 0 0 _ _ 23 [(1, .int 0), (0, .ref (b + 41))] _
  refine z_seti (y := 0) hu.1 ?_
  refine z_istore_n (lv' := [(2, .int 0), (1, .int 0), (0, .ref (b + 41))]) B dX5_step_23 rfl (by decide) rfl ?_
  refine z_aload_n B dX5_step_24 rfl 2 rfl ?_
  refine gf_X5_25 (x := (some (b + 9))) B (lKA (hk_K hK 41 rfl rfl)) (rR_at 41 2 hR_41_2) dX5_step_25 ?_
  refine z_aload_n B dX5_step_28 rfl 2 rfl ?_
  refine gf_X5_41 (x := 0) B (lKA (hk_K hK 41 rfl rfl)) (rI_at 41 5 hI_41_5) dX5_step_29 ?_
  refine z_cVi (As := [.int 0]) (rest := []) B cw_X5_163 cx_5 dX5_step_32 (ci_X4_second_673 l (σ := (ap b σ [] [] [])) (b := b) (lyA hK) (rI_at 12 0 hI_12_0) (rR_at 9 3 hR_9_3)) (lKA (hk_K hK 9 rfl rfl)) rfl (by decide) rfl (Nat.le_of_ble_eq_true rfl) (by decide) (fun r u hu => ?_)
  refine z_eqs (σ' := (ap b σ [] [] [])) hu.2 ?_
  show zx p l e _ s m _ below meth c g 4 0 0 _ _ 35 [(2, .int 0), (1, .int 0), (0, .ref (b + 41))] _
  refine z_seti (y := 0) hu.1 ?_
  refine z_istore_n (lv' := [(3, .int 0), (2, .int 0), (1, .int 0), (0, .ref (b + 41))]) B dX5_step_35 rfl (by decide) rfl ?_
  refine z_aload_n B dX5_step_36 rfl 3 rfl ?_
  refine z_aload_n B dX5_step_37 rfl 3 rfl ?_
  refine gf_X5_41 (x := 0) B (lKA (hk_K hK 41 rfl rfl)) (rI_at 41 5 hI_41_5) dX5_step_38 ?_
  refine z_iconst (v := 1) B dX5_step_41 (by decide) ?_
  refine z_iadd B dX5_step_42 ?_
  refine z_seti (y := 1) (by decide) ?_
  refine z_bipush (v := 20) B dX5_step_43 (by decide) ?_
  refine z_irem B dX5_step_45 (by decide) ?_
  refine z_seti (y := 1) (by decide) ?_
  refine pf_X5_41 (x := 1) (σ' := (ap b σ [(41, 5, 1)] [] [])) B (lKA (hk_K hK 41 rfl rfl)) wI_ap dX5_step_46 ?_
  refine z_aload_n B dX5_step_49 rfl 3 rfl ?_
  refine z_dup B dX5_step_50 rfl ?_
  refine gf_X5_53 (x := 0) B (lKA (hk_K hK 41 rfl rfl)) (rI_at 41 7 hI_41_7) dX5_step_51 ?_
  refine z_iconst (v := 1) B dX5_step_54 (by decide) ?_
  refine z_iadd B dX5_step_55 ?_
  refine z_seti (y := 1) (by decide) ?_
  refine pf_X5_53 (x := 1) (σ' := (ap b σ [(41, 7, 1), (41, 5, 1)] [] [])) B (lKA (hk_K hK 41 rfl rfl)) wI_ap dX5_step_56 ?_
  refine z_aload_n B dX5_step_59 rfl 3 rfl ?_
  refine gf_X5_53 (x := 1) B (lKA (hk_K hK 41 rfl rfl)) (rI_at 41 7 rfl) dX5_step_60 ?_
  refine z_bipush (v := 60) B dX5_step_63 (by decide) ?_
  refine z_icmp_gt (tgt := 77) B dX5_step_65 (by decide) (fun h => absurd h (by decide)) (fun _ => ?_)
  refine z_aload_n B dX5_step_68 rfl 3 rfl ?_
  refine z_iload_n B dX5_step_69 rfl 2 rfl ?_
  refine z_iload_n B dX5_step_70 rfl 1 rfl ?_
  refine z_cVi (As := [.int 0, .int 0]) (rest := []) B cw_X5_166 cx_6 dX5_step_71 (ci_X5_isRefused_674 l (σ := (ap b σ [(41, 7, 1), (41, 5, 1)] [] [])) (b := b) (lyA hK) ) (lKA (hk_K hK 41 rfl rfl)) rfl (by decide) rfl (Nat.le_of_ble_eq_true rfl) (by decide) (fun r u hu => ?_)
  refine z_eqs (σ' := (ap b σ [(41, 7, 1), (41, 5, 1)] [] [])) hu.2 ?_
  show zx p l e _ s m _ below meth c g 4 0 0 _ _ 74 [(3, .int 0), (2, .int 0), (1, .int 0), (0, .ref (b + 41))] _
  refine z_seti (y := 0) hu.1 ?_
  refine z_if_eq (tgt := 82) B dX5_step_74 (by decide) (fun _ => ?_) (fun h => absurd (by decide) h)
  refine z_iload_n B dX5_step_82 rfl 2 rfl ?_
  refine z_tableIn (tgt := 276) B dX5_step_83 (by decide) (by decide) (show _ = some (193 : Int) by decide) (by decide) ?_
  refine z_aload_n B dX5_step_276 rfl 3 rfl ?_
  refine z_bipush (v := 13) B dX5_step_277 (by decide) ?_
  refine z_ldc2 (v := 10) B dX5_step_279 wg_370 ?_
  refine z_aload_n B dX5_step_282 rfl 3 rfl ?_
  refine gf_X5_50 (x := w1) B (lKA (hk_K hK 41 rfl rfl)) (rI_at 41 6 hI_41_6) dX5_step_283 ?_
  refine z_i2l B dX5_step_286 rfl ?_
  refine z_lmul B dX5_step_287 ?_
  refine z_lconst (v := 1) B dX5_step_288 (by decide) ?_
  refine z_ladd B dX5_step_289 ?_
  refine z_cVv (As := [.int 13, .long ((10 * (w1.toInt64)) + 1)]) (rest := []) B cw_X5_114 cx_6 dX5_step_290 (ci_X5_want_675 l (σ := (ap b σ [(41, 7, 1), (41, 5, 1)] [] [])) (b := b) (lyA hK) ((10 * (w1.toInt64)) + 1)) (lKA (hk_K hK 41 rfl rfl)) rfl (by decide) rfl (Nat.le_of_ble_eq_true rfl) (by decide) (fun u hu => ?_)
  refine z_eqs (σ' := (ap b σ [(41, 16, 13), (41, 7, 1), (41, 5, 1)] [(41, 17, ((10 * (w1.toInt64)) + 1))] [])) (hu.trans ap_ap) ?_
  show zx p l e _ s m _ below meth c g 4 0 0 _ _ 293 [(3, .int 0), (2, .int 0), (1, .int 0), (0, .ref (b + 41))] _
  refine z_goto (tgt := 302) B dX5_step_293 (by decide) ?_
  exact z_vret B hr (by decide) (by decide) dX5_step_302 rfl
set_option maxRecDepth 100000 in
set_option maxHeartbeats 4000000 in
theorem ci_X5_takeWanted_677 (l : Launch) {g : gx_T} {σ : sx_T} {b : Nat} (hK : lay b σ)    : Met l yX5_takeWanted (.code yX5_takeWanted cX5_takeWanted 6 none :: lw_g) { frames := 0, cells := 0, slots := 0, locals := 0 } (va_Pc [.ref (b + 41), .int 0] (zx_w g σ)) (va_Qv (fun u => u = σ) (zx_w g) (gx_Q g)) 0 0 (gx_Q g) := by
  refine z_met (by decide) (Nat.le_of_ble_eq_true rfl) (fun p e s m below meth c B hr hin => ?_)
  refine z_eqs (σ' := (ap b σ [] [] [])) rfl ?_
  show zx p l e _ s m _ below meth c g 6 0 0 _ _ 0 [(0, .ref (b + 41)), (1, .int 0)] []
  refine z_iload_n B dX5_takeWanted_0 rfl 1 rfl ?_
  refine z_if_ne (tgt := 5) B dX5_takeWanted_1 (by decide) (fun h => absurd (by decide) h) (fun _ => ?_)
  exact z_vret B hr (by decide) (by decide) dX5_takeWanted_4 rfl
set_option maxRecDepth 100000 in
set_option maxHeartbeats 4000000 in
theorem ci_X5_advance_678 (l : Launch) {g : gx_T} {σ : sx_T} {b : Nat} (hK : lay b σ) (w1 : Int32)  (hI_10_0 : sx_I σ (b + 10) 0 = 0) (hI_11_0 : sx_I σ (b + 11) 0 = 0) (hI_12_0 : sx_I σ (b + 12) 0 = 0) (hI_41_4 : sx_I σ (b + 41) 4 = 1) (hI_41_5 : sx_I σ (b + 41) 5 = 0) (hI_41_6 : sx_I σ (b + 41) 6 = w1) (hI_41_7 : sx_I σ (b + 41) 7 = 0) (hI_41_8 : sx_I σ (b + 41) 8 = 0) (hI_41_14 : sx_I σ (b + 41) 14 = 0) (hI_41_15 : sx_I σ (b + 41) 15 = 0) (hI_41_16 : sx_I σ (b + 41) 16 = (-1)) (hI_41_19 : sx_I σ (b + 41) 19 = 0) (hR_9_1 : sx_R σ (b + 9) 1 = (some (b + 10))) (hR_9_2 : sx_R σ (b + 9) 2 = (some (b + 11))) (hR_9_3 : sx_R σ (b + 9) 3 = (some (b + 12))) (hR_41_2 : sx_R σ (b + 41) 2 = (some (b + 9))) : Met l yX5_advance (.code yX5_advance cX5_advance 5 none :: lw_g) { frames := 2, cells := 0, slots := 0, locals := 46 } (va_Pc [.ref (b + 41), .int 1] (zx_w g σ)) (va_Qv (fun u => u = (ap b σ [(41, 16, 13), (41, 7, 1), (41, 5, 1)] [(41, 17, ((10 * (w1.toInt64)) + 1))] [])) (zx_w g) (gx_Q g)) 0 0 (gx_Q g) := by
  refine z_met (by decide) (Nat.le_of_ble_eq_true rfl) (fun p e s m below meth c B hr hin => ?_)
  refine z_eqs (σ' := (ap b σ [] [] [])) rfl ?_
  show zx p l e _ s m _ below meth c g 5 0 0 _ _ 0 [(0, .ref (b + 41)), (1, .int 1)] []
  refine z_iconst (v := 1) B dX5_advance_0 (by decide) ?_
  refine z_istore_n (lv' := [(2, .int 1), (0, .ref (b + 41)), (1, .int 1)]) B dX5_advance_1 rfl (by decide) rfl ?_
  refine z_iconst (v := 0) B dX5_advance_2 (by decide) ?_
  refine z_istore_n (lv' := [(3, .int 0), (2, .int 1), (0, .ref (b + 41)), (1, .int 1)]) B dX5_advance_3 rfl (by decide) rfl ?_
  refine z_iload_n B dX5_advance_4 rfl 0 rfl ?_
  refine z_ldc (v := 1000000) B dX5_advance_5 wg_355 ?_
  refine z_icmp_ge (tgt := 122) B dX5_advance_7 (by decide) (fun h => absurd h (by decide)) (fun _ => ?_)
  refine z_iload_n B dX5_advance_10 rfl 1 rfl ?_
  refine z_if_eq (tgt := 122) B dX5_advance_11 (by decide) (fun h => absurd h (by decide)) (fun _ => ?_)
  refine z_aload_n B dX5_advance_14 rfl 2 rfl ?_
  refine gf_X5_38 (x := 1) B (lKA (hk_K hK 41 rfl rfl)) (rI_at 41 4 hI_41_4) dX5_advance_15 ?_
  refine z_iload_n B dX5_advance_18 rfl 3 rfl ?_
  refine z_icmp_ge (tgt := 26) B dX5_advance_19 (by decide) (fun _ => ?_) (fun h => absurd (by decide) h)
  refine z_iconst (v := 0) B dX5_advance_26 (by decide) ?_
  refine z_istore (lv' := [(4, .int 0), (3, .int 0), (2, .int 1), (0, .ref (b + 41)), (1, .int 1)]) B dX5_advance_27 (by decide) rfl ?_
  refine z_aload_n B dX5_advance_29 rfl 3 rfl ?_
  refine gf_X5_91 (x := 0) B (lKA (hk_K hK 41 rfl rfl)) (rI_at 41 19 hI_41_19) dX5_advance_30 ?_
  refine z_if_eq (tgt := 41) B dX5_advance_33 (by decide) (fun _ => ?_) (fun h => absurd (by decide) h)
  refine z_aload_n B dX5_advance_41 rfl 3 rfl ?_
  refine gf_X5_82 (x := (-1)) B (lKA (hk_K hK 41 rfl rfl)) (rI_at 41 16 hI_41_16) dX5_advance_42 ?_
  refine z_iconst (v := (-1)) B dX5_advance_45 (by decide) ?_
  refine z_icmp_eq (tgt := 61) B dX5_advance_46 (by decide) (fun _ => ?_) (fun h => absurd (by decide) h)
  refine z_aload_n B dX5_advance_61 rfl 3 rfl ?_
  refine gf_X5_79 (x := 0) B (lKA (hk_K hK 41 rfl rfl)) (rI_at 41 15 hI_41_15) dX5_advance_62 ?_
  refine z_if_eq (tgt := 79) B dX5_advance_65 (by decide) (fun _ => ?_) (fun h => absurd (by decide) h)
  refine z_aload_n B dX5_advance_79 rfl 3 rfl ?_
  refine gf_X5_56 (x := 0) B (lKA (hk_K hK 41 rfl rfl)) (rI_at 41 8 hI_41_8) dX5_advance_80 ?_
  refine z_if_eq (tgt := 98) B dX5_advance_83 (by decide) (fun _ => ?_) (fun h => absurd (by decide) h)
  refine z_aload_n B dX5_advance_98 rfl 3 rfl ?_
  refine gf_X5_76 (x := 0) B (lKA (hk_K hK 41 rfl rfl)) (rI_at 41 14 hI_41_14) dX5_advance_99 ?_
  refine z_if_eq (tgt := 112) B dX5_advance_102 (by decide) (fun _ => ?_) (fun h => absurd (by decide) h)
  refine z_aload_n B dX5_advance_112 rfl 3 rfl ?_
  refine z_cVv (As := []) (rest := []) B cw_X5_105 cx_6 dX5_advance_113 (ci_X5_step_676 l (σ := (ap b σ [] [] [])) (b := b) (lyA hK) w1 (rI_at 10 0 hI_10_0) (rI_at 11 0 hI_11_0) (rI_at 12 0 hI_12_0) (rI_at 41 5 hI_41_5) (rI_at 41 6 hI_41_6) (rI_at 41 7 hI_41_7) (rR_at 9 1 hR_9_1) (rR_at 9 2 hR_9_2) (rR_at 9 3 hR_9_3) (rR_at 41 2 hR_41_2)) (lKA (hk_K hK 41 rfl rfl)) rfl (by decide) rfl (Nat.le_of_ble_eq_true rfl) (by decide) (fun u hu => ?_)
  refine z_eqs (σ' := (ap b σ [(41, 16, 13), (41, 7, 1), (41, 5, 1)] [(41, 17, ((10 * (w1.toInt64)) + 1))] [])) (hu.trans ap_ap) ?_
  show zx p l e _ s m _ below meth c g 5 0 0 _ _ 116 [(4, .int 0), (3, .int 0), (2, .int 1), (0, .ref (b + 41)), (1, .int 1)] _
  refine z_iinc (v := 1) (lv' := [(3, .int 1), (4, .int 0), (2, .int 1), (0, .ref (b + 41)), (1, .int 1)]) B dX5_advance_116 1 rfl (by decide) (by decide) rfl ?_
  refine z_goto (tgt := 4) B dX5_advance_119 (by decide) ?_
  refine z_iload_n B dX5_advance_4 rfl 0 rfl ?_
  refine z_ldc (v := 1000000) B dX5_advance_5 wg_355 ?_
  refine z_icmp_ge (tgt := 122) B dX5_advance_7 (by decide) (fun h => absurd h (by decide)) (fun _ => ?_)
  refine z_iload_n B dX5_advance_10 rfl 2 rfl ?_
  refine z_if_eq (tgt := 122) B dX5_advance_11 (by decide) (fun h => absurd h (by decide)) (fun _ => ?_)
  refine z_aload_n B dX5_advance_14 rfl 3 rfl ?_
  refine gf_X5_38 (x := 1) B (lKA (hk_K hK 41 rfl rfl)) (rI_at 41 4 hI_41_4) dX5_advance_15 ?_
  refine z_iload_n B dX5_advance_18 rfl 4 rfl ?_
  refine z_icmp_ge (tgt := 26) B dX5_advance_19 (by decide) (fun _ => ?_) (fun h => absurd (by decide) h)
  refine z_iconst (v := 0) B dX5_advance_26 (by decide) ?_
  refine z_istore (lv' := [(4, .int 0), (3, .int 1), (2, .int 1), (0, .ref (b + 41)), (1, .int 1)]) B dX5_advance_27 (by decide) rfl ?_
  refine z_aload_n B dX5_advance_29 rfl 3 rfl ?_
  refine gf_X5_91 (x := 0) B (lKA (hk_K hK 41 rfl rfl)) (rI_at 41 19 hI_41_19) dX5_advance_30 ?_
  refine z_if_eq (tgt := 41) B dX5_advance_33 (by decide) (fun _ => ?_) (fun h => absurd (by decide) h)
  refine z_aload_n B dX5_advance_41 rfl 3 rfl ?_
  refine gf_X5_82 (x := 13) B (lKA (hk_K hK 41 rfl rfl)) (rI_at 41 16 rfl) dX5_advance_42 ?_
  refine z_iconst (v := (-1)) B dX5_advance_45 (by decide) ?_
  refine z_icmp_eq (tgt := 61) B dX5_advance_46 (by decide) (fun h => absurd h (by decide)) (fun _ => ?_)
  refine z_iload B dX5_advance_49 0 rfl ?_
  refine z_istore_n (lv' := [(2, .int 0), (4, .int 0), (3, .int 1), (0, .ref (b + 41)), (1, .int 1)]) B dX5_advance_51 rfl (by decide) rfl ?_
  refine z_aload_n B dX5_advance_52 rfl 3 rfl ?_
  refine z_iload B dX5_advance_53 1 rfl ?_
  refine z_cVv (As := [.int 0]) (rest := []) B cw_X5_95 cx_6 dX5_advance_55 (ci_X5_takeWanted_677 l (σ := (ap b σ [(41, 16, 13), (41, 7, 1), (41, 5, 1)] [(41, 17, ((10 * (w1.toInt64)) + 1))] [])) (b := b) (lyA hK) ) (lKA (hk_K hK 41 rfl rfl)) rfl (by decide) rfl (Nat.le_of_ble_eq_true rfl) (by decide) (fun u hu => ?_)
  refine z_eqs (σ' := (ap b σ [(41, 16, 13), (41, 7, 1), (41, 5, 1)] [(41, 17, ((10 * (w1.toInt64)) + 1))] [])) hu ?_
  show zx p l e _ s m _ below meth c g 5 0 0 _ _ 58 [(2, .int 0), (4, .int 0), (3, .int 1), (0, .ref (b + 41)), (1, .int 1)] _
  refine z_goto (tgt := 116) B dX5_advance_58 (by decide) ?_
  refine z_iinc (v := 2) (lv' := [(3, .int 2), (2, .int 0), (4, .int 0), (0, .ref (b + 41)), (1, .int 1)]) B dX5_advance_116 2 rfl (by decide) (by decide) rfl ?_
  refine z_goto (tgt := 4) B dX5_advance_119 (by decide) ?_
  refine z_iload_n B dX5_advance_4 rfl 0 rfl ?_
  refine z_ldc (v := 1000000) B dX5_advance_5 wg_355 ?_
  refine z_icmp_ge (tgt := 122) B dX5_advance_7 (by decide) (fun h => absurd h (by decide)) (fun _ => ?_)
  refine z_iload_n B dX5_advance_10 rfl 1 rfl ?_
  refine z_if_eq (tgt := 122) B dX5_advance_11 (by decide) (fun _ => ?_) (fun h => absurd (by decide) h)
  exact z_vret B hr (by decide) (by decide) dX5_advance_122 rfl
set_option maxRecDepth 100000 in
set_option maxHeartbeats 4000000 in
theorem ci_X0_letGo_679 (l : Launch) {g : gx_T} {σ : sx_T} {b : Nat} (hK : lay b σ)   (hR_40_7 : sx_R σ (b + 40) 7 = none) : Met l yX0_letGo (.code yX0_letGo cX0_letGo 2 none :: lw_g) { frames := 0, cells := 0, slots := 0, locals := 0 } (va_Pc [.ref (b + 40)] (zx_w g σ)) (va_Qv (fun u => u = σ) (zx_w g) (gx_Q g)) 0 0 (gx_Q g) := by
  refine z_met (by decide) (Nat.le_of_ble_eq_true rfl) (fun p e s m below meth c B hr hin => ?_)
  refine z_eqs (σ' := (ap b σ [] [] [])) rfl ?_
  show zx p l e _ s m _ below meth c g 2 0 0 _ _ 0 [(0, .ref (b + 40))] []
  refine z_aload_n B dX0_letGo_0 rfl 0 rfl ?_
  refine gf_X0_69 (x := none) B (lKA (hk_K hK 40 rfl rfl)) (rR_at 40 7 hR_40_7) dX0_letGo_1 ?_
  refine z_qstore_n (r := none) (lv' := [(1, .null), (0, .ref (b + 40))]) B dX0_letGo_4 rfl (by decide) rfl ?_
  refine z_qload_n (r := none) B dX0_letGo_5 rfl 0 rfl ?_
  refine z_ifnull (r := none) (tgt := 33) B dX0_letGo_6 (by decide) (fun _ => ?_) (fun a h => nomatch h)
  exact z_vret B hr (by decide) (by decide) dX0_letGo_33 rfl
set_option maxRecDepth 100000 in
set_option maxHeartbeats 4000000 in
theorem ci_X5_wantsEvent_680 (l : Launch) {g : gx_T} {σ : sx_T} {b : Nat} (hK : lay b σ)   (hI_41_16 : sx_I σ (b + 41) 16 = 13) (hI_41_19 : sx_I σ (b + 41) 19 = 0) : Met l yX5_wantsEvent (.code yX5_wantsEvent cX5_wantsEvent 1 (some .boolean) :: lw_g) { frames := 0, cells := 0, slots := 0, locals := 0 } (va_Pc [.ref (b + 41)] (zx_w g σ)) (va_Qi (fun r u => r = 1 ∧ u = σ) (zx_w g) (gx_Q g)) 0 0 (gx_Q g) := by
  refine z_met (by decide) (Nat.le_of_ble_eq_true rfl) (fun p e s m below meth c B hr hin => ?_)
  refine z_eqs (σ' := (ap b σ [] [] [])) rfl ?_
  show zx p l e _ s m _ below meth c g 1 0 0 _ _ 0 [(0, .ref (b + 41))] []
  refine z_aload_n B dX5_wantsEvent_0 rfl 0 rfl ?_
  refine gf_X5_91 (x := 0) B (lKA (hk_K hK 41 rfl rfl)) (rI_at 41 19 hI_41_19) dX5_wantsEvent_1 ?_
  refine z_if_ne (tgt := 19) B dX5_wantsEvent_4 (by decide) (fun h => absurd (by decide) h) (fun _ => ?_)
  refine z_aload_n B dX5_wantsEvent_7 rfl 0 rfl ?_
  refine gf_X5_82 (x := 13) B (lKA (hk_K hK 41 rfl rfl)) (rI_at 41 16 hI_41_16) dX5_wantsEvent_8 ?_
  refine z_iconst (v := (-1)) B dX5_wantsEvent_11 (by decide) ?_
  refine z_icmp_eq (tgt := 19) B dX5_wantsEvent_12 (by decide) (fun h => absurd h (by decide)) (fun _ => ?_)
  refine z_iconst (v := 1) B dX5_wantsEvent_15 (by decide) ?_
  refine z_goto (tgt := 20) B dX5_wantsEvent_16 (by decide) ?_
  exact z_zret B hr (by decide) (by decide) (by decide) dX5_wantsEvent_20 ⟨rfl, rfl⟩
set_option maxRecDepth 100000 in
set_option maxHeartbeats 4000000 in
theorem ci_X1_add_681 (l : Launch) {g : gx_T} {σ : sx_T} {b : Nat} (hK : lay b σ) (w1 : Int64)  (hI_37_2 : sx_I σ (b + 37) 2 = 1) (hR_37_0 : sx_R σ (b + 37) 0 = (some (b + 38))) (hR_37_1 : sx_R σ (b + 37) 1 = (some (b + 39))) : Met l yX1_add (.code yX1_add cX1_add 4 none :: lw_g) { frames := 0, cells := 0, slots := 0, locals := 0 } (va_Pc [.ref (b + 37), .int 13, .long w1] (zx_w g σ)) (va_Qv (fun u => u = (ap b σ [(37, 2, 2), (38, 1, 13)] [(39, 1, w1)] [])) (zx_w g) (gx_Q g)) 0 0 (gx_Q g) := by
  refine z_met (by decide) (Nat.le_of_ble_eq_true rfl) (fun p e s m below meth c B hr hin => ?_)
  refine z_eqs (σ' := (ap b σ [] [] [])) rfl ?_
  show zx p l e _ s m _ below meth c g 4 0 0 _ _ 0 [(0, .ref (b + 37)), (1, .int 13), (2, .long w1)] []
  refine z_aload_n B dX1_add_0 rfl 0 rfl ?_
  refine gf_X1_19 (x := 1) B (lKA (hk_K hK 37 rfl rfl)) (rI_at 37 2 hI_37_2) dX1_add_1 ?_
  refine z_if_lt (tgt := 62) B dX1_add_4 (by decide) (fun h => absurd h (by decide)) (fun _ => ?_)
  refine z_aload_n B dX1_add_7 rfl 0 rfl ?_
  refine gf_X1_19 (x := 1) B (lKA (hk_K hK 37 rfl rfl)) (rI_at 37 2 hI_37_2) dX1_add_8 ?_
  refine z_aload_n B dX1_add_11 rfl 0 rfl ?_
  refine gf_X1_9 (x := (some (b + 38))) B (lKA (hk_K hK 37 rfl rfl)) (rR_at 37 0 hR_37_0) dX1_add_12 ?_
  refine z_alen (kd := 12) (ti := 0) (v := 140) B (lKA (hk_K hK 38 rfl rfl)) (by decide) rfl (congrArg Int32.ofNat (lNA (hk_N hK 38 rfl rfl))) dX1_add_15 ?_
  refine z_icmp_ge (tgt := 62) B dX1_add_16 (by decide) (fun h => absurd h (by decide)) (fun _ => ?_)
  refine z_aload_n B dX1_add_19 rfl 0 rfl ?_
  refine gf_X1_19 (x := 1) B (lKA (hk_K hK 37 rfl rfl)) (rI_at 37 2 hI_37_2) dX1_add_20 ?_
  refine z_aload_n B dX1_add_23 rfl 0 rfl ?_
  refine gf_X1_15 (x := (some (b + 39))) B (lKA (hk_K hK 37 rfl rfl)) (rR_at 37 1 hR_37_1) dX1_add_24 ?_
  refine z_alen (kd := 14) (ti := 2) (v := 140) B (lKA (hk_K hK 39 rfl rfl)) (by decide) rfl (congrArg Int32.ofNat (lNA (hk_N hK 39 rfl rfl))) dX1_add_27 ?_
  refine z_icmp_ge (tgt := 62) B dX1_add_28 (by decide) (fun h => absurd h (by decide)) (fun _ => ?_)
  refine z_aload_n B dX1_add_31 rfl 0 rfl ?_
  refine gf_X1_9 (x := (some (b + 38))) B (lKA (hk_K hK 37 rfl rfl)) (rR_at 37 0 hR_37_0) dX1_add_32 ?_
  refine z_aload_n B dX1_add_35 rfl 0 rfl ?_
  refine gf_X1_19 (x := 1) B (lKA (hk_K hK 37 rfl rfl)) (rI_at 37 2 hI_37_2) dX1_add_36 ?_
  refine z_iload_n B dX1_add_39 rfl 1 rfl ?_
  refine z_i2b (v := 13) B dX1_add_40 (by decide) ?_
  refine z_bast (j := 1) (σ' := (ap b σ [(38, 1, 13)] [] [])) B (lKA (hk_K hK 38 rfl rfl)) (by decide) (in_of (lNA (hk_N hK 38 rfl rfl)) (show ¬ ((1 : Int32) < 0 ∨ 140 ≤ (1 : Int32).toNatClampNeg) by decide)) (wI_ap2 (by decide)) dX1_add_41 ?_
  refine z_aload_n B dX1_add_42 rfl 0 rfl ?_
  refine gf_X1_15 (x := (some (b + 39))) B (lKA (hk_K hK 37 rfl rfl)) (rR_at 37 1 hR_37_1) dX1_add_43 ?_
  refine z_aload_n B dX1_add_46 rfl 0 rfl ?_
  refine gf_X1_19 (x := 1) B (lKA (hk_K hK 37 rfl rfl)) (rI_at 37 2 hI_37_2) dX1_add_47 ?_
  refine z_lload_n B dX1_add_50 rfl 2 rfl ?_
  refine z_last (j := 1) (σ' := (ap b σ [(38, 1, 13)] [(39, 1, w1)] [])) B (lKA (hk_K hK 39 rfl rfl)) (by decide) (in_of (lNA (hk_N hK 39 rfl rfl)) (show ¬ ((1 : Int32) < 0 ∨ 140 ≤ (1 : Int32).toNatClampNeg) by decide)) wJ_ap dX1_add_51 ?_
  refine z_aload_n B dX1_add_52 rfl 0 rfl ?_
  refine z_dup B dX1_add_53 rfl ?_
  refine gf_X1_19 (x := 1) B (lKA (hk_K hK 37 rfl rfl)) (rI_at 37 2 hI_37_2) dX1_add_54 ?_
  refine z_iconst (v := 1) B dX1_add_57 (by decide) ?_
  refine z_iadd B dX1_add_58 ?_
  refine z_seti (y := 2) (by decide) ?_
  refine pf_X1_19 (x := 2) (σ' := (ap b σ [(37, 2, 2), (38, 1, 13)] [(39, 1, w1)] [])) B (lKA (hk_K hK 37 rfl rfl)) wI_ap dX1_add_59 ?_
  exact z_vret B hr (by decide) (by decide) dX1_add_62 rfl
set_option maxRecDepth 100000 in
set_option maxHeartbeats 4000000 in
theorem ci_X8_flowAt_682 (l : Launch) {g : gx_T} {σ : sx_T} {b : Nat} (hK : lay b σ)    : Met l yX8_flowAt (.code yX8_flowAt cX8_flowAt 3 (some (.object "Loomkeeper$Flow")) :: lw_g) { frames := 0, cells := 0, slots := 0, locals := 0 } (va_Pc [.ref (b + 0), .int (-1)] (zx_w g σ)) (va_Qq (fun r u => r = none ∧ u = σ) (zx_w g) (gx_Q g)) 0 0 (gx_Q g) := by
  refine z_met (by decide) (Nat.le_of_ble_eq_true rfl) (fun p e s m below meth c B hr hin => ?_)
  refine z_eqs (σ' := (ap b σ [] [] [])) rfl ?_
  show zx p l e _ s m _ below meth c g 3 0 0 _ _ 0 [(0, .ref (b + 0)), (1, .int (-1))] []
  refine z_iload_n B dX8_flowAt_0 rfl 1 rfl ?_
  refine z_if_lt (tgt := 25) B dX8_flowAt_1 (by decide) (fun _ => ?_) (fun h => absurd (by decide) h)
  refine z_iconst (v := 0) B dX8_flowAt_25 (by decide) ?_
  refine z_istore_n (lv' := [(2, .int 0), (0, .ref (b + 0)), (1, .int (-1))]) B dX8_flowAt_26 rfl (by decide) rfl ?_
  refine z_iload_n B dX8_flowAt_27 rfl 0 rfl ?_
  refine z_if_eq (tgt := 40) B dX8_flowAt_28 (by decide) (fun _ => ?_) (fun h => absurd (by decide) h)
  refine z_null B dX8_flowAt_40 ?_
  exact z_qret (r := none) B hr (by decide) (by decide) dX8_flowAt_41 ⟨rfl, rfl⟩
set_option maxRecDepth 100000 in
set_option maxHeartbeats 4000000 in
theorem ci_X8_tellParent_683 (l : Launch) {g : gx_T} {σ : sx_T} {b : Nat} (hK : lay b σ) (w1 : Int64)  (hI_40_4 : sx_I σ (b + 40) 4 = (-1)) : Met l yX8_tellParent (.code yX8_tellParent cX8_tellParent 5 none :: lw_g) { frames := 1, cells := 0, slots := 0, locals := 22 } (va_Pc [.ref (b + 0), .ref (b + 40), .long w1] (zx_w g σ)) (va_Qv (fun u => u = σ) (zx_w g) (gx_Q g)) 0 0 (gx_Q g) := by
  refine z_met (by decide) (Nat.le_of_ble_eq_true rfl) (fun p e s m below meth c B hr hin => ?_)
  refine z_eqs (σ' := (ap b σ [] [] [])) rfl ?_
  show zx p l e _ s m _ below meth c g 5 0 0 _ _ 0 [(0, .ref (b + 0)), (1, .ref (b + 40)), (2, .long w1)] []
  refine z_aload_n B dX8_tellParent_0 rfl 0 rfl ?_
  refine z_aload_n B dX8_tellParent_1 rfl 1 rfl ?_
  refine gf_X8_259 (x := (-1)) B (lKA (hk_K hK 40 rfl rfl)) (rI_at 40 4 hI_40_4) dX8_tellParent_2 ?_
  refine z_cVq (As := [.int (-1)]) (rest := []) B cw_X8_99 cx_9 dX8_tellParent_5 (ci_X8_flowAt_682 l (σ := (ap b σ [] [] [])) (b := b) (lyA hK) ) (lKA (hk_K hK 0 rfl rfl)) rfl (by decide) rfl (Nat.le_of_ble_eq_true rfl) (by decide) (fun r u hu => ?_)
  refine z_eqs (σ' := (ap b σ [] [] [])) hu.2 ?_
  show zx p l e _ s m _ below meth c g 5 0 0 _ _ 8 [(0, .ref (b + 0)), (1, .ref (b + 40)), (2, .long w1)] _
  refine z_setr (y := none) hu.1 ?_
  refine z_qstore (r := none) (lv' := [(4, .null), (0, .ref (b + 0)), (1, .ref (b + 40)), (2, .long w1)]) B dX8_tellParent_8 (by decide) rfl ?_
  refine z_qload (r := none) B dX8_tellParent_10 0 rfl ?_
  refine z_ifnull (r := none) (tgt := 58) B dX8_tellParent_12 (by decide) (fun _ => ?_) (fun a h => nomatch h)
  exact z_vret B hr (by decide) (by decide) dX8_tellParent_58 rfl
set_option maxRecDepth 100000 in
set_option maxHeartbeats 4000000 in
theorem ci_X8_make_684 (l : Launch) {g : gx_T} {σ : sx_T} {b : Nat} (hK : lay b σ) (w1 : Int64)  (hI_37_2 : sx_I σ (b + 37) 2 = 1) (hI_40_4 : sx_I σ (b + 40) 4 = (-1)) (hI_41_16 : sx_I σ (b + 41) 16 = 13) (hJ_41_17 : sx_J σ (b + 41) 17 = w1) (hR_37_0 : sx_R σ (b + 37) 0 = (some (b + 38))) (hR_37_1 : sx_R σ (b + 37) 1 = (some (b + 39))) (hR_40_1 : sx_R σ (b + 40) 1 = (some (b + 37))) (hR_40_2 : sx_R σ (b + 40) 2 = (some (b + 41))) : Met l yX8_make (.code yX8_make cX8_make 6 (some (.object "Loomkeeper$Flow")) :: lw_g) { frames := 2, cells := 0, slots := 0, locals := 46 } (va_Pc [.ref (b + 0), .ref (b + 40)] (zx_w g σ)) (va_Qq (fun r u => r = none ∧ u = (ap b σ [(37, 2, 2), (38, 1, 13)] [(39, 1, w1)] [])) (zx_w g) (gx_Q g)) 0 0 (gx_Q g) := by
  refine z_met (by decide) (Nat.le_of_ble_eq_true rfl) (fun p e s m below meth c B hr hin => ?_)
  refine z_eqs (σ' := (ap b σ [] [] [])) rfl ?_
  show zx p l e _ s m _ below meth c g 6 0 0 _ _ 0 [(0, .ref (b + 0)), (1, .ref (b + 40))] []
  refine z_aload_n B dX8_make_0 rfl 1 rfl ?_
  refine gf_X8_249 (x := (some (b + 41))) B (lKA (hk_K hK 40 rfl rfl)) (rR_at 40 2 hR_40_2) dX8_make_1 ?_
  refine gf_X8_364 (x := 13) B (lKA (hk_K hK 41 rfl rfl)) (rI_at 41 16 hI_41_16) dX8_make_4 ?_
  refine z_istore_n (lv' := [(2, .int 13), (0, .ref (b + 0)), (1, .ref (b + 40))]) B dX8_make_7 rfl (by decide) rfl ?_
  refine z_aload_n B dX8_make_8 rfl 2 rfl ?_
  refine gf_X8_249 (x := (some (b + 41))) B (lKA (hk_K hK 40 rfl rfl)) (rR_at 40 2 hR_40_2) dX8_make_9 ?_
  refine gf_X8_367 (x := w1) B (lKA (hk_K hK 41 rfl rfl)) (rJ_at 41 17 hJ_41_17) dX8_make_12 ?_
  refine z_lstore_n (lv' := [(3, .long w1), (2, .int 13), (0, .ref (b + 0)), (1, .ref (b + 40))]) B dX8_make_15 rfl (by decide) rfl ?_
  refine z_null B dX8_make_16 ?_
  refine z_qstore (r := none) (lv' := [(5, .null), (3, .long w1), (2, .int 13), (0, .ref (b + 0)), (1, .ref (b + 40))]) B dX8_make_17 (by decide) rfl ?_
  refine z_iload_n B dX8_make_19 rfl 2 rfl ?_
  refine z_bipush (v := 7) B dX8_make_20 (by decide) ?_
  refine z_icmp_eq (tgt := 31) B dX8_make_22 (by decide) (fun h => absurd h (by decide)) (fun _ => ?_)
  refine z_iload_n B dX8_make_25 rfl 2 rfl ?_
  refine z_bipush (v := 14) B dX8_make_26 (by decide) ?_
  refine z_icmp_ne (tgt := 62) B dX8_make_28 (by decide) (fun _ => ?_) (fun h => absurd h (by decide))
  refine z_iload_n B dX8_make_62 rfl 2 rfl ?_
  refine z_iconst (v := 1) B dX8_make_63 (by decide) ?_
  refine z_icmp_eq (tgt := 73) B dX8_make_64 (by decide) (fun h => absurd h (by decide)) (fun _ => ?_)
  refine z_iload_n B dX8_make_67 rfl 2 rfl ?_
  refine z_bipush (v := 11) B dX8_make_68 (by decide) ?_
  refine z_icmp_ne (tgt := 83) B dX8_make_70 (by decide) (fun _ => ?_) (fun h => absurd h (by decide))
  refine z_iload_n B dX8_make_83 rfl 2 rfl ?_
  refine z_iconst (v := 4) B dX8_make_84 (by decide) ?_
  refine z_icmp_ne (tgt := 99) B dX8_make_85 (by decide) (fun _ => ?_) (fun h => absurd h (by decide))
  refine z_iload_n B dX8_make_99 rfl 2 rfl ?_
  refine z_bipush (v := 9) B dX8_make_100 (by decide) ?_
  refine z_icmp_ne (tgt := 113) B dX8_make_102 (by decide) (fun _ => ?_) (fun h => absurd h (by decide))
  refine z_aload_n B dX8_make_113 rfl 4 rfl ?_
  refine gf_X8_179 (x := (some (b + 37))) B (lKA (hk_K hK 40 rfl rfl)) (rR_at 40 1 hR_40_1) dX8_make_114 ?_
  refine z_iload_n B dX8_make_117 rfl 2 rfl ?_
  refine z_lload_n B dX8_make_118 rfl 1 rfl ?_
  refine z_cVv (As := [.int 13, .long w1]) (rest := []) B cw_X8_333 cx_2 dX8_make_119 (ci_X1_add_681 l (σ := (ap b σ [] [] [])) (b := b) (lyA hK) w1 (rI_at 37 2 hI_37_2) (rR_at 37 0 hR_37_0) (rR_at 37 1 hR_37_1)) (lKA (hk_K hK 37 rfl rfl)) rfl (by decide) rfl (Nat.le_of_ble_eq_true rfl) (by decide) (fun u hu => ?_)
  refine z_eqs (σ' := (ap b σ [(37, 2, 2), (38, 1, 13)] [(39, 1, w1)] [])) (hu.trans ap_ap) ?_
  show zx p l e _ s m _ below meth c g 6 0 0 _ _ 122 [(5, .null), (3, .long w1), (2, .int 13), (0, .ref (b + 0)), (1, .ref (b + 40))] _
  refine z_iload_n B dX8_make_122 rfl 2 rfl ?_
  refine z_bipush (v := 13) B dX8_make_123 (by decide) ?_
  refine z_icmp_ne (tgt := 134) B dX8_make_125 (by decide) (fun h => absurd (by decide) h) (fun _ => ?_)
  refine z_aload_n B dX8_make_128 rfl 3 rfl ?_
  refine z_aload_n B dX8_make_129 rfl 4 rfl ?_
  refine z_lload_n B dX8_make_130 rfl 1 rfl ?_
  refine z_cVv (As := [.ref (b + 40), .long w1]) (rest := []) B cw_X8_384 cx_9 dX8_make_131 (ci_X8_tellParent_683 l (σ := (ap b σ [(37, 2, 2), (38, 1, 13)] [(39, 1, w1)] [])) (b := b) (lyA hK) w1 (rI_at 40 4 hI_40_4)) (lKA (hk_K hK 0 rfl rfl)) rfl (by decide) rfl (Nat.le_of_ble_eq_true rfl) (by decide) (fun u hu => ?_)
  refine z_eqs (σ' := (ap b σ [(37, 2, 2), (38, 1, 13)] [(39, 1, w1)] [])) hu ?_
  show zx p l e _ s m _ below meth c g 6 0 0 _ _ 134 [(5, .null), (3, .long w1), (2, .int 13), (0, .ref (b + 0)), (1, .ref (b + 40))] _
  refine z_qload (r := none) B dX8_make_134 0 rfl ?_
  exact z_qret (r := none) B hr (by decide) (by decide) dX8_make_136 ⟨rfl, rfl⟩
set_option maxRecDepth 100000 in
set_option maxHeartbeats 4000000 in
theorem ci_X1_size_685 (l : Launch) {g : gx_T} {σ : sx_T} {b : Nat} (hK : lay b σ)   (hI_37_2 : sx_I σ (b + 37) 2 = 2) : Met l yX1_size (.code yX1_size cX1_size 1 (some .int) :: lw_g) { frames := 0, cells := 0, slots := 0, locals := 0 } (va_Pc [.ref (b + 37)] (zx_w g σ)) (va_Qi (fun r u => r = 2 ∧ u = σ) (zx_w g) (gx_Q g)) 0 0 (gx_Q g) := by
  refine z_met (by decide) (Nat.le_of_ble_eq_true rfl) (fun p e s m below meth c B hr hin => ?_)
  refine z_eqs (σ' := (ap b σ [] [] [])) rfl ?_
  show zx p l e _ s m _ below meth c g 1 0 0 _ _ 0 [(0, .ref (b + 37))] []
  refine z_aload_n B dX1_size_0 rfl 0 rfl ?_
  refine gf_X1_19 (x := 2) B (lKA (hk_K hK 37 rfl rfl)) (rI_at 37 2 hI_37_2) dX1_size_1 ?_
  exact z_iret B hr (by decide) (by decide) dX1_size_4 ⟨rfl, rfl⟩
set_option maxRecDepth 100000 in
set_option maxHeartbeats 4000000 in
theorem ci_X1_kindAt_686 (l : Launch) {g : gx_T} {σ : sx_T} {b : Nat} (hK : lay b σ)   (hI_37_2 : sx_I σ (b + 37) 2 = 2) (hI_38_1 : sx_I σ (b + 38) 1 = 13) (hR_37_0 : sx_R σ (b + 37) 0 = (some (b + 38))) : Met l yX1_kindAt (.code yX1_kindAt cX1_kindAt 2 (some .int) :: lw_g) { frames := 0, cells := 0, slots := 0, locals := 0 } (va_Pc [.ref (b + 37), .int 1] (zx_w g σ)) (va_Qi (fun r u => r = 13 ∧ u = σ) (zx_w g) (gx_Q g)) 0 0 (gx_Q g) := by
  refine z_met (by decide) (Nat.le_of_ble_eq_true rfl) (fun p e s m below meth c B hr hin => ?_)
  refine z_eqs (σ' := (ap b σ [] [] [])) rfl ?_
  show zx p l e _ s m _ below meth c g 2 0 0 _ _ 0 [(0, .ref (b + 37)), (1, .int 1)] []
  refine z_iload_n B dX1_kindAt_0 rfl 1 rfl ?_
  refine z_if_lt (tgt := 30) B dX1_kindAt_1 (by decide) (fun h => absurd h (by decide)) (fun _ => ?_)
  refine z_iload_n B dX1_kindAt_4 rfl 1 rfl ?_
  refine z_aload_n B dX1_kindAt_5 rfl 0 rfl ?_
  refine gf_X1_19 (x := 2) B (lKA (hk_K hK 37 rfl rfl)) (rI_at 37 2 hI_37_2) dX1_kindAt_6 ?_
  refine z_icmp_ge (tgt := 30) B dX1_kindAt_9 (by decide) (fun h => absurd h (by decide)) (fun _ => ?_)
  refine z_iload_n B dX1_kindAt_12 rfl 1 rfl ?_
  refine z_aload_n B dX1_kindAt_13 rfl 0 rfl ?_
  refine gf_X1_9 (x := (some (b + 38))) B (lKA (hk_K hK 37 rfl rfl)) (rR_at 37 0 hR_37_0) dX1_kindAt_14 ?_
  refine z_alen (kd := 12) (ti := 0) (v := 140) B (lKA (hk_K hK 38 rfl rfl)) (by decide) rfl (congrArg Int32.ofNat (lNA (hk_N hK 38 rfl rfl))) dX1_kindAt_17 ?_
  refine z_icmp_ge (tgt := 30) B dX1_kindAt_18 (by decide) (fun h => absurd h (by decide)) (fun _ => ?_)
  refine z_aload_n B dX1_kindAt_21 rfl 0 rfl ?_
  refine gf_X1_9 (x := (some (b + 38))) B (lKA (hk_K hK 37 rfl rfl)) (rR_at 37 0 hR_37_0) dX1_kindAt_22 ?_
  refine z_iload_n B dX1_kindAt_25 rfl 1 rfl ?_
  refine z_bald (j := 1) (x := 13) B (lKA (hk_K hK 38 rfl rfl)) (by decide) (in_of (lNA (hk_N hK 38 rfl rfl)) (show ¬ ((1 : Int32) < 0 ∨ 140 ≤ (1 : Int32).toNatClampNeg) by decide)) (rI_at 38 1 hI_38_1) dX1_kindAt_26 ?_
  refine z_goto (tgt := 31) B dX1_kindAt_27 (by decide) ?_
  exact z_iret B hr (by decide) (by decide) dX1_kindAt_31 ⟨rfl, rfl⟩
set_option maxRecDepth 100000 in
set_option maxHeartbeats 4000000 in
theorem ci_X1_numberAt_687 (l : Launch) {g : gx_T} {σ : sx_T} {b : Nat} (hK : lay b σ) (w1 : Int64)  (hI_37_2 : sx_I σ (b + 37) 2 = 2) (hJ_39_1 : sx_J σ (b + 39) 1 = w1) (hR_37_1 : sx_R σ (b + 37) 1 = (some (b + 39))) : Met l yX1_numberAt (.code yX1_numberAt cX1_numberAt 2 (some .long) :: lw_g) { frames := 0, cells := 0, slots := 0, locals := 0 } (va_Pc [.ref (b + 37), .int 1] (zx_w g σ)) (va_Ql (fun r u => r = w1 ∧ u = σ) (zx_w g) (gx_Q g)) 0 0 (gx_Q g) := by
  refine z_met (by decide) (Nat.le_of_ble_eq_true rfl) (fun p e s m below meth c B hr hin => ?_)
  refine z_eqs (σ' := (ap b σ [] [] [])) rfl ?_
  show zx p l e _ s m _ below meth c g 2 0 0 _ _ 0 [(0, .ref (b + 37)), (1, .int 1)] []
  refine z_iload_n B dX1_numberAt_0 rfl 1 rfl ?_
  refine z_if_lt (tgt := 30) B dX1_numberAt_1 (by decide) (fun h => absurd h (by decide)) (fun _ => ?_)
  refine z_iload_n B dX1_numberAt_4 rfl 1 rfl ?_
  refine z_aload_n B dX1_numberAt_5 rfl 0 rfl ?_
  refine gf_X1_19 (x := 2) B (lKA (hk_K hK 37 rfl rfl)) (rI_at 37 2 hI_37_2) dX1_numberAt_6 ?_
  refine z_icmp_ge (tgt := 30) B dX1_numberAt_9 (by decide) (fun h => absurd h (by decide)) (fun _ => ?_)
  refine z_iload_n B dX1_numberAt_12 rfl 1 rfl ?_
  refine z_aload_n B dX1_numberAt_13 rfl 0 rfl ?_
  refine gf_X1_15 (x := (some (b + 39))) B (lKA (hk_K hK 37 rfl rfl)) (rR_at 37 1 hR_37_1) dX1_numberAt_14 ?_
  refine z_alen (kd := 14) (ti := 2) (v := 140) B (lKA (hk_K hK 39 rfl rfl)) (by decide) rfl (congrArg Int32.ofNat (lNA (hk_N hK 39 rfl rfl))) dX1_numberAt_17 ?_
  refine z_icmp_ge (tgt := 30) B dX1_numberAt_18 (by decide) (fun h => absurd h (by decide)) (fun _ => ?_)
  refine z_aload_n B dX1_numberAt_21 rfl 0 rfl ?_
  refine gf_X1_15 (x := (some (b + 39))) B (lKA (hk_K hK 37 rfl rfl)) (rR_at 37 1 hR_37_1) dX1_numberAt_22 ?_
  refine z_iload_n B dX1_numberAt_25 rfl 1 rfl ?_
  refine z_lald (j := 1) (x := w1) B (lKA (hk_K hK 39 rfl rfl)) (by decide) (in_of (lNA (hk_N hK 39 rfl rfl)) (show ¬ ((1 : Int32) < 0 ∨ 140 ≤ (1 : Int32).toNatClampNeg) by decide)) (rJ_at 39 1 hJ_39_1) dX1_numberAt_26 ?_
  refine z_goto (tgt := 31) B dX1_numberAt_27 (by decide) ?_
  exact z_lret B hr (by decide) (by decide) dX1_numberAt_31 ⟨rfl, rfl⟩
set_option maxRecDepth 100000 in
set_option maxHeartbeats 4000000 in
theorem ci_X5_follow_688 (l : Launch) {g : gx_T} {σ : sx_T} {b : Nat} (hK : lay b σ) (w1 : Int64)   : Met l yX5_follow (.code yX5_follow cX5_follow 4 none :: lw_g) { frames := 0, cells := 0, slots := 0, locals := 0 } (va_Pc [.ref (b + 41), .int 13, .long w1] (zx_w g σ)) (va_Qv (fun u => u = (ap b σ [(41, 15, 1)] [] [])) (zx_w g) (gx_Q g)) 0 0 (gx_Q g) := by
  refine z_met (by decide) (Nat.le_of_ble_eq_true rfl) (fun p e s m below meth c B hr hin => ?_)
  refine z_eqs (σ' := (ap b σ [] [] [])) rfl ?_
  show zx p l e _ s m _ below meth c g 4 0 0 _ _ 0 [(0, .ref (b + 41)), (1, .int 13), (2, .long w1)] []
  refine z_iload_n B dX5_follow_0 rfl 1 rfl ?_
  refine z_tableIn (tgt := 187) B dX5_follow_1 (by decide) (by decide) (show _ = some (186 : Int) by decide) (by decide) ?_
  refine z_aload_n B dX5_follow_187 rfl 0 rfl ?_
  refine z_iconst (v := 1) B dX5_follow_188 (by decide) ?_
  refine pf_X5_79 (x := 1) (σ' := (ap b σ [(41, 15, 1)] [] [])) B (by decide) (lKA (hk_K hK 41 rfl rfl)) wI_ap dX5_follow_189 ?_
  exact z_vret B hr (by decide) (by decide) dX5_follow_192 rfl
set_option maxRecDepth 100000 in
set_option maxHeartbeats 4000000 in
theorem ci_X5_takeWanted_689 (l : Launch) {g : gx_T} {σ : sx_T} {b : Nat} (hK : lay b σ) (w1 : Int64) (q1_w1 : (-9989 : Int) ≤ w1.toInt) (q2_w1 : w1.toInt ≤ (-9 : Int)) (hI_37_2 : sx_I σ (b + 37) 2 = 2) (hI_38_1 : sx_I σ (b + 38) 1 = 13) (hI_41_4 : sx_I σ (b + 41) 4 = 1) (hI_41_16 : sx_I σ (b + 41) 16 = 13) (hJ_39_1 : sx_J σ (b + 39) 1 = w1) (hJ_41_17 : sx_J σ (b + 41) 17 = w1) (hR_37_0 : sx_R σ (b + 37) 0 = (some (b + 38))) (hR_37_1 : sx_R σ (b + 37) 1 = (some (b + 39))) (hR_41_3 : sx_R σ (b + 41) 3 = (some (b + 37))) : Met l yX5_takeWanted (.code yX5_takeWanted cX5_takeWanted 6 none :: lw_g) { frames := 1, cells := 0, slots := 0, locals := 23 } (va_Pc [.ref (b + 41), .int 1] (zx_w g σ)) (va_Qv (fun u => u = (ap b σ [(41, 15, 1), (41, 4, 2), (41, 16, (-1))] [] [])) (zx_w g) (gx_Q g)) 0 0 (gx_Q g) := by
  refine z_met (by decide) (Nat.le_of_ble_eq_true rfl) (fun p e s m below meth c B hr hin => ?_)
  refine z_eqs (σ' := (ap b σ [] [] [])) rfl ?_
  show zx p l e _ s m _ below meth c g 6 0 0 _ _ 0 [(0, .ref (b + 41)), (1, .int 1)] []
  refine z_iload_n B dX5_takeWanted_0 rfl 1 rfl ?_
  refine z_if_ne (tgt := 5) B dX5_takeWanted_1 (by decide) (fun _ => ?_) (fun h => absurd h (by decide))
  refine z_aload_n B dX5_takeWanted_5 rfl 0 rfl ?_
  refine gf_X5_29 (x := (some (b + 37))) B (lKA (hk_K hK 41 rfl rfl)) (rR_at 41 3 hR_41_3) dX5_takeWanted_6 ?_
  refine z_aload_n B dX5_takeWanted_9 rfl 0 rfl ?_
  refine gf_X5_38 (x := 1) B (lKA (hk_K hK 41 rfl rfl)) (rI_at 41 4 hI_41_4) dX5_takeWanted_10 ?_
  refine z_cVi (As := [.int 1]) (rest := []) B cw_X5_118 cx_2 dX5_takeWanted_13 (ci_X1_kindAt_686 l (σ := (ap b σ [] [] [])) (b := b) (lyA hK) (rI_at 37 2 hI_37_2) (rI_at 38 1 hI_38_1) (rR_at 37 0 hR_37_0)) (lKA (hk_K hK 37 rfl rfl)) rfl (by decide) rfl (Nat.le_of_ble_eq_true rfl) (by decide) (fun r u hu => ?_)
  refine z_eqs (σ' := (ap b σ [] [] [])) hu.2 ?_
  show zx p l e _ s m _ below meth c g 6 0 0 _ _ 16 [(0, .ref (b + 41)), (1, .int 1)] _
  refine z_seti (y := 13) hu.1 ?_
  refine z_istore_n (lv' := [(2, .int 13), (0, .ref (b + 41)), (1, .int 1)]) B dX5_takeWanted_16 rfl (by decide) rfl ?_
  refine z_aload_n B dX5_takeWanted_17 rfl 1 rfl ?_
  refine gf_X5_29 (x := (some (b + 37))) B (lKA (hk_K hK 41 rfl rfl)) (rR_at 41 3 hR_41_3) dX5_takeWanted_18 ?_
  refine z_aload_n B dX5_takeWanted_21 rfl 1 rfl ?_
  refine gf_X5_38 (x := 1) B (lKA (hk_K hK 41 rfl rfl)) (rI_at 41 4 hI_41_4) dX5_takeWanted_22 ?_
  refine z_cVl (As := [.int 1]) (rest := []) B cw_X5_44 cx_2 dX5_takeWanted_25 (ci_X1_numberAt_687 l (σ := (ap b σ [] [] [])) (b := b) (lyA hK) w1 (rI_at 37 2 hI_37_2) (rJ_at 39 1 hJ_39_1) (rR_at 37 1 hR_37_1)) (lKA (hk_K hK 37 rfl rfl)) rfl (by decide) rfl (Nat.le_of_ble_eq_true rfl) (by decide) (fun r u hu => ?_)
  refine z_eqs (σ' := (ap b σ [] [] [])) hu.2 ?_
  show zx p l e _ s m _ below meth c g 6 0 0 _ _ 28 [(2, .int 13), (0, .ref (b + 41)), (1, .int 1)] _
  refine z_setl (y := w1) hu.1 ?_
  refine z_lstore_n (lv' := [(3, .long w1), (2, .int 13), (0, .ref (b + 41)), (1, .int 1)]) B dX5_takeWanted_28 rfl (by decide) rfl ?_
  refine z_iload_n B dX5_takeWanted_29 rfl 1 rfl ?_
  refine z_iconst (v := 4) B dX5_takeWanted_30 (by decide) ?_
  refine z_icmp_eq (tgt := 52) B dX5_takeWanted_31 (by decide) (fun h => absurd h (by decide)) (fun _ => ?_)
  refine z_iload_n B dX5_takeWanted_34 rfl 1 rfl ?_
  refine z_bipush (v := 7) B dX5_takeWanted_35 (by decide) ?_
  refine z_icmp_eq (tgt := 52) B dX5_takeWanted_37 (by decide) (fun h => absurd h (by decide)) (fun _ => ?_)
  refine z_iload_n B dX5_takeWanted_40 rfl 1 rfl ?_
  refine z_bipush (v := 9) B dX5_takeWanted_41 (by decide) ?_
  refine z_icmp_eq (tgt := 52) B dX5_takeWanted_43 (by decide) (fun h => absurd h (by decide)) (fun _ => ?_)
  refine z_iload_n B dX5_takeWanted_46 rfl 1 rfl ?_
  refine z_bipush (v := 14) B dX5_takeWanted_47 (by decide) ?_
  refine z_icmp_ne (tgt := 56) B dX5_takeWanted_49 (by decide) (fun _ => ?_) (fun h => absurd h (by decide))
  refine z_iconst (v := 0) B dX5_takeWanted_56 (by decide) ?_
  refine z_istore (lv' := [(5, .int 0), (3, .long w1), (2, .int 13), (0, .ref (b + 41)), (1, .int 1)]) B dX5_takeWanted_57 (by decide) rfl ?_
  refine z_iload_n B dX5_takeWanted_59 rfl 2 rfl ?_
  refine z_aload_n B dX5_takeWanted_60 rfl 3 rfl ?_
  refine gf_X5_82 (x := 13) B (lKA (hk_K hK 41 rfl rfl)) (rI_at 41 16 hI_41_16) dX5_takeWanted_61 ?_
  refine z_icmp_ne (tgt := 130) B dX5_takeWanted_64 (by decide) (fun h => absurd (by decide) h) (fun _ => ?_)
  refine z_iload B dX5_takeWanted_67 0 rfl ?_
  refine z_if_ne (tgt := 81) B dX5_takeWanted_69 (by decide) (fun h => absurd (by decide) h) (fun _ => ?_)
  refine z_lload_n B dX5_takeWanted_72 rfl 1 rfl ?_
  refine z_aload_n B dX5_takeWanted_73 rfl 3 rfl ?_
  refine gf_X5_85 (x := w1) B (lKA (hk_K hK 41 rfl rfl)) (rJ_at 41 17 hJ_41_17) dX5_takeWanted_74 ?_
  refine z_lcmp (v := 0) B dX5_takeWanted_77 lgc_self ?_
  refine z_if_ne (tgt := 130) B dX5_takeWanted_78 (by decide) (fun h => absurd (by decide) h) (fun _ => ?_)
  refine z_aload_n B dX5_takeWanted_81 rfl 3 rfl ?_
  refine z_iconst (v := (-1)) B dX5_takeWanted_82 (by decide) ?_
  refine pf_X5_82 (x := (-1)) (σ' := (ap b σ [(41, 16, (-1))] [] [])) B (lKA (hk_K hK 41 rfl rfl)) wI_ap dX5_takeWanted_83 ?_
  refine z_aload_n B dX5_takeWanted_86 rfl 3 rfl ?_
  refine z_dup B dX5_takeWanted_87 rfl ?_
  refine gf_X5_38 (x := 1) B (lKA (hk_K hK 41 rfl rfl)) (rI_at 41 4 hI_41_4) dX5_takeWanted_88 ?_
  refine z_iconst (v := 1) B dX5_takeWanted_91 (by decide) ?_
  refine z_iadd B dX5_takeWanted_92 ?_
  refine z_seti (y := 2) (by decide) ?_
  refine pf_X5_38 (x := 2) (σ' := (ap b σ [(41, 4, 2), (41, 16, (-1))] [] [])) B (lKA (hk_K hK 41 rfl rfl)) wI_ap dX5_takeWanted_93 ?_
  refine z_lload_n B dX5_takeWanted_96 rfl 1 rfl ?_
  refine z_lconst (v := 0) B dX5_takeWanted_97 (by decide) ?_
  refine z_lcmp (v := (-1)) B dX5_takeWanted_98 (lgc_lt q2_w1 (by decide)) ?_
  refine z_if_ge (tgt := 121) B dX5_takeWanted_99 (by decide) (fun h => absurd h (by decide)) (fun _ => ?_)
  refine z_iload_n B dX5_takeWanted_102 rfl 2 rfl ?_
  refine z_bipush (v := 7) B dX5_takeWanted_103 (by decide) ?_
  refine z_icmp_eq (tgt := 114) B dX5_takeWanted_105 (by decide) (fun h => absurd h (by decide)) (fun _ => ?_)
  refine z_iload_n B dX5_takeWanted_108 rfl 2 rfl ?_
  refine z_bipush (v := 14) B dX5_takeWanted_109 (by decide) ?_
  refine z_icmp_ne (tgt := 121) B dX5_takeWanted_111 (by decide) (fun _ => ?_) (fun h => absurd h (by decide))
  refine z_aload_n B dX5_takeWanted_121 rfl 3 rfl ?_
  refine z_iload_n B dX5_takeWanted_122 rfl 2 rfl ?_
  refine z_lload_n B dX5_takeWanted_123 rfl 1 rfl ?_
  refine z_cVv (As := [.int 13, .long w1]) (rest := []) B cw_X5_125 cx_6 dX5_takeWanted_124 (ci_X5_follow_688 l (σ := (ap b σ [(41, 4, 2), (41, 16, (-1))] [] [])) (b := b) (lyA hK) w1) (lKA (hk_K hK 41 rfl rfl)) rfl (by decide) rfl (Nat.le_of_ble_eq_true rfl) (by decide) (fun u hu => ?_)
  refine z_eqs (σ' := (ap b σ [(41, 15, 1), (41, 4, 2), (41, 16, (-1))] [] [])) (hu.trans ap_ap) ?_
  show zx p l e _ s m _ below meth c g 6 0 0 _ _ 127 [(5, .int 0), (3, .long w1), (2, .int 13), (0, .ref (b + 41)), (1, .int 1)] _
  refine z_goto (tgt := 157) B dX5_takeWanted_127 (by decide) ?_
  exact z_vret B hr (by decide) (by decide) dX5_takeWanted_157 rfl
set_option maxRecDepth 100000 in
set_option maxHeartbeats 4000000 in
theorem ci_X5_advance_690 (l : Launch) {g : gx_T} {σ : sx_T} {b : Nat} (hK : lay b σ) (w1 : Int64) (q1_w1 : (-9989 : Int) ≤ w1.toInt) (q2_w1 : w1.toInt ≤ (-9 : Int)) (hI_37_2 : sx_I σ (b + 37) 2 = 2) (hI_38_1 : sx_I σ (b + 38) 1 = 13) (hI_41_4 : sx_I σ (b + 41) 4 = 1) (hI_41_16 : sx_I σ (b + 41) 16 = 13) (hI_41_19 : sx_I σ (b + 41) 19 = 0) (hJ_39_1 : sx_J σ (b + 39) 1 = w1) (hJ_41_17 : sx_J σ (b + 41) 17 = w1) (hR_37_0 : sx_R σ (b + 37) 0 = (some (b + 38))) (hR_37_1 : sx_R σ (b + 37) 1 = (some (b + 39))) (hR_41_3 : sx_R σ (b + 41) 3 = (some (b + 37))) : Met l yX5_advance (.code yX5_advance cX5_advance 5 none :: lw_g) { frames := 2, cells := 0, slots := 0, locals := 48 } (va_Pc [.ref (b + 41), .int 2] (zx_w g σ)) (va_Qv (fun u => u = (ap b σ [(41, 19, 0), (41, 15, 1), (41, 4, 2), (41, 16, (-1))] [] [])) (zx_w g) (gx_Q g)) 0 0 (gx_Q g) := by
  refine z_met (by decide) (Nat.le_of_ble_eq_true rfl) (fun p e s m below meth c B hr hin => ?_)
  refine z_eqs (σ' := (ap b σ [] [] [])) rfl ?_
  show zx p l e _ s m _ below meth c g 5 0 0 _ _ 0 [(0, .ref (b + 41)), (1, .int 2)] []
  refine z_iconst (v := 1) B dX5_advance_0 (by decide) ?_
  refine z_istore_n (lv' := [(2, .int 1), (0, .ref (b + 41)), (1, .int 2)]) B dX5_advance_1 rfl (by decide) rfl ?_
  refine z_iconst (v := 0) B dX5_advance_2 (by decide) ?_
  refine z_istore_n (lv' := [(3, .int 0), (2, .int 1), (0, .ref (b + 41)), (1, .int 2)]) B dX5_advance_3 rfl (by decide) rfl ?_
  refine z_iload_n B dX5_advance_4 rfl 0 rfl ?_
  refine z_ldc (v := 1000000) B dX5_advance_5 wg_355 ?_
  refine z_icmp_ge (tgt := 122) B dX5_advance_7 (by decide) (fun h => absurd h (by decide)) (fun _ => ?_)
  refine z_iload_n B dX5_advance_10 rfl 1 rfl ?_
  refine z_if_eq (tgt := 122) B dX5_advance_11 (by decide) (fun h => absurd h (by decide)) (fun _ => ?_)
  refine z_aload_n B dX5_advance_14 rfl 2 rfl ?_
  refine gf_X5_38 (x := 1) B (lKA (hk_K hK 41 rfl rfl)) (rI_at 41 4 hI_41_4) dX5_advance_15 ?_
  refine z_iload_n B dX5_advance_18 rfl 3 rfl ?_
  refine z_icmp_ge (tgt := 26) B dX5_advance_19 (by decide) (fun h => absurd h (by decide)) (fun _ => ?_)
  refine z_iconst (v := 1) B dX5_advance_22 (by decide) ?_
  refine z_goto (tgt := 27) B dX5_advance_23 (by decide) ?_
  refine z_istore (lv' := [(4, .int 1), (3, .int 0), (2, .int 1), (0, .ref (b + 41)), (1, .int 2)]) B dX5_advance_27 (by decide) rfl ?_
  refine z_aload_n B dX5_advance_29 rfl 3 rfl ?_
  refine gf_X5_91 (x := 0) B (lKA (hk_K hK 41 rfl rfl)) (rI_at 41 19 hI_41_19) dX5_advance_30 ?_
  refine z_if_eq (tgt := 41) B dX5_advance_33 (by decide) (fun _ => ?_) (fun h => absurd (by decide) h)
  refine z_aload_n B dX5_advance_41 rfl 3 rfl ?_
  refine gf_X5_82 (x := 13) B (lKA (hk_K hK 41 rfl rfl)) (rI_at 41 16 hI_41_16) dX5_advance_42 ?_
  refine z_iconst (v := (-1)) B dX5_advance_45 (by decide) ?_
  refine z_icmp_eq (tgt := 61) B dX5_advance_46 (by decide) (fun h => absurd h (by decide)) (fun _ => ?_)
  refine z_iload B dX5_advance_49 0 rfl ?_
  refine z_istore_n (lv' := [(2, .int 1), (4, .int 1), (3, .int 0), (0, .ref (b + 41)), (1, .int 2)]) B dX5_advance_51 rfl (by decide) rfl ?_
  refine z_aload_n B dX5_advance_52 rfl 3 rfl ?_
  refine z_iload B dX5_advance_53 1 rfl ?_
  refine z_cVv (As := [.int 1]) (rest := []) B cw_X5_95 cx_6 dX5_advance_55 (ci_X5_takeWanted_689 l (σ := (ap b σ [] [] [])) (b := b) (lyA hK) w1 q1_w1 q2_w1 (rI_at 37 2 hI_37_2) (rI_at 38 1 hI_38_1) (rI_at 41 4 hI_41_4) (rI_at 41 16 hI_41_16) (rJ_at 39 1 hJ_39_1) (rJ_at 41 17 hJ_41_17) (rR_at 37 0 hR_37_0) (rR_at 37 1 hR_37_1) (rR_at 41 3 hR_41_3)) (lKA (hk_K hK 41 rfl rfl)) rfl (by decide) rfl (Nat.le_of_ble_eq_true rfl) (by decide) (fun u hu => ?_)
  refine z_eqs (σ' := (ap b σ [(41, 15, 1), (41, 4, 2), (41, 16, (-1))] [] [])) (hu.trans ap_ap) ?_
  show zx p l e _ s m _ below meth c g 5 0 0 _ _ 58 [(2, .int 1), (4, .int 1), (3, .int 0), (0, .ref (b + 41)), (1, .int 2)] _
  refine z_goto (tgt := 116) B dX5_advance_58 (by decide) ?_
  refine z_iinc (v := 1) (lv' := [(3, .int 1), (2, .int 1), (4, .int 1), (0, .ref (b + 41)), (1, .int 2)]) B dX5_advance_116 2 rfl (by decide) (by decide) rfl ?_
  refine z_goto (tgt := 4) B dX5_advance_119 (by decide) ?_
  refine z_iload_n B dX5_advance_4 rfl 0 rfl ?_
  refine z_ldc (v := 1000000) B dX5_advance_5 wg_355 ?_
  refine z_icmp_ge (tgt := 122) B dX5_advance_7 (by decide) (fun h => absurd h (by decide)) (fun _ => ?_)
  refine z_iload_n B dX5_advance_10 rfl 1 rfl ?_
  refine z_if_eq (tgt := 122) B dX5_advance_11 (by decide) (fun h => absurd h (by decide)) (fun _ => ?_)
  refine z_aload_n B dX5_advance_14 rfl 3 rfl ?_
  refine gf_X5_38 (x := 2) B (lKA (hk_K hK 41 rfl rfl)) (rI_at 41 4 rfl) dX5_advance_15 ?_
  refine z_iload_n B dX5_advance_18 rfl 4 rfl ?_
  refine z_icmp_ge (tgt := 26) B dX5_advance_19 (by decide) (fun _ => ?_) (fun h => absurd (by decide) h)
  refine z_iconst (v := 0) B dX5_advance_26 (by decide) ?_
  refine z_istore (lv' := [(4, .int 0), (3, .int 1), (2, .int 1), (0, .ref (b + 41)), (1, .int 2)]) B dX5_advance_27 (by decide) rfl ?_
  refine z_aload_n B dX5_advance_29 rfl 3 rfl ?_
  refine gf_X5_91 (x := 0) B (lKA (hk_K hK 41 rfl rfl)) (rI_at 41 19 hI_41_19) dX5_advance_30 ?_
  refine z_if_eq (tgt := 41) B dX5_advance_33 (by decide) (fun _ => ?_) (fun h => absurd (by decide) h)
  refine z_aload_n B dX5_advance_41 rfl 3 rfl ?_
  refine gf_X5_82 (x := (-1)) B (lKA (hk_K hK 41 rfl rfl)) (rI_at 41 16 rfl) dX5_advance_42 ?_
  refine z_iconst (v := (-1)) B dX5_advance_45 (by decide) ?_
  refine z_icmp_eq (tgt := 61) B dX5_advance_46 (by decide) (fun _ => ?_) (fun h => absurd (by decide) h)
  refine z_aload_n B dX5_advance_61 rfl 3 rfl ?_
  refine gf_X5_79 (x := 1) B (lKA (hk_K hK 41 rfl rfl)) (rI_at 41 15 rfl) dX5_advance_62 ?_
  refine z_if_eq (tgt := 79) B dX5_advance_65 (by decide) (fun h => absurd h (by decide)) (fun _ => ?_)
  refine z_aload_n B dX5_advance_68 rfl 3 rfl ?_
  refine z_iload B dX5_advance_69 0 rfl ?_
  refine pf_X5_91 (x := 0) (σ' := (ap b σ [(41, 19, 0), (41, 15, 1), (41, 4, 2), (41, 16, (-1))] [] [])) B (by decide) (lKA (hk_K hK 41 rfl rfl)) wI_ap dX5_advance_71 ?_
  refine z_iconst (v := 0) B dX5_advance_74 (by decide) ?_
  refine z_istore_n (lv' := [(2, .int 0), (4, .int 0), (3, .int 1), (0, .ref (b + 41)), (1, .int 2)]) B dX5_advance_75 rfl (by decide) rfl ?_
  refine z_goto (tgt := 116) B dX5_advance_76 (by decide) ?_
  refine z_iinc (v := 2) (lv' := [(3, .int 2), (2, .int 0), (4, .int 0), (0, .ref (b + 41)), (1, .int 2)]) B dX5_advance_116 2 rfl (by decide) (by decide) rfl ?_
  refine z_goto (tgt := 4) B dX5_advance_119 (by decide) ?_
  refine z_iload_n B dX5_advance_4 rfl 0 rfl ?_
  refine z_ldc (v := 1000000) B dX5_advance_5 wg_355 ?_
  refine z_icmp_ge (tgt := 122) B dX5_advance_7 (by decide) (fun h => absurd h (by decide)) (fun _ => ?_)
  refine z_iload_n B dX5_advance_10 rfl 1 rfl ?_
  refine z_if_eq (tgt := 122) B dX5_advance_11 (by decide) (fun _ => ?_) (fun h => absurd (by decide) h)
  exact z_vret B hr (by decide) (by decide) dX5_advance_122 rfl
set_option maxRecDepth 100000 in
set_option maxHeartbeats 4000000 in
theorem ci_X2_addLast_691 (l : Launch) {g : gx_T} {σ : sx_T} {b : Nat} (hK : lay b σ)    : Met l yX2_addLast (.code yX2_addLast cX2_addLast 2 none :: lw_g) { frames := 0, cells := 0, slots := 0, locals := 0 } (va_Pc [.ref (b + 5), .null] (zx_w g σ)) (va_Qv (fun u => u = σ) (zx_w g) (gx_Q g)) 0 0 (gx_Q g) := by
  refine z_met (by decide) (Nat.le_of_ble_eq_true rfl) (fun p e s m below meth c B hr hin => ?_)
  refine z_eqs (σ' := (ap b σ [] [] [])) rfl ?_
  show zx p l e _ s m _ below meth c g 2 0 0 _ _ 0 [(0, .ref (b + 5)), (1, .null)] []
  refine z_qload_n (r := none) B dX2_addLast_0 rfl 1 rfl ?_
  refine z_ifnull (r := none) (tgt := 43) B dX2_addLast_1 (by decide) (fun _ => ?_) (fun a h => nomatch h)
  exact z_vret B hr (by decide) (by decide) dX2_addLast_43 rfl
set_option maxRecDepth 100000 in
set_option maxHeartbeats 4000000 in
theorem ci_X5_advance_692 (l : Launch) {g : gx_T} {σ : sx_T} {b : Nat} (hK : lay b σ)   (hI_41_4 : sx_I σ (b + 41) 4 = 2) (hI_41_15 : sx_I σ (b + 41) 15 = 1) (hI_41_16 : sx_I σ (b + 41) 16 = (-1)) (hI_41_19 : sx_I σ (b + 41) 19 = 0) : Met l yX5_advance (.code yX5_advance cX5_advance 5 none :: lw_g) { frames := 0, cells := 0, slots := 0, locals := 0 } (va_Pc [.ref (b + 41), .int 2] (zx_w g σ)) (va_Qv (fun u => u = (ap b σ [(41, 19, 0)] [] [])) (zx_w g) (gx_Q g)) 0 0 (gx_Q g) := by
  refine z_met (by decide) (Nat.le_of_ble_eq_true rfl) (fun p e s m below meth c B hr hin => ?_)
  refine z_eqs (σ' := (ap b σ [] [] [])) rfl ?_
  show zx p l e _ s m _ below meth c g 5 0 0 _ _ 0 [(0, .ref (b + 41)), (1, .int 2)] []
  refine z_iconst (v := 1) B dX5_advance_0 (by decide) ?_
  refine z_istore_n (lv' := [(2, .int 1), (0, .ref (b + 41)), (1, .int 2)]) B dX5_advance_1 rfl (by decide) rfl ?_
  refine z_iconst (v := 0) B dX5_advance_2 (by decide) ?_
  refine z_istore_n (lv' := [(3, .int 0), (2, .int 1), (0, .ref (b + 41)), (1, .int 2)]) B dX5_advance_3 rfl (by decide) rfl ?_
  refine z_iload_n B dX5_advance_4 rfl 0 rfl ?_
  refine z_ldc (v := 1000000) B dX5_advance_5 wg_355 ?_
  refine z_icmp_ge (tgt := 122) B dX5_advance_7 (by decide) (fun h => absurd h (by decide)) (fun _ => ?_)
  refine z_iload_n B dX5_advance_10 rfl 1 rfl ?_
  refine z_if_eq (tgt := 122) B dX5_advance_11 (by decide) (fun h => absurd h (by decide)) (fun _ => ?_)
  refine z_aload_n B dX5_advance_14 rfl 2 rfl ?_
  refine gf_X5_38 (x := 2) B (lKA (hk_K hK 41 rfl rfl)) (rI_at 41 4 hI_41_4) dX5_advance_15 ?_
  refine z_iload_n B dX5_advance_18 rfl 3 rfl ?_
  refine z_icmp_ge (tgt := 26) B dX5_advance_19 (by decide) (fun _ => ?_) (fun h => absurd (by decide) h)
  refine z_iconst (v := 0) B dX5_advance_26 (by decide) ?_
  refine z_istore (lv' := [(4, .int 0), (3, .int 0), (2, .int 1), (0, .ref (b + 41)), (1, .int 2)]) B dX5_advance_27 (by decide) rfl ?_
  refine z_aload_n B dX5_advance_29 rfl 3 rfl ?_
  refine gf_X5_91 (x := 0) B (lKA (hk_K hK 41 rfl rfl)) (rI_at 41 19 hI_41_19) dX5_advance_30 ?_
  refine z_if_eq (tgt := 41) B dX5_advance_33 (by decide) (fun _ => ?_) (fun h => absurd (by decide) h)
  refine z_aload_n B dX5_advance_41 rfl 3 rfl ?_
  refine gf_X5_82 (x := (-1)) B (lKA (hk_K hK 41 rfl rfl)) (rI_at 41 16 hI_41_16) dX5_advance_42 ?_
  refine z_iconst (v := (-1)) B dX5_advance_45 (by decide) ?_
  refine z_icmp_eq (tgt := 61) B dX5_advance_46 (by decide) (fun _ => ?_) (fun h => absurd (by decide) h)
  refine z_aload_n B dX5_advance_61 rfl 3 rfl ?_
  refine gf_X5_79 (x := 1) B (lKA (hk_K hK 41 rfl rfl)) (rI_at 41 15 hI_41_15) dX5_advance_62 ?_
  refine z_if_eq (tgt := 79) B dX5_advance_65 (by decide) (fun h => absurd h (by decide)) (fun _ => ?_)
  refine z_aload_n B dX5_advance_68 rfl 3 rfl ?_
  refine z_iload B dX5_advance_69 0 rfl ?_
  refine pf_X5_91 (x := 0) (σ' := (ap b σ [(41, 19, 0)] [] [])) B (by decide) (lKA (hk_K hK 41 rfl rfl)) wI_ap dX5_advance_71 ?_
  refine z_iconst (v := 0) B dX5_advance_74 (by decide) ?_
  refine z_istore_n (lv' := [(2, .int 0), (4, .int 0), (3, .int 0), (0, .ref (b + 41)), (1, .int 2)]) B dX5_advance_75 rfl (by decide) rfl ?_
  refine z_goto (tgt := 116) B dX5_advance_76 (by decide) ?_
  refine z_iinc (v := 1) (lv' := [(3, .int 1), (2, .int 0), (4, .int 0), (0, .ref (b + 41)), (1, .int 2)]) B dX5_advance_116 2 rfl (by decide) (by decide) rfl ?_
  refine z_goto (tgt := 4) B dX5_advance_119 (by decide) ?_
  refine z_iload_n B dX5_advance_4 rfl 0 rfl ?_
  refine z_ldc (v := 1000000) B dX5_advance_5 wg_355 ?_
  refine z_icmp_ge (tgt := 122) B dX5_advance_7 (by decide) (fun h => absurd h (by decide)) (fun _ => ?_)
  refine z_iload_n B dX5_advance_10 rfl 1 rfl ?_
  refine z_if_eq (tgt := 122) B dX5_advance_11 (by decide) (fun _ => ?_) (fun h => absurd (by decide) h)
  exact z_vret B hr (by decide) (by decide) dX5_advance_122 rfl
set_option maxRecDepth 100000 in
set_option maxHeartbeats 4000000 in
theorem ci_X5_wantsEvent_693 (l : Launch) {g : gx_T} {σ : sx_T} {b : Nat} (hK : lay b σ)   (hI_41_16 : sx_I σ (b + 41) 16 = (-1)) (hI_41_19 : sx_I σ (b + 41) 19 = 0) : Met l yX5_wantsEvent (.code yX5_wantsEvent cX5_wantsEvent 1 (some .boolean) :: lw_g) { frames := 0, cells := 0, slots := 0, locals := 0 } (va_Pc [.ref (b + 41)] (zx_w g σ)) (va_Qi (fun r u => r = 0 ∧ u = σ) (zx_w g) (gx_Q g)) 0 0 (gx_Q g) := by
  refine z_met (by decide) (Nat.le_of_ble_eq_true rfl) (fun p e s m below meth c B hr hin => ?_)
  refine z_eqs (σ' := (ap b σ [] [] [])) rfl ?_
  show zx p l e _ s m _ below meth c g 1 0 0 _ _ 0 [(0, .ref (b + 41))] []
  refine z_aload_n B dX5_wantsEvent_0 rfl 0 rfl ?_
  refine gf_X5_91 (x := 0) B (lKA (hk_K hK 41 rfl rfl)) (rI_at 41 19 hI_41_19) dX5_wantsEvent_1 ?_
  refine z_if_ne (tgt := 19) B dX5_wantsEvent_4 (by decide) (fun h => absurd (by decide) h) (fun _ => ?_)
  refine z_aload_n B dX5_wantsEvent_7 rfl 0 rfl ?_
  refine gf_X5_82 (x := (-1)) B (lKA (hk_K hK 41 rfl rfl)) (rI_at 41 16 hI_41_16) dX5_wantsEvent_8 ?_
  refine z_iconst (v := (-1)) B dX5_wantsEvent_11 (by decide) ?_
  refine z_icmp_eq (tgt := 19) B dX5_wantsEvent_12 (by decide) (fun _ => ?_) (fun h => absurd (by decide) h)
  refine z_iconst (v := 0) B dX5_wantsEvent_19 (by decide) ?_
  exact z_zret B hr (by decide) (by decide) (by decide) dX5_wantsEvent_20 ⟨rfl, rfl⟩
set_option maxRecDepth 100000 in
set_option maxHeartbeats 4000000 in
theorem ci_X2_removeLast_694 (l : Launch) {g : gx_T} {σ : sx_T} {b : Nat} (hK : lay b σ)   (hI_5_1 : sx_I σ (b + 5) 1 = 0) (hI_5_2 : sx_I σ (b + 5) 2 = 1) : Met l yX2_removeLast (.code yX2_removeLast cX2_removeLast 1 none :: lw_g) { frames := 0, cells := 0, slots := 0, locals := 0 } (va_Pc [.ref (b + 5)] (zx_w g σ)) (va_Qv (fun u => u = (ap b σ [(5, 2, 0)] [] [])) (zx_w g) (gx_Q g)) 0 0 (gx_Q g) := by
  refine z_met (by decide) (Nat.le_of_ble_eq_true rfl) (fun p e s m below meth c B hr hin => ?_)
  refine z_eqs (σ' := (ap b σ [] [] [])) rfl ?_
  show zx p l e _ s m _ below meth c g 1 0 0 _ _ 0 [(0, .ref (b + 5))] []
  refine z_aload_n B dX2_removeLast_0 rfl 0 rfl ?_
  refine gf_X2_21 (x := 1) B (lKA (hk_K hK 5 rfl rfl)) (rI_at 5 2 hI_5_2) dX2_removeLast_1 ?_
  refine z_aload_n B dX2_removeLast_4 rfl 0 rfl ?_
  refine gf_X2_17 (x := 0) B (lKA (hk_K hK 5 rfl rfl)) (rI_at 5 1 hI_5_1) dX2_removeLast_5 ?_
  refine z_icmp_le (tgt := 21) B dX2_removeLast_8 (by decide) (fun h => absurd h (by decide)) (fun _ => ?_)
  refine z_aload_n B dX2_removeLast_11 rfl 0 rfl ?_
  refine z_dup B dX2_removeLast_12 rfl ?_
  refine gf_X2_21 (x := 1) B (lKA (hk_K hK 5 rfl rfl)) (rI_at 5 2 hI_5_2) dX2_removeLast_13 ?_
  refine z_iconst (v := 1) B dX2_removeLast_16 (by decide) ?_
  refine z_isub B dX2_removeLast_17 ?_
  refine z_seti (y := 0) (by decide) ?_
  refine pf_X2_21 (x := 0) (σ' := (ap b σ [(5, 2, 0)] [] [])) B (lKA (hk_K hK 5 rfl rfl)) wI_ap dX2_removeLast_18 ?_
  exact z_vret B hr (by decide) (by decide) dX2_removeLast_21 rfl
set_option maxRecDepth 100000 in
set_option maxHeartbeats 4000000 in
theorem ci_X8_leave_695 (l : Launch) {g : gx_T} {σ : sx_T} {b : Nat} (hK : lay b σ)   (hI_5_1 : sx_I σ (b + 5) 1 = 0) (hI_5_2 : sx_I σ (b + 5) 2 = 1) (hI_37_2 : sx_I σ (b + 37) 2 = 2) (hI_40_8 : sx_I σ (b + 40) 8 = 0) (hI_41_18 : sx_I σ (b + 41) 18 = (-1)) (hI_41_19 : sx_I σ (b + 41) 19 = 0) (hR_0_4 : sx_R σ (b + 0) 4 = (some (b + 5))) (hR_40_1 : sx_R σ (b + 40) 1 = (some (b + 37))) (hR_40_2 : sx_R σ (b + 40) 2 = (some (b + 41))) : Met l yX8_leave (.code yX8_leave cX8_leave 4 none :: lw_g) { frames := 1, cells := 0, slots := 0, locals := 20 } (va_Pc [.ref (b + 0), .ref (b + 40)] (zx_w g σ)) (va_Qv (fun u => u = (ap b σ [(40, 8, 2), (5, 2, 0)] [] [])) (zx_w g) (gx_Q g)) 0 0 (gx_Q g) := by
  refine z_met (by decide) (Nat.le_of_ble_eq_true rfl) (fun p e s m below meth c B hr hin => ?_)
  refine z_eqs (σ' := (ap b σ [] [] [])) rfl ?_
  show zx p l e _ s m _ below meth c g 4 0 0 _ _ 0 [(0, .ref (b + 0)), (1, .ref (b + 40))] []
  refine z_aload_n B dX8_leave_0 rfl 0 rfl ?_
  refine gf_X8_35 (x := (some (b + 5))) B (lKA (hk_K hK 0 rfl rfl)) (rR_at 0 4 hR_0_4) dX8_leave_1 ?_
  refine z_cVv (As := []) (rest := []) B cw_X8_388 cx_3 dX8_leave_4 (ci_X2_removeLast_694 l (σ := (ap b σ [] [] [])) (b := b) (lyA hK) (rI_at 5 1 hI_5_1) (rI_at 5 2 hI_5_2)) (lKA (hk_K hK 5 rfl rfl)) rfl (by decide) rfl (Nat.le_of_ble_eq_true rfl) (by decide) (fun u hu => ?_)
  refine z_eqs (σ' := (ap b σ [(5, 2, 0)] [] [])) (hu.trans ap_ap) ?_
  show zx p l e _ s m _ below meth c g 4 0 0 _ _ 7 [(0, .ref (b + 0)), (1, .ref (b + 40))] _
  refine z_aload_n B dX8_leave_7 rfl 1 rfl ?_
  refine gf_X8_249 (x := (some (b + 41))) B (lKA (hk_K hK 40 rfl rfl)) (rR_at 40 2 hR_40_2) dX8_leave_8 ?_
  refine gf_X8_133 (x := 0) B (lKA (hk_K hK 41 rfl rfl)) (rI_at 41 19 hI_41_19) dX8_leave_11 ?_
  refine z_if_eq (tgt := 18) B dX8_leave_14 (by decide) (fun _ => ?_) (fun h => absurd (by decide) h)
  refine z_aload_n B dX8_leave_18 rfl 1 rfl ?_
  refine gf_X8_249 (x := (some (b + 41))) B (lKA (hk_K hK 40 rfl rfl)) (rR_at 40 2 hR_40_2) dX8_leave_19 ?_
  refine gf_X8_391 (x := (-1)) B (lKA (hk_K hK 41 rfl rfl)) (rI_at 41 18 hI_41_18) dX8_leave_22 ?_
  refine z_aload_n B dX8_leave_25 rfl 1 rfl ?_
  refine gf_X8_394 (x := 0) B (lKA (hk_K hK 40 rfl rfl)) (rI_at 40 8 hI_40_8) dX8_leave_26 ?_
  refine z_icmp_lt (tgt := 36) B dX8_leave_29 (by decide) (fun _ => ?_) (fun h => absurd (by decide) h)
  refine z_iconst (v := 0) B dX8_leave_36 (by decide) ?_
  refine z_istore_n (lv' := [(2, .int 0), (0, .ref (b + 0)), (1, .ref (b + 40))]) B dX8_leave_37 rfl (by decide) rfl ?_
  refine z_aload_n B dX8_leave_38 rfl 2 rfl ?_
  refine z_aload_n B dX8_leave_39 rfl 2 rfl ?_
  refine gf_X8_179 (x := (some (b + 37))) B (lKA (hk_K hK 40 rfl rfl)) (rR_at 40 1 hR_40_1) dX8_leave_40 ?_
  refine z_cVi (As := []) (rest := [.ref (b + 40)]) B cw_X8_183 cx_2 dX8_leave_43 (ci_X1_size_685 l (σ := (ap b σ [(5, 2, 0)] [] [])) (b := b) (lyA hK) (rI_at 37 2 hI_37_2)) (lKA (hk_K hK 37 rfl rfl)) rfl (by decide) rfl (Nat.le_of_ble_eq_true rfl) (by decide) (fun r u hu => ?_)
  refine z_eqs (σ' := (ap b σ [(5, 2, 0)] [] [])) hu.2 ?_
  show zx p l e _ s m _ below meth c g 4 0 0 _ _ 46 [(2, .int 0), (0, .ref (b + 0)), (1, .ref (b + 40))] _
  refine z_seti (y := 2) hu.1 ?_
  refine pf_X8_394 (x := 2) (σ' := (ap b σ [(40, 8, 2), (5, 2, 0)] [] [])) B (lKA (hk_K hK 40 rfl rfl)) wI_ap dX8_leave_46 ?_
  refine z_iload_n B dX8_leave_49 rfl 0 rfl ?_
  refine z_if_eq (tgt := 67) B dX8_leave_50 (by decide) (fun _ => ?_) (fun h => absurd (by decide) h)
  refine z_null B dX8_leave_67 ?_
  refine z_qstore_n (r := none) (lv' := [(3, .null), (2, .int 0), (0, .ref (b + 0)), (1, .ref (b + 40))]) B dX8_leave_68 rfl (by decide) rfl ?_
  refine z_qload_n (r := none) B dX8_leave_69 rfl 0 rfl ?_
  refine z_ifnull (r := none) (tgt := 98) B dX8_leave_70 (by decide) (fun _ => ?_) (fun a h => nomatch h)
  exact z_vret B hr (by decide) (by decide) dX8_leave_98 rfl
set_option maxRecDepth 100000 in
set_option maxHeartbeats 4000000 in
theorem ci_X2_isEmpty_696 (l : Launch) {g : gx_T} {σ : sx_T} {b : Nat} (hK : lay b σ)   (hI_5_1 : sx_I σ (b + 5) 1 = 0) (hI_5_2 : sx_I σ (b + 5) 2 = 0) : Met l yX2_isEmpty (.code yX2_isEmpty cX2_isEmpty 1 (some .boolean) :: lw_g) { frames := 0, cells := 0, slots := 0, locals := 0 } (va_Pc [.ref (b + 5)] (zx_w g σ)) (va_Qi (fun r u => r = 1 ∧ u = σ) (zx_w g) (gx_Q g)) 0 0 (gx_Q g) := by
  refine z_met (by decide) (Nat.le_of_ble_eq_true rfl) (fun p e s m below meth c B hr hin => ?_)
  refine z_eqs (σ' := (ap b σ [] [] [])) rfl ?_
  show zx p l e _ s m _ below meth c g 1 0 0 _ _ 0 [(0, .ref (b + 5))] []
  refine z_aload_n B dX2_isEmpty_0 rfl 0 rfl ?_
  refine gf_X2_17 (x := 0) B (lKA (hk_K hK 5 rfl rfl)) (rI_at 5 1 hI_5_1) dX2_isEmpty_1 ?_
  refine z_aload_n B dX2_isEmpty_4 rfl 0 rfl ?_
  refine gf_X2_21 (x := 0) B (lKA (hk_K hK 5 rfl rfl)) (rI_at 5 2 hI_5_2) dX2_isEmpty_5 ?_
  refine z_icmp_lt (tgt := 15) B dX2_isEmpty_8 (by decide) (fun h => absurd h (by decide)) (fun _ => ?_)
  refine z_iconst (v := 1) B dX2_isEmpty_11 (by decide) ?_
  refine z_goto (tgt := 16) B dX2_isEmpty_12 (by decide) ?_
  exact z_zret B hr (by decide) (by decide) (by decide) dX2_isEmpty_16 ⟨rfl, rfl⟩
set_option maxRecDepth 100000 in
set_option maxHeartbeats 4000000 in
theorem ci_X2_removeFirst_697 (l : Launch) {g : gx_T} {σ : sx_T} {b : Nat} (hK : lay b σ)   (hI_7_1 : sx_I σ (b + 7) 1 = 0) (hI_7_2 : sx_I σ (b + 7) 2 = 0) : Met l yX2_removeFirst (.code yX2_removeFirst cX2_removeFirst 2 (some (.object "Loomkeeper$Flow")) :: lw_g) { frames := 0, cells := 0, slots := 0, locals := 0 } (va_Pc [.ref (b + 7)] (zx_w g σ)) (va_Qq (fun r u => r = none ∧ u = (ap b σ [(7, 2, 0), (7, 1, 0)] [] [])) (zx_w g) (gx_Q g)) 0 0 (gx_Q g) := by
  refine z_met (by decide) (Nat.le_of_ble_eq_true rfl) (fun p e s m below meth c B hr hin => ?_)
  refine z_eqs (σ' := (ap b σ [] [] [])) rfl ?_
  show zx p l e _ s m _ below meth c g 2 0 0 _ _ 0 [(0, .ref (b + 7))] []
  refine z_aload_n B dX2_removeFirst_0 rfl 0 rfl ?_
  refine gf_X2_17 (x := 0) B (lKA (hk_K hK 7 rfl rfl)) (rI_at 7 1 hI_7_1) dX2_removeFirst_1 ?_
  refine z_if_lt (tgt := 30) B dX2_removeFirst_4 (by decide) (fun h => absurd h (by decide)) (fun _ => ?_)
  refine z_aload_n B dX2_removeFirst_7 rfl 0 rfl ?_
  refine gf_X2_17 (x := 0) B (lKA (hk_K hK 7 rfl rfl)) (rI_at 7 1 hI_7_1) dX2_removeFirst_8 ?_
  refine z_aload_n B dX2_removeFirst_11 rfl 0 rfl ?_
  refine gf_X2_21 (x := 0) B (lKA (hk_K hK 7 rfl rfl)) (rI_at 7 2 hI_7_2) dX2_removeFirst_12 ?_
  refine z_icmp_ge (tgt := 30) B dX2_removeFirst_15 (by decide) (fun _ => ?_) (fun h => absurd (by decide) h)
  refine z_aload_n B dX2_removeFirst_30 rfl 0 rfl ?_
  refine z_iconst (v := 0) B dX2_removeFirst_31 (by decide) ?_
  refine pf_X2_17 (x := 0) (σ' := (ap b σ [(7, 1, 0)] [] [])) B (lKA (hk_K hK 7 rfl rfl)) wI_ap dX2_removeFirst_32 ?_
  refine z_aload_n B dX2_removeFirst_35 rfl 0 rfl ?_
  refine z_iconst (v := 0) B dX2_removeFirst_36 (by decide) ?_
  refine pf_X2_21 (x := 0) (σ' := (ap b σ [(7, 2, 0), (7, 1, 0)] [] [])) B (lKA (hk_K hK 7 rfl rfl)) wI_ap dX2_removeFirst_37 ?_
  refine z_null B dX2_removeFirst_40 ?_
  exact z_qret (r := none) B hr (by decide) (by decide) dX2_removeFirst_41 ⟨rfl, rfl⟩
set_option maxRecDepth 100000 in
set_option maxHeartbeats 4000000 in
theorem ci_X2_last_698 (l : Launch) {g : gx_T} {σ : sx_T} {b : Nat} (hK : lay b σ)   (hI_5_1 : sx_I σ (b + 5) 1 = 0) (hI_5_2 : sx_I σ (b + 5) 2 = 0) : Met l yX2_last (.code yX2_last cX2_last 2 (some (.object "Loomkeeper$Flow")) :: lw_g) { frames := 0, cells := 0, slots := 0, locals := 0 } (va_Pc [.ref (b + 5)] (zx_w g σ)) (va_Qq (fun r u => r = none ∧ u = σ) (zx_w g) (gx_Q g)) 0 0 (gx_Q g) := by
  refine z_met (by decide) (Nat.le_of_ble_eq_true rfl) (fun p e s m below meth c B hr hin => ?_)
  refine z_eqs (σ' := (ap b σ [] [] [])) rfl ?_
  show zx p l e _ s m _ below meth c g 2 0 0 _ _ 0 [(0, .ref (b + 5))] []
  refine z_aload_n B dX2_last_0 rfl 0 rfl ?_
  refine gf_X2_21 (x := 0) B (lKA (hk_K hK 5 rfl rfl)) (rI_at 5 2 hI_5_2) dX2_last_1 ?_
  refine z_iconst (v := 1) B dX2_last_4 (by decide) ?_
  refine z_isub B dX2_last_5 ?_
  refine z_seti (y := (-1)) (by decide) ?_
  refine z_istore_n (lv' := [(1, .int (-1)), (0, .ref (b + 5))]) B dX2_last_6 rfl (by decide) rfl ?_
  refine z_iload_n B dX2_last_7 rfl 0 rfl ?_
  refine z_aload_n B dX2_last_8 rfl 1 rfl ?_
  refine gf_X2_17 (x := 0) B (lKA (hk_K hK 5 rfl rfl)) (rI_at 5 1 hI_5_1) dX2_last_9 ?_
  refine z_icmp_lt (tgt := 37) B dX2_last_12 (by decide) (fun _ => ?_) (fun h => absurd (by decide) h)
  refine z_null B dX2_last_37 ?_
  exact z_qret (r := none) B hr (by decide) (by decide) dX2_last_38 ⟨rfl, rfl⟩
set_option maxRecDepth 100000 in
set_option maxHeartbeats 4000000 in
theorem ci_X8_goOn_699 (l : Launch) {g : gx_T} {σ : sx_T} {b : Nat} (hK : lay b σ) (w1 : Int32) (q1_w1 : (-999 : Int) ≤ w1.toInt) (q2_w1 : w1.toInt ≤ (-1 : Int)) (hI_5_1 : sx_I σ (b + 5) 1 = 0) (hI_5_2 : sx_I σ (b + 5) 2 = 0) (hI_7_1 : sx_I σ (b + 7) 1 = 0) (hI_7_2 : sx_I σ (b + 7) 2 = 0) (hI_10_0 : sx_I σ (b + 10) 0 = 0) (hI_11_0 : sx_I σ (b + 11) 0 = 0) (hI_12_0 : sx_I σ (b + 12) 0 = 0) (hI_37_2 : sx_I σ (b + 37) 2 = 1) (hI_40_4 : sx_I σ (b + 40) 4 = (-1)) (hI_40_8 : sx_I σ (b + 40) 8 = 0) (hI_41_4 : sx_I σ (b + 41) 4 = 1) (hI_41_5 : sx_I σ (b + 41) 5 = 0) (hI_41_6 : sx_I σ (b + 41) 6 = w1) (hI_41_7 : sx_I σ (b + 41) 7 = 0) (hI_41_8 : sx_I σ (b + 41) 8 = 0) (hI_41_14 : sx_I σ (b + 41) 14 = 0) (hI_41_15 : sx_I σ (b + 41) 15 = 0) (hI_41_16 : sx_I σ (b + 41) 16 = (-1)) (hI_41_18 : sx_I σ (b + 41) 18 = (-1)) (hI_41_19 : sx_I σ (b + 41) 19 = 0) (hR_0_4 : sx_R σ (b + 0) 4 = (some (b + 5))) (hR_0_5 : sx_R σ (b + 0) 5 = (some (b + 7))) (hR_5_0 : sx_R σ (b + 5) 0 = (some (b + 6))) (hR_9_1 : sx_R σ (b + 9) 1 = (some (b + 10))) (hR_9_2 : sx_R σ (b + 9) 2 = (some (b + 11))) (hR_9_3 : sx_R σ (b + 9) 3 = (some (b + 12))) (hR_37_0 : sx_R σ (b + 37) 0 = (some (b + 38))) (hR_37_1 : sx_R σ (b + 37) 1 = (some (b + 39))) (hR_40_1 : sx_R σ (b + 40) 1 = (some (b + 37))) (hR_40_2 : sx_R σ (b + 40) 2 = (some (b + 41))) (hR_40_7 : sx_R σ (b + 40) 7 = none) (hR_41_2 : sx_R σ (b + 41) 2 = (some (b + 9))) (hR_41_3 : sx_R σ (b + 41) 3 = (some (b + 37))) : Met l yX8_goOn (.code yX8_goOn cX8_goOn 5 none :: lw_g) { frames := 3, cells := 0, slots := 0, locals := 72 } (va_Pc [.ref (b + 0), .ref (b + 40)] (zx_w g σ)) (va_Qv (fun u => u = (ap b σ [(7, 2, 0), (7, 1, 0), (40, 8, 2), (5, 2, 0), (41, 19, 0), (41, 19, 0), (41, 15, 1), (41, 4, 2), (41, 16, (-1)), (37, 2, 2), (38, 1, 13), (41, 16, 13), (41, 7, 1), (41, 5, 1), (5, 2, 1)] [(39, 1, ((10 * (w1.toInt64)) + 1)), (41, 17, ((10 * (w1.toInt64)) + 1))] [(6, 0, (some (b + 40)))])) (zx_w g) (gx_Q g)) 0 0 (gx_Q g) := by
  refine z_met (by decide) (Nat.le_of_ble_eq_true rfl) (fun p e s m below meth c B hr hin => ?_)
  refine z_eqs (σ' := (ap b σ [] [] [])) rfl ?_
  show zx p l e _ s m _ below meth c g 5 0 0 _ _ 0 [(0, .ref (b + 0)), (1, .ref (b + 40))] []
  refine z_aload_n B dX8_goOn_0 rfl 0 rfl ?_
  refine gf_X8_35 (x := (some (b + 5))) B (lKA (hk_K hK 0 rfl rfl)) (rR_at 0 4 hR_0_4) dX8_goOn_1 ?_
  refine z_aload_n B dX8_goOn_4 rfl 1 rfl ?_
  refine z_cVv (As := [.ref (b + 40)]) (rest := []) B cw_X8_337 cx_3 dX8_goOn_5 (ci_X2_addLast_667 l (σ := (ap b σ [] [] [])) (b := b) (lyA hK) (rI_at 5 2 hI_5_2) (rR_at 5 0 hR_5_0)) (lKA (hk_K hK 5 rfl rfl)) rfl (by decide) rfl (Nat.le_of_ble_eq_true rfl) (by decide) (fun u hu => ?_)
  refine z_eqs (σ' := (ap b σ [(5, 2, 1)] [] [(6, 0, (some (b + 40)))])) (hu.trans ap_ap) ?_
  show zx p l e _ s m _ below meth c g 5 0 0 _ _ 8 [(0, .ref (b + 0)), (1, .ref (b + 40))] _
  refine z_iconst (v := 0) B dX8_goOn_8 (by decide) ?_
  refine z_istore_n (lv' := [(2, .int 0), (0, .ref (b + 0)), (1, .ref (b + 40))]) B dX8_goOn_9 rfl (by decide) rfl ?_
  refine z_iload_n B dX8_goOn_10 rfl 0 rfl ?_
  refine z_ldcw (v := 1000000) B dX8_goOn_11 wg_515 ?_
  refine z_icmp_ge (tgt := 126) B dX8_goOn_14 (by decide) (fun h => absurd h (by decide)) (fun _ => ?_)
  refine z_aload_n B dX8_goOn_17 rfl 1 rfl ?_
  refine gf_X8_35 (x := (some (b + 5))) B (lKA (hk_K hK 0 rfl rfl)) (rR_at 0 4 hR_0_4) dX8_goOn_18 ?_
  refine z_cVi (As := []) (rest := []) B cw_X8_341 cx_3 dX8_goOn_21 (ci_X2_isEmpty_668 l (σ := (ap b σ [(5, 2, 1)] [] [(6, 0, (some (b + 40)))])) (b := b) (lyA hK) (rI_at 5 1 hI_5_1) (rI_at 5 2 rfl)) (lKA (hk_K hK 5 rfl rfl)) rfl (by decide) rfl (Nat.le_of_ble_eq_true rfl) (by decide) (fun r u hu => ?_)
  refine z_eqs (σ' := (ap b σ [(5, 2, 1)] [] [(6, 0, (some (b + 40)))])) hu.2 ?_
  show zx p l e _ s m _ below meth c g 5 0 0 _ _ 24 [(2, .int 0), (0, .ref (b + 0)), (1, .ref (b + 40))] _
  refine z_seti (y := 0) hu.1 ?_
  refine z_if_eq (tgt := 41) B dX8_goOn_24 (by decide) (fun _ => ?_) (fun h => absurd (by decide) h)
  refine z_aload_n B dX8_goOn_41 rfl 1 rfl ?_
  refine gf_X8_35 (x := (some (b + 5))) B (lKA (hk_K hK 0 rfl rfl)) (rR_at 0 4 hR_0_4) dX8_goOn_42 ?_
  refine z_cVq (As := []) (rest := []) B cw_X8_348 cx_3 dX8_goOn_45 (ci_X2_last_669 l (σ := (ap b σ [(5, 2, 1)] [] [(6, 0, (some (b + 40)))])) (b := b) (lyA hK) (rI_at 5 1 hI_5_1) (rI_at 5 2 rfl) (rR_at 5 0 hR_5_0) (rR_at 6 0 rfl)) (lKA (hk_K hK 5 rfl rfl)) rfl (by decide) rfl (Nat.le_of_ble_eq_true rfl) (by decide) (fun r u hu => ?_)
  refine z_eqs (σ' := (ap b σ [(5, 2, 1)] [] [(6, 0, (some (b + 40)))])) hu.2 ?_
  show zx p l e _ s m _ below meth c g 5 0 0 _ _ 48 [(2, .int 0), (0, .ref (b + 0)), (1, .ref (b + 40))] _
  refine z_setr (y := (some (b + 40))) hu.1 ?_
  refine z_astore_n (lv' := [(3, .ref (b + 40)), (2, .int 0), (0, .ref (b + 0)), (1, .ref (b + 40))]) B dX8_goOn_48 rfl (by decide) rfl ?_
  refine z_aload_n B dX8_goOn_49 rfl 0 rfl ?_
  refine z_ifnonnull (r := (some (b + 40))) (tgt := 54) B dX8_goOn_50 (by decide) (fun _ _ => ?_) (fun h => nomatch h)
  refine z_aload_n B dX8_goOn_54 rfl 0 rfl ?_
  refine gf_X8_249 (x := (some (b + 41))) B (lKA (hk_K hK 40 rfl rfl)) (rR_at 40 2 hR_40_2) dX8_goOn_55 ?_
  refine z_aload_n B dX8_goOn_58 rfl 0 rfl ?_
  refine gf_X8_179 (x := (some (b + 37))) B (lKA (hk_K hK 40 rfl rfl)) (rR_at 40 1 hR_40_1) dX8_goOn_59 ?_
  refine z_cVi (As := []) (rest := [.ref (b + 41)]) B cw_X8_183 cx_2 dX8_goOn_62 (ci_X1_size_670 l (σ := (ap b σ [(5, 2, 1)] [] [(6, 0, (some (b + 40)))])) (b := b) (lyA hK) (rI_at 37 2 hI_37_2)) (lKA (hk_K hK 37 rfl rfl)) rfl (by decide) rfl (Nat.le_of_ble_eq_true rfl) (by decide) (fun r u hu => ?_)
  refine z_eqs (σ' := (ap b σ [(5, 2, 1)] [] [(6, 0, (some (b + 40)))])) hu.2 ?_
  show zx p l e _ s m _ below meth c g 5 0 0 _ _ 65 [(3, .ref (b + 40)), (2, .int 0), (0, .ref (b + 0)), (1, .ref (b + 40))] _
  refine z_seti (y := 1) hu.1 ?_
  refine z_cVv (As := [.int 1]) (rest := []) B cw_X8_289 cx_6 dX8_goOn_65 (ci_X5_advance_678 l (σ := (ap b σ [(5, 2, 1)] [] [(6, 0, (some (b + 40)))])) (b := b) (lyA hK) w1 (rI_at 10 0 hI_10_0) (rI_at 11 0 hI_11_0) (rI_at 12 0 hI_12_0) (rI_at 41 4 hI_41_4) (rI_at 41 5 hI_41_5) (rI_at 41 6 hI_41_6) (rI_at 41 7 hI_41_7) (rI_at 41 8 hI_41_8) (rI_at 41 14 hI_41_14) (rI_at 41 15 hI_41_15) (rI_at 41 16 hI_41_16) (rI_at 41 19 hI_41_19) (rR_at 9 1 hR_9_1) (rR_at 9 2 hR_9_2) (rR_at 9 3 hR_9_3) (rR_at 41 2 hR_41_2)) (lKA (hk_K hK 41 rfl rfl)) rfl (by decide) rfl (Nat.le_of_ble_eq_true rfl) (by decide) (fun u hu => ?_)
  refine z_eqs (σ' := (ap b σ [(41, 16, 13), (41, 7, 1), (41, 5, 1), (5, 2, 1)] [(41, 17, ((10 * (w1.toInt64)) + 1))] [(6, 0, (some (b + 40)))])) (hu.trans ap_ap) ?_
  show zx p l e _ s m _ below meth c g 5 0 0 _ _ 68 [(3, .ref (b + 40)), (2, .int 0), (0, .ref (b + 0)), (1, .ref (b + 40))] _
  refine z_aload_n B dX8_goOn_68 rfl 0 rfl ?_
  refine z_cVv (As := []) (rest := []) B cw_X8_351 cx_1 dX8_goOn_69 (ci_X0_letGo_679 l (σ := (ap b σ [(41, 16, 13), (41, 7, 1), (41, 5, 1), (5, 2, 1)] [(41, 17, ((10 * (w1.toInt64)) + 1))] [(6, 0, (some (b + 40)))])) (b := b) (lyA hK) (rR_at 40 7 hR_40_7)) (lKA (hk_K hK 40 rfl rfl)) rfl (by decide) rfl (Nat.le_of_ble_eq_true rfl) (by decide) (fun u hu => ?_)
  refine z_eqs (σ' := (ap b σ [(41, 16, 13), (41, 7, 1), (41, 5, 1), (5, 2, 1)] [(41, 17, ((10 * (w1.toInt64)) + 1))] [(6, 0, (some (b + 40)))])) hu ?_
  show zx p l e _ s m _ below meth c g 5 0 0 _ _ 72 [(3, .ref (b + 40)), (2, .int 0), (0, .ref (b + 0)), (1, .ref (b + 40))] _
  refine z_aload_n B dX8_goOn_72 rfl 0 rfl ?_
  refine gf_X8_249 (x := (some (b + 41))) B (lKA (hk_K hK 40 rfl rfl)) (rR_at 40 2 hR_40_2) dX8_goOn_73 ?_
  refine z_cVi (As := []) (rest := []) B cw_X8_354 cx_6 dX8_goOn_76 (ci_X5_wantsEvent_680 l (σ := (ap b σ [(41, 16, 13), (41, 7, 1), (41, 5, 1), (5, 2, 1)] [(41, 17, ((10 * (w1.toInt64)) + 1))] [(6, 0, (some (b + 40)))])) (b := b) (lyA hK) (rI_at 41 16 rfl) (rI_at 41 19 hI_41_19)) (lKA (hk_K hK 41 rfl rfl)) rfl (by decide) rfl (Nat.le_of_ble_eq_true rfl) (by decide) (fun r u hu => ?_)
  refine z_eqs (σ' := (ap b σ [(41, 16, 13), (41, 7, 1), (41, 5, 1), (5, 2, 1)] [(41, 17, ((10 * (w1.toInt64)) + 1))] [(6, 0, (some (b + 40)))])) hu.2 ?_
  show zx p l e _ s m _ below meth c g 5 0 0 _ _ 79 [(3, .ref (b + 40)), (2, .int 0), (0, .ref (b + 0)), (1, .ref (b + 40))] _
  refine z_seti (y := 1) hu.1 ?_
  refine z_if_eq (tgt := 115) B dX8_goOn_79 (by decide) (fun h => absurd h (by decide)) (fun _ => ?_)
  refine z_aload_n B dX8_goOn_82 rfl 2 rfl ?_
  refine z_aload_n B dX8_goOn_83 rfl 0 rfl ?_
  refine z_cVq (As := [.ref (b + 40)]) (rest := []) B cw_X8_357 cx_9 dX8_goOn_84 (ci_X8_make_684 l (σ := (ap b σ [(41, 16, 13), (41, 7, 1), (41, 5, 1), (5, 2, 1)] [(41, 17, ((10 * (w1.toInt64)) + 1))] [(6, 0, (some (b + 40)))])) (b := b) (lyA hK) ((10 * (w1.toInt64)) + 1) (rI_at 37 2 hI_37_2) (rI_at 40 4 hI_40_4) (rI_at 41 16 rfl) (rJ_at 41 17 rfl) (rR_at 37 0 hR_37_0) (rR_at 37 1 hR_37_1) (rR_at 40 1 hR_40_1) (rR_at 40 2 hR_40_2)) (lKA (hk_K hK 0 rfl rfl)) rfl (by decide) rfl (Nat.le_of_ble_eq_true rfl) (by decide) (fun r u hu => ?_)
  refine z_eqs (σ' := (ap b σ [(37, 2, 2), (38, 1, 13), (41, 16, 13), (41, 7, 1), (41, 5, 1), (5, 2, 1)] [(39, 1, ((10 * (w1.toInt64)) + 1)), (41, 17, ((10 * (w1.toInt64)) + 1))] [(6, 0, (some (b + 40)))])) (hu.2.trans ap_ap) ?_
  show zx p l e _ s m _ below meth c g 5 0 0 _ _ 87 [(3, .ref (b + 40)), (2, .int 0), (0, .ref (b + 0)), (1, .ref (b + 40))] _
  refine z_setr (y := none) hu.1 ?_
  refine z_qstore (r := none) (lv' := [(4, .null), (3, .ref (b + 40)), (2, .int 0), (0, .ref (b + 0)), (1, .ref (b + 40))]) B dX8_goOn_87 (by decide) rfl ?_
  refine z_aload_n B dX8_goOn_89 rfl 1 rfl ?_
  refine gf_X8_249 (x := (some (b + 41))) B (lKA (hk_K hK 40 rfl rfl)) (rR_at 40 2 hR_40_2) dX8_goOn_90 ?_
  refine z_aload_n B dX8_goOn_93 rfl 1 rfl ?_
  refine gf_X8_179 (x := (some (b + 37))) B (lKA (hk_K hK 40 rfl rfl)) (rR_at 40 1 hR_40_1) dX8_goOn_94 ?_
  refine z_cVi (As := []) (rest := [.ref (b + 41)]) B cw_X8_183 cx_2 dX8_goOn_97 (ci_X1_size_685 l (σ := (ap b σ [(37, 2, 2), (38, 1, 13), (41, 16, 13), (41, 7, 1), (41, 5, 1), (5, 2, 1)] [(39, 1, ((10 * (w1.toInt64)) + 1)), (41, 17, ((10 * (w1.toInt64)) + 1))] [(6, 0, (some (b + 40)))])) (b := b) (lyA hK) (rI_at 37 2 rfl)) (lKA (hk_K hK 37 rfl rfl)) rfl (by decide) rfl (Nat.le_of_ble_eq_true rfl) (by decide) (fun r u hu => ?_)
  refine z_eqs (σ' := (ap b σ [(37, 2, 2), (38, 1, 13), (41, 16, 13), (41, 7, 1), (41, 5, 1), (5, 2, 1)] [(39, 1, ((10 * (w1.toInt64)) + 1)), (41, 17, ((10 * (w1.toInt64)) + 1))] [(6, 0, (some (b + 40)))])) hu.2 ?_
  show zx p l e _ s m _ below meth c g 5 0 0 _ _ 100 [(4, .null), (3, .ref (b + 40)), (2, .int 0), (0, .ref (b + 0)), (1, .ref (b + 40))] _
  refine z_seti (y := 2) hu.1 ?_
  refine z_cVv (As := [.int 2]) (rest := []) B cw_X8_289 cx_6 dX8_goOn_100 (ci_X5_advance_690 l (σ := (ap b σ [(37, 2, 2), (38, 1, 13), (41, 16, 13), (41, 7, 1), (41, 5, 1), (5, 2, 1)] [(39, 1, ((10 * (w1.toInt64)) + 1)), (41, 17, ((10 * (w1.toInt64)) + 1))] [(6, 0, (some (b + 40)))])) (b := b) (lyA hK) ((10 * (w1.toInt64)) + 1) (iv_ladd (c := 1) (n := 1) rfl (iv_lmul (c := 10) (n := 10) rfl (by decide) (iv_i2l q1_w1 q2_w1).1 (iv_i2l q1_w1 q2_w1).2 (by decide) (by decide)).1 (iv_lmul (c := 10) (n := 10) rfl (by decide) (iv_i2l q1_w1 q2_w1).1 (iv_i2l q1_w1 q2_w1).2 (by decide) (by decide)).2 (by decide) (by decide)).1 (iv_ladd (c := 1) (n := 1) rfl (iv_lmul (c := 10) (n := 10) rfl (by decide) (iv_i2l q1_w1 q2_w1).1 (iv_i2l q1_w1 q2_w1).2 (by decide) (by decide)).1 (iv_lmul (c := 10) (n := 10) rfl (by decide) (iv_i2l q1_w1 q2_w1).1 (iv_i2l q1_w1 q2_w1).2 (by decide) (by decide)).2 (by decide) (by decide)).2 (rI_at 37 2 rfl) (rI_at 38 1 rfl) (rI_at 41 4 hI_41_4) (rI_at 41 16 rfl) (rI_at 41 19 hI_41_19) (rJ_at 39 1 rfl) (rJ_at 41 17 rfl) (rR_at 37 0 hR_37_0) (rR_at 37 1 hR_37_1) (rR_at 41 3 hR_41_3)) (lKA (hk_K hK 41 rfl rfl)) rfl (by decide) rfl (Nat.le_of_ble_eq_true rfl) (by decide) (fun u hu => ?_)
  refine z_eqs (σ' := (ap b σ [(41, 19, 0), (41, 15, 1), (41, 4, 2), (41, 16, (-1)), (37, 2, 2), (38, 1, 13), (41, 16, 13), (41, 7, 1), (41, 5, 1), (5, 2, 1)] [(39, 1, ((10 * (w1.toInt64)) + 1)), (41, 17, ((10 * (w1.toInt64)) + 1))] [(6, 0, (some (b + 40)))])) (hu.trans ap_ap) ?_
  show zx p l e _ s m _ below meth c g 5 0 0 _ _ 103 [(4, .null), (3, .ref (b + 40)), (2, .int 0), (0, .ref (b + 0)), (1, .ref (b + 40))] _
  refine z_aload_n B dX8_goOn_103 rfl 3 rfl ?_
  refine gf_X8_35 (x := (some (b + 5))) B (lKA (hk_K hK 0 rfl rfl)) (rR_at 0 4 hR_0_4) dX8_goOn_104 ?_
  refine z_qload (r := none) B dX8_goOn_107 0 rfl ?_
  refine z_cVv (As := [.null]) (rest := []) B cw_X8_337 cx_3 dX8_goOn_109 (ci_X2_addLast_691 l (σ := (ap b σ [(41, 19, 0), (41, 15, 1), (41, 4, 2), (41, 16, (-1)), (37, 2, 2), (38, 1, 13), (41, 16, 13), (41, 7, 1), (41, 5, 1), (5, 2, 1)] [(39, 1, ((10 * (w1.toInt64)) + 1)), (41, 17, ((10 * (w1.toInt64)) + 1))] [(6, 0, (some (b + 40)))])) (b := b) (lyA hK) ) (lKA (hk_K hK 5 rfl rfl)) rfl (by decide) rfl (Nat.le_of_ble_eq_true rfl) (by decide) (fun u hu => ?_)
  refine z_eqs (σ' := (ap b σ [(41, 19, 0), (41, 15, 1), (41, 4, 2), (41, 16, (-1)), (37, 2, 2), (38, 1, 13), (41, 16, 13), (41, 7, 1), (41, 5, 1), (5, 2, 1)] [(39, 1, ((10 * (w1.toInt64)) + 1)), (41, 17, ((10 * (w1.toInt64)) + 1))] [(6, 0, (some (b + 40)))])) hu ?_
  show zx p l e _ s m _ below meth c g 5 0 0 _ _ 112 [(4, .null), (3, .ref (b + 40)), (2, .int 0), (0, .ref (b + 0)), (1, .ref (b + 40))] _
  refine z_goto (tgt := 120) B dX8_goOn_112 (by decide) ?_
  refine z_iinc (v := 1) (lv' := [(2, .int 1), (4, .null), (3, .ref (b + 40)), (0, .ref (b + 0)), (1, .ref (b + 40))]) B dX8_goOn_120 2 rfl (by decide) (by decide) rfl ?_
  refine z_goto (tgt := 10) B dX8_goOn_123 (by decide) ?_
  refine z_iload_n B dX8_goOn_10 rfl 0 rfl ?_
  refine z_ldcw (v := 1000000) B dX8_goOn_11 wg_515 ?_
  refine z_icmp_ge (tgt := 126) B dX8_goOn_14 (by decide) (fun h => absurd h (by decide)) (fun _ => ?_)
  refine z_aload_n B dX8_goOn_17 rfl 3 rfl ?_
  refine gf_X8_35 (x := (some (b + 5))) B (lKA (hk_K hK 0 rfl rfl)) (rR_at 0 4 hR_0_4) dX8_goOn_18 ?_
  refine z_cVi (As := []) (rest := []) B cw_X8_341 cx_3 dX8_goOn_21 (ci_X2_isEmpty_668 l (σ := (ap b σ [(41, 19, 0), (41, 15, 1), (41, 4, 2), (41, 16, (-1)), (37, 2, 2), (38, 1, 13), (41, 16, 13), (41, 7, 1), (41, 5, 1), (5, 2, 1)] [(39, 1, ((10 * (w1.toInt64)) + 1)), (41, 17, ((10 * (w1.toInt64)) + 1))] [(6, 0, (some (b + 40)))])) (b := b) (lyA hK) (rI_at 5 1 hI_5_1) (rI_at 5 2 rfl)) (lKA (hk_K hK 5 rfl rfl)) rfl (by decide) rfl (Nat.le_of_ble_eq_true rfl) (by decide) (fun r u hu => ?_)
  refine z_eqs (σ' := (ap b σ [(41, 19, 0), (41, 15, 1), (41, 4, 2), (41, 16, (-1)), (37, 2, 2), (38, 1, 13), (41, 16, 13), (41, 7, 1), (41, 5, 1), (5, 2, 1)] [(39, 1, ((10 * (w1.toInt64)) + 1)), (41, 17, ((10 * (w1.toInt64)) + 1))] [(6, 0, (some (b + 40)))])) hu.2 ?_
  show zx p l e _ s m _ below meth c g 5 0 0 _ _ 24 [(2, .int 1), (4, .null), (3, .ref (b + 40)), (0, .ref (b + 0)), (1, .ref (b + 40))] _
  refine z_seti (y := 0) hu.1 ?_
  refine z_if_eq (tgt := 41) B dX8_goOn_24 (by decide) (fun _ => ?_) (fun h => absurd (by decide) h)
  refine z_aload_n B dX8_goOn_41 rfl 3 rfl ?_
  refine gf_X8_35 (x := (some (b + 5))) B (lKA (hk_K hK 0 rfl rfl)) (rR_at 0 4 hR_0_4) dX8_goOn_42 ?_
  refine z_cVq (As := []) (rest := []) B cw_X8_348 cx_3 dX8_goOn_45 (ci_X2_last_669 l (σ := (ap b σ [(41, 19, 0), (41, 15, 1), (41, 4, 2), (41, 16, (-1)), (37, 2, 2), (38, 1, 13), (41, 16, 13), (41, 7, 1), (41, 5, 1), (5, 2, 1)] [(39, 1, ((10 * (w1.toInt64)) + 1)), (41, 17, ((10 * (w1.toInt64)) + 1))] [(6, 0, (some (b + 40)))])) (b := b) (lyA hK) (rI_at 5 1 hI_5_1) (rI_at 5 2 rfl) (rR_at 5 0 hR_5_0) (rR_at 6 0 rfl)) (lKA (hk_K hK 5 rfl rfl)) rfl (by decide) rfl (Nat.le_of_ble_eq_true rfl) (by decide) (fun r u hu => ?_)
  refine z_eqs (σ' := (ap b σ [(41, 19, 0), (41, 15, 1), (41, 4, 2), (41, 16, (-1)), (37, 2, 2), (38, 1, 13), (41, 16, 13), (41, 7, 1), (41, 5, 1), (5, 2, 1)] [(39, 1, ((10 * (w1.toInt64)) + 1)), (41, 17, ((10 * (w1.toInt64)) + 1))] [(6, 0, (some (b + 40)))])) hu.2 ?_
  show zx p l e _ s m _ below meth c g 5 0 0 _ _ 48 [(2, .int 1), (4, .null), (3, .ref (b + 40)), (0, .ref (b + 0)), (1, .ref (b + 40))] _
  refine z_setr (y := (some (b + 40))) hu.1 ?_
  refine z_astore_n (lv' := [(3, .ref (b + 40)), (2, .int 1), (4, .null), (0, .ref (b + 0)), (1, .ref (b + 40))]) B dX8_goOn_48 rfl (by decide) rfl ?_
  refine z_aload_n B dX8_goOn_49 rfl 0 rfl ?_
  refine z_ifnonnull (r := (some (b + 40))) (tgt := 54) B dX8_goOn_50 (by decide) (fun _ _ => ?_) (fun h => nomatch h)
  refine z_aload_n B dX8_goOn_54 rfl 0 rfl ?_
  refine gf_X8_249 (x := (some (b + 41))) B (lKA (hk_K hK 40 rfl rfl)) (rR_at 40 2 hR_40_2) dX8_goOn_55 ?_
  refine z_aload_n B dX8_goOn_58 rfl 0 rfl ?_
  refine gf_X8_179 (x := (some (b + 37))) B (lKA (hk_K hK 40 rfl rfl)) (rR_at 40 1 hR_40_1) dX8_goOn_59 ?_
  refine z_cVi (As := []) (rest := [.ref (b + 41)]) B cw_X8_183 cx_2 dX8_goOn_62 (ci_X1_size_685 l (σ := (ap b σ [(41, 19, 0), (41, 15, 1), (41, 4, 2), (41, 16, (-1)), (37, 2, 2), (38, 1, 13), (41, 16, 13), (41, 7, 1), (41, 5, 1), (5, 2, 1)] [(39, 1, ((10 * (w1.toInt64)) + 1)), (41, 17, ((10 * (w1.toInt64)) + 1))] [(6, 0, (some (b + 40)))])) (b := b) (lyA hK) (rI_at 37 2 rfl)) (lKA (hk_K hK 37 rfl rfl)) rfl (by decide) rfl (Nat.le_of_ble_eq_true rfl) (by decide) (fun r u hu => ?_)
  refine z_eqs (σ' := (ap b σ [(41, 19, 0), (41, 15, 1), (41, 4, 2), (41, 16, (-1)), (37, 2, 2), (38, 1, 13), (41, 16, 13), (41, 7, 1), (41, 5, 1), (5, 2, 1)] [(39, 1, ((10 * (w1.toInt64)) + 1)), (41, 17, ((10 * (w1.toInt64)) + 1))] [(6, 0, (some (b + 40)))])) hu.2 ?_
  show zx p l e _ s m _ below meth c g 5 0 0 _ _ 65 [(3, .ref (b + 40)), (2, .int 1), (4, .null), (0, .ref (b + 0)), (1, .ref (b + 40))] _
  refine z_seti (y := 2) hu.1 ?_
  refine z_cVv (As := [.int 2]) (rest := []) B cw_X8_289 cx_6 dX8_goOn_65 (ci_X5_advance_692 l (σ := (ap b σ [(41, 19, 0), (41, 15, 1), (41, 4, 2), (41, 16, (-1)), (37, 2, 2), (38, 1, 13), (41, 16, 13), (41, 7, 1), (41, 5, 1), (5, 2, 1)] [(39, 1, ((10 * (w1.toInt64)) + 1)), (41, 17, ((10 * (w1.toInt64)) + 1))] [(6, 0, (some (b + 40)))])) (b := b) (lyA hK) (rI_at 41 4 rfl) (rI_at 41 15 rfl) (rI_at 41 16 rfl) (rI_at 41 19 rfl)) (lKA (hk_K hK 41 rfl rfl)) rfl (by decide) rfl (Nat.le_of_ble_eq_true rfl) (by decide) (fun u hu => ?_)
  refine z_eqs (σ' := (ap b σ [(41, 19, 0), (41, 19, 0), (41, 15, 1), (41, 4, 2), (41, 16, (-1)), (37, 2, 2), (38, 1, 13), (41, 16, 13), (41, 7, 1), (41, 5, 1), (5, 2, 1)] [(39, 1, ((10 * (w1.toInt64)) + 1)), (41, 17, ((10 * (w1.toInt64)) + 1))] [(6, 0, (some (b + 40)))])) (hu.trans ap_ap) ?_
  show zx p l e _ s m _ below meth c g 5 0 0 _ _ 68 [(3, .ref (b + 40)), (2, .int 1), (4, .null), (0, .ref (b + 0)), (1, .ref (b + 40))] _
  refine z_aload_n B dX8_goOn_68 rfl 0 rfl ?_
  refine z_cVv (As := []) (rest := []) B cw_X8_351 cx_1 dX8_goOn_69 (ci_X0_letGo_679 l (σ := (ap b σ [(41, 19, 0), (41, 19, 0), (41, 15, 1), (41, 4, 2), (41, 16, (-1)), (37, 2, 2), (38, 1, 13), (41, 16, 13), (41, 7, 1), (41, 5, 1), (5, 2, 1)] [(39, 1, ((10 * (w1.toInt64)) + 1)), (41, 17, ((10 * (w1.toInt64)) + 1))] [(6, 0, (some (b + 40)))])) (b := b) (lyA hK) (rR_at 40 7 hR_40_7)) (lKA (hk_K hK 40 rfl rfl)) rfl (by decide) rfl (Nat.le_of_ble_eq_true rfl) (by decide) (fun u hu => ?_)
  refine z_eqs (σ' := (ap b σ [(41, 19, 0), (41, 19, 0), (41, 15, 1), (41, 4, 2), (41, 16, (-1)), (37, 2, 2), (38, 1, 13), (41, 16, 13), (41, 7, 1), (41, 5, 1), (5, 2, 1)] [(39, 1, ((10 * (w1.toInt64)) + 1)), (41, 17, ((10 * (w1.toInt64)) + 1))] [(6, 0, (some (b + 40)))])) hu ?_
  show zx p l e _ s m _ below meth c g 5 0 0 _ _ 72 [(3, .ref (b + 40)), (2, .int 1), (4, .null), (0, .ref (b + 0)), (1, .ref (b + 40))] _
  refine z_aload_n B dX8_goOn_72 rfl 0 rfl ?_
  refine gf_X8_249 (x := (some (b + 41))) B (lKA (hk_K hK 40 rfl rfl)) (rR_at 40 2 hR_40_2) dX8_goOn_73 ?_
  refine z_cVi (As := []) (rest := []) B cw_X8_354 cx_6 dX8_goOn_76 (ci_X5_wantsEvent_693 l (σ := (ap b σ [(41, 19, 0), (41, 19, 0), (41, 15, 1), (41, 4, 2), (41, 16, (-1)), (37, 2, 2), (38, 1, 13), (41, 16, 13), (41, 7, 1), (41, 5, 1), (5, 2, 1)] [(39, 1, ((10 * (w1.toInt64)) + 1)), (41, 17, ((10 * (w1.toInt64)) + 1))] [(6, 0, (some (b + 40)))])) (b := b) (lyA hK) (rI_at 41 16 rfl) (rI_at 41 19 rfl)) (lKA (hk_K hK 41 rfl rfl)) rfl (by decide) rfl (Nat.le_of_ble_eq_true rfl) (by decide) (fun r u hu => ?_)
  refine z_eqs (σ' := (ap b σ [(41, 19, 0), (41, 19, 0), (41, 15, 1), (41, 4, 2), (41, 16, (-1)), (37, 2, 2), (38, 1, 13), (41, 16, 13), (41, 7, 1), (41, 5, 1), (5, 2, 1)] [(39, 1, ((10 * (w1.toInt64)) + 1)), (41, 17, ((10 * (w1.toInt64)) + 1))] [(6, 0, (some (b + 40)))])) hu.2 ?_
  show zx p l e _ s m _ below meth c g 5 0 0 _ _ 79 [(3, .ref (b + 40)), (2, .int 1), (4, .null), (0, .ref (b + 0)), (1, .ref (b + 40))] _
  refine z_seti (y := 0) hu.1 ?_
  refine z_if_eq (tgt := 115) B dX8_goOn_79 (by decide) (fun _ => ?_) (fun h => absurd (by decide) h)
  refine z_aload_n B dX8_goOn_115 rfl 3 rfl ?_
  refine z_aload_n B dX8_goOn_116 rfl 0 rfl ?_
  refine z_cVv (As := [.ref (b + 40)]) (rest := []) B cw_X8_361 cx_9 dX8_goOn_117 (ci_X8_leave_695 l (σ := (ap b σ [(41, 19, 0), (41, 19, 0), (41, 15, 1), (41, 4, 2), (41, 16, (-1)), (37, 2, 2), (38, 1, 13), (41, 16, 13), (41, 7, 1), (41, 5, 1), (5, 2, 1)] [(39, 1, ((10 * (w1.toInt64)) + 1)), (41, 17, ((10 * (w1.toInt64)) + 1))] [(6, 0, (some (b + 40)))])) (b := b) (lyA hK) (rI_at 5 1 hI_5_1) (rI_at 5 2 rfl) (rI_at 37 2 rfl) (rI_at 40 8 hI_40_8) (rI_at 41 18 hI_41_18) (rI_at 41 19 rfl) (rR_at 0 4 hR_0_4) (rR_at 40 1 hR_40_1) (rR_at 40 2 hR_40_2)) (lKA (hk_K hK 0 rfl rfl)) rfl (by decide) rfl (Nat.le_of_ble_eq_true rfl) (by decide) (fun u hu => ?_)
  refine z_eqs (σ' := (ap b σ [(40, 8, 2), (5, 2, 0), (41, 19, 0), (41, 19, 0), (41, 15, 1), (41, 4, 2), (41, 16, (-1)), (37, 2, 2), (38, 1, 13), (41, 16, 13), (41, 7, 1), (41, 5, 1), (5, 2, 1)] [(39, 1, ((10 * (w1.toInt64)) + 1)), (41, 17, ((10 * (w1.toInt64)) + 1))] [(6, 0, (some (b + 40)))])) (hu.trans ap_ap) ?_
  show zx p l e _ s m _ below meth c g 5 0 0 _ _ 120 [(3, .ref (b + 40)), (2, .int 1), (4, .null), (0, .ref (b + 0)), (1, .ref (b + 40))] _
  refine z_iinc (v := 2) (lv' := [(2, .int 2), (3, .ref (b + 40)), (4, .null), (0, .ref (b + 0)), (1, .ref (b + 40))]) B dX8_goOn_120 1 rfl (by decide) (by decide) rfl ?_
  refine z_goto (tgt := 10) B dX8_goOn_123 (by decide) ?_
  refine z_iload_n B dX8_goOn_10 rfl 0 rfl ?_
  refine z_ldcw (v := 1000000) B dX8_goOn_11 wg_515 ?_
  refine z_icmp_ge (tgt := 126) B dX8_goOn_14 (by decide) (fun h => absurd h (by decide)) (fun _ => ?_)
  refine z_aload_n B dX8_goOn_17 rfl 3 rfl ?_
  refine gf_X8_35 (x := (some (b + 5))) B (lKA (hk_K hK 0 rfl rfl)) (rR_at 0 4 hR_0_4) dX8_goOn_18 ?_
  refine z_cVi (As := []) (rest := []) B cw_X8_341 cx_3 dX8_goOn_21 (ci_X2_isEmpty_696 l (σ := (ap b σ [(40, 8, 2), (5, 2, 0), (41, 19, 0), (41, 19, 0), (41, 15, 1), (41, 4, 2), (41, 16, (-1)), (37, 2, 2), (38, 1, 13), (41, 16, 13), (41, 7, 1), (41, 5, 1), (5, 2, 1)] [(39, 1, ((10 * (w1.toInt64)) + 1)), (41, 17, ((10 * (w1.toInt64)) + 1))] [(6, 0, (some (b + 40)))])) (b := b) (lyA hK) (rI_at 5 1 hI_5_1) (rI_at 5 2 rfl)) (lKA (hk_K hK 5 rfl rfl)) rfl (by decide) rfl (Nat.le_of_ble_eq_true rfl) (by decide) (fun r u hu => ?_)
  refine z_eqs (σ' := (ap b σ [(40, 8, 2), (5, 2, 0), (41, 19, 0), (41, 19, 0), (41, 15, 1), (41, 4, 2), (41, 16, (-1)), (37, 2, 2), (38, 1, 13), (41, 16, 13), (41, 7, 1), (41, 5, 1), (5, 2, 1)] [(39, 1, ((10 * (w1.toInt64)) + 1)), (41, 17, ((10 * (w1.toInt64)) + 1))] [(6, 0, (some (b + 40)))])) hu.2 ?_
  show zx p l e _ s m _ below meth c g 5 0 0 _ _ 24 [(2, .int 2), (3, .ref (b + 40)), (4, .null), (0, .ref (b + 0)), (1, .ref (b + 40))] _
  refine z_seti (y := 1) hu.1 ?_
  refine z_if_eq (tgt := 41) B dX8_goOn_24 (by decide) (fun h => absurd h (by decide)) (fun _ => ?_)
  refine z_aload_n B dX8_goOn_27 rfl 3 rfl ?_
  refine gf_X8_35 (x := (some (b + 5))) B (lKA (hk_K hK 0 rfl rfl)) (rR_at 0 4 hR_0_4) dX8_goOn_28 ?_
  refine z_aload_n B dX8_goOn_31 rfl 3 rfl ?_
  refine gf_X8_39 (x := (some (b + 7))) B (lKA (hk_K hK 0 rfl rfl)) (rR_at 0 5 hR_0_5) dX8_goOn_32 ?_
  refine z_cVq (As := []) (rest := [.ref (b + 5)]) B cw_X8_344 cx_3 dX8_goOn_35 (ci_X2_removeFirst_697 l (σ := (ap b σ [(40, 8, 2), (5, 2, 0), (41, 19, 0), (41, 19, 0), (41, 15, 1), (41, 4, 2), (41, 16, (-1)), (37, 2, 2), (38, 1, 13), (41, 16, 13), (41, 7, 1), (41, 5, 1), (5, 2, 1)] [(39, 1, ((10 * (w1.toInt64)) + 1)), (41, 17, ((10 * (w1.toInt64)) + 1))] [(6, 0, (some (b + 40)))])) (b := b) (lyA hK) (rI_at 7 1 hI_7_1) (rI_at 7 2 hI_7_2)) (lKA (hk_K hK 7 rfl rfl)) rfl (by decide) rfl (Nat.le_of_ble_eq_true rfl) (by decide) (fun r u hu => ?_)
  refine z_eqs (σ' := (ap b σ [(7, 2, 0), (7, 1, 0), (40, 8, 2), (5, 2, 0), (41, 19, 0), (41, 19, 0), (41, 15, 1), (41, 4, 2), (41, 16, (-1)), (37, 2, 2), (38, 1, 13), (41, 16, 13), (41, 7, 1), (41, 5, 1), (5, 2, 1)] [(39, 1, ((10 * (w1.toInt64)) + 1)), (41, 17, ((10 * (w1.toInt64)) + 1))] [(6, 0, (some (b + 40)))])) (hu.2.trans ap_ap) ?_
  show zx p l e _ s m _ below meth c g 5 0 0 _ _ 38 [(2, .int 2), (3, .ref (b + 40)), (4, .null), (0, .ref (b + 0)), (1, .ref (b + 40))] _
  refine z_setr (y := none) hu.1 ?_
  refine z_cVv (As := [.null]) (rest := []) B cw_X8_337 cx_3 dX8_goOn_38 (ci_X2_addLast_691 l (σ := (ap b σ [(7, 2, 0), (7, 1, 0), (40, 8, 2), (5, 2, 0), (41, 19, 0), (41, 19, 0), (41, 15, 1), (41, 4, 2), (41, 16, (-1)), (37, 2, 2), (38, 1, 13), (41, 16, 13), (41, 7, 1), (41, 5, 1), (5, 2, 1)] [(39, 1, ((10 * (w1.toInt64)) + 1)), (41, 17, ((10 * (w1.toInt64)) + 1))] [(6, 0, (some (b + 40)))])) (b := b) (lyA hK) ) (lKA (hk_K hK 5 rfl rfl)) rfl (by decide) rfl (Nat.le_of_ble_eq_true rfl) (by decide) (fun u hu => ?_)
  refine z_eqs (σ' := (ap b σ [(7, 2, 0), (7, 1, 0), (40, 8, 2), (5, 2, 0), (41, 19, 0), (41, 19, 0), (41, 15, 1), (41, 4, 2), (41, 16, (-1)), (37, 2, 2), (38, 1, 13), (41, 16, 13), (41, 7, 1), (41, 5, 1), (5, 2, 1)] [(39, 1, ((10 * (w1.toInt64)) + 1)), (41, 17, ((10 * (w1.toInt64)) + 1))] [(6, 0, (some (b + 40)))])) hu ?_
  show zx p l e _ s m _ below meth c g 5 0 0 _ _ 41 [(2, .int 2), (3, .ref (b + 40)), (4, .null), (0, .ref (b + 0)), (1, .ref (b + 40))] _
  refine z_aload_n B dX8_goOn_41 rfl 3 rfl ?_
  refine gf_X8_35 (x := (some (b + 5))) B (lKA (hk_K hK 0 rfl rfl)) (rR_at 0 4 hR_0_4) dX8_goOn_42 ?_
  refine z_cVq (As := []) (rest := []) B cw_X8_348 cx_3 dX8_goOn_45 (ci_X2_last_698 l (σ := (ap b σ [(7, 2, 0), (7, 1, 0), (40, 8, 2), (5, 2, 0), (41, 19, 0), (41, 19, 0), (41, 15, 1), (41, 4, 2), (41, 16, (-1)), (37, 2, 2), (38, 1, 13), (41, 16, 13), (41, 7, 1), (41, 5, 1), (5, 2, 1)] [(39, 1, ((10 * (w1.toInt64)) + 1)), (41, 17, ((10 * (w1.toInt64)) + 1))] [(6, 0, (some (b + 40)))])) (b := b) (lyA hK) (rI_at 5 1 hI_5_1) (rI_at 5 2 rfl)) (lKA (hk_K hK 5 rfl rfl)) rfl (by decide) rfl (Nat.le_of_ble_eq_true rfl) (by decide) (fun r u hu => ?_)
  refine z_eqs (σ' := (ap b σ [(7, 2, 0), (7, 1, 0), (40, 8, 2), (5, 2, 0), (41, 19, 0), (41, 19, 0), (41, 15, 1), (41, 4, 2), (41, 16, (-1)), (37, 2, 2), (38, 1, 13), (41, 16, 13), (41, 7, 1), (41, 5, 1), (5, 2, 1)] [(39, 1, ((10 * (w1.toInt64)) + 1)), (41, 17, ((10 * (w1.toInt64)) + 1))] [(6, 0, (some (b + 40)))])) hu.2 ?_
  show zx p l e _ s m _ below meth c g 5 0 0 _ _ 48 [(2, .int 2), (3, .ref (b + 40)), (4, .null), (0, .ref (b + 0)), (1, .ref (b + 40))] _
  refine z_setr (y := none) hu.1 ?_
  refine z_qstore_n (r := none) (lv' := [(3, .null), (2, .int 2), (4, .null), (0, .ref (b + 0)), (1, .ref (b + 40))]) B dX8_goOn_48 rfl (by decide) rfl ?_
  refine z_qload_n (r := none) B dX8_goOn_49 rfl 0 rfl ?_
  refine z_ifnonnull (r := none) (tgt := 54) B dX8_goOn_50 (by decide) (fun a h => nomatch h) (fun _ => ?_)
  exact z_vret B hr (by decide) (by decide) dX8_goOn_53 rfl
set_option maxRecDepth 100000 in
set_option maxHeartbeats 4000000 in
theorem ci_X8_start_700 (l : Launch) {g : gx_T} {σ : sx_T} {b : Nat} (hK : lay b σ) (w1 : Int32) (q1_w1 : (-999 : Int) ≤ w1.toInt) (q2_w1 : w1.toInt ≤ (-1 : Int)) (hI_0_7 : sx_I σ (b + 0) 7 = 0) (hI_5_1 : sx_I σ (b + 5) 1 = 0) (hI_5_2 : sx_I σ (b + 5) 2 = 0) (hI_7_1 : sx_I σ (b + 7) 1 = 0) (hI_7_2 : sx_I σ (b + 7) 2 = 0) (hI_10_0 : sx_I σ (b + 10) 0 = 0) (hI_11_0 : sx_I σ (b + 11) 0 = 0) (hI_12_0 : sx_I σ (b + 12) 0 = 0) (hI_37_2 : sx_I σ (b + 37) 2 = 0) (hI_40_0 : sx_I σ (b + 40) 0 = 0) (hI_40_8 : sx_I σ (b + 40) 8 = 0) (hR_0_0 : sx_R σ (b + 0) 0 = (some (b + 1))) (hR_0_2 : sx_R σ (b + 0) 2 = (some (b + 3))) (hR_0_4 : sx_R σ (b + 0) 4 = (some (b + 5))) (hR_0_5 : sx_R σ (b + 0) 5 = (some (b + 7))) (hR_1_0 : sx_R σ (b + 1) 0 = (some (b + 9))) (hR_3_0 : sx_R σ (b + 3) 0 = (some (b + 40))) (hR_5_0 : sx_R σ (b + 5) 0 = (some (b + 6))) (hR_9_1 : sx_R σ (b + 9) 1 = (some (b + 10))) (hR_9_2 : sx_R σ (b + 9) 2 = (some (b + 11))) (hR_9_3 : sx_R σ (b + 9) 3 = (some (b + 12))) (hR_37_0 : sx_R σ (b + 37) 0 = (some (b + 38))) (hR_37_1 : sx_R σ (b + 37) 1 = (some (b + 39))) (hR_40_1 : sx_R σ (b + 40) 1 = (some (b + 37))) (hR_40_2 : sx_R σ (b + 40) 2 = (some (b + 41))) (hR_40_7 : sx_R σ (b + 40) 7 = none) (hR_41_0 : sx_R σ (b + 41) 0 = (some (b + 42))) (hR_41_1 : sx_R σ (b + 41) 1 = (some (b + 44))) : Met l yX8_start (.code yX8_start cX8_start 5 (some .int) :: lw_g) { frames := 4, cells := 0, slots := 0, locals := 96 } (va_Pc [.ref (b + 0), .int 0, .int w1] (zx_w g σ)) (va_Qi (fun r u => r = 0 ∧ u = (ap b σ [(7, 2, 0), (7, 1, 0), (40, 8, 2), (5, 2, 0), (41, 19, 0), (41, 19, 0), (41, 15, 1), (41, 4, 2), (41, 16, (-1)), (37, 2, 2), (38, 1, 13), (41, 16, 13), (41, 7, 1), (41, 5, 1), (5, 2, 1), (41, 19, 0), (41, 18, (-1)), (41, 16, (-1)), (41, 15, 0), (41, 14, 0), (41, 13, 0), (41, 12, 0), (41, 10, (-1)), (41, 9, (-1)), (41, 8, 0), (41, 7, 0), (41, 6, ((w1.toInt64).toInt32)), (41, 5, 0), (41, 4, 1), (44, 1, 0), (42, 1, 0), (37, 2, 1), (38, 0, 0), (40, 5, 0), (40, 4, (-1)), (0, 7, 1)] [(39, 1, ((10 * (((w1.toInt64).toInt32).toInt64)) + 1)), (41, 17, ((10 * (((w1.toInt64).toInt32).toInt64)) + 1)), (41, 17, 0), (41, 11, 0), (39, 0, (w1.toInt64))] [(6, 0, (some (b + 40))), (41, 3, (some (b + 37))), (41, 2, (some (b + 9))), (40, 3, (some (b + 9)))])) (zx_w g) (gx_Q g)) 0 0 (gx_Q g) := by
  refine z_met (by decide) (Nat.le_of_ble_eq_true rfl) (fun p e s m below meth c B hr hin => ?_)
  refine z_eqs (σ' := (ap b σ [] [] [])) rfl ?_
  show zx p l e _ s m _ below meth c g 5 0 0 _ _ 0 [(0, .ref (b + 0)), (1, .int 0), (2, .int w1)] []
  refine z_aload_n B dX8_start_0 rfl 0 rfl ?_
  refine z_iload_n B dX8_start_1 rfl 1 rfl ?_
  refine z_cVq (As := [.int 0]) (rest := []) B cw_X8_64 cx_9 dX8_start_2 (ci_X8_programAt_50 l (σ := (ap b σ [] [] [])) (b := b) (lyA hK) (rR_at 0 0 hR_0_0) (rR_at 1 0 hR_1_0)) (lKA (hk_K hK 0 rfl rfl)) rfl (by decide) rfl (Nat.le_of_ble_eq_true rfl) (by decide) (fun r u hu => ?_)
  refine z_eqs (σ' := (ap b σ [] [] [])) hu.2 ?_
  show zx p l e _ s m _ below meth c g 5 0 0 _ _ 5 [(0, .ref (b + 0)), (1, .int 0), (2, .int w1)] _
  refine z_setr (y := (some (b + 9))) hu.1 ?_
  refine z_astore_n (lv' := [(3, .ref (b + 9)), (0, .ref (b + 0)), (1, .int 0), (2, .int w1)]) B dX8_start_5 rfl (by decide) rfl ?_
  refine z_aload_n B dX8_start_6 rfl 0 rfl ?_
  refine z_ifnonnull (r := (some (b + 9))) (tgt := 20) B dX8_start_7 (by decide) (fun _ _ => ?_) (fun h => nomatch h)
  refine z_iload_n B dX8_start_20 rfl 3 rfl ?_
  refine z_sipush (v := (-999)) B dX8_start_21 (by decide) ?_
  refine z_icmp_lt (tgt := 34) B dX8_start_24 (by decide) (fun h => absurd h (iv_nlt q1_w1 (by decide))) (fun _ => ?_)
  refine z_iload_n B dX8_start_27 rfl 3 rfl ?_
  refine z_sipush (v := 999) B dX8_start_28 (by decide) ?_
  refine z_icmp_le (tgt := 44) B dX8_start_31 (by decide) (fun _ => ?_) (fun h => absurd (iv_le q2_w1 (by decide)) h)
  refine z_aload_n B dX8_start_44 rfl 1 rfl ?_
  refine z_aload_n B dX8_start_45 rfl 0 rfl ?_
  refine z_iload_n B dX8_start_46 rfl 3 rfl ?_
  refine z_iconst (v := (-1)) B dX8_start_47 (by decide) ?_
  refine z_iconst (v := (-1)) B dX8_start_48 (by decide) ?_
  refine z_cVq (As := [.ref (b + 9), .int w1, .int (-1), .int (-1)]) (rest := []) B cw_X8_141 cx_9 dX8_start_49 (ci_X8_open_666 l (σ := (ap b σ [] [] [])) (b := b) (lyA hK) w1 (rI_at 0 7 hI_0_7) (rI_at 37 2 hI_37_2) (rI_at 40 0 hI_40_0) (rR_at 0 2 hR_0_2) (rR_at 3 0 hR_3_0) (rR_at 37 0 hR_37_0) (rR_at 37 1 hR_37_1) (rR_at 40 1 hR_40_1) (rR_at 40 2 hR_40_2) (rR_at 41 0 hR_41_0) (rR_at 41 1 hR_41_1)) (lKA (hk_K hK 0 rfl rfl)) rfl (by decide) rfl (Nat.le_of_ble_eq_true rfl) (by decide) (fun r u hu => ?_)
  refine z_eqs (σ' := (ap b σ [(41, 19, 0), (41, 18, (-1)), (41, 16, (-1)), (41, 15, 0), (41, 14, 0), (41, 13, 0), (41, 12, 0), (41, 10, (-1)), (41, 9, (-1)), (41, 8, 0), (41, 7, 0), (41, 6, ((w1.toInt64).toInt32)), (41, 5, 0), (41, 4, 1), (44, 1, 0), (42, 1, 0), (37, 2, 1), (38, 0, 0), (40, 5, 0), (40, 4, (-1)), (0, 7, 1)] [(41, 17, 0), (41, 11, 0), (39, 0, (w1.toInt64))] [(41, 3, (some (b + 37))), (41, 2, (some (b + 9))), (40, 3, (some (b + 9)))])) (hu.2.trans ap_ap) ?_
  show zx p l e _ s m _ below meth c g 5 0 0 _ _ 52 [(3, .ref (b + 9)), (0, .ref (b + 0)), (1, .int 0), (2, .int w1)] _
  refine z_setr (y := (some (b + 40))) hu.1 ?_
  refine z_astore (lv' := [(4, .ref (b + 40)), (3, .ref (b + 9)), (0, .ref (b + 0)), (1, .int 0), (2, .int w1)]) B dX8_start_52 (by decide) rfl ?_
  refine z_aload B dX8_start_54 0 rfl ?_
  refine z_ifnonnull (r := (some (b + 40))) (tgt := 69) B dX8_start_56 (by decide) (fun _ _ => ?_) (fun h => nomatch h)
  refine z_aload_n B dX8_start_69 rfl 2 rfl ?_
  refine z_aload B dX8_start_70 0 rfl ?_
  refine z_cVv (As := [.ref (b + 40)]) (rest := []) B cw_X8_111 cx_9 dX8_start_72 (ci_X8_goOn_699 l (σ := (ap b σ [(41, 19, 0), (41, 18, (-1)), (41, 16, (-1)), (41, 15, 0), (41, 14, 0), (41, 13, 0), (41, 12, 0), (41, 10, (-1)), (41, 9, (-1)), (41, 8, 0), (41, 7, 0), (41, 6, ((w1.toInt64).toInt32)), (41, 5, 0), (41, 4, 1), (44, 1, 0), (42, 1, 0), (37, 2, 1), (38, 0, 0), (40, 5, 0), (40, 4, (-1)), (0, 7, 1)] [(41, 17, 0), (41, 11, 0), (39, 0, (w1.toInt64))] [(41, 3, (some (b + 37))), (41, 2, (some (b + 9))), (40, 3, (some (b + 9)))])) (b := b) (lyA hK) ((w1.toInt64).toInt32) (iv_l2i (iv_i2l q1_w1 q2_w1).1 (iv_i2l q1_w1 q2_w1).2 (by decide) (by decide)).1 (iv_l2i (iv_i2l q1_w1 q2_w1).1 (iv_i2l q1_w1 q2_w1).2 (by decide) (by decide)).2 (rI_at 5 1 hI_5_1) (rI_at 5 2 hI_5_2) (rI_at 7 1 hI_7_1) (rI_at 7 2 hI_7_2) (rI_at 10 0 hI_10_0) (rI_at 11 0 hI_11_0) (rI_at 12 0 hI_12_0) (rI_at 37 2 rfl) (rI_at 40 4 rfl) (rI_at 40 8 hI_40_8) (rI_at 41 4 rfl) (rI_at 41 5 rfl) (rI_at 41 6 rfl) (rI_at 41 7 rfl) (rI_at 41 8 rfl) (rI_at 41 14 rfl) (rI_at 41 15 rfl) (rI_at 41 16 rfl) (rI_at 41 18 rfl) (rI_at 41 19 rfl) (rR_at 0 4 hR_0_4) (rR_at 0 5 hR_0_5) (rR_at 5 0 hR_5_0) (rR_at 9 1 hR_9_1) (rR_at 9 2 hR_9_2) (rR_at 9 3 hR_9_3) (rR_at 37 0 hR_37_0) (rR_at 37 1 hR_37_1) (rR_at 40 1 hR_40_1) (rR_at 40 2 hR_40_2) (rR_at 40 7 hR_40_7) (rR_at 41 2 rfl) (rR_at 41 3 rfl)) (lKA (hk_K hK 0 rfl rfl)) rfl (by decide) rfl (Nat.le_of_ble_eq_true rfl) (by decide) (fun u hu => ?_)
  refine z_eqs (σ' := (ap b σ [(7, 2, 0), (7, 1, 0), (40, 8, 2), (5, 2, 0), (41, 19, 0), (41, 19, 0), (41, 15, 1), (41, 4, 2), (41, 16, (-1)), (37, 2, 2), (38, 1, 13), (41, 16, 13), (41, 7, 1), (41, 5, 1), (5, 2, 1), (41, 19, 0), (41, 18, (-1)), (41, 16, (-1)), (41, 15, 0), (41, 14, 0), (41, 13, 0), (41, 12, 0), (41, 10, (-1)), (41, 9, (-1)), (41, 8, 0), (41, 7, 0), (41, 6, ((w1.toInt64).toInt32)), (41, 5, 0), (41, 4, 1), (44, 1, 0), (42, 1, 0), (37, 2, 1), (38, 0, 0), (40, 5, 0), (40, 4, (-1)), (0, 7, 1)] [(39, 1, ((10 * (((w1.toInt64).toInt32).toInt64)) + 1)), (41, 17, ((10 * (((w1.toInt64).toInt32).toInt64)) + 1)), (41, 17, 0), (41, 11, 0), (39, 0, (w1.toInt64))] [(6, 0, (some (b + 40))), (41, 3, (some (b + 37))), (41, 2, (some (b + 9))), (40, 3, (some (b + 9)))])) (hu.trans ap_ap) ?_
  show zx p l e _ s m _ below meth c g 5 0 0 _ _ 75 [(4, .ref (b + 40)), (3, .ref (b + 9)), (0, .ref (b + 0)), (1, .int 0), (2, .int w1)] _
  refine z_aload B dX8_start_75 0 rfl ?_
  refine gf_X8_150 (x := 0) B (lKA (hk_K hK 40 rfl rfl)) (rI_at 40 0 hI_40_0) dX8_start_77 ?_
  exact z_iret B hr (by decide) (by decide) dX8_start_80 ⟨rfl, rfl⟩
set_option maxRecDepth 100000 in
set_option maxHeartbeats 4000000 in
theorem ci_L_start_701 (l : Launch) {g : gx_T} {σ : sx_T} {b : Nat} (hK : lay b σ) (w1 : Int32) (q1_w1 : (-999 : Int) ≤ w1.toInt) (q2_w1 : w1.toInt ≤ (-1 : Int)) (hI_0_7 : sx_I σ (b + 0) 7 = 0) (hI_5_1 : sx_I σ (b + 5) 1 = 0) (hI_5_2 : sx_I σ (b + 5) 2 = 0) (hI_7_1 : sx_I σ (b + 7) 1 = 0) (hI_7_2 : sx_I σ (b + 7) 2 = 0) (hI_10_0 : sx_I σ (b + 10) 0 = 0) (hI_11_0 : sx_I σ (b + 11) 0 = 0) (hI_12_0 : sx_I σ (b + 12) 0 = 0) (hI_37_2 : sx_I σ (b + 37) 2 = 0) (hI_40_0 : sx_I σ (b + 40) 0 = 0) (hI_40_8 : sx_I σ (b + 40) 8 = 0) (hR_0_0 : sx_R σ (b + 0) 0 = (some (b + 1))) (hR_0_2 : sx_R σ (b + 0) 2 = (some (b + 3))) (hR_0_4 : sx_R σ (b + 0) 4 = (some (b + 5))) (hR_0_5 : sx_R σ (b + 0) 5 = (some (b + 7))) (hR_1_0 : sx_R σ (b + 1) 0 = (some (b + 9))) (hR_3_0 : sx_R σ (b + 3) 0 = (some (b + 40))) (hR_5_0 : sx_R σ (b + 5) 0 = (some (b + 6))) (hR_9_1 : sx_R σ (b + 9) 1 = (some (b + 10))) (hR_9_2 : sx_R σ (b + 9) 2 = (some (b + 11))) (hR_9_3 : sx_R σ (b + 9) 3 = (some (b + 12))) (hR_37_0 : sx_R σ (b + 37) 0 = (some (b + 38))) (hR_37_1 : sx_R σ (b + 37) 1 = (some (b + 39))) (hR_40_1 : sx_R σ (b + 40) 1 = (some (b + 37))) (hR_40_2 : sx_R σ (b + 40) 2 = (some (b + 41))) (hR_40_7 : sx_R σ (b + 40) 7 = none) (hR_41_0 : sx_R σ (b + 41) 0 = (some (b + 42))) (hR_41_1 : sx_R σ (b + 41) 1 = (some (b + 44))) : Met l yL_start (.codeWith yL_start cL_start 5 (some .int) [(0, 10, 13, 13), (0, 10, 17, 15), (0, 10, 21, 24)] :: lw_g) { frames := 5, cells := 0, slots := 0, locals := 120 } (va_Pc [.ref (b + 0), .int 0, .int w1, .ref (b + 431)] (zx_w g σ)) (va_Qi (fun r u => r = 0 ∧ u = (ap b σ [(7, 2, 0), (7, 1, 0), (40, 8, 2), (5, 2, 0), (41, 19, 0), (41, 19, 0), (41, 15, 1), (41, 4, 2), (41, 16, (-1)), (37, 2, 2), (38, 1, 13), (41, 16, 13), (41, 7, 1), (41, 5, 1), (5, 2, 1), (41, 19, 0), (41, 18, (-1)), (41, 16, (-1)), (41, 15, 0), (41, 14, 0), (41, 13, 0), (41, 12, 0), (41, 10, (-1)), (41, 9, (-1)), (41, 8, 0), (41, 7, 0), (41, 6, ((w1.toInt64).toInt32)), (41, 5, 0), (41, 4, 1), (44, 1, 0), (42, 1, 0), (37, 2, 1), (38, 0, 0), (40, 5, 0), (40, 4, (-1)), (0, 7, 1)] [(431, 0, 0), (39, 1, ((10 * (((w1.toInt64).toInt32).toInt64)) + 1)), (41, 17, ((10 * (((w1.toInt64).toInt32).toInt64)) + 1)), (41, 17, 0), (41, 11, 0), (39, 0, (w1.toInt64))] [(6, 0, (some (b + 40))), (41, 3, (some (b + 37))), (41, 2, (some (b + 9))), (40, 3, (some (b + 9)))])) (zx_w g) (gx_Q g)) 0 0 (gx_Q g) := by
  refine z_metW (by decide) (Nat.le_of_ble_eq_true rfl) (fun p e s m below meth c B hr htab => ?_)
  refine z_eqs (σ' := (ap b σ [] [] [])) rfl ?_
  show zx p l e _ s m _ below meth c g 5 0 0 _ _ 0 [(0, .ref (b + 0)), (1, .int 0), (2, .int w1), (3, .ref (b + 431))] []
  refine z_aload_n B dL_start_0 rfl 3 rfl ?_
  refine z_iconst (v := 0) B dL_start_1 (by decide) ?_
  refine z_aload_n B dL_start_2 rfl 0 rfl ?_
  refine z_iload_n B dL_start_3 rfl 1 rfl ?_
  refine z_iload_n B dL_start_4 rfl 2 rfl ?_
  refine z_cVi (As := [.int 0, .int w1]) (rest := [.int 0, .ref (b + 431)]) B cw_L_20 cx_9 dL_start_5 (ci_X8_start_700 l (σ := (ap b σ [] [] [])) (b := b) (lyA hK) w1 q1_w1 q2_w1 (rI_at 0 7 hI_0_7) (rI_at 5 1 hI_5_1) (rI_at 5 2 hI_5_2) (rI_at 7 1 hI_7_1) (rI_at 7 2 hI_7_2) (rI_at 10 0 hI_10_0) (rI_at 11 0 hI_11_0) (rI_at 12 0 hI_12_0) (rI_at 37 2 hI_37_2) (rI_at 40 0 hI_40_0) (rI_at 40 8 hI_40_8) (rR_at 0 0 hR_0_0) (rR_at 0 2 hR_0_2) (rR_at 0 4 hR_0_4) (rR_at 0 5 hR_0_5) (rR_at 1 0 hR_1_0) (rR_at 3 0 hR_3_0) (rR_at 5 0 hR_5_0) (rR_at 9 1 hR_9_1) (rR_at 9 2 hR_9_2) (rR_at 9 3 hR_9_3) (rR_at 37 0 hR_37_0) (rR_at 37 1 hR_37_1) (rR_at 40 1 hR_40_1) (rR_at 40 2 hR_40_2) (rR_at 40 7 hR_40_7) (rR_at 41 0 hR_41_0) (rR_at 41 1 hR_41_1)) (lKA (hk_K hK 0 rfl rfl)) rfl (by decide) rfl (Nat.le_of_ble_eq_true rfl) (by decide) (fun r u hu => ?_)
  refine z_eqs (σ' := (ap b σ [(7, 2, 0), (7, 1, 0), (40, 8, 2), (5, 2, 0), (41, 19, 0), (41, 19, 0), (41, 15, 1), (41, 4, 2), (41, 16, (-1)), (37, 2, 2), (38, 1, 13), (41, 16, 13), (41, 7, 1), (41, 5, 1), (5, 2, 1), (41, 19, 0), (41, 18, (-1)), (41, 16, (-1)), (41, 15, 0), (41, 14, 0), (41, 13, 0), (41, 12, 0), (41, 10, (-1)), (41, 9, (-1)), (41, 8, 0), (41, 7, 0), (41, 6, ((w1.toInt64).toInt32)), (41, 5, 0), (41, 4, 1), (44, 1, 0), (42, 1, 0), (37, 2, 1), (38, 0, 0), (40, 5, 0), (40, 4, (-1)), (0, 7, 1)] [(39, 1, ((10 * (((w1.toInt64).toInt32).toInt64)) + 1)), (41, 17, ((10 * (((w1.toInt64).toInt32).toInt64)) + 1)), (41, 17, 0), (41, 11, 0), (39, 0, (w1.toInt64))] [(6, 0, (some (b + 40))), (41, 3, (some (b + 37))), (41, 2, (some (b + 9))), (40, 3, (some (b + 9)))])) (hu.2.trans ap_ap) ?_
  show zx p l e _ s m _ below meth c g 5 0 0 _ _ 8 [(0, .ref (b + 0)), (1, .int 0), (2, .int w1), (3, .ref (b + 431))] _
  refine z_seti (y := 0) hu.1 ?_
  refine z_i2l (v := 0) B dL_start_8 (by decide) ?_
  refine z_last (j := 0) (σ' := (ap b σ [(7, 2, 0), (7, 1, 0), (40, 8, 2), (5, 2, 0), (41, 19, 0), (41, 19, 0), (41, 15, 1), (41, 4, 2), (41, 16, (-1)), (37, 2, 2), (38, 1, 13), (41, 16, 13), (41, 7, 1), (41, 5, 1), (5, 2, 1), (41, 19, 0), (41, 18, (-1)), (41, 16, (-1)), (41, 15, 0), (41, 14, 0), (41, 13, 0), (41, 12, 0), (41, 10, (-1)), (41, 9, (-1)), (41, 8, 0), (41, 7, 0), (41, 6, ((w1.toInt64).toInt32)), (41, 5, 0), (41, 4, 1), (44, 1, 0), (42, 1, 0), (37, 2, 1), (38, 0, 0), (40, 5, 0), (40, 4, (-1)), (0, 7, 1)] [(431, 0, 0), (39, 1, ((10 * (((w1.toInt64).toInt32).toInt64)) + 1)), (41, 17, ((10 * (((w1.toInt64).toInt32).toInt64)) + 1)), (41, 17, 0), (41, 11, 0), (39, 0, (w1.toInt64))] [(6, 0, (some (b + 40))), (41, 3, (some (b + 37))), (41, 2, (some (b + 9))), (40, 3, (some (b + 9)))])) B (lKA (hk_K hK 431 rfl rfl)) (by decide) (in_of (lNA (hk_N hK 431 rfl rfl)) (show ¬ ((0 : Int32) < 0 ∨ 1 ≤ (0 : Int32).toNatClampNeg) by decide)) wJ_ap dL_start_9 ?_
  refine z_goto (tgt := 25) B dL_start_10 (by decide) ?_
  refine z_iconst (v := 0) B dL_start_25 (by decide) ?_
  exact z_iret B hr (by decide) (by decide) dL_start_26 ⟨rfl, rfl⟩
