set_option maxRecDepth 100000 in
set_option maxHeartbeats 4000000 in
theorem ci_X9_begets_817 (l : Launch) {g : gx_T} {σ : sx_T} {b : Nat} (hK : lay b σ) (w1 : Int32)  (hI_405_6 : sx_I σ (b + 405) 6 = 0) (hI_413_0 : sx_I σ (b + 413) 0 = 0) (hR_405_7 : sx_R σ (b + 405) 7 = (some (b + 409))) (hR_405_8 : sx_R σ (b + 405) 8 = (some (b + 410))) (hR_405_9 : sx_R σ (b + 405) 9 = (some (b + 411))) (hR_405_11 : sx_R σ (b + 405) 11 = (some (b + 413))) (hR_405_13 : sx_R σ (b + 405) 13 = (some (b + 415))) (hR_405_14 : sx_R σ (b + 405) 14 = (some (b + 416))) (hR_405_15 : sx_R σ (b + 405) 15 = (some (b + 417))) : Met l yX9_begets (.code yX9_begets cX9_begets 6 (some .int) :: lw_g) { frames := 1, cells := 0, slots := 0, locals := 24 } (va_Pc [.ref (b + 405), .int 4, .int w1, .int (-1), .int (-1)] (zx_w g σ)) (va_Qi (fun r u => r = 0 ∧ u = (ap b σ [(413, 0, 1), (416, 0, 0), (415, 0, (-1)), (411, 0, 0), (410, 0, (-1)), (409, 0, 4), (405, 6, 1)] [(417, 0, (w1.toInt64))] [])) (zx_w g) (gx_Q g)) 0 0 (gx_Q g) := by
  refine z_met (by decide) (Nat.le_of_ble_eq_true rfl) (fun p e s m below meth c B hr hin => ?_)
  refine z_eqs (σ' := (ap b σ [] [] [])) rfl ?_
  show zx p l e _ s m _ below meth c g 6 0 0 _ _ 0 [(0, .ref (b + 405)), (1, .int 4), (2, .int w1), (3, .int (-1)), (4, .int (-1))] []
  refine z_aload_n B dX9_begets_0 rfl 0 rfl ?_
  refine gf_X9_93 (x := 0) B (lKA (hk_K hK 405 rfl rfl)) (rI_at 405 6 hI_405_6) dX9_begets_1 ?_
  refine z_bipush (v := 40) B dX9_begets_4 (by decide) ?_
  refine z_icmp_ne (tgt := 11) B dX9_begets_6 (by decide) (fun _ => ?_) (fun h => absurd h (by decide))
  refine z_aload_n B dX9_begets_11 rfl 0 rfl ?_
  refine gf_X9_93 (x := 0) B (lKA (hk_K hK 405 rfl rfl)) (rI_at 405 6 hI_405_6) dX9_begets_12 ?_
  refine z_istore (lv' := [(5, .int 0), (0, .ref (b + 405)), (1, .int 4), (2, .int w1), (3, .int (-1)), (4, .int (-1))]) B dX9_begets_15 (by decide) rfl ?_
  refine z_aload_n B dX9_begets_17 rfl 1 rfl ?_
  refine z_dup B dX9_begets_18 rfl ?_
  refine gf_X9_93 (x := 0) B (lKA (hk_K hK 405 rfl rfl)) (rI_at 405 6 hI_405_6) dX9_begets_19 ?_
  refine z_iconst (v := 1) B dX9_begets_22 (by decide) ?_
  refine z_iadd B dX9_begets_23 ?_
  refine z_seti (y := 1) (by decide) ?_
  refine pf_X9_93 (x := 1) (σ' := (ap b σ [(405, 6, 1)] [] [])) B (lKA (hk_K hK 405 rfl rfl)) wI_ap dX9_begets_24 ?_
  refine z_aload_n B dX9_begets_27 rfl 1 rfl ?_
  refine gf_X9_23 (x := (some (b + 409))) B (lKA (hk_K hK 405 rfl rfl)) (rR_at 405 7 hR_405_7) dX9_begets_28 ?_
  refine z_iload B dX9_begets_31 0 rfl ?_
  refine z_iload_n B dX9_begets_33 rfl 2 rfl ?_
  refine z_iast (j := 0) (σ' := (ap b σ [(409, 0, 4), (405, 6, 1)] [] [])) B (lKA (hk_K hK 409 rfl rfl)) (by decide) (in_of (lNA (hk_N hK 409 rfl rfl)) (show ¬ ((0 : Int32) < 0 ∨ 41 ≤ (0 : Int32).toNatClampNeg) by decide)) wI_ap dX9_begets_34 ?_
  refine z_aload_n B dX9_begets_35 rfl 1 rfl ?_
  refine gf_X9_26 (x := (some (b + 410))) B (lKA (hk_K hK 405 rfl rfl)) (rR_at 405 8 hR_405_8) dX9_begets_36 ?_
  refine z_iload B dX9_begets_39 0 rfl ?_
  refine z_iload_n B dX9_begets_41 rfl 4 rfl ?_
  refine z_iast (j := 0) (σ' := (ap b σ [(410, 0, (-1)), (409, 0, 4), (405, 6, 1)] [] [])) B (lKA (hk_K hK 410 rfl rfl)) (by decide) (in_of (lNA (hk_N hK 410 rfl rfl)) (show ¬ ((0 : Int32) < 0 ∨ 41 ≤ (0 : Int32).toNatClampNeg) by decide)) wI_ap dX9_begets_42 ?_
  refine z_aload_n B dX9_begets_43 rfl 1 rfl ?_
  refine gf_X9_29 (x := (some (b + 411))) B (lKA (hk_K hK 405 rfl rfl)) (rR_at 405 9 hR_405_9) dX9_begets_44 ?_
  refine z_iload B dX9_begets_47 0 rfl ?_
  refine z_iload B dX9_begets_49 5 rfl ?_
  refine z_iconst (v := (-1)) B dX9_begets_51 (by decide) ?_
  refine z_icmp_ne (tgt := 60) B dX9_begets_52 (by decide) (fun h => absurd (by decide) h) (fun _ => ?_)
  refine z_iload B dX9_begets_55 0 rfl ?_
  refine z_goto (tgt := 62) B dX9_begets_57 (by decide) ?_
  refine z_iast (j := 0) (σ' := (ap b σ [(411, 0, 0), (410, 0, (-1)), (409, 0, 4), (405, 6, 1)] [] [])) B (lKA (hk_K hK 411 rfl rfl)) (by decide) (in_of (lNA (hk_N hK 411 rfl rfl)) (show ¬ ((0 : Int32) < 0 ∨ 41 ≤ (0 : Int32).toNatClampNeg) by decide)) wI_ap dX9_begets_62 ?_
  refine z_aload_n B dX9_begets_63 rfl 1 rfl ?_
  refine gf_X9_41 (x := (some (b + 415))) B (lKA (hk_K hK 405 rfl rfl)) (rR_at 405 13 hR_405_13) dX9_begets_64 ?_
  refine z_iload B dX9_begets_67 0 rfl ?_
  refine z_iconst (v := (-1)) B dX9_begets_69 (by decide) ?_
  refine z_iast (j := 0) (σ' := (ap b σ [(415, 0, (-1)), (411, 0, 0), (410, 0, (-1)), (409, 0, 4), (405, 6, 1)] [] [])) B (lKA (hk_K hK 415 rfl rfl)) (by decide) (in_of (lNA (hk_N hK 415 rfl rfl)) (show ¬ ((0 : Int32) < 0 ∨ 41 ≤ (0 : Int32).toNatClampNeg) by decide)) wI_ap dX9_begets_70 ?_
  refine z_aload_n B dX9_begets_71 rfl 1 rfl ?_
  refine z_iload B dX9_begets_72 0 rfl ?_
  refine z_iconst (v := 0) B dX9_begets_74 (by decide) ?_
  refine z_iload_n B dX9_begets_75 rfl 3 rfl ?_
  refine z_i2l B dX9_begets_76 rfl ?_
  refine z_cVv (As := [.int 0, .int 0, .long (w1.toInt64)]) (rest := []) B cw_X9_143 cx_10 dX9_begets_77 (ci_X9_adds_704 l (σ := (ap b σ [(415, 0, (-1)), (411, 0, 0), (410, 0, (-1)), (409, 0, 4), (405, 6, 1)] [] [])) (b := b) (lyA hK) (w1.toInt64) (rI_at 413 0 hI_413_0) (rR_at 405 11 hR_405_11) (rR_at 405 14 hR_405_14) (rR_at 405 15 hR_405_15)) (lKA (hk_K hK 405 rfl rfl)) rfl (by decide) rfl (Nat.le_of_ble_eq_true rfl) (by decide) (fun u hu => ?_)
  refine z_eqs (σ' := (ap b σ [(413, 0, 1), (416, 0, 0), (415, 0, (-1)), (411, 0, 0), (410, 0, (-1)), (409, 0, 4), (405, 6, 1)] [(417, 0, (w1.toInt64))] [])) (hu.trans ap_ap) ?_
  show zx p l e _ s m _ below meth c g 6 0 0 _ _ 80 [(5, .int 0), (0, .ref (b + 405)), (1, .int 4), (2, .int w1), (3, .int (-1)), (4, .int (-1))] _
  refine z_iload B dX9_begets_80 0 rfl ?_
  exact z_iret B hr (by decide) (by decide) dX9_begets_82 ⟨rfl, rfl⟩
set_option maxRecDepth 100000 in
set_option maxHeartbeats 4000000 in
theorem ci_X9_steps_818 (l : Launch) {g : gx_T} {σ : sx_T} {b : Nat} (hK : lay b σ) (w1 : Int32)  (hI_405_27 : sx_I σ (b + 405) 27 = 1) (hI_405_28 : sx_I σ (b + 405) 28 = 0) (hI_405_29 : sx_I σ (b + 405) 29 = w1) (hI_405_38 : sx_I σ (b + 405) 38 = 0) (hI_406_80 : sx_I σ (b + 406) 80 = 0) (hI_407_80 : sx_I σ (b + 407) 80 = 0) (hI_409_0 : sx_I σ (b + 409) 0 = 4) (hI_413_0 : sx_I σ (b + 413) 0 = 1) (hR_405_3 : sx_R σ (b + 405) 3 = (some (b + 406))) (hR_405_4 : sx_R σ (b + 405) 4 = (some (b + 407))) (hR_405_7 : sx_R σ (b + 405) 7 = (some (b + 409))) (hR_405_11 : sx_R σ (b + 405) 11 = (some (b + 413))) (hR_405_14 : sx_R σ (b + 405) 14 = (some (b + 416))) (hR_405_15 : sx_R σ (b + 405) 15 = (some (b + 417))) : Met l yX9_steps (.code yX9_steps cX9_steps 12 (some .boolean) :: lw_g) { frames := 2, cells := 0, slots := 0, locals := 51 } (va_Pc [.ref (b + 405), .int 0, .int 1, .int 1] (zx_w g σ)) (va_Qi (fun r u => r = 1 ∧ u = (ap b σ [(405, 37, 1), (405, 27, 2), (413, 0, 2), (416, 1, 13), (405, 28, 1), (405, 38, 1)] [(417, 1, ((10 * (w1.toInt64)) + 1))] [])) (zx_w g) (gx_Q g)) 0 0 (gx_Q g) := by
  refine z_met (by decide) (Nat.le_of_ble_eq_true rfl) (fun p e s m below meth c B hr hin => ?_)
  refine z_eqs (σ' := (ap b σ [] [] [])) rfl ?_
  show zx p l e _ s m _ below meth c g 12 0 0 _ _ 0 [(0, .ref (b + 405)), (1, .int 0), (2, .int 1), (3, .int 1)] []
  refine z_aload_n B dX9_steps_0 rfl 0 rfl ?_
  refine gf_X9_137 (x := 0) B (lKA (hk_K hK 405 rfl rfl)) (rI_at 405 38 hI_405_38) dX9_steps_1 ?_
  refine z_bipush (v := 60) B dX9_steps_4 (by decide) ?_
  refine z_icmp_ne (tgt := 16) B dX9_steps_6 (by decide) (fun _ => ?_) (fun h => absurd h (by decide))
  refine z_bipush (v := 20) B dX9_steps_16 (by decide) ?_
  refine z_aload_n B dX9_steps_18 rfl 0 rfl ?_
  refine gf_X9_23 (x := (some (b + 409))) B (lKA (hk_K hK 405 rfl rfl)) (rR_at 405 7 hR_405_7) dX9_steps_19 ?_
  refine z_iload_n B dX9_steps_22 rfl 1 rfl ?_
  refine z_iald (j := 0) (x := 4) B (lKA (hk_K hK 409 rfl rfl)) (by decide) (in_of (lNA (hk_N hK 409 rfl rfl)) (show ¬ ((0 : Int32) < 0 ∨ 41 ≤ (0 : Int32).toNatClampNeg) by decide)) (rI_at 409 0 hI_409_0) dX9_steps_23 ?_
  refine z_imul B dX9_steps_24 ?_
  refine z_seti (y := 80) (by decide) ?_
  refine z_aload_n B dX9_steps_25 rfl 0 rfl ?_
  refine gf_X9_110 (x := 0) B (lKA (hk_K hK 405 rfl rfl)) (rI_at 405 28 hI_405_28) dX9_steps_26 ?_
  refine z_iadd B dX9_steps_29 ?_
  refine z_seti (y := 80) (by decide) ?_
  refine z_istore (lv' := [(4, .int 80), (0, .ref (b + 405)), (1, .int 0), (2, .int 1), (3, .int 1)]) B dX9_steps_30 (by decide) rfl ?_
  refine z_aload_n B dX9_steps_32 rfl 1 rfl ?_
  refine gf_X9_13 (x := (some (b + 406))) B (lKA (hk_K hK 405 rfl rfl)) (rR_at 405 3 hR_405_3) dX9_steps_33 ?_
  refine z_iload B dX9_steps_36 0 rfl ?_
  refine z_iald (j := 80) (x := 0) B (lKA (hk_K hK 406 rfl rfl)) (by decide) (in_of (lNA (hk_N hK 406 rfl rfl)) (show ¬ ((80 : Int32) < 0 ∨ 120 ≤ (80 : Int32).toNatClampNeg) by decide)) (rI_at 406 80 hI_406_80) dX9_steps_38 ?_
  refine z_istore (lv' := [(5, .int 0), (4, .int 80), (0, .ref (b + 405)), (1, .int 0), (2, .int 1), (3, .int 1)]) B dX9_steps_39 (by decide) rfl ?_
  refine z_aload_n B dX9_steps_41 rfl 2 rfl ?_
  refine gf_X9_17 (x := (some (b + 407))) B (lKA (hk_K hK 405 rfl rfl)) (rR_at 405 4 hR_405_4) dX9_steps_42 ?_
  refine z_iload B dX9_steps_45 1 rfl ?_
  refine z_iald (j := 80) (x := 0) B (lKA (hk_K hK 407 rfl rfl)) (by decide) (in_of (lNA (hk_N hK 407 rfl rfl)) (show ¬ ((80 : Int32) < 0 ∨ 120 ≤ (80 : Int32).toNatClampNeg) by decide)) (rI_at 407 80 hI_407_80) dX9_steps_47 ?_
  refine z_istore (lv' := [(6, .int 0), (5, .int 0), (4, .int 80), (0, .ref (b + 405)), (1, .int 0), (2, .int 1), (3, .int 1)]) B dX9_steps_48 (by decide) rfl ?_
  refine z_aload_n B dX9_steps_50 rfl 3 rfl ?_
  refine gf_X9_107 (x := 1) B (lKA (hk_K hK 405 rfl rfl)) (rI_at 405 27 hI_405_27) dX9_steps_51 ?_
  refine z_iload_n B dX9_steps_54 rfl 5 rfl ?_
  refine z_icmp_lt (tgt := 62) B dX9_steps_55 (by decide) (fun h => absurd h (by decide)) (fun _ => ?_)
  refine z_iconst (v := 1) B dX9_steps_58 (by decide) ?_
  refine z_goto (tgt := 63) B dX9_steps_59 (by decide) ?_
  refine z_istore (lv' := [(7, .int 1), (6, .int 0), (5, .int 0), (4, .int 80), (0, .ref (b + 405)), (1, .int 0), (2, .int 1), (3, .int 1)]) B dX9_steps_63 (by decide) rfl ?_
  refine z_aload_n B dX9_steps_65 rfl 4 rfl ?_
  refine gf_X9_110 (x := 0) B (lKA (hk_K hK 405 rfl rfl)) (rI_at 405 28 hI_405_28) dX9_steps_66 ?_
  refine z_istore (lv' := [(8, .int 0), (7, .int 1), (6, .int 0), (5, .int 0), (4, .int 80), (0, .ref (b + 405)), (1, .int 0), (2, .int 1), (3, .int 1)]) B dX9_steps_69 (by decide) rfl ?_
  refine z_aload_n B dX9_steps_71 rfl 5 rfl ?_
  refine z_dup B dX9_steps_72 rfl ?_
  refine gf_X9_137 (x := 0) B (lKA (hk_K hK 405 rfl rfl)) (rI_at 405 38 hI_405_38) dX9_steps_73 ?_
  refine z_iconst (v := 1) B dX9_steps_76 (by decide) ?_
  refine z_iadd B dX9_steps_77 ?_
  refine z_seti (y := 1) (by decide) ?_
  refine pf_X9_137 (x := 1) (σ' := (ap b σ [(405, 38, 1)] [] [])) B (lKA (hk_K hK 405 rfl rfl)) wI_ap dX9_steps_78 ?_
  refine z_aload_n B dX9_steps_81 rfl 5 rfl ?_
  refine z_aload_n B dX9_steps_82 rfl 5 rfl ?_
  refine gf_X9_110 (x := 0) B (lKA (hk_K hK 405 rfl rfl)) (rI_at 405 28 hI_405_28) dX9_steps_83 ?_
  refine z_iconst (v := 1) B dX9_steps_86 (by decide) ?_
  refine z_iadd B dX9_steps_87 ?_
  refine z_seti (y := 1) (by decide) ?_
  refine z_bipush (v := 20) B dX9_steps_88 (by decide) ?_
  refine z_irem B dX9_steps_90 (by decide) ?_
  refine z_seti (y := 1) (by decide) ?_
  refine pf_X9_110 (x := 1) (σ' := (ap b σ [(405, 28, 1), (405, 38, 1)] [] [])) B (lKA (hk_K hK 405 rfl rfl)) wI_ap dX9_steps_91 ?_
  refine z_iload B dX9_steps_94 3 rfl ?_
  refine z_iconst (v := 3) B dX9_steps_96 (by decide) ?_
  refine z_icmp_eq (tgt := 106) B dX9_steps_97 (by decide) (fun h => absurd h (by decide)) (fun _ => ?_)
  refine z_iload B dX9_steps_100 3 rfl ?_
  refine z_iconst (v := 4) B dX9_steps_102 (by decide) ?_
  refine z_icmp_ne (tgt := 115) B dX9_steps_103 (by decide) (fun _ => ?_) (fun h => absurd h (by decide))
  refine z_iconst (v := (-1)) B dX9_steps_115 (by decide) ?_
  refine z_istore (lv' := [(9, .int (-1)), (8, .int 0), (7, .int 1), (6, .int 0), (5, .int 0), (4, .int 80), (0, .ref (b + 405)), (1, .int 0), (2, .int 1), (3, .int 1)]) B dX9_steps_116 (by decide) rfl ?_
  refine z_iload B dX9_steps_118 4 rfl ?_
  refine z_cSi (As := [.int 0]) (rest := []) B cw_X9_193 dX9_steps_120 (ci_X9_isBounded_707 l (σ := (ap b σ [(405, 28, 1), (405, 38, 1)] [] [])) (b := b) (lyA hK) ) rfl (by decide) rfl (Nat.le_of_ble_eq_true rfl) (by decide) (fun r u hu => ?_)
  refine z_eqs (σ' := (ap b σ [(405, 28, 1), (405, 38, 1)] [] [])) hu.2 ?_
  show zx p l e _ s m _ below meth c g 12 0 0 _ _ 123 [(9, .int (-1)), (8, .int 0), (7, .int 1), (6, .int 0), (5, .int 0), (4, .int 80), (0, .ref (b + 405)), (1, .int 0), (2, .int 1), (3, .int 1)] _
  refine z_seti (y := 0) hu.1 ?_
  refine z_if_eq (tgt := 141) B dX9_steps_123 (by decide) (fun _ => ?_) (fun h => absurd (by decide) h)
  refine z_iload B dX9_steps_141 4 rfl ?_
  refine z_bipush (v := 12) B dX9_steps_143 (by decide) ?_
  refine z_icmp_ne (tgt := 164) B dX9_steps_145 (by decide) (fun _ => ?_) (fun h => absurd h (by decide))
  refine z_iconst (v := 1) B dX9_steps_164 (by decide) ?_
  refine z_istore (lv' := [(10, .int 1), (9, .int (-1)), (8, .int 0), (7, .int 1), (6, .int 0), (5, .int 0), (4, .int 80), (0, .ref (b + 405)), (1, .int 0), (2, .int 1), (3, .int 1)]) B dX9_steps_165 (by decide) rfl ?_
  refine z_iload B dX9_steps_167 5 rfl ?_
  refine z_tableIn (tgt := 252) B dX9_steps_169 (by decide) (by decide) (show _ = some (83 : Int) by decide) (by decide) ?_
  refine z_aload_n B dX9_steps_252 rfl 7 rfl ?_
  refine z_iload_n B dX9_steps_253 rfl 8 rfl ?_
  refine z_iload_n B dX9_steps_254 rfl 9 rfl ?_
  refine z_iload_n B dX9_steps_255 rfl 10 rfl ?_
  refine z_bipush (v := 13) B dX9_steps_256 (by decide) ?_
  refine z_ldc2 (v := 10) B dX9_steps_258 wg_1247 ?_
  refine z_aload_n B dX9_steps_261 rfl 7 rfl ?_
  refine gf_X9_113 (x := w1) B (lKA (hk_K hK 405 rfl rfl)) (rI_at 405 29 hI_405_29) dX9_steps_262 ?_
  refine z_i2l B dX9_steps_265 rfl ?_
  refine z_lmul B dX9_steps_266 ?_
  refine z_lconst (v := 1) B dX9_steps_267 (by decide) ?_
  refine z_ladd B dX9_steps_268 ?_
  refine z_iconst (v := 0) B dX9_steps_269 (by decide) ?_
  refine z_cVi (As := [.int 0, .int 1, .int 1, .int 13, .long ((10 * (w1.toInt64)) + 1), .int 0]) (rest := []) B cw_X9_164 cx_10 dX9_steps_270 (ci_X9_meets_709 l (σ := (ap b σ [(405, 28, 1), (405, 38, 1)] [] [])) (b := b) (lyA hK) ((10 * (w1.toInt64)) + 1) (rI_at 405 27 hI_405_27) (rI_at 413 0 hI_413_0) (rR_at 405 11 hR_405_11) (rR_at 405 14 hR_405_14) (rR_at 405 15 hR_405_15)) (lKA (hk_K hK 405 rfl rfl)) rfl (by decide) rfl (Nat.le_of_ble_eq_true rfl) (by decide) (fun r u hu => ?_)
  refine z_eqs (σ' := (ap b σ [(405, 27, 2), (413, 0, 2), (416, 1, 13), (405, 28, 1), (405, 38, 1)] [(417, 1, ((10 * (w1.toInt64)) + 1))] [])) (hu.2.trans ap_ap) ?_
  show zx p l e _ s m _ below meth c g 12 0 0 _ _ 273 [(10, .int 1), (9, .int (-1)), (8, .int 0), (7, .int 1), (6, .int 0), (5, .int 0), (4, .int 80), (0, .ref (b + 405)), (1, .int 0), (2, .int 1), (3, .int 1)] _
  refine z_seti (y := 1) hu.1 ?_
  refine z_istore (lv' := [(10, .int 1), (9, .int (-1)), (8, .int 0), (7, .int 1), (6, .int 0), (5, .int 0), (4, .int 80), (0, .ref (b + 405)), (1, .int 0), (2, .int 1), (3, .int 1)]) B dX9_steps_273 (by decide) rfl ?_
  refine z_aload_n B dX9_steps_275 rfl 7 rfl ?_
  refine z_iload B dX9_steps_276 0 rfl ?_
  refine z_if_eq (tgt := 285) B dX9_steps_278 (by decide) (fun h => absurd h (by decide)) (fun _ => ?_)
  refine z_iconst (v := 1) B dX9_steps_281 (by decide) ?_
  refine z_goto (tgt := 286) B dX9_steps_282 (by decide) ?_
  refine pf_X9_134 (x := 1) (σ' := (ap b σ [(405, 37, 1), (405, 27, 2), (413, 0, 2), (416, 1, 13), (405, 28, 1), (405, 38, 1)] [(417, 1, ((10 * (w1.toInt64)) + 1))] [])) B (lKA (hk_K hK 405 rfl rfl)) wI_ap dX9_steps_286 ?_
  refine z_goto (tgt := 1085) B dX9_steps_289 (by decide) ?_
  refine z_iload B dX9_steps_1085 0 rfl ?_
  refine z_if_ne (tgt := 1113) B dX9_steps_1087 (by decide) (fun _ => ?_) (fun h => absurd h (by decide))
  refine z_iload B dX9_steps_1113 0 rfl ?_
  exact z_zret B hr (by decide) (by decide) (by decide) dX9_steps_1115 ⟨rfl, rfl⟩
set_option maxRecDepth 100000 in
set_option maxHeartbeats 4000000 in
theorem ci_X9_replays_819 (l : Launch) {g : gx_T} {σ : sx_T} {b : Nat} (hK : lay b σ) (w1 : Int64)  (hI_406_80 : sx_I σ (b + 406) 80 = 0) (hI_407_80 : sx_I σ (b + 407) 80 = 0) (hI_409_0 : sx_I σ (b + 409) 0 = 4) (hI_413_0 : sx_I σ (b + 413) 0 = 1) (hI_416_0 : sx_I σ (b + 416) 0 = 0) (hJ_417_0 : sx_J σ (b + 417) 0 = w1) (hR_405_3 : sx_R σ (b + 405) 3 = (some (b + 406))) (hR_405_4 : sx_R σ (b + 405) 4 = (some (b + 407))) (hR_405_7 : sx_R σ (b + 405) 7 = (some (b + 409))) (hR_405_11 : sx_R σ (b + 405) 11 = (some (b + 413))) (hR_405_14 : sx_R σ (b + 405) 14 = (some (b + 416))) (hR_405_15 : sx_R σ (b + 405) 15 = (some (b + 417))) : Met l yX9_replays (.code yX9_replays cX9_replays 5 (some .int) :: lw_g) { frames := 3, cells := 0, slots := 0, locals := 82 } (va_Pc [.ref (b + 405), .int 0, .int 1, .int 1] (zx_w g σ)) (va_Qi (fun r u => r = (-1) ∧ u = (ap b σ [(405, 26, 1), (405, 37, 1), (405, 27, 2), (413, 0, 2), (416, 1, 13), (405, 28, 1), (405, 38, 1), (405, 48, (-1)), (405, 27, 1), (405, 29, (w1.toInt32)), (405, 26, 1), (405, 47, 1), (405, 39, 0), (405, 38, 0), (405, 37, 0), (405, 36, 0), (405, 35, 0), (405, 34, 0), (405, 32, 0), (405, 31, 0), (405, 30, 0), (405, 29, 0), (405, 28, 0), (405, 27, 0), (405, 26, 1)] [(417, 1, ((10 * ((w1.toInt32).toInt64)) + 1))] [])) (zx_w g) (gx_Q g)) 0 0 (gx_Q g) := by
  refine z_met (by decide) (Nat.le_of_ble_eq_true rfl) (fun p e s m below meth c B hr hin => ?_)
  refine z_eqs (σ' := (ap b σ [] [] [])) rfl ?_
  show zx p l e _ s m _ below meth c g 5 0 0 _ _ 0 [(0, .ref (b + 405)), (1, .int 0), (2, .int 1), (3, .int 1)] []
  refine z_aload_n B dX9_replays_0 rfl 0 rfl ?_
  refine z_cVv (As := []) (rest := []) B cw_X9_175 cx_10 dX9_replays_1 (ci_X9_begins_706 l (σ := (ap b σ [] [] [])) (b := b) (lyA hK) ) (lKA (hk_K hK 405 rfl rfl)) rfl (by decide) rfl (Nat.le_of_ble_eq_true rfl) (by decide) (fun u hu => ?_)
  refine z_eqs (σ' := (ap b σ [(405, 39, 0), (405, 38, 0), (405, 37, 0), (405, 36, 0), (405, 35, 0), (405, 34, 0), (405, 32, 0), (405, 31, 0), (405, 30, 0), (405, 29, 0), (405, 28, 0), (405, 27, 0), (405, 26, 1)] [] [])) (hu.trans ap_ap) ?_
  show zx p l e _ s m _ below meth c g 5 0 0 _ _ 4 [(0, .ref (b + 405)), (1, .int 0), (2, .int 1), (3, .int 1)] _
  refine z_aload_n B dX9_replays_4 rfl 0 rfl ?_
  refine z_iload_n B dX9_replays_5 rfl 3 rfl ?_
  refine pf_X9_156 (x := 1) (σ' := (ap b σ [(405, 47, 1), (405, 39, 0), (405, 38, 0), (405, 37, 0), (405, 36, 0), (405, 35, 0), (405, 34, 0), (405, 32, 0), (405, 31, 0), (405, 30, 0), (405, 29, 0), (405, 28, 0), (405, 27, 0), (405, 26, 1)] [] [])) B (by decide) (lKA (hk_K hK 405 rfl rfl)) wI_ap dX9_replays_6 ?_
  refine z_aload_n B dX9_replays_9 rfl 0 rfl ?_
  refine z_aload_n B dX9_replays_10 rfl 0 rfl ?_
  refine gf_X9_44 (x := (some (b + 416))) B (lKA (hk_K hK 405 rfl rfl)) (rR_at 405 14 hR_405_14) dX9_replays_11 ?_
  refine z_sipush (v := 160) B dX9_replays_14 (by decide) ?_
  refine z_iload_n B dX9_replays_17 rfl 1 rfl ?_
  refine z_imul B dX9_replays_18 ?_
  refine z_seti (y := 0) (by decide) ?_
  refine z_iald (j := 0) (x := 0) B (lKA (hk_K hK 416 rfl rfl)) (by decide) (in_of (lNA (hk_N hK 416 rfl rfl)) (show ¬ ((0 : Int32) < 0 ∨ 6560 ≤ (0 : Int32).toNatClampNeg) by decide)) (rI_at 416 0 hI_416_0) dX9_replays_19 ?_
  refine z_if_ne (tgt := 27) B dX9_replays_20 (by decide) (fun h => absurd (by decide) h) (fun _ => ?_)
  refine z_iconst (v := 1) B dX9_replays_23 (by decide) ?_
  refine z_goto (tgt := 28) B dX9_replays_24 (by decide) ?_
  refine pf_X9_103 (x := 1) (σ' := (ap b σ [(405, 26, 1), (405, 47, 1), (405, 39, 0), (405, 38, 0), (405, 37, 0), (405, 36, 0), (405, 35, 0), (405, 34, 0), (405, 32, 0), (405, 31, 0), (405, 30, 0), (405, 29, 0), (405, 28, 0), (405, 27, 0), (405, 26, 1)] [] [])) B (by decide) (lKA (hk_K hK 405 rfl rfl)) wI_ap dX9_replays_28 ?_
  refine z_aload_n B dX9_replays_31 rfl 0 rfl ?_
  refine z_aload_n B dX9_replays_32 rfl 0 rfl ?_
  refine gf_X9_47 (x := (some (b + 417))) B (lKA (hk_K hK 405 rfl rfl)) (rR_at 405 15 hR_405_15) dX9_replays_33 ?_
  refine z_sipush (v := 160) B dX9_replays_36 (by decide) ?_
  refine z_iload_n B dX9_replays_39 rfl 1 rfl ?_
  refine z_imul B dX9_replays_40 ?_
  refine z_seti (y := 0) (by decide) ?_
  refine z_lald (j := 0) (x := w1) B (lKA (hk_K hK 417 rfl rfl)) (by decide) (in_of (lNA (hk_N hK 417 rfl rfl)) (show ¬ ((0 : Int32) < 0 ∨ 6560 ≤ (0 : Int32).toNatClampNeg) by decide)) (rJ_at 417 0 hJ_417_0) dX9_replays_41 ?_
  refine z_l2i B dX9_replays_42 rfl ?_
  refine pf_X9_113 (x := (w1.toInt32)) (σ' := (ap b σ [(405, 29, (w1.toInt32)), (405, 26, 1), (405, 47, 1), (405, 39, 0), (405, 38, 0), (405, 37, 0), (405, 36, 0), (405, 35, 0), (405, 34, 0), (405, 32, 0), (405, 31, 0), (405, 30, 0), (405, 29, 0), (405, 28, 0), (405, 27, 0), (405, 26, 1)] [] [])) B (lKA (hk_K hK 405 rfl rfl)) wI_ap dX9_replays_43 ?_
  refine z_aload_n B dX9_replays_46 rfl 0 rfl ?_
  refine z_iconst (v := 1) B dX9_replays_47 (by decide) ?_
  refine pf_X9_107 (x := 1) (σ' := (ap b σ [(405, 27, 1), (405, 29, (w1.toInt32)), (405, 26, 1), (405, 47, 1), (405, 39, 0), (405, 38, 0), (405, 37, 0), (405, 36, 0), (405, 35, 0), (405, 34, 0), (405, 32, 0), (405, 31, 0), (405, 30, 0), (405, 29, 0), (405, 28, 0), (405, 27, 0), (405, 26, 1)] [] [])) B (lKA (hk_K hK 405 rfl rfl)) wI_ap dX9_replays_48 ?_
  refine z_aload_n B dX9_replays_51 rfl 0 rfl ?_
  refine z_iconst (v := (-1)) B dX9_replays_52 (by decide) ?_
  refine pf_X9_172 (x := (-1)) (σ' := (ap b σ [(405, 48, (-1)), (405, 27, 1), (405, 29, (w1.toInt32)), (405, 26, 1), (405, 47, 1), (405, 39, 0), (405, 38, 0), (405, 37, 0), (405, 36, 0), (405, 35, 0), (405, 34, 0), (405, 32, 0), (405, 31, 0), (405, 30, 0), (405, 29, 0), (405, 28, 0), (405, 27, 0), (405, 26, 1)] [] [])) B (lKA (hk_K hK 405 rfl rfl)) wI_ap dX9_replays_53 ?_
  refine z_aload_n B dX9_replays_56 rfl 0 rfl ?_
  refine gf_X9_103 (x := 1) B (lKA (hk_K hK 405 rfl rfl)) (rI_at 405 26 rfl) dX9_replays_57 ?_
  refine z_istore (lv' := [(4, .int 1), (0, .ref (b + 405)), (1, .int 0), (2, .int 1), (3, .int 1)]) B dX9_replays_60 (by decide) rfl ?_
  refine z_iload B dX9_replays_62 0 rfl ?_
  refine z_if_eq (tgt := 180) B dX9_replays_64 (by decide) (fun h => absurd h (by decide)) (fun _ => ?_)
  refine z_aload_n B dX9_replays_67 rfl 1 rfl ?_
  refine gf_X9_103 (x := 1) B (lKA (hk_K hK 405 rfl rfl)) (rI_at 405 26 rfl) dX9_replays_68 ?_
  refine z_if_eq (tgt := 180) B dX9_replays_71 (by decide) (fun h => absurd h (by decide)) (fun _ => ?_)
  refine z_aload_n B dX9_replays_74 rfl 1 rfl ?_
  refine gf_X9_134 (x := 0) B (lKA (hk_K hK 405 rfl rfl)) (rI_at 405 37 rfl) dX9_replays_75 ?_
  refine z_if_le (tgt := 104) B dX9_replays_78 (by decide) (fun _ => ?_) (fun h => absurd (by decide) h)
  refine z_aload_n B dX9_replays_104 rfl 1 rfl ?_
  refine gf_X9_116 (x := 0) B (lKA (hk_K hK 405 rfl rfl)) (rI_at 405 30 rfl) dX9_replays_105 ?_
  refine z_if_eq (tgt := 139) B dX9_replays_108 (by decide) (fun _ => ?_) (fun h => absurd (by decide) h)
  refine z_aload_n B dX9_replays_139 rfl 1 rfl ?_
  refine gf_X9_131 (x := 0) B (lKA (hk_K hK 405 rfl rfl)) (rI_at 405 36 rfl) dX9_replays_140 ?_
  refine z_if_le (tgt := 158) B dX9_replays_143 (by decide) (fun _ => ?_) (fun h => absurd (by decide) h)
  refine z_aload_n B dX9_replays_158 rfl 1 rfl ?_
  refine z_iload_n B dX9_replays_159 rfl 2 rfl ?_
  refine z_iload_n B dX9_replays_160 rfl 3 rfl ?_
  refine z_iload_n B dX9_replays_161 rfl 4 rfl ?_
  refine z_cVi (As := [.int 0, .int 1, .int 1]) (rest := []) B cw_X9_186 cx_10 dX9_replays_162 (ci_X9_steps_818 l (σ := (ap b σ [(405, 48, (-1)), (405, 27, 1), (405, 29, (w1.toInt32)), (405, 26, 1), (405, 47, 1), (405, 39, 0), (405, 38, 0), (405, 37, 0), (405, 36, 0), (405, 35, 0), (405, 34, 0), (405, 32, 0), (405, 31, 0), (405, 30, 0), (405, 29, 0), (405, 28, 0), (405, 27, 0), (405, 26, 1)] [] [])) (b := b) (lyA hK) (w1.toInt32) (rI_at 405 27 rfl) (rI_at 405 28 rfl) (rI_at 405 29 rfl) (rI_at 405 38 rfl) (rI_at 406 80 hI_406_80) (rI_at 407 80 hI_407_80) (rI_at 409 0 hI_409_0) (rI_at 413 0 hI_413_0) (rR_at 405 3 hR_405_3) (rR_at 405 4 hR_405_4) (rR_at 405 7 hR_405_7) (rR_at 405 11 hR_405_11) (rR_at 405 14 hR_405_14) (rR_at 405 15 hR_405_15)) (lKA (hk_K hK 405 rfl rfl)) rfl (by decide) rfl (Nat.le_of_ble_eq_true rfl) (by decide) (fun r u hu => ?_)
  refine z_eqs (σ' := (ap b σ [(405, 37, 1), (405, 27, 2), (413, 0, 2), (416, 1, 13), (405, 28, 1), (405, 38, 1), (405, 48, (-1)), (405, 27, 1), (405, 29, (w1.toInt32)), (405, 26, 1), (405, 47, 1), (405, 39, 0), (405, 38, 0), (405, 37, 0), (405, 36, 0), (405, 35, 0), (405, 34, 0), (405, 32, 0), (405, 31, 0), (405, 30, 0), (405, 29, 0), (405, 28, 0), (405, 27, 0), (405, 26, 1)] [(417, 1, ((10 * ((w1.toInt32).toInt64)) + 1))] [])) (hu.2.trans ap_ap) ?_
  show zx p l e _ s m _ below meth c g 5 0 0 _ _ 165 [(4, .int 1), (0, .ref (b + 405)), (1, .int 0), (2, .int 1), (3, .int 1)] _
  refine z_seti (y := 1) hu.1 ?_
  refine z_istore (lv' := [(4, .int 1), (0, .ref (b + 405)), (1, .int 0), (2, .int 1), (3, .int 1)]) B dX9_replays_165 (by decide) rfl ?_
  refine z_aload_n B dX9_replays_167 rfl 1 rfl ?_
  refine gf_X9_172 (x := (-1)) B (lKA (hk_K hK 405 rfl rfl)) (rI_at 405 48 rfl) dX9_replays_168 ?_
  refine z_iconst (v := (-1)) B dX9_replays_171 (by decide) ?_
  refine z_icmp_eq (tgt := 62) B dX9_replays_172 (by decide) (fun _ => ?_) (fun h => absurd (by decide) h)
  refine z_iload B dX9_replays_62 0 rfl ?_
  refine z_if_eq (tgt := 180) B dX9_replays_64 (by decide) (fun h => absurd h (by decide)) (fun _ => ?_)
  refine z_aload_n B dX9_replays_67 rfl 1 rfl ?_
  refine gf_X9_103 (x := 1) B (lKA (hk_K hK 405 rfl rfl)) (rI_at 405 26 rfl) dX9_replays_68 ?_
  refine z_if_eq (tgt := 180) B dX9_replays_71 (by decide) (fun h => absurd h (by decide)) (fun _ => ?_)
  refine z_aload_n B dX9_replays_74 rfl 1 rfl ?_
  refine gf_X9_134 (x := 1) B (lKA (hk_K hK 405 rfl rfl)) (rI_at 405 37 rfl) dX9_replays_75 ?_
  refine z_if_le (tgt := 104) B dX9_replays_78 (by decide) (fun h => absurd h (by decide)) (fun _ => ?_)
  refine z_aload_n B dX9_replays_81 rfl 1 rfl ?_
  refine z_aload_n B dX9_replays_82 rfl 1 rfl ?_
  refine gf_X9_107 (x := 2) B (lKA (hk_K hK 405 rfl rfl)) (rI_at 405 27 rfl) dX9_replays_83 ?_
  refine z_iload_n B dX9_replays_86 rfl 3 rfl ?_
  refine z_icmp_lt (tgt := 94) B dX9_replays_87 (by decide) (fun h => absurd h (by decide)) (fun _ => ?_)
  refine z_iconst (v := 1) B dX9_replays_90 (by decide) ?_
  refine z_goto (tgt := 95) B dX9_replays_91 (by decide) ?_
  refine pf_X9_103 (x := 1) (σ' := (ap b σ [(405, 26, 1), (405, 37, 1), (405, 27, 2), (413, 0, 2), (416, 1, 13), (405, 28, 1), (405, 38, 1), (405, 48, (-1)), (405, 27, 1), (405, 29, (w1.toInt32)), (405, 26, 1), (405, 47, 1), (405, 39, 0), (405, 38, 0), (405, 37, 0), (405, 36, 0), (405, 35, 0), (405, 34, 0), (405, 32, 0), (405, 31, 0), (405, 30, 0), (405, 29, 0), (405, 28, 0), (405, 27, 0), (405, 26, 1)] [(417, 1, ((10 * ((w1.toInt32).toInt64)) + 1))] [])) B (by decide) (lKA (hk_K hK 405 rfl rfl)) wI_ap dX9_replays_95 ?_
  refine z_iconst (v := 0) B dX9_replays_98 (by decide) ?_
  refine z_istore (lv' := [(4, .int 0), (0, .ref (b + 405)), (1, .int 0), (2, .int 1), (3, .int 1)]) B dX9_replays_99 (by decide) rfl ?_
  refine z_goto (tgt := 62) B dX9_replays_101 (by decide) ?_
  refine z_iload B dX9_replays_62 0 rfl ?_
  refine z_if_eq (tgt := 180) B dX9_replays_64 (by decide) (fun _ => ?_) (fun h => absurd (by decide) h)
  refine z_iconst (v := (-1)) B dX9_replays_180 (by decide) ?_
  exact z_iret B hr (by decide) (by decide) dX9_replays_181 ⟨rfl, rfl⟩
set_option maxRecDepth 100000 in
set_option maxHeartbeats 4000000 in
theorem ci_X9_goesOn_820 (l : Launch) {g : gx_T} {σ : sx_T} {b : Nat} (hK : lay b σ) (w1 : Int64)  (hI_405_16 : sx_I σ (b + 405) 16 = 0) (hI_406_80 : sx_I σ (b + 406) 80 = 0) (hI_407_80 : sx_I σ (b + 407) 80 = 0) (hI_409_0 : sx_I σ (b + 409) 0 = 4) (hI_410_0 : sx_I σ (b + 410) 0 = (-1)) (hI_412_0 : sx_I σ (b + 412) 0 = 0) (hI_413_0 : sx_I σ (b + 413) 0 = 1) (hI_416_0 : sx_I σ (b + 416) 0 = 0) (hJ_417_0 : sx_J σ (b + 417) 0 = w1) (hR_405_3 : sx_R σ (b + 405) 3 = (some (b + 406))) (hR_405_4 : sx_R σ (b + 405) 4 = (some (b + 407))) (hR_405_7 : sx_R σ (b + 405) 7 = (some (b + 409))) (hR_405_8 : sx_R σ (b + 405) 8 = (some (b + 410))) (hR_405_10 : sx_R σ (b + 405) 10 = (some (b + 412))) (hR_405_11 : sx_R σ (b + 405) 11 = (some (b + 413))) (hR_405_12 : sx_R σ (b + 405) 12 = (some (b + 414))) (hR_405_14 : sx_R σ (b + 405) 14 = (some (b + 416))) (hR_405_15 : sx_R σ (b + 405) 15 = (some (b + 417))) (hR_405_42 : sx_R σ (b + 405) 42 = (some (b + 428))) : Met l yX9_goesOn (.code yX9_goesOn cX9_goesOn 5 none :: lw_g) { frames := 4, cells := 0, slots := 0, locals := 106 } (va_Pc [.ref (b + 405), .int 0] (zx_w g σ)) (va_Qv (fun u => u = (ap b σ [(412, 0, 1), (414, 0, 2), (405, 26, 1), (405, 37, 1), (405, 27, 2), (413, 0, 2), (416, 1, 13), (405, 28, 1), (405, 38, 1), (405, 48, (-1)), (405, 27, 1), (405, 29, (w1.toInt32)), (405, 26, 1), (405, 47, 1), (405, 39, 0), (405, 38, 0), (405, 37, 0), (405, 36, 0), (405, 35, 0), (405, 34, 0), (405, 32, 0), (405, 31, 0), (405, 30, 0), (405, 29, 0), (405, 28, 0), (405, 27, 0), (405, 26, 1), (428, 0, 0)] [(417, 1, ((10 * ((w1.toInt32).toInt64)) + 1))] [])) (zx_w g) (gx_Q g)) 0 0 (gx_Q g) := by
  refine z_met (by decide) (Nat.le_of_ble_eq_true rfl) (fun p e s m below meth c B hr hin => ?_)
  refine z_eqs (σ' := (ap b σ [] [] [])) rfl ?_
  show zx p l e _ s m _ below meth c g 5 0 0 _ _ 0 [(0, .ref (b + 405)), (1, .int 0)] []
  refine z_iconst (v := 1) B dX9_goesOn_0 (by decide) ?_
  refine z_istore_n (lv' := [(2, .int 1), (0, .ref (b + 405)), (1, .int 0)]) B dX9_goesOn_1 rfl (by decide) rfl ?_
  refine z_aload_n B dX9_goesOn_2 rfl 1 rfl ?_
  refine gf_X9_81 (x := (some (b + 428))) B (lKA (hk_K hK 405 rfl rfl)) (rR_at 405 42 hR_405_42) dX9_goesOn_3 ?_
  refine z_iconst (v := 0) B dX9_goesOn_6 (by decide) ?_
  refine z_iload_n B dX9_goesOn_7 rfl 2 rfl ?_
  refine z_iast (j := 0) (σ' := (ap b σ [(428, 0, 0)] [] [])) B (lKA (hk_K hK 428 rfl rfl)) (by decide) (in_of (lNA (hk_N hK 428 rfl rfl)) (show ¬ ((0 : Int32) < 0 ∨ 50 ≤ (0 : Int32).toNatClampNeg) by decide)) wI_ap dX9_goesOn_8 ?_
  refine z_iload_n B dX9_goesOn_9 rfl 0 rfl ?_
  refine z_if_le (tgt := 106) B dX9_goesOn_10 (by decide) (fun h => absurd h (by decide)) (fun _ => ?_)
  refine z_aload_n B dX9_goesOn_13 rfl 1 rfl ?_
  refine gf_X9_81 (x := (some (b + 428))) B (lKA (hk_K hK 405 rfl rfl)) (rR_at 405 42 hR_405_42) dX9_goesOn_14 ?_
  refine z_iload_n B dX9_goesOn_17 rfl 0 rfl ?_
  refine z_iconst (v := 1) B dX9_goesOn_18 (by decide) ?_
  refine z_isub B dX9_goesOn_19 ?_
  refine z_seti (y := 0) (by decide) ?_
  refine z_iald (j := 0) (x := 0) B (lKA (hk_K hK 428 rfl rfl)) (by decide) (in_of (lNA (hk_N hK 428 rfl rfl)) (show ¬ ((0 : Int32) < 0 ∨ 50 ≤ (0 : Int32).toNatClampNeg) by decide)) (rI_at 428 0 rfl) dX9_goesOn_20 ?_
  refine z_istore_n (lv' := [(3, .int 0), (2, .int 1), (0, .ref (b + 405)), (1, .int 0)]) B dX9_goesOn_21 rfl (by decide) rfl ?_
  refine z_aload_n B dX9_goesOn_22 rfl 2 rfl ?_
  refine gf_X9_32 (x := (some (b + 412))) B (lKA (hk_K hK 405 rfl rfl)) (rR_at 405 10 hR_405_10) dX9_goesOn_23 ?_
  refine z_iload_n B dX9_goesOn_26 rfl 0 rfl ?_
  refine z_iald (j := 0) (x := 0) B (lKA (hk_K hK 412 rfl rfl)) (by decide) (in_of (lNA (hk_N hK 412 rfl rfl)) (show ¬ ((0 : Int32) < 0 ∨ 41 ≤ (0 : Int32).toNatClampNeg) by decide)) (rI_at 412 0 hI_412_0) dX9_goesOn_27 ?_
  refine z_if_le (tgt := 35) B dX9_goesOn_28 (by decide) (fun _ => ?_) (fun h => absurd (by decide) h)
  refine z_aload_n B dX9_goesOn_35 rfl 2 rfl ?_
  refine z_iload_n B dX9_goesOn_36 rfl 0 rfl ?_
  refine z_aload_n B dX9_goesOn_37 rfl 2 rfl ?_
  refine gf_X9_35 (x := (some (b + 413))) B (lKA (hk_K hK 405 rfl rfl)) (rR_at 405 11 hR_405_11) dX9_goesOn_38 ?_
  refine z_iload_n B dX9_goesOn_41 rfl 0 rfl ?_
  refine z_iald (j := 0) (x := 1) B (lKA (hk_K hK 413 rfl rfl)) (by decide) (in_of (lNA (hk_N hK 413 rfl rfl)) (show ¬ ((0 : Int32) < 0 ∨ 41 ≤ (0 : Int32).toNatClampNeg) by decide)) (rI_at 413 0 hI_413_0) dX9_goesOn_42 ?_
  refine z_iconst (v := 1) B dX9_goesOn_43 (by decide) ?_
  refine z_cVi (As := [.int 0, .int 1, .int 1]) (rest := []) B cw_X9_216 cx_10 dX9_goesOn_44 (ci_X9_replays_819 l (σ := (ap b σ [(428, 0, 0)] [] [])) (b := b) (lyA hK) w1 (rI_at 406 80 hI_406_80) (rI_at 407 80 hI_407_80) (rI_at 409 0 hI_409_0) (rI_at 413 0 hI_413_0) (rI_at 416 0 hI_416_0) (rJ_at 417 0 hJ_417_0) (rR_at 405 3 hR_405_3) (rR_at 405 4 hR_405_4) (rR_at 405 7 hR_405_7) (rR_at 405 11 hR_405_11) (rR_at 405 14 hR_405_14) (rR_at 405 15 hR_405_15)) (lKA (hk_K hK 405 rfl rfl)) rfl (by decide) rfl (Nat.le_of_ble_eq_true rfl) (by decide) (fun r u hu => ?_)
  refine z_eqs (σ' := (ap b σ [(405, 26, 1), (405, 37, 1), (405, 27, 2), (413, 0, 2), (416, 1, 13), (405, 28, 1), (405, 38, 1), (405, 48, (-1)), (405, 27, 1), (405, 29, (w1.toInt32)), (405, 26, 1), (405, 47, 1), (405, 39, 0), (405, 38, 0), (405, 37, 0), (405, 36, 0), (405, 35, 0), (405, 34, 0), (405, 32, 0), (405, 31, 0), (405, 30, 0), (405, 29, 0), (405, 28, 0), (405, 27, 0), (405, 26, 1), (428, 0, 0)] [(417, 1, ((10 * ((w1.toInt32).toInt64)) + 1))] [])) (hu.2.trans ap_ap) ?_
  show zx p l e _ s m _ below meth c g 5 0 0 _ _ 47 [(3, .int 0), (2, .int 1), (0, .ref (b + 405)), (1, .int 0)] _
  refine z_seti (y := (-1)) hu.1 ?_
  refine z_istore (lv' := [(4, .int (-1)), (3, .int 0), (2, .int 1), (0, .ref (b + 405)), (1, .int 0)]) B dX9_goesOn_47 (by decide) rfl ?_
  refine z_iload B dX9_goesOn_49 0 rfl ?_
  refine z_iconst (v := (-1)) B dX9_goesOn_51 (by decide) ?_
  refine z_icmp_eq (tgt := 69) B dX9_goesOn_52 (by decide) (fun _ => ?_) (fun h => absurd (by decide) h)
  refine z_iinc (v := 0) (lv' := [(2, .int 0), (4, .int (-1)), (3, .int 0), (0, .ref (b + 405)), (1, .int 0)]) B dX9_goesOn_69 2 rfl (by decide) (by decide) rfl ?_
  refine z_aload_n B dX9_goesOn_72 rfl 3 rfl ?_
  refine gf_X9_32 (x := (some (b + 412))) B (lKA (hk_K hK 405 rfl rfl)) (rR_at 405 10 hR_405_10) dX9_goesOn_73 ?_
  refine z_iload_n B dX9_goesOn_76 rfl 2 rfl ?_
  refine z_iald (j := 0) (x := 0) B (lKA (hk_K hK 412 rfl rfl)) (by decide) (in_of (lNA (hk_N hK 412 rfl rfl)) (show ¬ ((0 : Int32) < 0 ∨ 41 ≤ (0 : Int32).toNatClampNeg) by decide)) (rI_at 412 0 hI_412_0) dX9_goesOn_77 ?_
  refine z_if_ne (tgt := 103) B dX9_goesOn_78 (by decide) (fun h => absurd (by decide) h) (fun _ => ?_)
  refine z_aload_n B dX9_goesOn_81 rfl 3 rfl ?_
  refine gf_X9_103 (x := 1) B (lKA (hk_K hK 405 rfl rfl)) (rI_at 405 26 rfl) dX9_goesOn_82 ?_
  refine z_if_eq (tgt := 103) B dX9_goesOn_85 (by decide) (fun h => absurd h (by decide)) (fun _ => ?_)
  refine z_aload_n B dX9_goesOn_88 rfl 3 rfl ?_
  refine gf_X9_38 (x := (some (b + 414))) B (lKA (hk_K hK 405 rfl rfl)) (rR_at 405 12 hR_405_12) dX9_goesOn_89 ?_
  refine z_iload_n B dX9_goesOn_92 rfl 2 rfl ?_
  refine z_aload_n B dX9_goesOn_93 rfl 3 rfl ?_
  refine gf_X9_107 (x := 2) B (lKA (hk_K hK 405 rfl rfl)) (rI_at 405 27 rfl) dX9_goesOn_94 ?_
  refine z_iast (j := 0) (σ' := (ap b σ [(414, 0, 2), (405, 26, 1), (405, 37, 1), (405, 27, 2), (413, 0, 2), (416, 1, 13), (405, 28, 1), (405, 38, 1), (405, 48, (-1)), (405, 27, 1), (405, 29, (w1.toInt32)), (405, 26, 1), (405, 47, 1), (405, 39, 0), (405, 38, 0), (405, 37, 0), (405, 36, 0), (405, 35, 0), (405, 34, 0), (405, 32, 0), (405, 31, 0), (405, 30, 0), (405, 29, 0), (405, 28, 0), (405, 27, 0), (405, 26, 1), (428, 0, 0)] [(417, 1, ((10 * ((w1.toInt32).toInt64)) + 1))] [])) B (lKA (hk_K hK 414 rfl rfl)) (by decide) (in_of (lNA (hk_N hK 414 rfl rfl)) (show ¬ ((0 : Int32) < 0 ∨ 41 ≤ (0 : Int32).toNatClampNeg) by decide)) wI_ap dX9_goesOn_97 ?_
  refine z_aload_n B dX9_goesOn_98 rfl 3 rfl ?_
  refine z_iload_n B dX9_goesOn_99 rfl 2 rfl ?_
  refine z_cVv (As := [.int 0]) (rest := []) B cw_X9_220 cx_10 dX9_goesOn_100 (ci_X9_rests_712 l (σ := (ap b σ [(414, 0, 2), (405, 26, 1), (405, 37, 1), (405, 27, 2), (413, 0, 2), (416, 1, 13), (405, 28, 1), (405, 38, 1), (405, 48, (-1)), (405, 27, 1), (405, 29, (w1.toInt32)), (405, 26, 1), (405, 47, 1), (405, 39, 0), (405, 38, 0), (405, 37, 0), (405, 36, 0), (405, 35, 0), (405, 34, 0), (405, 32, 0), (405, 31, 0), (405, 30, 0), (405, 29, 0), (405, 28, 0), (405, 27, 0), (405, 26, 1), (428, 0, 0)] [(417, 1, ((10 * ((w1.toInt32).toInt64)) + 1))] [])) (b := b) (lyA hK) (w1.toInt32) (rI_at 405 16 hI_405_16) (rI_at 405 29 rfl) (rI_at 405 30 rfl) (rI_at 405 37 rfl) (rI_at 410 0 hI_410_0) (rR_at 405 8 hR_405_8) (rR_at 405 10 hR_405_10)) (lKA (hk_K hK 405 rfl rfl)) rfl (by decide) rfl (Nat.le_of_ble_eq_true rfl) (by decide) (fun u hu => ?_)
  refine z_eqs (σ' := (ap b σ [(412, 0, 1), (414, 0, 2), (405, 26, 1), (405, 37, 1), (405, 27, 2), (413, 0, 2), (416, 1, 13), (405, 28, 1), (405, 38, 1), (405, 48, (-1)), (405, 27, 1), (405, 29, (w1.toInt32)), (405, 26, 1), (405, 47, 1), (405, 39, 0), (405, 38, 0), (405, 37, 0), (405, 36, 0), (405, 35, 0), (405, 34, 0), (405, 32, 0), (405, 31, 0), (405, 30, 0), (405, 29, 0), (405, 28, 0), (405, 27, 0), (405, 26, 1), (428, 0, 0)] [(417, 1, ((10 * ((w1.toInt32).toInt64)) + 1))] [])) (hu.trans ap_ap) ?_
  show zx p l e _ s m _ below meth c g 5 0 0 _ _ 103 [(2, .int 0), (4, .int (-1)), (3, .int 0), (0, .ref (b + 405)), (1, .int 0)] _
  refine z_goto (tgt := 9) B dX9_goesOn_103 (by decide) ?_
  refine z_iload_n B dX9_goesOn_9 rfl 0 rfl ?_
  refine z_if_le (tgt := 106) B dX9_goesOn_10 (by decide) (fun _ => ?_) (fun h => absurd (by decide) h)
  exact z_vret B hr (by decide) (by decide) dX9_goesOn_106 rfl
set_option maxRecDepth 100000 in
set_option maxHeartbeats 4000000 in
theorem ci_X9_runs_821 (l : Launch) {g : gx_T} {σ : sx_T} {b : Nat} (hK : lay b σ) (w1 : Int64)  (hI_405_16 : sx_I σ (b + 405) 16 = 0) (hI_406_80 : sx_I σ (b + 406) 80 = 0) (hI_407_80 : sx_I σ (b + 407) 80 = 0) (hI_409_0 : sx_I σ (b + 409) 0 = 4) (hI_410_0 : sx_I σ (b + 410) 0 = (-1)) (hI_412_0 : sx_I σ (b + 412) 0 = 0) (hI_413_0 : sx_I σ (b + 413) 0 = 1) (hI_416_0 : sx_I σ (b + 416) 0 = 0) (hJ_417_0 : sx_J σ (b + 417) 0 = w1) (hR_405_3 : sx_R σ (b + 405) 3 = (some (b + 406))) (hR_405_4 : sx_R σ (b + 405) 4 = (some (b + 407))) (hR_405_7 : sx_R σ (b + 405) 7 = (some (b + 409))) (hR_405_8 : sx_R σ (b + 405) 8 = (some (b + 410))) (hR_405_10 : sx_R σ (b + 405) 10 = (some (b + 412))) (hR_405_11 : sx_R σ (b + 405) 11 = (some (b + 413))) (hR_405_12 : sx_R σ (b + 405) 12 = (some (b + 414))) (hR_405_14 : sx_R σ (b + 405) 14 = (some (b + 416))) (hR_405_15 : sx_R σ (b + 405) 15 = (some (b + 417))) (hR_405_42 : sx_R σ (b + 405) 42 = (some (b + 428))) : Met l yX9_runs (.code yX9_runs cX9_runs 5 none :: lw_g) { frames := 5, cells := 0, slots := 0, locals := 130 } (va_Pc [.ref (b + 405), .int 0] (zx_w g σ)) (va_Qv (fun u => u = (ap b σ [(412, 0, 1), (414, 0, 2), (405, 26, 1), (405, 37, 1), (405, 27, 2), (413, 0, 2), (416, 1, 13), (405, 28, 1), (405, 38, 1), (405, 48, (-1)), (405, 27, 1), (405, 29, (w1.toInt32)), (405, 26, 1), (405, 47, 1), (405, 39, 0), (405, 38, 0), (405, 37, 0), (405, 36, 0), (405, 35, 0), (405, 34, 0), (405, 32, 0), (405, 31, 0), (405, 30, 0), (405, 29, 0), (405, 28, 0), (405, 27, 0), (405, 26, 1), (428, 0, 0), (405, 45, 0), (405, 43, 0)] [(417, 1, ((10 * ((w1.toInt32).toInt64)) + 1))] [])) (zx_w g) (gx_Q g)) 0 0 (gx_Q g) := by
  refine z_met (by decide) (Nat.le_of_ble_eq_true rfl) (fun p e s m below meth c B hr hin => ?_)
  refine z_eqs (σ' := (ap b σ [] [] [])) rfl ?_
  show zx p l e _ s m _ below meth c g 5 0 0 _ _ 0 [(0, .ref (b + 405)), (1, .int 0)] []
  refine z_aload_n B dX9_runs_0 rfl 0 rfl ?_
  refine z_iconst (v := 0) B dX9_runs_1 (by decide) ?_
  refine pf_X9_226 (x := 0) (σ' := (ap b σ [(405, 43, 0)] [] [])) B (lKA (hk_K hK 405 rfl rfl)) wI_ap dX9_runs_2 ?_
  refine z_aload_n B dX9_runs_5 rfl 0 rfl ?_
  refine z_iconst (v := 0) B dX9_runs_6 (by decide) ?_
  refine pf_X9_159 (x := 0) (σ' := (ap b σ [(405, 45, 0), (405, 43, 0)] [] [])) B (lKA (hk_K hK 405 rfl rfl)) wI_ap dX9_runs_7 ?_
  refine z_aload_n B dX9_runs_10 rfl 0 rfl ?_
  refine z_iload_n B dX9_runs_11 rfl 1 rfl ?_
  refine z_cVv (As := [.int 0]) (rest := []) B cw_X9_229 cx_10 dX9_runs_12 (ci_X9_goesOn_820 l (σ := (ap b σ [(405, 45, 0), (405, 43, 0)] [] [])) (b := b) (lyA hK) w1 (rI_at 405 16 hI_405_16) (rI_at 406 80 hI_406_80) (rI_at 407 80 hI_407_80) (rI_at 409 0 hI_409_0) (rI_at 410 0 hI_410_0) (rI_at 412 0 hI_412_0) (rI_at 413 0 hI_413_0) (rI_at 416 0 hI_416_0) (rJ_at 417 0 hJ_417_0) (rR_at 405 3 hR_405_3) (rR_at 405 4 hR_405_4) (rR_at 405 7 hR_405_7) (rR_at 405 8 hR_405_8) (rR_at 405 10 hR_405_10) (rR_at 405 11 hR_405_11) (rR_at 405 12 hR_405_12) (rR_at 405 14 hR_405_14) (rR_at 405 15 hR_405_15) (rR_at 405 42 hR_405_42)) (lKA (hk_K hK 405 rfl rfl)) rfl (by decide) rfl (Nat.le_of_ble_eq_true rfl) (by decide) (fun u hu => ?_)
  refine z_eqs (σ' := (ap b σ [(412, 0, 1), (414, 0, 2), (405, 26, 1), (405, 37, 1), (405, 27, 2), (413, 0, 2), (416, 1, 13), (405, 28, 1), (405, 38, 1), (405, 48, (-1)), (405, 27, 1), (405, 29, (w1.toInt32)), (405, 26, 1), (405, 47, 1), (405, 39, 0), (405, 38, 0), (405, 37, 0), (405, 36, 0), (405, 35, 0), (405, 34, 0), (405, 32, 0), (405, 31, 0), (405, 30, 0), (405, 29, 0), (405, 28, 0), (405, 27, 0), (405, 26, 1), (428, 0, 0), (405, 45, 0), (405, 43, 0)] [(417, 1, ((10 * ((w1.toInt32).toInt64)) + 1))] [])) (hu.trans ap_ap) ?_
  show zx p l e _ s m _ below meth c g 5 0 0 _ _ 15 [(0, .ref (b + 405)), (1, .int 0)] _
  refine z_iconst (v := 0) B dX9_runs_15 (by decide) ?_
  refine z_istore_n (lv' := [(2, .int 0), (0, .ref (b + 405)), (1, .int 0)]) B dX9_runs_16 rfl (by decide) rfl ?_
  refine z_iconst (v := 0) B dX9_runs_17 (by decide) ?_
  refine z_istore_n (lv' := [(3, .int 0), (2, .int 0), (0, .ref (b + 405)), (1, .int 0)]) B dX9_runs_18 rfl (by decide) rfl ?_
  refine z_iload_n B dX9_runs_19 rfl 1 rfl ?_
  refine z_aload_n B dX9_runs_20 rfl 2 rfl ?_
  refine gf_X9_226 (x := 0) B (lKA (hk_K hK 405 rfl rfl)) (rI_at 405 43 rfl) dX9_runs_21 ?_
  refine z_icmp_lt (tgt := 35) B dX9_runs_24 (by decide) (fun h => absurd h (by decide)) (fun _ => ?_)
  refine z_iload_n B dX9_runs_27 rfl 0 rfl ?_
  refine z_aload_n B dX9_runs_28 rfl 2 rfl ?_
  refine gf_X9_159 (x := 0) B (lKA (hk_K hK 405 rfl rfl)) (rI_at 405 45 rfl) dX9_runs_29 ?_
  refine z_icmp_ge (tgt := 90) B dX9_runs_32 (by decide) (fun _ => ?_) (fun h => absurd (by decide) h)
  exact z_vret B hr (by decide) (by decide) dX9_runs_90 rfl
set_option maxRecDepth 100000 in
set_option maxHeartbeats 4000000 in
theorem ci_X9_start_822 (l : Launch) {g : gx_T} {σ : sx_T} {b : Nat} (hK : lay b σ) (w1 : Int32) (q1_w1 : (-999 : Int) ≤ w1.toInt) (q2_w1 : w1.toInt ≤ (-1 : Int)) (hI_405_6 : sx_I σ (b + 405) 6 = 0) (hI_405_16 : sx_I σ (b + 405) 16 = 0) (hI_406_80 : sx_I σ (b + 406) 80 = 0) (hI_407_80 : sx_I σ (b + 407) 80 = 0) (hI_412_0 : sx_I σ (b + 412) 0 = 0) (hI_413_0 : sx_I σ (b + 413) 0 = 0) (hR_405_3 : sx_R σ (b + 405) 3 = (some (b + 406))) (hR_405_4 : sx_R σ (b + 405) 4 = (some (b + 407))) (hR_405_7 : sx_R σ (b + 405) 7 = (some (b + 409))) (hR_405_8 : sx_R σ (b + 405) 8 = (some (b + 410))) (hR_405_9 : sx_R σ (b + 405) 9 = (some (b + 411))) (hR_405_10 : sx_R σ (b + 405) 10 = (some (b + 412))) (hR_405_11 : sx_R σ (b + 405) 11 = (some (b + 413))) (hR_405_12 : sx_R σ (b + 405) 12 = (some (b + 414))) (hR_405_13 : sx_R σ (b + 405) 13 = (some (b + 415))) (hR_405_14 : sx_R σ (b + 405) 14 = (some (b + 416))) (hR_405_15 : sx_R σ (b + 405) 15 = (some (b + 417))) (hR_405_42 : sx_R σ (b + 405) 42 = (some (b + 428))) : Met l yX9_start (.code yX9_start cX9_start 4 (some .int) :: lw_g) { frames := 6, cells := 0, slots := 0, locals := 154 } (va_Pc [.ref (b + 405), .int 4, .int w1] (zx_w g σ)) (va_Qi (fun r u => r = 0 ∧ u = (ap b σ [(412, 0, 1), (414, 0, 2), (405, 26, 1), (405, 37, 1), (405, 27, 2), (413, 0, 2), (416, 1, 13), (405, 28, 1), (405, 38, 1), (405, 48, (-1)), (405, 27, 1), (405, 29, ((w1.toInt64).toInt32)), (405, 26, 1), (405, 47, 1), (405, 39, 0), (405, 38, 0), (405, 37, 0), (405, 36, 0), (405, 35, 0), (405, 34, 0), (405, 32, 0), (405, 31, 0), (405, 30, 0), (405, 29, 0), (405, 28, 0), (405, 27, 0), (405, 26, 1), (428, 0, 0), (405, 45, 0), (405, 43, 0), (413, 0, 1), (416, 0, 0), (415, 0, (-1)), (411, 0, 0), (410, 0, (-1)), (409, 0, 4), (405, 6, 1), (405, 0, 0)] [(417, 1, ((10 * (((w1.toInt64).toInt32).toInt64)) + 1)), (417, 0, (w1.toInt64))] [])) (zx_w g) (gx_Q g)) 0 0 (gx_Q g) := by
  refine z_met (by decide) (Nat.le_of_ble_eq_true rfl) (fun p e s m below meth c B hr hin => ?_)
  refine z_eqs (σ' := (ap b σ [] [] [])) rfl ?_
  show zx p l e _ s m _ below meth c g 4 0 0 _ _ 0 [(0, .ref (b + 405)), (1, .int 4), (2, .int w1)] []
  refine z_aload_n B dX9_start_0 rfl 0 rfl ?_
  refine z_iload_n B dX9_start_1 rfl 1 rfl ?_
  refine z_iconst (v := 0) B dX9_start_2 (by decide) ?_
  refine z_iconst (v := 5) B dX9_start_3 (by decide) ?_
  refine z_cSi (As := [.int 4, .int 0, .int 5]) (rest := [.ref (b + 405)]) B cw_X9_96 dX9_start_4 (ci_X9_in_272 l (σ := (ap b σ [] [] [])) (b := b) (lyA hK) ) rfl (by decide) rfl (Nat.le_of_ble_eq_true rfl) (by decide) (fun r u hu => ?_)
  refine z_eqs (σ' := (ap b σ [] [] [])) hu.2 ?_
  show zx p l e _ s m _ below meth c g 4 0 0 _ _ 7 [(0, .ref (b + 405)), (1, .int 4), (2, .int w1)] _
  refine z_seti (y := 1) hu.1 ?_
  refine z_iload_n B dX9_start_7 rfl 2 rfl ?_
  refine z_sipush (v := (-999)) B dX9_start_8 (by decide) ?_
  refine z_sipush (v := 999) B dX9_start_11 (by decide) ?_
  refine z_cSi (As := [.int w1, .int (-999), .int 999]) (rest := [.int 1, .ref (b + 405)]) B cw_X9_96 dX9_start_14 (ci_X9_in_702 l (σ := (ap b σ [] [] [])) (b := b) (lyA hK) w1 q1_w1 q2_w1) rfl (by decide) rfl (Nat.le_of_ble_eq_true rfl) (by decide) (fun r u hu => ?_)
  refine z_eqs (σ' := (ap b σ [] [] [])) hu.2 ?_
  show zx p l e _ s m _ below meth c g 4 0 0 _ _ 17 [(0, .ref (b + 405)), (1, .int 4), (2, .int w1)] _
  refine z_seti (y := 1) hu.1 ?_
  refine z_aload_n B dX9_start_17 rfl 0 rfl ?_
  refine gf_X9_93 (x := 0) B (lKA (hk_K hK 405 rfl rfl)) (rI_at 405 6 hI_405_6) dX9_start_18 ?_
  refine z_bipush (v := 40) B dX9_start_21 (by decide) ?_
  refine z_icmp_ge (tgt := 30) B dX9_start_23 (by decide) (fun h => absurd h (by decide)) (fun _ => ?_)
  refine z_iconst (v := 1) B dX9_start_26 (by decide) ?_
  refine z_goto (tgt := 31) B dX9_start_27 (by decide) ?_
  refine z_cVi (As := [.int 1, .int 1, .int 1]) (rest := []) B cw_X9_259 cx_10 dX9_start_31 (ci_X9_needs___703 l (σ := (ap b σ [] [] [])) (b := b) (lyA hK) ) (lKA (hk_K hK 405 rfl rfl)) rfl (by decide) rfl (Nat.le_of_ble_eq_true rfl) (by decide) (fun r u hu => ?_)
  refine z_eqs (σ' := (ap b σ [(405, 0, 0)] [] [])) (hu.2.trans ap_ap) ?_
  show zx p l e _ s m _ below meth c g 4 0 0 _ _ 34 [(0, .ref (b + 405)), (1, .int 4), (2, .int w1)] _
  refine z_seti (y := 1) hu.1 ?_
  refine z_if_ne (tgt := 39) B dX9_start_34 (by decide) (fun _ => ?_) (fun h => absurd h (by decide))
  refine z_aload_n B dX9_start_39 rfl 0 rfl ?_
  refine z_iload_n B dX9_start_40 rfl 1 rfl ?_
  refine z_iload_n B dX9_start_41 rfl 2 rfl ?_
  refine z_iconst (v := (-1)) B dX9_start_42 (by decide) ?_
  refine z_iconst (v := (-1)) B dX9_start_43 (by decide) ?_
  refine z_cVi (As := [.int 4, .int w1, .int (-1), .int (-1)]) (rest := []) B cw_X9_168 cx_10 dX9_start_44 (ci_X9_begets_817 l (σ := (ap b σ [(405, 0, 0)] [] [])) (b := b) (lyA hK) w1 (rI_at 405 6 hI_405_6) (rI_at 413 0 hI_413_0) (rR_at 405 7 hR_405_7) (rR_at 405 8 hR_405_8) (rR_at 405 9 hR_405_9) (rR_at 405 11 hR_405_11) (rR_at 405 13 hR_405_13) (rR_at 405 14 hR_405_14) (rR_at 405 15 hR_405_15)) (lKA (hk_K hK 405 rfl rfl)) rfl (by decide) rfl (Nat.le_of_ble_eq_true rfl) (by decide) (fun r u hu => ?_)
  refine z_eqs (σ' := (ap b σ [(413, 0, 1), (416, 0, 0), (415, 0, (-1)), (411, 0, 0), (410, 0, (-1)), (409, 0, 4), (405, 6, 1), (405, 0, 0)] [(417, 0, (w1.toInt64))] [])) (hu.2.trans ap_ap) ?_
  show zx p l e _ s m _ below meth c g 4 0 0 _ _ 47 [(0, .ref (b + 405)), (1, .int 4), (2, .int w1)] _
  refine z_seti (y := 0) hu.1 ?_
  refine z_istore_n (lv' := [(3, .int 0), (0, .ref (b + 405)), (1, .int 4), (2, .int w1)]) B dX9_start_47 rfl (by decide) rfl ?_
  refine z_aload_n B dX9_start_48 rfl 1 rfl ?_
  refine z_iload_n B dX9_start_49 rfl 0 rfl ?_
  refine z_cVv (As := [.int 0]) (rest := []) B cw_X9_253 cx_10 dX9_start_50 (ci_X9_runs_821 l (σ := (ap b σ [(413, 0, 1), (416, 0, 0), (415, 0, (-1)), (411, 0, 0), (410, 0, (-1)), (409, 0, 4), (405, 6, 1), (405, 0, 0)] [(417, 0, (w1.toInt64))] [])) (b := b) (lyA hK) (w1.toInt64) (rI_at 405 16 hI_405_16) (rI_at 406 80 hI_406_80) (rI_at 407 80 hI_407_80) (rI_at 409 0 rfl) (rI_at 410 0 rfl) (rI_at 412 0 hI_412_0) (rI_at 413 0 rfl) (rI_at 416 0 rfl) (rJ_at 417 0 rfl) (rR_at 405 3 hR_405_3) (rR_at 405 4 hR_405_4) (rR_at 405 7 hR_405_7) (rR_at 405 8 hR_405_8) (rR_at 405 10 hR_405_10) (rR_at 405 11 hR_405_11) (rR_at 405 12 hR_405_12) (rR_at 405 14 hR_405_14) (rR_at 405 15 hR_405_15) (rR_at 405 42 hR_405_42)) (lKA (hk_K hK 405 rfl rfl)) rfl (by decide) rfl (Nat.le_of_ble_eq_true rfl) (by decide) (fun u hu => ?_)
  refine z_eqs (σ' := (ap b σ [(412, 0, 1), (414, 0, 2), (405, 26, 1), (405, 37, 1), (405, 27, 2), (413, 0, 2), (416, 1, 13), (405, 28, 1), (405, 38, 1), (405, 48, (-1)), (405, 27, 1), (405, 29, ((w1.toInt64).toInt32)), (405, 26, 1), (405, 47, 1), (405, 39, 0), (405, 38, 0), (405, 37, 0), (405, 36, 0), (405, 35, 0), (405, 34, 0), (405, 32, 0), (405, 31, 0), (405, 30, 0), (405, 29, 0), (405, 28, 0), (405, 27, 0), (405, 26, 1), (428, 0, 0), (405, 45, 0), (405, 43, 0), (413, 0, 1), (416, 0, 0), (415, 0, (-1)), (411, 0, 0), (410, 0, (-1)), (409, 0, 4), (405, 6, 1), (405, 0, 0)] [(417, 1, ((10 * (((w1.toInt64).toInt32).toInt64)) + 1)), (417, 0, (w1.toInt64))] [])) (hu.trans ap_ap) ?_
  show zx p l e _ s m _ below meth c g 4 0 0 _ _ 53 [(3, .int 0), (0, .ref (b + 405)), (1, .int 4), (2, .int w1)] _
  refine z_iload_n B dX9_start_53 rfl 0 rfl ?_
  exact z_iret B hr (by decide) (by decide) dX9_start_54 ⟨rfl, rfl⟩
set_option maxRecDepth 100000 in
set_option maxHeartbeats 4000000 in
theorem ci_X8_goOn_823 (l : Launch) {g : gx_T} {σ : sx_T} {b : Nat} (hK : lay b σ) (w1 : Int32) (q1_w1 : (0 : Int) ≤ w1.toInt) (q2_w1 : w1.toInt ≤ (999 : Int)) (hI_5_1 : sx_I σ (b + 5) 1 = 0) (hI_5_2 : sx_I σ (b + 5) 2 = 0) (hI_7_1 : sx_I σ (b + 7) 1 = 0) (hI_7_2 : sx_I σ (b + 7) 2 = 0) (hI_26_0 : sx_I σ (b + 26) 0 = 0) (hI_27_0 : sx_I σ (b + 27) 0 = 0) (hI_28_0 : sx_I σ (b + 28) 0 = 0) (hI_37_2 : sx_I σ (b + 37) 2 = 1) (hI_40_4 : sx_I σ (b + 40) 4 = (-1)) (hI_40_8 : sx_I σ (b + 40) 8 = 0) (hI_41_4 : sx_I σ (b + 41) 4 = 1) (hI_41_5 : sx_I σ (b + 41) 5 = 0) (hI_41_6 : sx_I σ (b + 41) 6 = w1) (hI_41_7 : sx_I σ (b + 41) 7 = 0) (hI_41_8 : sx_I σ (b + 41) 8 = 0) (hI_41_14 : sx_I σ (b + 41) 14 = 0) (hI_41_15 : sx_I σ (b + 41) 15 = 0) (hI_41_16 : sx_I σ (b + 41) 16 = (-1)) (hI_41_18 : sx_I σ (b + 41) 18 = (-1)) (hI_41_19 : sx_I σ (b + 41) 19 = 0) (hR_0_4 : sx_R σ (b + 0) 4 = (some (b + 5))) (hR_0_5 : sx_R σ (b + 0) 5 = (some (b + 7))) (hR_5_0 : sx_R σ (b + 5) 0 = (some (b + 6))) (hR_25_1 : sx_R σ (b + 25) 1 = (some (b + 26))) (hR_25_2 : sx_R σ (b + 25) 2 = (some (b + 27))) (hR_25_3 : sx_R σ (b + 25) 3 = (some (b + 28))) (hR_37_0 : sx_R σ (b + 37) 0 = (some (b + 38))) (hR_37_1 : sx_R σ (b + 37) 1 = (some (b + 39))) (hR_40_1 : sx_R σ (b + 40) 1 = (some (b + 37))) (hR_40_2 : sx_R σ (b + 40) 2 = (some (b + 41))) (hR_40_7 : sx_R σ (b + 40) 7 = none) (hR_41_2 : sx_R σ (b + 41) 2 = (some (b + 25))) (hR_41_3 : sx_R σ (b + 41) 3 = (some (b + 37))) : Met l yX8_goOn (.code yX8_goOn cX8_goOn 5 none :: lw_g) { frames := 3, cells := 0, slots := 0, locals := 72 } (va_Pc [.ref (b + 0), .ref (b + 40)] (zx_w g σ)) (va_Qv (fun u => u = (ap b σ [(7, 2, 0), (7, 1, 0), (40, 8, 2), (5, 2, 0), (41, 19, 0), (41, 19, 0), (41, 15, 1), (41, 4, 2), (41, 16, (-1)), (37, 2, 2), (38, 1, 13), (41, 16, 13), (41, 7, 1), (41, 5, 1), (5, 2, 1)] [(39, 1, ((10 * (w1.toInt64)) + 1)), (41, 17, ((10 * (w1.toInt64)) + 1))] [(6, 0, (some (b + 40)))])) (zx_w g) (gx_Q g)) 0 0 (gx_Q g) := by
  refine z_met (by decide) (Nat.le_of_ble_eq_true rfl) (fun p e s m below meth c B hr hin => ?_)
  refine z_eqs (σ' := (ap b σ [] [] [])) rfl ?_
  show zx p l e _ s m _ below meth c g 5 0 0 _ _ 0 [(0, .ref (b + 0)), (1, .ref (b + 40))] []
  refine z_aload_n B dX8_goOn_0 rfl 0 rfl ?_
  refine gf_X8_35 (x := (some (b + 5))) B (lKA (hk_K hK 0 rfl rfl)) (rR_at 0 4 hR_0_4) dX8_goOn_1 ?_
  refine z_aload_n B dX8_goOn_4 rfl 1 rfl ?_
  refine z_cVv (As := [.ref (b + 40)]) (rest := []) B cw_X8_337 cx_3 dX8_goOn_5 (ci_X2_addLast_667 l (σ := (ap b σ [] [] [])) (b := b) (lyA hK) (rI_at 5 2 hI_5_2) (rR_at 5 0 hR_5_0)) (lKA (hk_K hK 5 rfl rfl)) rfl (by decide) rfl (Nat.le_of_ble_eq_true rfl) (by decide) (fun u hu => ?_)
  refine z_eqs (σ' := (ap b σ [(5, 2, 1)] [] [(6, 0, (some (b + 40)))])) (hu.trans ap_ap) ?_
  show zx p l e _ s m _ below meth c g 5 0 0 _ _ 8 [(0, .ref (b + 0)), (1, .ref (b + 40))] _
  refine z_iconst (v := 0) B dX8_goOn_8 (by decide) ?_
  refine z_istore_n (lv' := [(2, .int 0), (0, .ref (b + 0)), (1, .ref (b + 40))]) B dX8_goOn_9 rfl (by decide) rfl ?_
  refine z_iload_n B dX8_goOn_10 rfl 0 rfl ?_
  refine z_ldcw (v := 1000000) B dX8_goOn_11 wg_515 ?_
  refine z_icmp_ge (tgt := 126) B dX8_goOn_14 (by decide) (fun h => absurd h (by decide)) (fun _ => ?_)
  refine z_aload_n B dX8_goOn_17 rfl 1 rfl ?_
  refine gf_X8_35 (x := (some (b + 5))) B (lKA (hk_K hK 0 rfl rfl)) (rR_at 0 4 hR_0_4) dX8_goOn_18 ?_
  refine z_cVi (As := []) (rest := []) B cw_X8_341 cx_3 dX8_goOn_21 (ci_X2_isEmpty_668 l (σ := (ap b σ [(5, 2, 1)] [] [(6, 0, (some (b + 40)))])) (b := b) (lyA hK) (rI_at 5 1 hI_5_1) (rI_at 5 2 rfl)) (lKA (hk_K hK 5 rfl rfl)) rfl (by decide) rfl (Nat.le_of_ble_eq_true rfl) (by decide) (fun r u hu => ?_)
  refine z_eqs (σ' := (ap b σ [(5, 2, 1)] [] [(6, 0, (some (b + 40)))])) hu.2 ?_
  show zx p l e _ s m _ below meth c g 5 0 0 _ _ 24 [(2, .int 0), (0, .ref (b + 0)), (1, .ref (b + 40))] _
  refine z_seti (y := 0) hu.1 ?_
  refine z_if_eq (tgt := 41) B dX8_goOn_24 (by decide) (fun _ => ?_) (fun h => absurd (by decide) h)
  refine z_aload_n B dX8_goOn_41 rfl 1 rfl ?_
  refine gf_X8_35 (x := (some (b + 5))) B (lKA (hk_K hK 0 rfl rfl)) (rR_at 0 4 hR_0_4) dX8_goOn_42 ?_
  refine z_cVq (As := []) (rest := []) B cw_X8_348 cx_3 dX8_goOn_45 (ci_X2_last_669 l (σ := (ap b σ [(5, 2, 1)] [] [(6, 0, (some (b + 40)))])) (b := b) (lyA hK) (rI_at 5 1 hI_5_1) (rI_at 5 2 rfl) (rR_at 5 0 hR_5_0) (rR_at 6 0 rfl)) (lKA (hk_K hK 5 rfl rfl)) rfl (by decide) rfl (Nat.le_of_ble_eq_true rfl) (by decide) (fun r u hu => ?_)
  refine z_eqs (σ' := (ap b σ [(5, 2, 1)] [] [(6, 0, (some (b + 40)))])) hu.2 ?_
  show zx p l e _ s m _ below meth c g 5 0 0 _ _ 48 [(2, .int 0), (0, .ref (b + 0)), (1, .ref (b + 40))] _
  refine z_setr (y := (some (b + 40))) hu.1 ?_
  refine z_astore_n (lv' := [(3, .ref (b + 40)), (2, .int 0), (0, .ref (b + 0)), (1, .ref (b + 40))]) B dX8_goOn_48 rfl (by decide) rfl ?_
  refine z_aload_n B dX8_goOn_49 rfl 0 rfl ?_
  refine z_ifnonnull (r := (some (b + 40))) (tgt := 54) B dX8_goOn_50 (by decide) (fun _ _ => ?_) (fun h => nomatch h)
  refine z_aload_n B dX8_goOn_54 rfl 0 rfl ?_
  refine gf_X8_249 (x := (some (b + 41))) B (lKA (hk_K hK 40 rfl rfl)) (rR_at 40 2 hR_40_2) dX8_goOn_55 ?_
  refine z_aload_n B dX8_goOn_58 rfl 0 rfl ?_
  refine gf_X8_179 (x := (some (b + 37))) B (lKA (hk_K hK 40 rfl rfl)) (rR_at 40 1 hR_40_1) dX8_goOn_59 ?_
  refine z_cVi (As := []) (rest := [.ref (b + 41)]) B cw_X8_183 cx_2 dX8_goOn_62 (ci_X1_size_670 l (σ := (ap b σ [(5, 2, 1)] [] [(6, 0, (some (b + 40)))])) (b := b) (lyA hK) (rI_at 37 2 hI_37_2)) (lKA (hk_K hK 37 rfl rfl)) rfl (by decide) rfl (Nat.le_of_ble_eq_true rfl) (by decide) (fun r u hu => ?_)
  refine z_eqs (σ' := (ap b σ [(5, 2, 1)] [] [(6, 0, (some (b + 40)))])) hu.2 ?_
  show zx p l e _ s m _ below meth c g 5 0 0 _ _ 65 [(3, .ref (b + 40)), (2, .int 0), (0, .ref (b + 0)), (1, .ref (b + 40))] _
  refine z_seti (y := 1) hu.1 ?_
  refine z_cVv (As := [.int 1]) (rest := []) B cw_X8_289 cx_6 dX8_goOn_65 (ci_X5_advance_813 l (σ := (ap b σ [(5, 2, 1)] [] [(6, 0, (some (b + 40)))])) (b := b) (lyA hK) w1 (rI_at 26 0 hI_26_0) (rI_at 27 0 hI_27_0) (rI_at 28 0 hI_28_0) (rI_at 41 4 hI_41_4) (rI_at 41 5 hI_41_5) (rI_at 41 6 hI_41_6) (rI_at 41 7 hI_41_7) (rI_at 41 8 hI_41_8) (rI_at 41 14 hI_41_14) (rI_at 41 15 hI_41_15) (rI_at 41 16 hI_41_16) (rI_at 41 19 hI_41_19) (rR_at 25 1 hR_25_1) (rR_at 25 2 hR_25_2) (rR_at 25 3 hR_25_3) (rR_at 41 2 hR_41_2)) (lKA (hk_K hK 41 rfl rfl)) rfl (by decide) rfl (Nat.le_of_ble_eq_true rfl) (by decide) (fun u hu => ?_)
  refine z_eqs (σ' := (ap b σ [(41, 16, 13), (41, 7, 1), (41, 5, 1), (5, 2, 1)] [(41, 17, ((10 * (w1.toInt64)) + 1))] [(6, 0, (some (b + 40)))])) (hu.trans ap_ap) ?_
  show zx p l e _ s m _ below meth c g 5 0 0 _ _ 68 [(3, .ref (b + 40)), (2, .int 0), (0, .ref (b + 0)), (1, .ref (b + 40))] _
  refine z_aload_n B dX8_goOn_68 rfl 0 rfl ?_
  refine z_cVv (As := []) (rest := []) B cw_X8_351 cx_1 dX8_goOn_69 (ci_X0_letGo_679 l (σ := (ap b σ [(41, 16, 13), (41, 7, 1), (41, 5, 1), (5, 2, 1)] [(41, 17, ((10 * (w1.toInt64)) + 1))] [(6, 0, (some (b + 40)))])) (b := b) (lyA hK) (rR_at 40 7 hR_40_7)) (lKA (hk_K hK 40 rfl rfl)) rfl (by decide) rfl (Nat.le_of_ble_eq_true rfl) (by decide) (fun u hu => ?_)
  refine z_eqs (σ' := (ap b σ [(41, 16, 13), (41, 7, 1), (41, 5, 1), (5, 2, 1)] [(41, 17, ((10 * (w1.toInt64)) + 1))] [(6, 0, (some (b + 40)))])) hu ?_
  show zx p l e _ s m _ below meth c g 5 0 0 _ _ 72 [(3, .ref (b + 40)), (2, .int 0), (0, .ref (b + 0)), (1, .ref (b + 40))] _
  refine z_aload_n B dX8_goOn_72 rfl 0 rfl ?_
  refine gf_X8_249 (x := (some (b + 41))) B (lKA (hk_K hK 40 rfl rfl)) (rR_at 40 2 hR_40_2) dX8_goOn_73 ?_
  refine z_cVi (As := []) (rest := []) B cw_X8_354 cx_6 dX8_goOn_76 (ci_X5_wantsEvent_680 l (σ := (ap b σ [(41, 16, 13), (41, 7, 1), (41, 5, 1), (5, 2, 1)] [(41, 17, ((10 * (w1.toInt64)) + 1))] [(6, 0, (some (b + 40)))])) (b := b) (lyA hK) (rI_at 41 16 rfl) (rI_at 41 19 hI_41_19)) (lKA (hk_K hK 41 rfl rfl)) rfl (by decide) rfl (Nat.le_of_ble_eq_true rfl) (by decide) (fun r u hu => ?_)
  refine z_eqs (σ' := (ap b σ [(41, 16, 13), (41, 7, 1), (41, 5, 1), (5, 2, 1)] [(41, 17, ((10 * (w1.toInt64)) + 1))] [(6, 0, (some (b + 40)))])) hu.2 ?_
  show zx p l e _ s m _ below meth c g 5 0 0 _ _ 79 [(3, .ref (b + 40)), (2, .int 0), (0, .ref (b + 0)), (1, .ref (b + 40))] _
  refine z_seti (y := 1) hu.1 ?_
  refine z_if_eq (tgt := 115) B dX8_goOn_79 (by decide) (fun h => absurd h (by decide)) (fun _ => ?_)
  refine z_aload_n B dX8_goOn_82 rfl 2 rfl ?_
  refine z_aload_n B dX8_goOn_83 rfl 0 rfl ?_
  refine z_cVq (As := [.ref (b + 40)]) (rest := []) B cw_X8_357 cx_9 dX8_goOn_84 (ci_X8_make_684 l (σ := (ap b σ [(41, 16, 13), (41, 7, 1), (41, 5, 1), (5, 2, 1)] [(41, 17, ((10 * (w1.toInt64)) + 1))] [(6, 0, (some (b + 40)))])) (b := b) (lyA hK) ((10 * (w1.toInt64)) + 1) (rI_at 37 2 hI_37_2) (rI_at 40 4 hI_40_4) (rI_at 41 16 rfl) (rJ_at 41 17 rfl) (rR_at 37 0 hR_37_0) (rR_at 37 1 hR_37_1) (rR_at 40 1 hR_40_1) (rR_at 40 2 hR_40_2)) (lKA (hk_K hK 0 rfl rfl)) rfl (by decide) rfl (Nat.le_of_ble_eq_true rfl) (by decide) (fun r u hu => ?_)
  refine z_eqs (σ' := (ap b σ [(37, 2, 2), (38, 1, 13), (41, 16, 13), (41, 7, 1), (41, 5, 1), (5, 2, 1)] [(39, 1, ((10 * (w1.toInt64)) + 1)), (41, 17, ((10 * (w1.toInt64)) + 1))] [(6, 0, (some (b + 40)))])) (hu.2.trans ap_ap) ?_
  show zx p l e _ s m _ below meth c g 5 0 0 _ _ 87 [(3, .ref (b + 40)), (2, .int 0), (0, .ref (b + 0)), (1, .ref (b + 40))] _
  refine z_setr (y := none) hu.1 ?_
  refine z_qstore (r := none) (lv' := [(4, .null), (3, .ref (b + 40)), (2, .int 0), (0, .ref (b + 0)), (1, .ref (b + 40))]) B dX8_goOn_87 (by decide) rfl ?_
  refine z_aload_n B dX8_goOn_89 rfl 1 rfl ?_
  refine gf_X8_249 (x := (some (b + 41))) B (lKA (hk_K hK 40 rfl rfl)) (rR_at 40 2 hR_40_2) dX8_goOn_90 ?_
  refine z_aload_n B dX8_goOn_93 rfl 1 rfl ?_
  refine gf_X8_179 (x := (some (b + 37))) B (lKA (hk_K hK 40 rfl rfl)) (rR_at 40 1 hR_40_1) dX8_goOn_94 ?_
  refine z_cVi (As := []) (rest := [.ref (b + 41)]) B cw_X8_183 cx_2 dX8_goOn_97 (ci_X1_size_685 l (σ := (ap b σ [(37, 2, 2), (38, 1, 13), (41, 16, 13), (41, 7, 1), (41, 5, 1), (5, 2, 1)] [(39, 1, ((10 * (w1.toInt64)) + 1)), (41, 17, ((10 * (w1.toInt64)) + 1))] [(6, 0, (some (b + 40)))])) (b := b) (lyA hK) (rI_at 37 2 rfl)) (lKA (hk_K hK 37 rfl rfl)) rfl (by decide) rfl (Nat.le_of_ble_eq_true rfl) (by decide) (fun r u hu => ?_)
  refine z_eqs (σ' := (ap b σ [(37, 2, 2), (38, 1, 13), (41, 16, 13), (41, 7, 1), (41, 5, 1), (5, 2, 1)] [(39, 1, ((10 * (w1.toInt64)) + 1)), (41, 17, ((10 * (w1.toInt64)) + 1))] [(6, 0, (some (b + 40)))])) hu.2 ?_
  show zx p l e _ s m _ below meth c g 5 0 0 _ _ 100 [(4, .null), (3, .ref (b + 40)), (2, .int 0), (0, .ref (b + 0)), (1, .ref (b + 40))] _
  refine z_seti (y := 2) hu.1 ?_
  refine z_cVv (As := [.int 2]) (rest := []) B cw_X8_289 cx_6 dX8_goOn_100 (ci_X5_advance_717 l (σ := (ap b σ [(37, 2, 2), (38, 1, 13), (41, 16, 13), (41, 7, 1), (41, 5, 1), (5, 2, 1)] [(39, 1, ((10 * (w1.toInt64)) + 1)), (41, 17, ((10 * (w1.toInt64)) + 1))] [(6, 0, (some (b + 40)))])) (b := b) (lyA hK) ((10 * (w1.toInt64)) + 1) (iv_ladd (c := 1) (n := 1) rfl (iv_lmul (c := 10) (n := 10) rfl (by decide) (iv_i2l q1_w1 q2_w1).1 (iv_i2l q1_w1 q2_w1).2 (by decide) (by decide)).1 (iv_lmul (c := 10) (n := 10) rfl (by decide) (iv_i2l q1_w1 q2_w1).1 (iv_i2l q1_w1 q2_w1).2 (by decide) (by decide)).2 (by decide) (by decide)).1 (iv_ladd (c := 1) (n := 1) rfl (iv_lmul (c := 10) (n := 10) rfl (by decide) (iv_i2l q1_w1 q2_w1).1 (iv_i2l q1_w1 q2_w1).2 (by decide) (by decide)).1 (iv_lmul (c := 10) (n := 10) rfl (by decide) (iv_i2l q1_w1 q2_w1).1 (iv_i2l q1_w1 q2_w1).2 (by decide) (by decide)).2 (by decide) (by decide)).2 (rI_at 37 2 rfl) (rI_at 38 1 rfl) (rI_at 41 4 hI_41_4) (rI_at 41 16 rfl) (rI_at 41 19 hI_41_19) (rJ_at 39 1 rfl) (rJ_at 41 17 rfl) (rR_at 37 0 hR_37_0) (rR_at 37 1 hR_37_1) (rR_at 41 3 hR_41_3)) (lKA (hk_K hK 41 rfl rfl)) rfl (by decide) rfl (Nat.le_of_ble_eq_true rfl) (by decide) (fun u hu => ?_)
  refine z_eqs (σ' := (ap b σ [(41, 19, 0), (41, 15, 1), (41, 4, 2), (41, 16, (-1)), (37, 2, 2), (38, 1, 13), (41, 16, 13), (41, 7, 1), (41, 5, 1), (5, 2, 1)] [(39, 1, ((10 * (w1.toInt64)) + 1)), (41, 17, ((10 * (w1.toInt64)) + 1))] [(6, 0, (some (b + 40)))])) (hu.trans ap_ap) ?_
  show zx p l e _ s m _ below meth c g 5 0 0 _ _ 103 [(4, .null), (3, .ref (b + 40)), (2, .int 0), (0, .ref (b + 0)), (1, .ref (b + 40))] _
  refine z_aload_n B dX8_goOn_103 rfl 3 rfl ?_
  refine gf_X8_35 (x := (some (b + 5))) B (lKA (hk_K hK 0 rfl rfl)) (rR_at 0 4 hR_0_4) dX8_goOn_104 ?_
  refine z_qload (r := none) B dX8_goOn_107 0 rfl ?_
  refine z_cVv (As := [.null]) (rest := []) B cw_X8_337 cx_3 dX8_goOn_109 (ci_X2_addLast_691 l (σ := (ap b σ [(41, 19, 0), (41, 15, 1), (41, 4, 2), (41, 16, (-1)), (37, 2, 2), (38, 1, 13), (41, 16, 13), (41, 7, 1), (41, 5, 1), (5, 2, 1)] [(39, 1, ((10 * (w1.toInt64)) + 1)), (41, 17, ((10 * (w1.toInt64)) + 1))] [(6, 0, (some (b + 40)))])) (b := b) (lyA hK) ) (lKA (hk_K hK 5 rfl rfl)) rfl (by decide) rfl (Nat.le_of_ble_eq_true rfl) (by decide) (fun u hu => ?_)
  refine z_eqs (σ' := (ap b σ [(41, 19, 0), (41, 15, 1), (41, 4, 2), (41, 16, (-1)), (37, 2, 2), (38, 1, 13), (41, 16, 13), (41, 7, 1), (41, 5, 1), (5, 2, 1)] [(39, 1, ((10 * (w1.toInt64)) + 1)), (41, 17, ((10 * (w1.toInt64)) + 1))] [(6, 0, (some (b + 40)))])) hu ?_
  show zx p l e _ s m _ below meth c g 5 0 0 _ _ 112 [(4, .null), (3, .ref (b + 40)), (2, .int 0), (0, .ref (b + 0)), (1, .ref (b + 40))] _
  refine z_goto (tgt := 120) B dX8_goOn_112 (by decide) ?_
  refine z_iinc (v := 1) (lv' := [(2, .int 1), (4, .null), (3, .ref (b + 40)), (0, .ref (b + 0)), (1, .ref (b + 40))]) B dX8_goOn_120 2 rfl (by decide) (by decide) rfl ?_
  refine z_goto (tgt := 10) B dX8_goOn_123 (by decide) ?_
  refine z_iload_n B dX8_goOn_10 rfl 0 rfl ?_
  refine z_ldcw (v := 1000000) B dX8_goOn_11 wg_515 ?_
  refine z_icmp_ge (tgt := 126) B dX8_goOn_14 (by decide) (fun h => absurd h (by decide)) (fun _ => ?_)
  refine z_aload_n B dX8_goOn_17 rfl 3 rfl ?_
  refine gf_X8_35 (x := (some (b + 5))) B (lKA (hk_K hK 0 rfl rfl)) (rR_at 0 4 hR_0_4) dX8_goOn_18 ?_
  refine z_cVi (As := []) (rest := []) B cw_X8_341 cx_3 dX8_goOn_21 (ci_X2_isEmpty_668 l (σ := (ap b σ [(41, 19, 0), (41, 15, 1), (41, 4, 2), (41, 16, (-1)), (37, 2, 2), (38, 1, 13), (41, 16, 13), (41, 7, 1), (41, 5, 1), (5, 2, 1)] [(39, 1, ((10 * (w1.toInt64)) + 1)), (41, 17, ((10 * (w1.toInt64)) + 1))] [(6, 0, (some (b + 40)))])) (b := b) (lyA hK) (rI_at 5 1 hI_5_1) (rI_at 5 2 rfl)) (lKA (hk_K hK 5 rfl rfl)) rfl (by decide) rfl (Nat.le_of_ble_eq_true rfl) (by decide) (fun r u hu => ?_)
  refine z_eqs (σ' := (ap b σ [(41, 19, 0), (41, 15, 1), (41, 4, 2), (41, 16, (-1)), (37, 2, 2), (38, 1, 13), (41, 16, 13), (41, 7, 1), (41, 5, 1), (5, 2, 1)] [(39, 1, ((10 * (w1.toInt64)) + 1)), (41, 17, ((10 * (w1.toInt64)) + 1))] [(6, 0, (some (b + 40)))])) hu.2 ?_
  show zx p l e _ s m _ below meth c g 5 0 0 _ _ 24 [(2, .int 1), (4, .null), (3, .ref (b + 40)), (0, .ref (b + 0)), (1, .ref (b + 40))] _
  refine z_seti (y := 0) hu.1 ?_
  refine z_if_eq (tgt := 41) B dX8_goOn_24 (by decide) (fun _ => ?_) (fun h => absurd (by decide) h)
  refine z_aload_n B dX8_goOn_41 rfl 3 rfl ?_
  refine gf_X8_35 (x := (some (b + 5))) B (lKA (hk_K hK 0 rfl rfl)) (rR_at 0 4 hR_0_4) dX8_goOn_42 ?_
  refine z_cVq (As := []) (rest := []) B cw_X8_348 cx_3 dX8_goOn_45 (ci_X2_last_669 l (σ := (ap b σ [(41, 19, 0), (41, 15, 1), (41, 4, 2), (41, 16, (-1)), (37, 2, 2), (38, 1, 13), (41, 16, 13), (41, 7, 1), (41, 5, 1), (5, 2, 1)] [(39, 1, ((10 * (w1.toInt64)) + 1)), (41, 17, ((10 * (w1.toInt64)) + 1))] [(6, 0, (some (b + 40)))])) (b := b) (lyA hK) (rI_at 5 1 hI_5_1) (rI_at 5 2 rfl) (rR_at 5 0 hR_5_0) (rR_at 6 0 rfl)) (lKA (hk_K hK 5 rfl rfl)) rfl (by decide) rfl (Nat.le_of_ble_eq_true rfl) (by decide) (fun r u hu => ?_)
  refine z_eqs (σ' := (ap b σ [(41, 19, 0), (41, 15, 1), (41, 4, 2), (41, 16, (-1)), (37, 2, 2), (38, 1, 13), (41, 16, 13), (41, 7, 1), (41, 5, 1), (5, 2, 1)] [(39, 1, ((10 * (w1.toInt64)) + 1)), (41, 17, ((10 * (w1.toInt64)) + 1))] [(6, 0, (some (b + 40)))])) hu.2 ?_
  show zx p l e _ s m _ below meth c g 5 0 0 _ _ 48 [(2, .int 1), (4, .null), (3, .ref (b + 40)), (0, .ref (b + 0)), (1, .ref (b + 40))] _
  refine z_setr (y := (some (b + 40))) hu.1 ?_
  refine z_astore_n (lv' := [(3, .ref (b + 40)), (2, .int 1), (4, .null), (0, .ref (b + 0)), (1, .ref (b + 40))]) B dX8_goOn_48 rfl (by decide) rfl ?_
  refine z_aload_n B dX8_goOn_49 rfl 0 rfl ?_
  refine z_ifnonnull (r := (some (b + 40))) (tgt := 54) B dX8_goOn_50 (by decide) (fun _ _ => ?_) (fun h => nomatch h)
  refine z_aload_n B dX8_goOn_54 rfl 0 rfl ?_
  refine gf_X8_249 (x := (some (b + 41))) B (lKA (hk_K hK 40 rfl rfl)) (rR_at 40 2 hR_40_2) dX8_goOn_55 ?_
  refine z_aload_n B dX8_goOn_58 rfl 0 rfl ?_
  refine gf_X8_179 (x := (some (b + 37))) B (lKA (hk_K hK 40 rfl rfl)) (rR_at 40 1 hR_40_1) dX8_goOn_59 ?_
  refine z_cVi (As := []) (rest := [.ref (b + 41)]) B cw_X8_183 cx_2 dX8_goOn_62 (ci_X1_size_685 l (σ := (ap b σ [(41, 19, 0), (41, 15, 1), (41, 4, 2), (41, 16, (-1)), (37, 2, 2), (38, 1, 13), (41, 16, 13), (41, 7, 1), (41, 5, 1), (5, 2, 1)] [(39, 1, ((10 * (w1.toInt64)) + 1)), (41, 17, ((10 * (w1.toInt64)) + 1))] [(6, 0, (some (b + 40)))])) (b := b) (lyA hK) (rI_at 37 2 rfl)) (lKA (hk_K hK 37 rfl rfl)) rfl (by decide) rfl (Nat.le_of_ble_eq_true rfl) (by decide) (fun r u hu => ?_)
  refine z_eqs (σ' := (ap b σ [(41, 19, 0), (41, 15, 1), (41, 4, 2), (41, 16, (-1)), (37, 2, 2), (38, 1, 13), (41, 16, 13), (41, 7, 1), (41, 5, 1), (5, 2, 1)] [(39, 1, ((10 * (w1.toInt64)) + 1)), (41, 17, ((10 * (w1.toInt64)) + 1))] [(6, 0, (some (b + 40)))])) hu.2 ?_
  show zx p l e _ s m _ below meth c g 5 0 0 _ _ 65 [(3, .ref (b + 40)), (2, .int 1), (4, .null), (0, .ref (b + 0)), (1, .ref (b + 40))] _
  refine z_seti (y := 2) hu.1 ?_
  refine z_cVv (As := [.int 2]) (rest := []) B cw_X8_289 cx_6 dX8_goOn_65 (ci_X5_advance_692 l (σ := (ap b σ [(41, 19, 0), (41, 15, 1), (41, 4, 2), (41, 16, (-1)), (37, 2, 2), (38, 1, 13), (41, 16, 13), (41, 7, 1), (41, 5, 1), (5, 2, 1)] [(39, 1, ((10 * (w1.toInt64)) + 1)), (41, 17, ((10 * (w1.toInt64)) + 1))] [(6, 0, (some (b + 40)))])) (b := b) (lyA hK) (rI_at 41 4 rfl) (rI_at 41 15 rfl) (rI_at 41 16 rfl) (rI_at 41 19 rfl)) (lKA (hk_K hK 41 rfl rfl)) rfl (by decide) rfl (Nat.le_of_ble_eq_true rfl) (by decide) (fun u hu => ?_)
  refine z_eqs (σ' := (ap b σ [(41, 19, 0), (41, 19, 0), (41, 15, 1), (41, 4, 2), (41, 16, (-1)), (37, 2, 2), (38, 1, 13), (41, 16, 13), (41, 7, 1), (41, 5, 1), (5, 2, 1)] [(39, 1, ((10 * (w1.toInt64)) + 1)), (41, 17, ((10 * (w1.toInt64)) + 1))] [(6, 0, (some (b + 40)))])) (hu.trans ap_ap) ?_
  show zx p l e _ s m _ below meth c g 5 0 0 _ _ 68 [(3, .ref (b + 40)), (2, .int 1), (4, .null), (0, .ref (b + 0)), (1, .ref (b + 40))] _
  refine z_aload_n B dX8_goOn_68 rfl 0 rfl ?_
  refine z_cVv (As := []) (rest := []) B cw_X8_351 cx_1 dX8_goOn_69 (ci_X0_letGo_679 l (σ := (ap b σ [(41, 19, 0), (41, 19, 0), (41, 15, 1), (41, 4, 2), (41, 16, (-1)), (37, 2, 2), (38, 1, 13), (41, 16, 13), (41, 7, 1), (41, 5, 1), (5, 2, 1)] [(39, 1, ((10 * (w1.toInt64)) + 1)), (41, 17, ((10 * (w1.toInt64)) + 1))] [(6, 0, (some (b + 40)))])) (b := b) (lyA hK) (rR_at 40 7 hR_40_7)) (lKA (hk_K hK 40 rfl rfl)) rfl (by decide) rfl (Nat.le_of_ble_eq_true rfl) (by decide) (fun u hu => ?_)
  refine z_eqs (σ' := (ap b σ [(41, 19, 0), (41, 19, 0), (41, 15, 1), (41, 4, 2), (41, 16, (-1)), (37, 2, 2), (38, 1, 13), (41, 16, 13), (41, 7, 1), (41, 5, 1), (5, 2, 1)] [(39, 1, ((10 * (w1.toInt64)) + 1)), (41, 17, ((10 * (w1.toInt64)) + 1))] [(6, 0, (some (b + 40)))])) hu ?_
  show zx p l e _ s m _ below meth c g 5 0 0 _ _ 72 [(3, .ref (b + 40)), (2, .int 1), (4, .null), (0, .ref (b + 0)), (1, .ref (b + 40))] _
  refine z_aload_n B dX8_goOn_72 rfl 0 rfl ?_
  refine gf_X8_249 (x := (some (b + 41))) B (lKA (hk_K hK 40 rfl rfl)) (rR_at 40 2 hR_40_2) dX8_goOn_73 ?_
  refine z_cVi (As := []) (rest := []) B cw_X8_354 cx_6 dX8_goOn_76 (ci_X5_wantsEvent_693 l (σ := (ap b σ [(41, 19, 0), (41, 19, 0), (41, 15, 1), (41, 4, 2), (41, 16, (-1)), (37, 2, 2), (38, 1, 13), (41, 16, 13), (41, 7, 1), (41, 5, 1), (5, 2, 1)] [(39, 1, ((10 * (w1.toInt64)) + 1)), (41, 17, ((10 * (w1.toInt64)) + 1))] [(6, 0, (some (b + 40)))])) (b := b) (lyA hK) (rI_at 41 16 rfl) (rI_at 41 19 rfl)) (lKA (hk_K hK 41 rfl rfl)) rfl (by decide) rfl (Nat.le_of_ble_eq_true rfl) (by decide) (fun r u hu => ?_)
  refine z_eqs (σ' := (ap b σ [(41, 19, 0), (41, 19, 0), (41, 15, 1), (41, 4, 2), (41, 16, (-1)), (37, 2, 2), (38, 1, 13), (41, 16, 13), (41, 7, 1), (41, 5, 1), (5, 2, 1)] [(39, 1, ((10 * (w1.toInt64)) + 1)), (41, 17, ((10 * (w1.toInt64)) + 1))] [(6, 0, (some (b + 40)))])) hu.2 ?_
  show zx p l e _ s m _ below meth c g 5 0 0 _ _ 79 [(3, .ref (b + 40)), (2, .int 1), (4, .null), (0, .ref (b + 0)), (1, .ref (b + 40))] _
  refine z_seti (y := 0) hu.1 ?_
  refine z_if_eq (tgt := 115) B dX8_goOn_79 (by decide) (fun _ => ?_) (fun h => absurd (by decide) h)
  refine z_aload_n B dX8_goOn_115 rfl 3 rfl ?_
  refine z_aload_n B dX8_goOn_116 rfl 0 rfl ?_
  refine z_cVv (As := [.ref (b + 40)]) (rest := []) B cw_X8_361 cx_9 dX8_goOn_117 (ci_X8_leave_695 l (σ := (ap b σ [(41, 19, 0), (41, 19, 0), (41, 15, 1), (41, 4, 2), (41, 16, (-1)), (37, 2, 2), (38, 1, 13), (41, 16, 13), (41, 7, 1), (41, 5, 1), (5, 2, 1)] [(39, 1, ((10 * (w1.toInt64)) + 1)), (41, 17, ((10 * (w1.toInt64)) + 1))] [(6, 0, (some (b + 40)))])) (b := b) (lyA hK) (rI_at 5 1 hI_5_1) (rI_at 5 2 rfl) (rI_at 37 2 rfl) (rI_at 40 8 hI_40_8) (rI_at 41 18 hI_41_18) (rI_at 41 19 rfl) (rR_at 0 4 hR_0_4) (rR_at 40 1 hR_40_1) (rR_at 40 2 hR_40_2)) (lKA (hk_K hK 0 rfl rfl)) rfl (by decide) rfl (Nat.le_of_ble_eq_true rfl) (by decide) (fun u hu => ?_)
  refine z_eqs (σ' := (ap b σ [(40, 8, 2), (5, 2, 0), (41, 19, 0), (41, 19, 0), (41, 15, 1), (41, 4, 2), (41, 16, (-1)), (37, 2, 2), (38, 1, 13), (41, 16, 13), (41, 7, 1), (41, 5, 1), (5, 2, 1)] [(39, 1, ((10 * (w1.toInt64)) + 1)), (41, 17, ((10 * (w1.toInt64)) + 1))] [(6, 0, (some (b + 40)))])) (hu.trans ap_ap) ?_
  show zx p l e _ s m _ below meth c g 5 0 0 _ _ 120 [(3, .ref (b + 40)), (2, .int 1), (4, .null), (0, .ref (b + 0)), (1, .ref (b + 40))] _
  refine z_iinc (v := 2) (lv' := [(2, .int 2), (3, .ref (b + 40)), (4, .null), (0, .ref (b + 0)), (1, .ref (b + 40))]) B dX8_goOn_120 1 rfl (by decide) (by decide) rfl ?_
  refine z_goto (tgt := 10) B dX8_goOn_123 (by decide) ?_
  refine z_iload_n B dX8_goOn_10 rfl 0 rfl ?_
  refine z_ldcw (v := 1000000) B dX8_goOn_11 wg_515 ?_
  refine z_icmp_ge (tgt := 126) B dX8_goOn_14 (by decide) (fun h => absurd h (by decide)) (fun _ => ?_)
  refine z_aload_n B dX8_goOn_17 rfl 3 rfl ?_
  refine gf_X8_35 (x := (some (b + 5))) B (lKA (hk_K hK 0 rfl rfl)) (rR_at 0 4 hR_0_4) dX8_goOn_18 ?_
  refine z_cVi (As := []) (rest := []) B cw_X8_341 cx_3 dX8_goOn_21 (ci_X2_isEmpty_696 l (σ := (ap b σ [(40, 8, 2), (5, 2, 0), (41, 19, 0), (41, 19, 0), (41, 15, 1), (41, 4, 2), (41, 16, (-1)), (37, 2, 2), (38, 1, 13), (41, 16, 13), (41, 7, 1), (41, 5, 1), (5, 2, 1)] [(39, 1, ((10 * (w1.toInt64)) + 1)), (41, 17, ((10 * (w1.toInt64)) + 1))] [(6, 0, (some (b + 40)))])) (b := b) (lyA hK) (rI_at 5 1 hI_5_1) (rI_at 5 2 rfl)) (lKA (hk_K hK 5 rfl rfl)) rfl (by decide) rfl (Nat.le_of_ble_eq_true rfl) (by decide) (fun r u hu => ?_)
  refine z_eqs (σ' := (ap b σ [(40, 8, 2), (5, 2, 0), (41, 19, 0), (41, 19, 0), (41, 15, 1), (41, 4, 2), (41, 16, (-1)), (37, 2, 2), (38, 1, 13), (41, 16, 13), (41, 7, 1), (41, 5, 1), (5, 2, 1)] [(39, 1, ((10 * (w1.toInt64)) + 1)), (41, 17, ((10 * (w1.toInt64)) + 1))] [(6, 0, (some (b + 40)))])) hu.2 ?_
  show zx p l e _ s m _ below meth c g 5 0 0 _ _ 24 [(2, .int 2), (3, .ref (b + 40)), (4, .null), (0, .ref (b + 0)), (1, .ref (b + 40))] _
  refine z_seti (y := 1) hu.1 ?_
  refine z_if_eq (tgt := 41) B dX8_goOn_24 (by decide) (fun h => absurd h (by decide)) (fun _ => ?_)
  refine z_aload_n B dX8_goOn_27 rfl 3 rfl ?_
  refine gf_X8_35 (x := (some (b + 5))) B (lKA (hk_K hK 0 rfl rfl)) (rR_at 0 4 hR_0_4) dX8_goOn_28 ?_
  refine z_aload_n B dX8_goOn_31 rfl 3 rfl ?_
  refine gf_X8_39 (x := (some (b + 7))) B (lKA (hk_K hK 0 rfl rfl)) (rR_at 0 5 hR_0_5) dX8_goOn_32 ?_
  refine z_cVq (As := []) (rest := [.ref (b + 5)]) B cw_X8_344 cx_3 dX8_goOn_35 (ci_X2_removeFirst_697 l (σ := (ap b σ [(40, 8, 2), (5, 2, 0), (41, 19, 0), (41, 19, 0), (41, 15, 1), (41, 4, 2), (41, 16, (-1)), (37, 2, 2), (38, 1, 13), (41, 16, 13), (41, 7, 1), (41, 5, 1), (5, 2, 1)] [(39, 1, ((10 * (w1.toInt64)) + 1)), (41, 17, ((10 * (w1.toInt64)) + 1))] [(6, 0, (some (b + 40)))])) (b := b) (lyA hK) (rI_at 7 1 hI_7_1) (rI_at 7 2 hI_7_2)) (lKA (hk_K hK 7 rfl rfl)) rfl (by decide) rfl (Nat.le_of_ble_eq_true rfl) (by decide) (fun r u hu => ?_)
  refine z_eqs (σ' := (ap b σ [(7, 2, 0), (7, 1, 0), (40, 8, 2), (5, 2, 0), (41, 19, 0), (41, 19, 0), (41, 15, 1), (41, 4, 2), (41, 16, (-1)), (37, 2, 2), (38, 1, 13), (41, 16, 13), (41, 7, 1), (41, 5, 1), (5, 2, 1)] [(39, 1, ((10 * (w1.toInt64)) + 1)), (41, 17, ((10 * (w1.toInt64)) + 1))] [(6, 0, (some (b + 40)))])) (hu.2.trans ap_ap) ?_
  show zx p l e _ s m _ below meth c g 5 0 0 _ _ 38 [(2, .int 2), (3, .ref (b + 40)), (4, .null), (0, .ref (b + 0)), (1, .ref (b + 40))] _
  refine z_setr (y := none) hu.1 ?_
  refine z_cVv (As := [.null]) (rest := []) B cw_X8_337 cx_3 dX8_goOn_38 (ci_X2_addLast_691 l (σ := (ap b σ [(7, 2, 0), (7, 1, 0), (40, 8, 2), (5, 2, 0), (41, 19, 0), (41, 19, 0), (41, 15, 1), (41, 4, 2), (41, 16, (-1)), (37, 2, 2), (38, 1, 13), (41, 16, 13), (41, 7, 1), (41, 5, 1), (5, 2, 1)] [(39, 1, ((10 * (w1.toInt64)) + 1)), (41, 17, ((10 * (w1.toInt64)) + 1))] [(6, 0, (some (b + 40)))])) (b := b) (lyA hK) ) (lKA (hk_K hK 5 rfl rfl)) rfl (by decide) rfl (Nat.le_of_ble_eq_true rfl) (by decide) (fun u hu => ?_)
  refine z_eqs (σ' := (ap b σ [(7, 2, 0), (7, 1, 0), (40, 8, 2), (5, 2, 0), (41, 19, 0), (41, 19, 0), (41, 15, 1), (41, 4, 2), (41, 16, (-1)), (37, 2, 2), (38, 1, 13), (41, 16, 13), (41, 7, 1), (41, 5, 1), (5, 2, 1)] [(39, 1, ((10 * (w1.toInt64)) + 1)), (41, 17, ((10 * (w1.toInt64)) + 1))] [(6, 0, (some (b + 40)))])) hu ?_
  show zx p l e _ s m _ below meth c g 5 0 0 _ _ 41 [(2, .int 2), (3, .ref (b + 40)), (4, .null), (0, .ref (b + 0)), (1, .ref (b + 40))] _
  refine z_aload_n B dX8_goOn_41 rfl 3 rfl ?_
  refine gf_X8_35 (x := (some (b + 5))) B (lKA (hk_K hK 0 rfl rfl)) (rR_at 0 4 hR_0_4) dX8_goOn_42 ?_
  refine z_cVq (As := []) (rest := []) B cw_X8_348 cx_3 dX8_goOn_45 (ci_X2_last_698 l (σ := (ap b σ [(7, 2, 0), (7, 1, 0), (40, 8, 2), (5, 2, 0), (41, 19, 0), (41, 19, 0), (41, 15, 1), (41, 4, 2), (41, 16, (-1)), (37, 2, 2), (38, 1, 13), (41, 16, 13), (41, 7, 1), (41, 5, 1), (5, 2, 1)] [(39, 1, ((10 * (w1.toInt64)) + 1)), (41, 17, ((10 * (w1.toInt64)) + 1))] [(6, 0, (some (b + 40)))])) (b := b) (lyA hK) (rI_at 5 1 hI_5_1) (rI_at 5 2 rfl)) (lKA (hk_K hK 5 rfl rfl)) rfl (by decide) rfl (Nat.le_of_ble_eq_true rfl) (by decide) (fun r u hu => ?_)
  refine z_eqs (σ' := (ap b σ [(7, 2, 0), (7, 1, 0), (40, 8, 2), (5, 2, 0), (41, 19, 0), (41, 19, 0), (41, 15, 1), (41, 4, 2), (41, 16, (-1)), (37, 2, 2), (38, 1, 13), (41, 16, 13), (41, 7, 1), (41, 5, 1), (5, 2, 1)] [(39, 1, ((10 * (w1.toInt64)) + 1)), (41, 17, ((10 * (w1.toInt64)) + 1))] [(6, 0, (some (b + 40)))])) hu.2 ?_
  show zx p l e _ s m _ below meth c g 5 0 0 _ _ 48 [(2, .int 2), (3, .ref (b + 40)), (4, .null), (0, .ref (b + 0)), (1, .ref (b + 40))] _
  refine z_setr (y := none) hu.1 ?_
  refine z_qstore_n (r := none) (lv' := [(3, .null), (2, .int 2), (4, .null), (0, .ref (b + 0)), (1, .ref (b + 40))]) B dX8_goOn_48 rfl (by decide) rfl ?_
  refine z_qload_n (r := none) B dX8_goOn_49 rfl 0 rfl ?_
  refine z_ifnonnull (r := none) (tgt := 54) B dX8_goOn_50 (by decide) (fun a h => nomatch h) (fun _ => ?_)
  exact z_vret B hr (by decide) (by decide) dX8_goOn_53 rfl
set_option maxRecDepth 100000 in
set_option maxHeartbeats 4000000 in
theorem ci_X8_start_824 (l : Launch) {g : gx_T} {σ : sx_T} {b : Nat} (hK : lay b σ) (w1 : Int32) (q1_w1 : (0 : Int) ≤ w1.toInt) (q2_w1 : w1.toInt ≤ (999 : Int)) (hI_0_7 : sx_I σ (b + 0) 7 = 0) (hI_5_1 : sx_I σ (b + 5) 1 = 0) (hI_5_2 : sx_I σ (b + 5) 2 = 0) (hI_7_1 : sx_I σ (b + 7) 1 = 0) (hI_7_2 : sx_I σ (b + 7) 2 = 0) (hI_26_0 : sx_I σ (b + 26) 0 = 0) (hI_27_0 : sx_I σ (b + 27) 0 = 0) (hI_28_0 : sx_I σ (b + 28) 0 = 0) (hI_37_2 : sx_I σ (b + 37) 2 = 0) (hI_40_0 : sx_I σ (b + 40) 0 = 0) (hI_40_8 : sx_I σ (b + 40) 8 = 0) (hR_0_0 : sx_R σ (b + 0) 0 = (some (b + 1))) (hR_0_2 : sx_R σ (b + 0) 2 = (some (b + 3))) (hR_0_4 : sx_R σ (b + 0) 4 = (some (b + 5))) (hR_0_5 : sx_R σ (b + 0) 5 = (some (b + 7))) (hR_1_4 : sx_R σ (b + 1) 4 = (some (b + 25))) (hR_3_0 : sx_R σ (b + 3) 0 = (some (b + 40))) (hR_5_0 : sx_R σ (b + 5) 0 = (some (b + 6))) (hR_25_1 : sx_R σ (b + 25) 1 = (some (b + 26))) (hR_25_2 : sx_R σ (b + 25) 2 = (some (b + 27))) (hR_25_3 : sx_R σ (b + 25) 3 = (some (b + 28))) (hR_37_0 : sx_R σ (b + 37) 0 = (some (b + 38))) (hR_37_1 : sx_R σ (b + 37) 1 = (some (b + 39))) (hR_40_1 : sx_R σ (b + 40) 1 = (some (b + 37))) (hR_40_2 : sx_R σ (b + 40) 2 = (some (b + 41))) (hR_40_7 : sx_R σ (b + 40) 7 = none) (hR_41_0 : sx_R σ (b + 41) 0 = (some (b + 42))) (hR_41_1 : sx_R σ (b + 41) 1 = (some (b + 44))) : Met l yX8_start (.code yX8_start cX8_start 5 (some .int) :: lw_g) { frames := 4, cells := 0, slots := 0, locals := 96 } (va_Pc [.ref (b + 0), .int 4, .int w1] (zx_w g σ)) (va_Qi (fun r u => r = 0 ∧ u = (ap b σ [(7, 2, 0), (7, 1, 0), (40, 8, 2), (5, 2, 0), (41, 19, 0), (41, 19, 0), (41, 15, 1), (41, 4, 2), (41, 16, (-1)), (37, 2, 2), (38, 1, 13), (41, 16, 13), (41, 7, 1), (41, 5, 1), (5, 2, 1), (41, 19, 0), (41, 18, (-1)), (41, 16, (-1)), (41, 15, 0), (41, 14, 0), (41, 13, 0), (41, 12, 0), (41, 10, (-1)), (41, 9, (-1)), (41, 8, 0), (41, 7, 0), (41, 6, ((w1.toInt64).toInt32)), (41, 5, 0), (41, 4, 1), (44, 1, 0), (42, 1, 0), (37, 2, 1), (38, 0, 0), (40, 5, 0), (40, 4, (-1)), (0, 7, 1)] [(39, 1, ((10 * (((w1.toInt64).toInt32).toInt64)) + 1)), (41, 17, ((10 * (((w1.toInt64).toInt32).toInt64)) + 1)), (41, 17, 0), (41, 11, 0), (39, 0, (w1.toInt64))] [(6, 0, (some (b + 40))), (41, 3, (some (b + 37))), (41, 2, (some (b + 25))), (40, 3, (some (b + 25)))])) (zx_w g) (gx_Q g)) 0 0 (gx_Q g) := by
  refine z_met (by decide) (Nat.le_of_ble_eq_true rfl) (fun p e s m below meth c B hr hin => ?_)
  refine z_eqs (σ' := (ap b σ [] [] [])) rfl ?_
  show zx p l e _ s m _ below meth c g 5 0 0 _ _ 0 [(0, .ref (b + 0)), (1, .int 4), (2, .int w1)] []
  refine z_aload_n B dX8_start_0 rfl 0 rfl ?_
  refine z_iload_n B dX8_start_1 rfl 1 rfl ?_
  refine z_cVq (As := [.int 4]) (rest := []) B cw_X8_64 cx_9 dX8_start_2 (ci_X8_programAt_269 l (σ := (ap b σ [] [] [])) (b := b) (lyA hK) (rR_at 0 0 hR_0_0) (rR_at 1 4 hR_1_4)) (lKA (hk_K hK 0 rfl rfl)) rfl (by decide) rfl (Nat.le_of_ble_eq_true rfl) (by decide) (fun r u hu => ?_)
  refine z_eqs (σ' := (ap b σ [] [] [])) hu.2 ?_
  show zx p l e _ s m _ below meth c g 5 0 0 _ _ 5 [(0, .ref (b + 0)), (1, .int 4), (2, .int w1)] _
  refine z_setr (y := (some (b + 25))) hu.1 ?_
  refine z_astore_n (lv' := [(3, .ref (b + 25)), (0, .ref (b + 0)), (1, .int 4), (2, .int w1)]) B dX8_start_5 rfl (by decide) rfl ?_
  refine z_aload_n B dX8_start_6 rfl 0 rfl ?_
  refine z_ifnonnull (r := (some (b + 25))) (tgt := 20) B dX8_start_7 (by decide) (fun _ _ => ?_) (fun h => nomatch h)
  refine z_iload_n B dX8_start_20 rfl 3 rfl ?_
  refine z_sipush (v := (-999)) B dX8_start_21 (by decide) ?_
  refine z_icmp_lt (tgt := 34) B dX8_start_24 (by decide) (fun h => absurd h (iv_nlt q1_w1 (by decide))) (fun _ => ?_)
  refine z_iload_n B dX8_start_27 rfl 3 rfl ?_
  refine z_sipush (v := 999) B dX8_start_28 (by decide) ?_
  refine z_icmp_le (tgt := 44) B dX8_start_31 (by decide) (fun _ => ?_) (fun h => absurd (iv_le q2_w1 (by decide)) h)
  refine z_aload_n B dX8_start_44 rfl 1 rfl ?_
  refine z_aload_n B dX8_start_45 rfl 0 rfl ?_
  refine z_iload_n B dX8_start_46 rfl 3 rfl ?_
  refine z_iconst (v := (-1)) B dX8_start_47 (by decide) ?_
  refine z_iconst (v := (-1)) B dX8_start_48 (by decide) ?_
  refine z_cVq (As := [.ref (b + 25), .int w1, .int (-1), .int (-1)]) (rest := []) B cw_X8_141 cx_9 dX8_start_49 (ci_X8_open_808 l (σ := (ap b σ [] [] [])) (b := b) (lyA hK) w1 (rI_at 0 7 hI_0_7) (rI_at 37 2 hI_37_2) (rI_at 40 0 hI_40_0) (rR_at 0 2 hR_0_2) (rR_at 3 0 hR_3_0) (rR_at 37 0 hR_37_0) (rR_at 37 1 hR_37_1) (rR_at 40 1 hR_40_1) (rR_at 40 2 hR_40_2) (rR_at 41 0 hR_41_0) (rR_at 41 1 hR_41_1)) (lKA (hk_K hK 0 rfl rfl)) rfl (by decide) rfl (Nat.le_of_ble_eq_true rfl) (by decide) (fun r u hu => ?_)
  refine z_eqs (σ' := (ap b σ [(41, 19, 0), (41, 18, (-1)), (41, 16, (-1)), (41, 15, 0), (41, 14, 0), (41, 13, 0), (41, 12, 0), (41, 10, (-1)), (41, 9, (-1)), (41, 8, 0), (41, 7, 0), (41, 6, ((w1.toInt64).toInt32)), (41, 5, 0), (41, 4, 1), (44, 1, 0), (42, 1, 0), (37, 2, 1), (38, 0, 0), (40, 5, 0), (40, 4, (-1)), (0, 7, 1)] [(41, 17, 0), (41, 11, 0), (39, 0, (w1.toInt64))] [(41, 3, (some (b + 37))), (41, 2, (some (b + 25))), (40, 3, (some (b + 25)))])) (hu.2.trans ap_ap) ?_
  show zx p l e _ s m _ below meth c g 5 0 0 _ _ 52 [(3, .ref (b + 25)), (0, .ref (b + 0)), (1, .int 4), (2, .int w1)] _
  refine z_setr (y := (some (b + 40))) hu.1 ?_
  refine z_astore (lv' := [(4, .ref (b + 40)), (3, .ref (b + 25)), (0, .ref (b + 0)), (1, .int 4), (2, .int w1)]) B dX8_start_52 (by decide) rfl ?_
  refine z_aload B dX8_start_54 0 rfl ?_
  refine z_ifnonnull (r := (some (b + 40))) (tgt := 69) B dX8_start_56 (by decide) (fun _ _ => ?_) (fun h => nomatch h)
  refine z_aload_n B dX8_start_69 rfl 2 rfl ?_
  refine z_aload B dX8_start_70 0 rfl ?_
  refine z_cVv (As := [.ref (b + 40)]) (rest := []) B cw_X8_111 cx_9 dX8_start_72 (ci_X8_goOn_823 l (σ := (ap b σ [(41, 19, 0), (41, 18, (-1)), (41, 16, (-1)), (41, 15, 0), (41, 14, 0), (41, 13, 0), (41, 12, 0), (41, 10, (-1)), (41, 9, (-1)), (41, 8, 0), (41, 7, 0), (41, 6, ((w1.toInt64).toInt32)), (41, 5, 0), (41, 4, 1), (44, 1, 0), (42, 1, 0), (37, 2, 1), (38, 0, 0), (40, 5, 0), (40, 4, (-1)), (0, 7, 1)] [(41, 17, 0), (41, 11, 0), (39, 0, (w1.toInt64))] [(41, 3, (some (b + 37))), (41, 2, (some (b + 25))), (40, 3, (some (b + 25)))])) (b := b) (lyA hK) ((w1.toInt64).toInt32) (iv_l2i (iv_i2l q1_w1 q2_w1).1 (iv_i2l q1_w1 q2_w1).2 (by decide) (by decide)).1 (iv_l2i (iv_i2l q1_w1 q2_w1).1 (iv_i2l q1_w1 q2_w1).2 (by decide) (by decide)).2 (rI_at 5 1 hI_5_1) (rI_at 5 2 hI_5_2) (rI_at 7 1 hI_7_1) (rI_at 7 2 hI_7_2) (rI_at 26 0 hI_26_0) (rI_at 27 0 hI_27_0) (rI_at 28 0 hI_28_0) (rI_at 37 2 rfl) (rI_at 40 4 rfl) (rI_at 40 8 hI_40_8) (rI_at 41 4 rfl) (rI_at 41 5 rfl) (rI_at 41 6 rfl) (rI_at 41 7 rfl) (rI_at 41 8 rfl) (rI_at 41 14 rfl) (rI_at 41 15 rfl) (rI_at 41 16 rfl) (rI_at 41 18 rfl) (rI_at 41 19 rfl) (rR_at 0 4 hR_0_4) (rR_at 0 5 hR_0_5) (rR_at 5 0 hR_5_0) (rR_at 25 1 hR_25_1) (rR_at 25 2 hR_25_2) (rR_at 25 3 hR_25_3) (rR_at 37 0 hR_37_0) (rR_at 37 1 hR_37_1) (rR_at 40 1 hR_40_1) (rR_at 40 2 hR_40_2) (rR_at 40 7 hR_40_7) (rR_at 41 2 rfl) (rR_at 41 3 rfl)) (lKA (hk_K hK 0 rfl rfl)) rfl (by decide) rfl (Nat.le_of_ble_eq_true rfl) (by decide) (fun u hu => ?_)
  refine z_eqs (σ' := (ap b σ [(7, 2, 0), (7, 1, 0), (40, 8, 2), (5, 2, 0), (41, 19, 0), (41, 19, 0), (41, 15, 1), (41, 4, 2), (41, 16, (-1)), (37, 2, 2), (38, 1, 13), (41, 16, 13), (41, 7, 1), (41, 5, 1), (5, 2, 1), (41, 19, 0), (41, 18, (-1)), (41, 16, (-1)), (41, 15, 0), (41, 14, 0), (41, 13, 0), (41, 12, 0), (41, 10, (-1)), (41, 9, (-1)), (41, 8, 0), (41, 7, 0), (41, 6, ((w1.toInt64).toInt32)), (41, 5, 0), (41, 4, 1), (44, 1, 0), (42, 1, 0), (37, 2, 1), (38, 0, 0), (40, 5, 0), (40, 4, (-1)), (0, 7, 1)] [(39, 1, ((10 * (((w1.toInt64).toInt32).toInt64)) + 1)), (41, 17, ((10 * (((w1.toInt64).toInt32).toInt64)) + 1)), (41, 17, 0), (41, 11, 0), (39, 0, (w1.toInt64))] [(6, 0, (some (b + 40))), (41, 3, (some (b + 37))), (41, 2, (some (b + 25))), (40, 3, (some (b + 25)))])) (hu.trans ap_ap) ?_
  show zx p l e _ s m _ below meth c g 5 0 0 _ _ 75 [(4, .ref (b + 40)), (3, .ref (b + 25)), (0, .ref (b + 0)), (1, .int 4), (2, .int w1)] _
  refine z_aload B dX8_start_75 0 rfl ?_
  refine gf_X8_150 (x := 0) B (lKA (hk_K hK 40 rfl rfl)) (rI_at 40 0 hI_40_0) dX8_start_77 ?_
  exact z_iret B hr (by decide) (by decide) dX8_start_80 ⟨rfl, rfl⟩
set_option maxRecDepth 100000 in
set_option maxHeartbeats 4000000 in
theorem ci_L_start_825 (l : Launch) {g : gx_T} {σ : sx_T} {b : Nat} (hK : lay b σ) (w1 : Int32) (q1_w1 : (0 : Int) ≤ w1.toInt) (q2_w1 : w1.toInt ≤ (999 : Int)) (hI_0_7 : sx_I σ (b + 0) 7 = 0) (hI_5_1 : sx_I σ (b + 5) 1 = 0) (hI_5_2 : sx_I σ (b + 5) 2 = 0) (hI_7_1 : sx_I σ (b + 7) 1 = 0) (hI_7_2 : sx_I σ (b + 7) 2 = 0) (hI_26_0 : sx_I σ (b + 26) 0 = 0) (hI_27_0 : sx_I σ (b + 27) 0 = 0) (hI_28_0 : sx_I σ (b + 28) 0 = 0) (hI_37_2 : sx_I σ (b + 37) 2 = 0) (hI_40_0 : sx_I σ (b + 40) 0 = 0) (hI_40_8 : sx_I σ (b + 40) 8 = 0) (hR_0_0 : sx_R σ (b + 0) 0 = (some (b + 1))) (hR_0_2 : sx_R σ (b + 0) 2 = (some (b + 3))) (hR_0_4 : sx_R σ (b + 0) 4 = (some (b + 5))) (hR_0_5 : sx_R σ (b + 0) 5 = (some (b + 7))) (hR_1_4 : sx_R σ (b + 1) 4 = (some (b + 25))) (hR_3_0 : sx_R σ (b + 3) 0 = (some (b + 40))) (hR_5_0 : sx_R σ (b + 5) 0 = (some (b + 6))) (hR_25_1 : sx_R σ (b + 25) 1 = (some (b + 26))) (hR_25_2 : sx_R σ (b + 25) 2 = (some (b + 27))) (hR_25_3 : sx_R σ (b + 25) 3 = (some (b + 28))) (hR_37_0 : sx_R σ (b + 37) 0 = (some (b + 38))) (hR_37_1 : sx_R σ (b + 37) 1 = (some (b + 39))) (hR_40_1 : sx_R σ (b + 40) 1 = (some (b + 37))) (hR_40_2 : sx_R σ (b + 40) 2 = (some (b + 41))) (hR_40_7 : sx_R σ (b + 40) 7 = none) (hR_41_0 : sx_R σ (b + 41) 0 = (some (b + 42))) (hR_41_1 : sx_R σ (b + 41) 1 = (some (b + 44))) : Met l yL_start (.codeWith yL_start cL_start 5 (some .int) [(0, 10, 13, 13), (0, 10, 17, 15), (0, 10, 21, 24)] :: lw_g) { frames := 5, cells := 0, slots := 0, locals := 120 } (va_Pc [.ref (b + 0), .int 4, .int w1, .ref (b + 431)] (zx_w g σ)) (va_Qi (fun r u => r = 0 ∧ u = (ap b σ [(7, 2, 0), (7, 1, 0), (40, 8, 2), (5, 2, 0), (41, 19, 0), (41, 19, 0), (41, 15, 1), (41, 4, 2), (41, 16, (-1)), (37, 2, 2), (38, 1, 13), (41, 16, 13), (41, 7, 1), (41, 5, 1), (5, 2, 1), (41, 19, 0), (41, 18, (-1)), (41, 16, (-1)), (41, 15, 0), (41, 14, 0), (41, 13, 0), (41, 12, 0), (41, 10, (-1)), (41, 9, (-1)), (41, 8, 0), (41, 7, 0), (41, 6, ((w1.toInt64).toInt32)), (41, 5, 0), (41, 4, 1), (44, 1, 0), (42, 1, 0), (37, 2, 1), (38, 0, 0), (40, 5, 0), (40, 4, (-1)), (0, 7, 1)] [(431, 0, 0), (39, 1, ((10 * (((w1.toInt64).toInt32).toInt64)) + 1)), (41, 17, ((10 * (((w1.toInt64).toInt32).toInt64)) + 1)), (41, 17, 0), (41, 11, 0), (39, 0, (w1.toInt64))] [(6, 0, (some (b + 40))), (41, 3, (some (b + 37))), (41, 2, (some (b + 25))), (40, 3, (some (b + 25)))])) (zx_w g) (gx_Q g)) 0 0 (gx_Q g) := by
  refine z_metW (by decide) (Nat.le_of_ble_eq_true rfl) (fun p e s m below meth c B hr htab => ?_)
  refine z_eqs (σ' := (ap b σ [] [] [])) rfl ?_
  show zx p l e _ s m _ below meth c g 5 0 0 _ _ 0 [(0, .ref (b + 0)), (1, .int 4), (2, .int w1), (3, .ref (b + 431))] []
  refine z_aload_n B dL_start_0 rfl 3 rfl ?_
  refine z_iconst (v := 0) B dL_start_1 (by decide) ?_
  refine z_aload_n B dL_start_2 rfl 0 rfl ?_
  refine z_iload_n B dL_start_3 rfl 1 rfl ?_
  refine z_iload_n B dL_start_4 rfl 2 rfl ?_
  refine z_cVi (As := [.int 4, .int w1]) (rest := [.int 0, .ref (b + 431)]) B cw_L_20 cx_9 dL_start_5 (ci_X8_start_824 l (σ := (ap b σ [] [] [])) (b := b) (lyA hK) w1 q1_w1 q2_w1 (rI_at 0 7 hI_0_7) (rI_at 5 1 hI_5_1) (rI_at 5 2 hI_5_2) (rI_at 7 1 hI_7_1) (rI_at 7 2 hI_7_2) (rI_at 26 0 hI_26_0) (rI_at 27 0 hI_27_0) (rI_at 28 0 hI_28_0) (rI_at 37 2 hI_37_2) (rI_at 40 0 hI_40_0) (rI_at 40 8 hI_40_8) (rR_at 0 0 hR_0_0) (rR_at 0 2 hR_0_2) (rR_at 0 4 hR_0_4) (rR_at 0 5 hR_0_5) (rR_at 1 4 hR_1_4) (rR_at 3 0 hR_3_0) (rR_at 5 0 hR_5_0) (rR_at 25 1 hR_25_1) (rR_at 25 2 hR_25_2) (rR_at 25 3 hR_25_3) (rR_at 37 0 hR_37_0) (rR_at 37 1 hR_37_1) (rR_at 40 1 hR_40_1) (rR_at 40 2 hR_40_2) (rR_at 40 7 hR_40_7) (rR_at 41 0 hR_41_0) (rR_at 41 1 hR_41_1)) (lKA (hk_K hK 0 rfl rfl)) rfl (by decide) rfl (Nat.le_of_ble_eq_true rfl) (by decide) (fun r u hu => ?_)
  refine z_eqs (σ' := (ap b σ [(7, 2, 0), (7, 1, 0), (40, 8, 2), (5, 2, 0), (41, 19, 0), (41, 19, 0), (41, 15, 1), (41, 4, 2), (41, 16, (-1)), (37, 2, 2), (38, 1, 13), (41, 16, 13), (41, 7, 1), (41, 5, 1), (5, 2, 1), (41, 19, 0), (41, 18, (-1)), (41, 16, (-1)), (41, 15, 0), (41, 14, 0), (41, 13, 0), (41, 12, 0), (41, 10, (-1)), (41, 9, (-1)), (41, 8, 0), (41, 7, 0), (41, 6, ((w1.toInt64).toInt32)), (41, 5, 0), (41, 4, 1), (44, 1, 0), (42, 1, 0), (37, 2, 1), (38, 0, 0), (40, 5, 0), (40, 4, (-1)), (0, 7, 1)] [(39, 1, ((10 * (((w1.toInt64).toInt32).toInt64)) + 1)), (41, 17, ((10 * (((w1.toInt64).toInt32).toInt64)) + 1)), (41, 17, 0), (41, 11, 0), (39, 0, (w1.toInt64))] [(6, 0, (some (b + 40))), (41, 3, (some (b + 37))), (41, 2, (some (b + 25))), (40, 3, (some (b + 25)))])) (hu.2.trans ap_ap) ?_
  show zx p l e _ s m _ below meth c g 5 0 0 _ _ 8 [(0, .ref (b + 0)), (1, .int 4), (2, .int w1), (3, .ref (b + 431))] _
  refine z_seti (y := 0) hu.1 ?_
  refine z_i2l (v := 0) B dL_start_8 (by decide) ?_
  refine z_last (j := 0) (σ' := (ap b σ [(7, 2, 0), (7, 1, 0), (40, 8, 2), (5, 2, 0), (41, 19, 0), (41, 19, 0), (41, 15, 1), (41, 4, 2), (41, 16, (-1)), (37, 2, 2), (38, 1, 13), (41, 16, 13), (41, 7, 1), (41, 5, 1), (5, 2, 1), (41, 19, 0), (41, 18, (-1)), (41, 16, (-1)), (41, 15, 0), (41, 14, 0), (41, 13, 0), (41, 12, 0), (41, 10, (-1)), (41, 9, (-1)), (41, 8, 0), (41, 7, 0), (41, 6, ((w1.toInt64).toInt32)), (41, 5, 0), (41, 4, 1), (44, 1, 0), (42, 1, 0), (37, 2, 1), (38, 0, 0), (40, 5, 0), (40, 4, (-1)), (0, 7, 1)] [(431, 0, 0), (39, 1, ((10 * (((w1.toInt64).toInt32).toInt64)) + 1)), (41, 17, ((10 * (((w1.toInt64).toInt32).toInt64)) + 1)), (41, 17, 0), (41, 11, 0), (39, 0, (w1.toInt64))] [(6, 0, (some (b + 40))), (41, 3, (some (b + 37))), (41, 2, (some (b + 25))), (40, 3, (some (b + 25)))])) B (lKA (hk_K hK 431 rfl rfl)) (by decide) (in_of (lNA (hk_N hK 431 rfl rfl)) (show ¬ ((0 : Int32) < 0 ∨ 1 ≤ (0 : Int32).toNatClampNeg) by decide)) wJ_ap dL_start_9 ?_
  refine z_goto (tgt := 25) B dL_start_10 (by decide) ?_
  refine z_iconst (v := 0) B dL_start_25 (by decide) ?_
  exact z_iret B hr (by decide) (by decide) dL_start_26 ⟨rfl, rfl⟩
set_option maxRecDepth 100000 in
set_option maxHeartbeats 4000000 in
theorem ci_X9_start_826 (l : Launch) {g : gx_T} {σ : sx_T} {b : Nat} (hK : lay b σ) (w1 : Int32) (q1_w1 : (0 : Int) ≤ w1.toInt) (q2_w1 : w1.toInt ≤ (999 : Int)) (hI_405_6 : sx_I σ (b + 405) 6 = 0) (hI_405_16 : sx_I σ (b + 405) 16 = 0) (hI_406_80 : sx_I σ (b + 406) 80 = 0) (hI_407_80 : sx_I σ (b + 407) 80 = 0) (hI_412_0 : sx_I σ (b + 412) 0 = 0) (hI_413_0 : sx_I σ (b + 413) 0 = 0) (hR_405_3 : sx_R σ (b + 405) 3 = (some (b + 406))) (hR_405_4 : sx_R σ (b + 405) 4 = (some (b + 407))) (hR_405_7 : sx_R σ (b + 405) 7 = (some (b + 409))) (hR_405_8 : sx_R σ (b + 405) 8 = (some (b + 410))) (hR_405_9 : sx_R σ (b + 405) 9 = (some (b + 411))) (hR_405_10 : sx_R σ (b + 405) 10 = (some (b + 412))) (hR_405_11 : sx_R σ (b + 405) 11 = (some (b + 413))) (hR_405_12 : sx_R σ (b + 405) 12 = (some (b + 414))) (hR_405_13 : sx_R σ (b + 405) 13 = (some (b + 415))) (hR_405_14 : sx_R σ (b + 405) 14 = (some (b + 416))) (hR_405_15 : sx_R σ (b + 405) 15 = (some (b + 417))) (hR_405_42 : sx_R σ (b + 405) 42 = (some (b + 428))) : Met l yX9_start (.code yX9_start cX9_start 4 (some .int) :: lw_g) { frames := 6, cells := 0, slots := 0, locals := 154 } (va_Pc [.ref (b + 405), .int 4, .int w1] (zx_w g σ)) (va_Qi (fun r u => r = 0 ∧ u = (ap b σ [(412, 0, 1), (414, 0, 2), (405, 26, 1), (405, 37, 1), (405, 27, 2), (413, 0, 2), (416, 1, 13), (405, 28, 1), (405, 38, 1), (405, 48, (-1)), (405, 27, 1), (405, 29, ((w1.toInt64).toInt32)), (405, 26, 1), (405, 47, 1), (405, 39, 0), (405, 38, 0), (405, 37, 0), (405, 36, 0), (405, 35, 0), (405, 34, 0), (405, 32, 0), (405, 31, 0), (405, 30, 0), (405, 29, 0), (405, 28, 0), (405, 27, 0), (405, 26, 1), (428, 0, 0), (405, 45, 0), (405, 43, 0), (413, 0, 1), (416, 0, 0), (415, 0, (-1)), (411, 0, 0), (410, 0, (-1)), (409, 0, 4), (405, 6, 1), (405, 0, 0)] [(417, 1, ((10 * (((w1.toInt64).toInt32).toInt64)) + 1)), (417, 0, (w1.toInt64))] [])) (zx_w g) (gx_Q g)) 0 0 (gx_Q g) := by
  refine z_met (by decide) (Nat.le_of_ble_eq_true rfl) (fun p e s m below meth c B hr hin => ?_)
  refine z_eqs (σ' := (ap b σ [] [] [])) rfl ?_
  show zx p l e _ s m _ below meth c g 4 0 0 _ _ 0 [(0, .ref (b + 405)), (1, .int 4), (2, .int w1)] []
  refine z_aload_n B dX9_start_0 rfl 0 rfl ?_
  refine z_iload_n B dX9_start_1 rfl 1 rfl ?_
  refine z_iconst (v := 0) B dX9_start_2 (by decide) ?_
  refine z_iconst (v := 5) B dX9_start_3 (by decide) ?_
  refine z_cSi (As := [.int 4, .int 0, .int 5]) (rest := [.ref (b + 405)]) B cw_X9_96 dX9_start_4 (ci_X9_in_272 l (σ := (ap b σ [] [] [])) (b := b) (lyA hK) ) rfl (by decide) rfl (Nat.le_of_ble_eq_true rfl) (by decide) (fun r u hu => ?_)
  refine z_eqs (σ' := (ap b σ [] [] [])) hu.2 ?_
  show zx p l e _ s m _ below meth c g 4 0 0 _ _ 7 [(0, .ref (b + 405)), (1, .int 4), (2, .int w1)] _
  refine z_seti (y := 1) hu.1 ?_
  refine z_iload_n B dX9_start_7 rfl 2 rfl ?_
  refine z_sipush (v := (-999)) B dX9_start_8 (by decide) ?_
  refine z_sipush (v := 999) B dX9_start_11 (by decide) ?_
  refine z_cSi (As := [.int w1, .int (-999), .int 999]) (rest := [.int 1, .ref (b + 405)]) B cw_X9_96 dX9_start_14 (ci_X9_in_721 l (σ := (ap b σ [] [] [])) (b := b) (lyA hK) w1 q1_w1 q2_w1) rfl (by decide) rfl (Nat.le_of_ble_eq_true rfl) (by decide) (fun r u hu => ?_)
  refine z_eqs (σ' := (ap b σ [] [] [])) hu.2 ?_
  show zx p l e _ s m _ below meth c g 4 0 0 _ _ 17 [(0, .ref (b + 405)), (1, .int 4), (2, .int w1)] _
  refine z_seti (y := 1) hu.1 ?_
  refine z_aload_n B dX9_start_17 rfl 0 rfl ?_
  refine gf_X9_93 (x := 0) B (lKA (hk_K hK 405 rfl rfl)) (rI_at 405 6 hI_405_6) dX9_start_18 ?_
  refine z_bipush (v := 40) B dX9_start_21 (by decide) ?_
  refine z_icmp_ge (tgt := 30) B dX9_start_23 (by decide) (fun h => absurd h (by decide)) (fun _ => ?_)
  refine z_iconst (v := 1) B dX9_start_26 (by decide) ?_
  refine z_goto (tgt := 31) B dX9_start_27 (by decide) ?_
  refine z_cVi (As := [.int 1, .int 1, .int 1]) (rest := []) B cw_X9_259 cx_10 dX9_start_31 (ci_X9_needs___703 l (σ := (ap b σ [] [] [])) (b := b) (lyA hK) ) (lKA (hk_K hK 405 rfl rfl)) rfl (by decide) rfl (Nat.le_of_ble_eq_true rfl) (by decide) (fun r u hu => ?_)
  refine z_eqs (σ' := (ap b σ [(405, 0, 0)] [] [])) (hu.2.trans ap_ap) ?_
  show zx p l e _ s m _ below meth c g 4 0 0 _ _ 34 [(0, .ref (b + 405)), (1, .int 4), (2, .int w1)] _
  refine z_seti (y := 1) hu.1 ?_
  refine z_if_ne (tgt := 39) B dX9_start_34 (by decide) (fun _ => ?_) (fun h => absurd h (by decide))
  refine z_aload_n B dX9_start_39 rfl 0 rfl ?_
  refine z_iload_n B dX9_start_40 rfl 1 rfl ?_
  refine z_iload_n B dX9_start_41 rfl 2 rfl ?_
  refine z_iconst (v := (-1)) B dX9_start_42 (by decide) ?_
  refine z_iconst (v := (-1)) B dX9_start_43 (by decide) ?_
  refine z_cVi (As := [.int 4, .int w1, .int (-1), .int (-1)]) (rest := []) B cw_X9_168 cx_10 dX9_start_44 (ci_X9_begets_817 l (σ := (ap b σ [(405, 0, 0)] [] [])) (b := b) (lyA hK) w1 (rI_at 405 6 hI_405_6) (rI_at 413 0 hI_413_0) (rR_at 405 7 hR_405_7) (rR_at 405 8 hR_405_8) (rR_at 405 9 hR_405_9) (rR_at 405 11 hR_405_11) (rR_at 405 13 hR_405_13) (rR_at 405 14 hR_405_14) (rR_at 405 15 hR_405_15)) (lKA (hk_K hK 405 rfl rfl)) rfl (by decide) rfl (Nat.le_of_ble_eq_true rfl) (by decide) (fun r u hu => ?_)
  refine z_eqs (σ' := (ap b σ [(413, 0, 1), (416, 0, 0), (415, 0, (-1)), (411, 0, 0), (410, 0, (-1)), (409, 0, 4), (405, 6, 1), (405, 0, 0)] [(417, 0, (w1.toInt64))] [])) (hu.2.trans ap_ap) ?_
  show zx p l e _ s m _ below meth c g 4 0 0 _ _ 47 [(0, .ref (b + 405)), (1, .int 4), (2, .int w1)] _
  refine z_seti (y := 0) hu.1 ?_
  refine z_istore_n (lv' := [(3, .int 0), (0, .ref (b + 405)), (1, .int 4), (2, .int w1)]) B dX9_start_47 rfl (by decide) rfl ?_
  refine z_aload_n B dX9_start_48 rfl 1 rfl ?_
  refine z_iload_n B dX9_start_49 rfl 0 rfl ?_
  refine z_cVv (As := [.int 0]) (rest := []) B cw_X9_253 cx_10 dX9_start_50 (ci_X9_runs_821 l (σ := (ap b σ [(413, 0, 1), (416, 0, 0), (415, 0, (-1)), (411, 0, 0), (410, 0, (-1)), (409, 0, 4), (405, 6, 1), (405, 0, 0)] [(417, 0, (w1.toInt64))] [])) (b := b) (lyA hK) (w1.toInt64) (rI_at 405 16 hI_405_16) (rI_at 406 80 hI_406_80) (rI_at 407 80 hI_407_80) (rI_at 409 0 rfl) (rI_at 410 0 rfl) (rI_at 412 0 hI_412_0) (rI_at 413 0 rfl) (rI_at 416 0 rfl) (rJ_at 417 0 rfl) (rR_at 405 3 hR_405_3) (rR_at 405 4 hR_405_4) (rR_at 405 7 hR_405_7) (rR_at 405 8 hR_405_8) (rR_at 405 10 hR_405_10) (rR_at 405 11 hR_405_11) (rR_at 405 12 hR_405_12) (rR_at 405 14 hR_405_14) (rR_at 405 15 hR_405_15) (rR_at 405 42 hR_405_42)) (lKA (hk_K hK 405 rfl rfl)) rfl (by decide) rfl (Nat.le_of_ble_eq_true rfl) (by decide) (fun u hu => ?_)
  refine z_eqs (σ' := (ap b σ [(412, 0, 1), (414, 0, 2), (405, 26, 1), (405, 37, 1), (405, 27, 2), (413, 0, 2), (416, 1, 13), (405, 28, 1), (405, 38, 1), (405, 48, (-1)), (405, 27, 1), (405, 29, ((w1.toInt64).toInt32)), (405, 26, 1), (405, 47, 1), (405, 39, 0), (405, 38, 0), (405, 37, 0), (405, 36, 0), (405, 35, 0), (405, 34, 0), (405, 32, 0), (405, 31, 0), (405, 30, 0), (405, 29, 0), (405, 28, 0), (405, 27, 0), (405, 26, 1), (428, 0, 0), (405, 45, 0), (405, 43, 0), (413, 0, 1), (416, 0, 0), (415, 0, (-1)), (411, 0, 0), (410, 0, (-1)), (409, 0, 4), (405, 6, 1), (405, 0, 0)] [(417, 1, ((10 * (((w1.toInt64).toInt32).toInt64)) + 1)), (417, 0, (w1.toInt64))] [])) (hu.trans ap_ap) ?_
  show zx p l e _ s m _ below meth c g 4 0 0 _ _ 53 [(3, .int 0), (0, .ref (b + 405)), (1, .int 4), (2, .int w1)] _
  refine z_iload_n B dX9_start_53 rfl 0 rfl ?_
  exact z_iret B hr (by decide) (by decide) dX9_start_54 ⟨rfl, rfl⟩
set_option maxRecDepth 100000 in
set_option maxHeartbeats 4000000 in
theorem ci_X8_start_827 (l : Launch) (hlt : l.stackTraces = false) {g : gx_T} {σ : sx_T} {b : Nat} (hK : lay b σ) (w1 : Int32) (q1_w1 : (1000 : Int) ≤ w1.toInt) (q2_w1 : w1.toInt ≤ (2147483647 : Int)) (hR_0_0 : sx_R σ (b + 0) 0 = (some (b + 1))) (hR_1_4 : sx_R σ (b + 1) 4 = (some (b + 25))) : vx_Met l yX8_start (.code yX8_start cX8_start 5 (some .int) :: lw_g) { frames := 7, cells := 1, slots := 6, locals := 136 } (va_Pc [.ref (b + 0), .int 4, .int w1] (zx_w g σ)) (va_Qi (S := sx_T) (fun _ _ => False) (zx_w g) (gx_Q g)) (vx_X (fun u : sx_T => ∃ z, u = wx_Z σ z) (fun E u t => E = "java/lang/IllegalArgumentException" ∧ zx_h g u t.heap) (gx_Q g)) 1 6 (gx_Q g) := by
  refine z_metX (by decide) (Nat.le_of_ble_eq_true rfl) (fun p e s m below meth c B hr hin hout => ?_)
  refine z_eqs (σ' := (ap b σ [] [] [])) rfl ?_
  show zx p l e _ s m _ below meth c g 5 0 0 _ _ 0 [(0, .ref (b + 0)), (1, .int 4), (2, .int w1)] []
  refine z_aload_n B dX8_start_0 rfl 0 rfl ?_
  refine z_iload_n B dX8_start_1 rfl 1 rfl ?_
  refine z_cVq (As := [.int 4]) (rest := []) B cw_X8_64 cx_9 dX8_start_2 (ci_X8_programAt_269 l (σ := (ap b σ [] [] [])) (b := b) (lyA hK) (rR_at 0 0 hR_0_0) (rR_at 1 4 hR_1_4)) (lKA (hk_K hK 0 rfl rfl)) rfl (by decide) rfl (Nat.le_of_ble_eq_true rfl) (by decide) (fun r u hu => ?_)
  refine z_eqs (σ' := (ap b σ [] [] [])) hu.2 ?_
  show zx p l e _ s m _ below meth c g 5 0 0 _ _ 5 [(0, .ref (b + 0)), (1, .int 4), (2, .int w1)] _
  refine z_setr (y := (some (b + 25))) hu.1 ?_
  refine z_astore_n (lv' := [(3, .ref (b + 25)), (0, .ref (b + 0)), (1, .int 4), (2, .int w1)]) B dX8_start_5 rfl (by decide) rfl ?_
  refine z_aload_n B dX8_start_6 rfl 0 rfl ?_
  refine z_ifnonnull (r := (some (b + 25))) (tgt := 20) B dX8_start_7 (by decide) (fun _ _ => ?_) (fun h => nomatch h)
  refine z_iload_n B dX8_start_20 rfl 3 rfl ?_
  refine z_sipush (v := (-999)) B dX8_start_21 (by decide) ?_
  refine z_icmp_lt (tgt := 34) B dX8_start_24 (by decide) (fun h => absurd h (iv_nlt q1_w1 (by decide))) (fun _ => ?_)
  refine z_iload_n B dX8_start_27 rfl 3 rfl ?_
  refine z_sipush (v := 999) B dX8_start_28 (by decide) ?_
  refine z_icmp_le (tgt := 44) B dX8_start_31 (by decide) (fun h => absurd h (iv_nle q1_w1 (by decide))) (fun _ => ?_)
  exact z_throw B hlt hout (cls := "java/lang/IllegalArgumentException") (text := "input is out of range") tw_X8_83_139_87 dX8_start_34 dX8_start_37 dX8_start_38 dX8_start_40 dX8_start_43 (by decide) (by decide) (by decide) (by decide) (by decide) (by decide) (fun z => ⟨z, rfl⟩)
set_option maxRecDepth 100000 in
set_option maxHeartbeats 4000000 in
theorem ci_L_start_828 (l : Launch) (hlt : l.stackTraces = false) {g : gx_T} {σ : sx_T} {b : Nat} (hK : lay b σ) (w1 : Int32) (q1_w1 : (1000 : Int) ≤ w1.toInt) (q2_w1 : w1.toInt ≤ (2147483647 : Int)) (hR_0_0 : sx_R σ (b + 0) 0 = (some (b + 1))) (hR_1_4 : sx_R σ (b + 1) 4 = (some (b + 25))) : Met l yL_start (.codeWith yL_start cL_start 5 (some .int) [(0, 10, 13, 13), (0, 10, 17, 15), (0, 10, 21, 24)] :: lw_g) { frames := 8, cells := 1, slots := 6, locals := 160 } (va_Pc [.ref (b + 0), .int 4, .int w1, .ref (b + 431)] (zx_w g σ)) (va_Qi (fun r u => r = 2 ∧ ∃ z, u = (ap b (wx_Z σ z) [] [] [])) (zx_w g) (gx_Q g)) 1 6 (gx_Q g) := by
  refine z_metW (by decide) (Nat.le_of_ble_eq_true rfl) (fun p e s m below meth c B hr htab => ?_)
  refine z_eqs (σ' := (ap b σ [] [] [])) rfl ?_
  show zx p l e _ s m _ below meth c g 5 0 0 _ _ 0 [(0, .ref (b + 0)), (1, .int 4), (2, .int w1), (3, .ref (b + 431))] []
  refine z_aload_n B dL_start_0 rfl 3 rfl ?_
  refine z_iconst (v := 0) B dL_start_1 (by decide) ?_
  refine z_aload_n B dL_start_2 rfl 0 rfl ?_
  refine z_iload_n B dL_start_3 rfl 1 rfl ?_
  refine z_iload_n B dL_start_4 rfl 2 rfl ?_
  refine z_cXi (As := [.int 4, .int w1]) (rest := [.int 0, .ref (b + 431)]) B htab tc_start_5_IllegalArgumentException cw_L_20 cx_9 dL_start_5 (ci_X8_start_827 l hlt (σ := (ap b σ [] [] [])) (b := b) (lyA hK) w1 q1_w1 q2_w1 (rR_at 0 0 hR_0_0) (rR_at 1 4 hR_1_4)) (lKA (hk_K hK 0 rfl rfl)) rfl (by decide) rfl (Nat.le_of_ble_eq_true rfl) (by decide) (fun z q => ?_)
  refine z_eqs (σ' := (ap b (wx_Z σ z) [] [] [])) rfl ?_
  show zx p l e _ s m _ below meth c g 5 _ _ _ _ 17 [(0, .ref (b + 0)), (1, .int 4), (2, .int w1), (3, .ref (b + 431))] _
  refine z_astore (lv' := [(4, .ref q), (0, .ref (b + 0)), (1, .int 4), (2, .int w1), (3, .ref (b + 431))]) B dL_start_17 (by decide) rfl ?_
  refine z_iconst (v := 2) B dL_start_19 (by decide) ?_
  exact z_iret B hr (by decide) (by decide) dL_start_20 ⟨rfl, _, rfl⟩
set_option maxRecDepth 100000 in
set_option maxHeartbeats 4000000 in
theorem ci_X9_start_829 (l : Launch) {g : gx_T} {σ : sx_T} {b : Nat} (hK : lay b σ) (w1 : Int32) (q1_w1 : (1000 : Int) ≤ w1.toInt) (q2_w1 : w1.toInt ≤ (2147483647 : Int)) (hI_405_6 : sx_I σ (b + 405) 6 = 0) : Met l yX9_start (.code yX9_start cX9_start 4 (some .int) :: lw_g) { frames := 1, cells := 0, slots := 0, locals := 23 } (va_Pc [.ref (b + 405), .int 4, .int w1] (zx_w g σ)) (va_Qi (fun r u => r = 0 ∧ u = (ap b σ [(405, 0, 2)] [] [])) (zx_w g) (gx_Q g)) 0 0 (gx_Q g) := by
  refine z_met (by decide) (Nat.le_of_ble_eq_true rfl) (fun p e s m below meth c B hr hin => ?_)
  refine z_eqs (σ' := (ap b σ [] [] [])) rfl ?_
  show zx p l e _ s m _ below meth c g 4 0 0 _ _ 0 [(0, .ref (b + 405)), (1, .int 4), (2, .int w1)] []
  refine z_aload_n B dX9_start_0 rfl 0 rfl ?_
  refine z_iload_n B dX9_start_1 rfl 1 rfl ?_
  refine z_iconst (v := 0) B dX9_start_2 (by decide) ?_
  refine z_iconst (v := 5) B dX9_start_3 (by decide) ?_
  refine z_cSi (As := [.int 4, .int 0, .int 5]) (rest := [.ref (b + 405)]) B cw_X9_96 dX9_start_4 (ci_X9_in_272 l (σ := (ap b σ [] [] [])) (b := b) (lyA hK) ) rfl (by decide) rfl (Nat.le_of_ble_eq_true rfl) (by decide) (fun r u hu => ?_)
  refine z_eqs (σ' := (ap b σ [] [] [])) hu.2 ?_
  show zx p l e _ s m _ below meth c g 4 0 0 _ _ 7 [(0, .ref (b + 405)), (1, .int 4), (2, .int w1)] _
  refine z_seti (y := 1) hu.1 ?_
  refine z_iload_n B dX9_start_7 rfl 2 rfl ?_
  refine z_sipush (v := (-999)) B dX9_start_8 (by decide) ?_
  refine z_sipush (v := 999) B dX9_start_11 (by decide) ?_
  refine z_cSi (As := [.int w1, .int (-999), .int 999]) (rest := [.int 1, .ref (b + 405)]) B cw_X9_96 dX9_start_14 (ci_X9_in_657 l (σ := (ap b σ [] [] [])) (b := b) (lyA hK) w1 q1_w1 q2_w1) rfl (by decide) rfl (Nat.le_of_ble_eq_true rfl) (by decide) (fun r u hu => ?_)
  refine z_eqs (σ' := (ap b σ [] [] [])) hu.2 ?_
  show zx p l e _ s m _ below meth c g 4 0 0 _ _ 17 [(0, .ref (b + 405)), (1, .int 4), (2, .int w1)] _
  refine z_seti (y := 0) hu.1 ?_
  refine z_aload_n B dX9_start_17 rfl 0 rfl ?_
  refine gf_X9_93 (x := 0) B (lKA (hk_K hK 405 rfl rfl)) (rI_at 405 6 hI_405_6) dX9_start_18 ?_
  refine z_bipush (v := 40) B dX9_start_21 (by decide) ?_
  refine z_icmp_ge (tgt := 30) B dX9_start_23 (by decide) (fun h => absurd h (by decide)) (fun _ => ?_)
  refine z_iconst (v := 1) B dX9_start_26 (by decide) ?_
  refine z_goto (tgt := 31) B dX9_start_27 (by decide) ?_
  refine z_cVi (As := [.int 1, .int 0, .int 1]) (rest := []) B cw_X9_259 cx_10 dX9_start_31 (ci_X9_needs___661 l (σ := (ap b σ [] [] [])) (b := b) (lyA hK) ) (lKA (hk_K hK 405 rfl rfl)) rfl (by decide) rfl (Nat.le_of_ble_eq_true rfl) (by decide) (fun r u hu => ?_)
  refine z_eqs (σ' := (ap b σ [(405, 0, 2)] [] [])) (hu.2.trans ap_ap) ?_
  show zx p l e _ s m _ below meth c g 4 0 0 _ _ 34 [(0, .ref (b + 405)), (1, .int 4), (2, .int w1)] _
  refine z_seti (y := 0) hu.1 ?_
  refine z_if_ne (tgt := 39) B dX9_start_34 (by decide) (fun h => absurd (by decide) h) (fun _ => ?_)
  refine z_iconst (v := 0) B dX9_start_37 (by decide) ?_
  exact z_iret B hr (by decide) (by decide) dX9_start_38 ⟨rfl, rfl⟩
set_option maxRecDepth 100000 in
set_option maxHeartbeats 4000000 in
theorem ci_X8_start_830 (l : Launch) (hlt : l.stackTraces = false) {g : gx_T} {σ : sx_T} {b : Nat} (hK : lay b σ) (w1 : Int32) (q1_w1 : (-2147483648 : Int) ≤ w1.toInt) (q2_w1 : w1.toInt ≤ (-1000 : Int)) (hR_0_0 : sx_R σ (b + 0) 0 = (some (b + 1))) (hR_1_5 : sx_R σ (b + 1) 5 = (some (b + 29))) : vx_Met l yX8_start (.code yX8_start cX8_start 5 (some .int) :: lw_g) { frames := 7, cells := 1, slots := 6, locals := 136 } (va_Pc [.ref (b + 0), .int 5, .int w1] (zx_w g σ)) (va_Qi (S := sx_T) (fun _ _ => False) (zx_w g) (gx_Q g)) (vx_X (fun u : sx_T => ∃ z, u = wx_Z σ z) (fun E u t => E = "java/lang/IllegalArgumentException" ∧ zx_h g u t.heap) (gx_Q g)) 1 6 (gx_Q g) := by
  refine z_metX (by decide) (Nat.le_of_ble_eq_true rfl) (fun p e s m below meth c B hr hin hout => ?_)
  refine z_eqs (σ' := (ap b σ [] [] [])) rfl ?_
  show zx p l e _ s m _ below meth c g 5 0 0 _ _ 0 [(0, .ref (b + 0)), (1, .int 5), (2, .int w1)] []
  refine z_aload_n B dX8_start_0 rfl 0 rfl ?_
  refine z_iload_n B dX8_start_1 rfl 1 rfl ?_
  refine z_cVq (As := [.int 5]) (rest := []) B cw_X8_64 cx_9 dX8_start_2 (ci_X8_programAt_318 l (σ := (ap b σ [] [] [])) (b := b) (lyA hK) (rR_at 0 0 hR_0_0) (rR_at 1 5 hR_1_5)) (lKA (hk_K hK 0 rfl rfl)) rfl (by decide) rfl (Nat.le_of_ble_eq_true rfl) (by decide) (fun r u hu => ?_)
  refine z_eqs (σ' := (ap b σ [] [] [])) hu.2 ?_
  show zx p l e _ s m _ below meth c g 5 0 0 _ _ 5 [(0, .ref (b + 0)), (1, .int 5), (2, .int w1)] _
  refine z_setr (y := (some (b + 29))) hu.1 ?_
  refine z_astore_n (lv' := [(3, .ref (b + 29)), (0, .ref (b + 0)), (1, .int 5), (2, .int w1)]) B dX8_start_5 rfl (by decide) rfl ?_
  refine z_aload_n B dX8_start_6 rfl 0 rfl ?_
  refine z_ifnonnull (r := (some (b + 29))) (tgt := 20) B dX8_start_7 (by decide) (fun _ _ => ?_) (fun h => nomatch h)
  refine z_iload_n B dX8_start_20 rfl 3 rfl ?_
  refine z_sipush (v := (-999)) B dX8_start_21 (by decide) ?_
  refine z_icmp_lt (tgt := 34) B dX8_start_24 (by decide) (fun _ => ?_) (fun h => absurd (iv_lt q2_w1 (by decide)) h)
  exact z_throw B hlt hout (cls := "java/lang/IllegalArgumentException") (text := "input is out of range") tw_X8_83_139_87 dX8_start_34 dX8_start_37 dX8_start_38 dX8_start_40 dX8_start_43 (by decide) (by decide) (by decide) (by decide) (by decide) (by decide) (fun z => ⟨z, rfl⟩)
set_option maxRecDepth 100000 in
set_option maxHeartbeats 4000000 in
theorem ci_L_start_831 (l : Launch) (hlt : l.stackTraces = false) {g : gx_T} {σ : sx_T} {b : Nat} (hK : lay b σ) (w1 : Int32) (q1_w1 : (-2147483648 : Int) ≤ w1.toInt) (q2_w1 : w1.toInt ≤ (-1000 : Int)) (hR_0_0 : sx_R σ (b + 0) 0 = (some (b + 1))) (hR_1_5 : sx_R σ (b + 1) 5 = (some (b + 29))) : Met l yL_start (.codeWith yL_start cL_start 5 (some .int) [(0, 10, 13, 13), (0, 10, 17, 15), (0, 10, 21, 24)] :: lw_g) { frames := 8, cells := 1, slots := 6, locals := 160 } (va_Pc [.ref (b + 0), .int 5, .int w1, .ref (b + 431)] (zx_w g σ)) (va_Qi (fun r u => r = 2 ∧ ∃ z, u = (ap b (wx_Z σ z) [] [] [])) (zx_w g) (gx_Q g)) 1 6 (gx_Q g) := by
  refine z_metW (by decide) (Nat.le_of_ble_eq_true rfl) (fun p e s m below meth c B hr htab => ?_)
  refine z_eqs (σ' := (ap b σ [] [] [])) rfl ?_
  show zx p l e _ s m _ below meth c g 5 0 0 _ _ 0 [(0, .ref (b + 0)), (1, .int 5), (2, .int w1), (3, .ref (b + 431))] []
  refine z_aload_n B dL_start_0 rfl 3 rfl ?_
  refine z_iconst (v := 0) B dL_start_1 (by decide) ?_
  refine z_aload_n B dL_start_2 rfl 0 rfl ?_
  refine z_iload_n B dL_start_3 rfl 1 rfl ?_
  refine z_iload_n B dL_start_4 rfl 2 rfl ?_
  refine z_cXi (As := [.int 5, .int w1]) (rest := [.int 0, .ref (b + 431)]) B htab tc_start_5_IllegalArgumentException cw_L_20 cx_9 dL_start_5 (ci_X8_start_830 l hlt (σ := (ap b σ [] [] [])) (b := b) (lyA hK) w1 q1_w1 q2_w1 (rR_at 0 0 hR_0_0) (rR_at 1 5 hR_1_5)) (lKA (hk_K hK 0 rfl rfl)) rfl (by decide) rfl (Nat.le_of_ble_eq_true rfl) (by decide) (fun z q => ?_)
  refine z_eqs (σ' := (ap b (wx_Z σ z) [] [] [])) rfl ?_
  show zx p l e _ s m _ below meth c g 5 _ _ _ _ 17 [(0, .ref (b + 0)), (1, .int 5), (2, .int w1), (3, .ref (b + 431))] _
  refine z_astore (lv' := [(4, .ref q), (0, .ref (b + 0)), (1, .int 5), (2, .int w1), (3, .ref (b + 431))]) B dL_start_17 (by decide) rfl ?_
  refine z_iconst (v := 2) B dL_start_19 (by decide) ?_
  exact z_iret B hr (by decide) (by decide) dL_start_20 ⟨rfl, _, rfl⟩
set_option maxRecDepth 100000 in
set_option maxHeartbeats 4000000 in
theorem ci_X9_start_832 (l : Launch) {g : gx_T} {σ : sx_T} {b : Nat} (hK : lay b σ) (w1 : Int32) (q1_w1 : (-2147483648 : Int) ≤ w1.toInt) (q2_w1 : w1.toInt ≤ (-1000 : Int)) (hI_405_6 : sx_I σ (b + 405) 6 = 0) : Met l yX9_start (.code yX9_start cX9_start 4 (some .int) :: lw_g) { frames := 1, cells := 0, slots := 0, locals := 23 } (va_Pc [.ref (b + 405), .int 5, .int w1] (zx_w g σ)) (va_Qi (fun r u => r = 0 ∧ u = (ap b σ [(405, 0, 2)] [] [])) (zx_w g) (gx_Q g)) 0 0 (gx_Q g) := by
  refine z_met (by decide) (Nat.le_of_ble_eq_true rfl) (fun p e s m below meth c B hr hin => ?_)
  refine z_eqs (σ' := (ap b σ [] [] [])) rfl ?_
  show zx p l e _ s m _ below meth c g 4 0 0 _ _ 0 [(0, .ref (b + 405)), (1, .int 5), (2, .int w1)] []
  refine z_aload_n B dX9_start_0 rfl 0 rfl ?_
  refine z_iload_n B dX9_start_1 rfl 1 rfl ?_
  refine z_iconst (v := 0) B dX9_start_2 (by decide) ?_
  refine z_iconst (v := 5) B dX9_start_3 (by decide) ?_
  refine z_cSi (As := [.int 5, .int 0, .int 5]) (rest := [.ref (b + 405)]) B cw_X9_96 dX9_start_4 (ci_X9_in_321 l (σ := (ap b σ [] [] [])) (b := b) (lyA hK) ) rfl (by decide) rfl (Nat.le_of_ble_eq_true rfl) (by decide) (fun r u hu => ?_)
  refine z_eqs (σ' := (ap b σ [] [] [])) hu.2 ?_
  show zx p l e _ s m _ below meth c g 4 0 0 _ _ 7 [(0, .ref (b + 405)), (1, .int 5), (2, .int w1)] _
  refine z_seti (y := 1) hu.1 ?_
  refine z_iload_n B dX9_start_7 rfl 2 rfl ?_
  refine z_sipush (v := (-999)) B dX9_start_8 (by decide) ?_
  refine z_sipush (v := 999) B dX9_start_11 (by decide) ?_
  refine z_cSi (As := [.int w1, .int (-999), .int 999]) (rest := [.int 1, .ref (b + 405)]) B cw_X9_96 dX9_start_14 (ci_X9_in_651 l (σ := (ap b σ [] [] [])) (b := b) (lyA hK) w1 q1_w1 q2_w1) rfl (by decide) rfl (Nat.le_of_ble_eq_true rfl) (by decide) (fun r u hu => ?_)
  refine z_eqs (σ' := (ap b σ [] [] [])) hu.2 ?_
  show zx p l e _ s m _ below meth c g 4 0 0 _ _ 17 [(0, .ref (b + 405)), (1, .int 5), (2, .int w1)] _
  refine z_seti (y := 0) hu.1 ?_
  refine z_aload_n B dX9_start_17 rfl 0 rfl ?_
  refine gf_X9_93 (x := 0) B (lKA (hk_K hK 405 rfl rfl)) (rI_at 405 6 hI_405_6) dX9_start_18 ?_
  refine z_bipush (v := 40) B dX9_start_21 (by decide) ?_
  refine z_icmp_ge (tgt := 30) B dX9_start_23 (by decide) (fun h => absurd h (by decide)) (fun _ => ?_)
  refine z_iconst (v := 1) B dX9_start_26 (by decide) ?_
  refine z_goto (tgt := 31) B dX9_start_27 (by decide) ?_
  refine z_cVi (As := [.int 1, .int 0, .int 1]) (rest := []) B cw_X9_259 cx_10 dX9_start_31 (ci_X9_needs___661 l (σ := (ap b σ [] [] [])) (b := b) (lyA hK) ) (lKA (hk_K hK 405 rfl rfl)) rfl (by decide) rfl (Nat.le_of_ble_eq_true rfl) (by decide) (fun r u hu => ?_)
  refine z_eqs (σ' := (ap b σ [(405, 0, 2)] [] [])) (hu.2.trans ap_ap) ?_
  show zx p l e _ s m _ below meth c g 4 0 0 _ _ 34 [(0, .ref (b + 405)), (1, .int 5), (2, .int w1)] _
  refine z_seti (y := 0) hu.1 ?_
  refine z_if_ne (tgt := 39) B dX9_start_34 (by decide) (fun h => absurd (by decide) h) (fun _ => ?_)
  refine z_iconst (v := 0) B dX9_start_37 (by decide) ?_
  exact z_iret B hr (by decide) (by decide) dX9_start_38 ⟨rfl, rfl⟩
set_option maxRecDepth 100000 in
set_option maxHeartbeats 4000000 in
theorem ci_X5_begin_833 (l : Launch) {g : gx_T} {σ : sx_T} {b : Nat} (hK : lay b σ) (w1 : Int64)  (hI_37_2 : sx_I σ (b + 37) 2 = 1) (hJ_39_0 : sx_J σ (b + 39) 0 = w1) (hR_37_1 : sx_R σ (b + 37) 1 = (some (b + 39))) (hR_41_0 : sx_R σ (b + 41) 0 = (some (b + 42))) (hR_41_1 : sx_R σ (b + 41) 1 = (some (b + 44))) : Met l yX5_begin (.code yX5_begin cX5_begin 3 none :: lw_g) { frames := 1, cells := 0, slots := 0, locals := 21 } (va_Pc [.ref (b + 41), .ref (b + 29), .ref (b + 37)] (zx_w g σ)) (va_Qv (fun u => u = (ap b σ [(41, 19, 0), (41, 18, (-1)), (41, 16, (-1)), (41, 15, 0), (41, 14, 0), (41, 13, 0), (41, 12, 0), (41, 10, (-1)), (41, 9, (-1)), (41, 8, 0), (41, 7, 0), (41, 6, (w1.toInt32)), (41, 5, 0), (41, 4, 1), (44, 1, 0), (42, 1, 0)] [(41, 17, 0), (41, 11, 0)] [(41, 3, (some (b + 37))), (41, 2, (some (b + 29)))])) (zx_w g) (gx_Q g)) 0 0 (gx_Q g) := by
  refine z_met (by decide) (Nat.le_of_ble_eq_true rfl) (fun p e s m below meth c B hr hin => ?_)
  refine z_eqs (σ' := (ap b σ [] [] [])) rfl ?_
  show zx p l e _ s m _ below meth c g 3 0 0 _ _ 0 [(0, .ref (b + 41)), (1, .ref (b + 29)), (2, .ref (b + 37))] []
  refine z_aload_n B dX5_begin_0 rfl 0 rfl ?_
  refine z_aload_n B dX5_begin_1 rfl 1 rfl ?_
  refine pf_X5_25 (x := (some (b + 29))) (σ' := (ap b σ [] [] [(41, 2, (some (b + 29)))])) B (lKA (hk_K hK 41 rfl rfl)) wR_ap dX5_begin_2 ?_
  refine z_aload_n B dX5_begin_5 rfl 0 rfl ?_
  refine z_aload_n B dX5_begin_6 rfl 2 rfl ?_
  refine pf_X5_29 (x := (some (b + 37))) (σ' := (ap b σ [] [] [(41, 3, (some (b + 37))), (41, 2, (some (b + 29)))])) B (lKA (hk_K hK 41 rfl rfl)) wR_ap dX5_begin_7 ?_
  refine z_aload_n B dX5_begin_10 rfl 0 rfl ?_
  refine gf_X5_12 (x := (some (b + 42))) B (lKA (hk_K hK 41 rfl rfl)) (rR_at 41 0 hR_41_0) dX5_begin_11 ?_
  refine z_iconst (v := 0) B dX5_begin_14 (by decide) ?_
  refine pf_X5_33 (x := 0) (σ' := (ap b σ [(42, 1, 0)] [] [(41, 3, (some (b + 37))), (41, 2, (some (b + 29)))])) B (lKA (hk_K hK 42 rfl rfl)) wI_ap dX5_begin_15 ?_
  refine z_aload_n B dX5_begin_18 rfl 0 rfl ?_
  refine gf_X5_21 (x := (some (b + 44))) B (lKA (hk_K hK 41 rfl rfl)) (rR_at 41 1 hR_41_1) dX5_begin_19 ?_
  refine z_iconst (v := 0) B dX5_begin_22 (by decide) ?_
  refine pf_X5_37 (x := 0) (σ' := (ap b σ [(44, 1, 0), (42, 1, 0)] [] [(41, 3, (some (b + 37))), (41, 2, (some (b + 29)))])) B (lKA (hk_K hK 44 rfl rfl)) wI_ap dX5_begin_23 ?_
  refine z_aload_n B dX5_begin_26 rfl 0 rfl ?_
  refine z_iconst (v := 1) B dX5_begin_27 (by decide) ?_
  refine pf_X5_38 (x := 1) (σ' := (ap b σ [(41, 4, 1), (44, 1, 0), (42, 1, 0)] [] [(41, 3, (some (b + 37))), (41, 2, (some (b + 29)))])) B (lKA (hk_K hK 41 rfl rfl)) wI_ap dX5_begin_28 ?_
  refine z_aload_n B dX5_begin_31 rfl 0 rfl ?_
  refine z_iconst (v := 0) B dX5_begin_32 (by decide) ?_
  refine pf_X5_41 (x := 0) (σ' := (ap b σ [(41, 5, 0), (41, 4, 1), (44, 1, 0), (42, 1, 0)] [] [(41, 3, (some (b + 37))), (41, 2, (some (b + 29)))])) B (lKA (hk_K hK 41 rfl rfl)) wI_ap dX5_begin_33 ?_
  refine z_aload_n B dX5_begin_36 rfl 0 rfl ?_
  refine z_aload_n B dX5_begin_37 rfl 2 rfl ?_
  refine z_iconst (v := 0) B dX5_begin_38 (by decide) ?_
  refine z_cVl (As := [.int 0]) (rest := [.ref (b + 41)]) B cw_X5_44 cx_2 dX5_begin_39 (ci_X1_numberAt_664 l (σ := (ap b σ [(41, 5, 0), (41, 4, 1), (44, 1, 0), (42, 1, 0)] [] [(41, 3, (some (b + 37))), (41, 2, (some (b + 29)))])) (b := b) (lyA hK) w1 (rI_at 37 2 hI_37_2) (rJ_at 39 0 hJ_39_0) (rR_at 37 1 hR_37_1)) (lKA (hk_K hK 37 rfl rfl)) rfl (by decide) rfl (Nat.le_of_ble_eq_true rfl) (by decide) (fun r u hu => ?_)
  refine z_eqs (σ' := (ap b σ [(41, 5, 0), (41, 4, 1), (44, 1, 0), (42, 1, 0)] [] [(41, 3, (some (b + 37))), (41, 2, (some (b + 29)))])) hu.2 ?_
  show zx p l e _ s m _ below meth c g 3 0 0 _ _ 42 [(0, .ref (b + 41)), (1, .ref (b + 29)), (2, .ref (b + 37))] _
  refine z_setl (y := w1) hu.1 ?_
  refine z_l2i B dX5_begin_42 rfl ?_
  refine pf_X5_50 (x := (w1.toInt32)) (σ' := (ap b σ [(41, 6, (w1.toInt32)), (41, 5, 0), (41, 4, 1), (44, 1, 0), (42, 1, 0)] [] [(41, 3, (some (b + 37))), (41, 2, (some (b + 29)))])) B (lKA (hk_K hK 41 rfl rfl)) wI_ap dX5_begin_43 ?_
  refine z_aload_n B dX5_begin_46 rfl 0 rfl ?_
  refine z_iconst (v := 0) B dX5_begin_47 (by decide) ?_
  refine pf_X5_53 (x := 0) (σ' := (ap b σ [(41, 7, 0), (41, 6, (w1.toInt32)), (41, 5, 0), (41, 4, 1), (44, 1, 0), (42, 1, 0)] [] [(41, 3, (some (b + 37))), (41, 2, (some (b + 29)))])) B (lKA (hk_K hK 41 rfl rfl)) wI_ap dX5_begin_48 ?_
  refine z_aload_n B dX5_begin_51 rfl 0 rfl ?_
  refine z_iconst (v := 0) B dX5_begin_52 (by decide) ?_
  refine pf_X5_56 (x := 0) (σ' := (ap b σ [(41, 8, 0), (41, 7, 0), (41, 6, (w1.toInt32)), (41, 5, 0), (41, 4, 1), (44, 1, 0), (42, 1, 0)] [] [(41, 3, (some (b + 37))), (41, 2, (some (b + 29)))])) B (lKA (hk_K hK 41 rfl rfl)) wI_ap dX5_begin_53 ?_
  refine z_aload_n B dX5_begin_56 rfl 0 rfl ?_
  refine z_iconst (v := (-1)) B dX5_begin_57 (by decide) ?_
  refine pf_X5_59 (x := (-1)) (σ' := (ap b σ [(41, 9, (-1)), (41, 8, 0), (41, 7, 0), (41, 6, (w1.toInt32)), (41, 5, 0), (41, 4, 1), (44, 1, 0), (42, 1, 0)] [] [(41, 3, (some (b + 37))), (41, 2, (some (b + 29)))])) B (lKA (hk_K hK 41 rfl rfl)) wI_ap dX5_begin_58 ?_
  refine z_aload_n B dX5_begin_61 rfl 0 rfl ?_
  refine z_iconst (v := (-1)) B dX5_begin_62 (by decide) ?_
  refine pf_X5_62 (x := (-1)) (σ' := (ap b σ [(41, 10, (-1)), (41, 9, (-1)), (41, 8, 0), (41, 7, 0), (41, 6, (w1.toInt32)), (41, 5, 0), (41, 4, 1), (44, 1, 0), (42, 1, 0)] [] [(41, 3, (some (b + 37))), (41, 2, (some (b + 29)))])) B (lKA (hk_K hK 41 rfl rfl)) wI_ap dX5_begin_63 ?_
  refine z_aload_n B dX5_begin_66 rfl 0 rfl ?_
  refine z_lconst (v := 0) B dX5_begin_67 (by decide) ?_
  refine pf_X5_65 (x := 0) (σ' := (ap b σ [(41, 10, (-1)), (41, 9, (-1)), (41, 8, 0), (41, 7, 0), (41, 6, (w1.toInt32)), (41, 5, 0), (41, 4, 1), (44, 1, 0), (42, 1, 0)] [(41, 11, 0)] [(41, 3, (some (b + 37))), (41, 2, (some (b + 29)))])) B (lKA (hk_K hK 41 rfl rfl)) wJ_ap dX5_begin_68 ?_
  refine z_aload_n B dX5_begin_71 rfl 0 rfl ?_
  refine z_iconst (v := 0) B dX5_begin_72 (by decide) ?_
  refine pf_X5_69 (x := 0) (σ' := (ap b σ [(41, 12, 0), (41, 10, (-1)), (41, 9, (-1)), (41, 8, 0), (41, 7, 0), (41, 6, (w1.toInt32)), (41, 5, 0), (41, 4, 1), (44, 1, 0), (42, 1, 0)] [(41, 11, 0)] [(41, 3, (some (b + 37))), (41, 2, (some (b + 29)))])) B (by decide) (lKA (hk_K hK 41 rfl rfl)) wI_ap dX5_begin_73 ?_
  refine z_aload_n B dX5_begin_76 rfl 0 rfl ?_
  refine z_iconst (v := 0) B dX5_begin_77 (by decide) ?_
  refine pf_X5_73 (x := 0) (σ' := (ap b σ [(41, 13, 0), (41, 12, 0), (41, 10, (-1)), (41, 9, (-1)), (41, 8, 0), (41, 7, 0), (41, 6, (w1.toInt32)), (41, 5, 0), (41, 4, 1), (44, 1, 0), (42, 1, 0)] [(41, 11, 0)] [(41, 3, (some (b + 37))), (41, 2, (some (b + 29)))])) B (by decide) (lKA (hk_K hK 41 rfl rfl)) wI_ap dX5_begin_78 ?_
  refine z_aload_n B dX5_begin_81 rfl 0 rfl ?_
  refine z_iconst (v := 0) B dX5_begin_82 (by decide) ?_
  refine pf_X5_76 (x := 0) (σ' := (ap b σ [(41, 14, 0), (41, 13, 0), (41, 12, 0), (41, 10, (-1)), (41, 9, (-1)), (41, 8, 0), (41, 7, 0), (41, 6, (w1.toInt32)), (41, 5, 0), (41, 4, 1), (44, 1, 0), (42, 1, 0)] [(41, 11, 0)] [(41, 3, (some (b + 37))), (41, 2, (some (b + 29)))])) B (lKA (hk_K hK 41 rfl rfl)) wI_ap dX5_begin_83 ?_
  refine z_aload_n B dX5_begin_86 rfl 0 rfl ?_
  refine z_iconst (v := 0) B dX5_begin_87 (by decide) ?_
  refine pf_X5_79 (x := 0) (σ' := (ap b σ [(41, 15, 0), (41, 14, 0), (41, 13, 0), (41, 12, 0), (41, 10, (-1)), (41, 9, (-1)), (41, 8, 0), (41, 7, 0), (41, 6, (w1.toInt32)), (41, 5, 0), (41, 4, 1), (44, 1, 0), (42, 1, 0)] [(41, 11, 0)] [(41, 3, (some (b + 37))), (41, 2, (some (b + 29)))])) B (by decide) (lKA (hk_K hK 41 rfl rfl)) wI_ap dX5_begin_88 ?_
  refine z_aload_n B dX5_begin_91 rfl 0 rfl ?_
  refine z_iconst (v := (-1)) B dX5_begin_92 (by decide) ?_
  refine pf_X5_82 (x := (-1)) (σ' := (ap b σ [(41, 16, (-1)), (41, 15, 0), (41, 14, 0), (41, 13, 0), (41, 12, 0), (41, 10, (-1)), (41, 9, (-1)), (41, 8, 0), (41, 7, 0), (41, 6, (w1.toInt32)), (41, 5, 0), (41, 4, 1), (44, 1, 0), (42, 1, 0)] [(41, 11, 0)] [(41, 3, (some (b + 37))), (41, 2, (some (b + 29)))])) B (lKA (hk_K hK 41 rfl rfl)) wI_ap dX5_begin_93 ?_
  refine z_aload_n B dX5_begin_96 rfl 0 rfl ?_
  refine z_lconst (v := 0) B dX5_begin_97 (by decide) ?_
  refine pf_X5_85 (x := 0) (σ' := (ap b σ [(41, 16, (-1)), (41, 15, 0), (41, 14, 0), (41, 13, 0), (41, 12, 0), (41, 10, (-1)), (41, 9, (-1)), (41, 8, 0), (41, 7, 0), (41, 6, (w1.toInt32)), (41, 5, 0), (41, 4, 1), (44, 1, 0), (42, 1, 0)] [(41, 17, 0), (41, 11, 0)] [(41, 3, (some (b + 37))), (41, 2, (some (b + 29)))])) B (lKA (hk_K hK 41 rfl rfl)) wJ_ap dX5_begin_98 ?_
  refine z_aload_n B dX5_begin_101 rfl 0 rfl ?_
  refine z_iconst (v := (-1)) B dX5_begin_102 (by decide) ?_
  refine pf_X5_88 (x := (-1)) (σ' := (ap b σ [(41, 18, (-1)), (41, 16, (-1)), (41, 15, 0), (41, 14, 0), (41, 13, 0), (41, 12, 0), (41, 10, (-1)), (41, 9, (-1)), (41, 8, 0), (41, 7, 0), (41, 6, (w1.toInt32)), (41, 5, 0), (41, 4, 1), (44, 1, 0), (42, 1, 0)] [(41, 17, 0), (41, 11, 0)] [(41, 3, (some (b + 37))), (41, 2, (some (b + 29)))])) B (lKA (hk_K hK 41 rfl rfl)) wI_ap dX5_begin_103 ?_
  refine z_aload_n B dX5_begin_106 rfl 0 rfl ?_
  refine z_iconst (v := 0) B dX5_begin_107 (by decide) ?_
  refine pf_X5_91 (x := 0) (σ' := (ap b σ [(41, 19, 0), (41, 18, (-1)), (41, 16, (-1)), (41, 15, 0), (41, 14, 0), (41, 13, 0), (41, 12, 0), (41, 10, (-1)), (41, 9, (-1)), (41, 8, 0), (41, 7, 0), (41, 6, (w1.toInt32)), (41, 5, 0), (41, 4, 1), (44, 1, 0), (42, 1, 0)] [(41, 17, 0), (41, 11, 0)] [(41, 3, (some (b + 37))), (41, 2, (some (b + 29)))])) B (by decide) (lKA (hk_K hK 41 rfl rfl)) wI_ap dX5_begin_108 ?_
  exact z_vret B hr (by decide) (by decide) dX5_begin_111 rfl
set_option maxRecDepth 100000 in
set_option maxHeartbeats 4000000 in
theorem ci_X8_open_834 (l : Launch) {g : gx_T} {σ : sx_T} {b : Nat} (hK : lay b σ) (w1 : Int32)  (hI_0_7 : sx_I σ (b + 0) 7 = 0) (hI_37_2 : sx_I σ (b + 37) 2 = 0) (hI_40_0 : sx_I σ (b + 40) 0 = 0) (hR_0_2 : sx_R σ (b + 0) 2 = (some (b + 3))) (hR_3_0 : sx_R σ (b + 3) 0 = (some (b + 40))) (hR_37_0 : sx_R σ (b + 37) 0 = (some (b + 38))) (hR_37_1 : sx_R σ (b + 37) 1 = (some (b + 39))) (hR_40_1 : sx_R σ (b + 40) 1 = (some (b + 37))) (hR_40_2 : sx_R σ (b + 40) 2 = (some (b + 41))) (hR_41_0 : sx_R σ (b + 41) 0 = (some (b + 42))) (hR_41_1 : sx_R σ (b + 41) 1 = (some (b + 44))) : Met l yX8_open (.code yX8_open cX8_open 6 (some (.object "Loomkeeper$Flow")) :: lw_g) { frames := 2, cells := 0, slots := 0, locals := 43 } (va_Pc [.ref (b + 0), .ref (b + 29), .int w1, .int (-1), .int (-1)] (zx_w g σ)) (va_Qq (fun r u => r = (some (b + 40)) ∧ u = (ap b σ [(41, 19, 0), (41, 18, (-1)), (41, 16, (-1)), (41, 15, 0), (41, 14, 0), (41, 13, 0), (41, 12, 0), (41, 10, (-1)), (41, 9, (-1)), (41, 8, 0), (41, 7, 0), (41, 6, ((w1.toInt64).toInt32)), (41, 5, 0), (41, 4, 1), (44, 1, 0), (42, 1, 0), (37, 2, 1), (38, 0, 0), (40, 5, 0), (40, 4, (-1)), (0, 7, 1)] [(41, 17, 0), (41, 11, 0), (39, 0, (w1.toInt64))] [(41, 3, (some (b + 37))), (41, 2, (some (b + 29))), (40, 3, (some (b + 29)))])) (zx_w g) (gx_Q g)) 0 0 (gx_Q g) := by
  refine z_met (by decide) (Nat.le_of_ble_eq_true rfl) (fun p e s m below meth c B hr hin => ?_)
  refine z_eqs (σ' := (ap b σ [] [] [])) rfl ?_
  show zx p l e _ s m _ below meth c g 6 0 0 _ _ 0 [(0, .ref (b + 0)), (1, .ref (b + 29)), (2, .int w1), (3, .int (-1)), (4, .int (-1))] []
  refine z_aload_n B dX8_open_0 rfl 1 rfl ?_
  refine z_ifnull (r := (some (b + 29))) (tgt := 23) B dX8_open_1 (by decide) (fun h => nomatch h) (fun _ _ => ?_)
  refine z_aload_n B dX8_open_4 rfl 0 rfl ?_
  refine gf_X8_96 (x := 0) B (lKA (hk_K hK 0 rfl rfl)) (rI_at 0 7 hI_0_7) dX8_open_5 ?_
  refine z_if_lt (tgt := 23) B dX8_open_8 (by decide) (fun h => absurd h (by decide)) (fun _ => ?_)
  refine z_aload_n B dX8_open_11 rfl 0 rfl ?_
  refine gf_X8_96 (x := 0) B (lKA (hk_K hK 0 rfl rfl)) (rI_at 0 7 hI_0_7) dX8_open_12 ?_
  refine z_aload_n B dX8_open_15 rfl 0 rfl ?_
  refine gf_X8_21 (x := (some (b + 3))) B (lKA (hk_K hK 0 rfl rfl)) (rR_at 0 2 hR_0_2) dX8_open_16 ?_
  refine z_alen (kd := 15) (ti := 3) (v := 40) B (lKA (hk_K hK 3 rfl rfl)) (by decide) rfl (congrArg Int32.ofNat (lNA (hk_N hK 3 rfl rfl))) dX8_open_19 ?_
  refine z_icmp_lt (tgt := 25) B dX8_open_20 (by decide) (fun _ => ?_) (fun h => absurd (by decide) h)
  refine z_aload_n B dX8_open_25 rfl 0 rfl ?_
  refine gf_X8_21 (x := (some (b + 3))) B (lKA (hk_K hK 0 rfl rfl)) (rR_at 0 2 hR_0_2) dX8_open_26 ?_
  refine z_aload_n B dX8_open_29 rfl 0 rfl ?_
  refine gf_X8_96 (x := 0) B (lKA (hk_K hK 0 rfl rfl)) (rI_at 0 7 hI_0_7) dX8_open_30 ?_
  refine z_qald (j := 0) (kd := 15) (ti := 3) (r := (some (b + 40))) B (lKA (hk_K hK 3 rfl rfl)) (by decide) rfl (by decide) (in_of (lNA (hk_N hK 3 rfl rfl)) (show ¬ ((0 : Int32) < 0 ∨ 40 ≤ (0 : Int32).toNatClampNeg) by decide)) (rR_at 3 0 hR_3_0) dX8_open_33 ?_
  refine z_astore (lv' := [(5, .ref (b + 40)), (0, .ref (b + 0)), (1, .ref (b + 29)), (2, .int w1), (3, .int (-1)), (4, .int (-1))]) B dX8_open_34 (by decide) rfl ?_
  refine z_aload B dX8_open_36 0 rfl ?_
  refine z_ifnonnull (r := (some (b + 40))) (tgt := 43) B dX8_open_38 (by decide) (fun _ _ => ?_) (fun h => nomatch h)
  refine z_aload_n B dX8_open_43 rfl 1 rfl ?_
  refine z_dup B dX8_open_44 rfl ?_
  refine gf_X8_96 (x := 0) B (lKA (hk_K hK 0 rfl rfl)) (rI_at 0 7 hI_0_7) dX8_open_45 ?_
  refine z_iconst (v := 1) B dX8_open_48 (by decide) ?_
  refine z_iadd B dX8_open_49 ?_
  refine z_seti (y := 1) (by decide) ?_
  refine pf_X8_96 (x := 1) (σ' := (ap b σ [(0, 7, 1)] [] [])) B (lKA (hk_K hK 0 rfl rfl)) wI_ap dX8_open_50 ?_
  refine z_aload B dX8_open_53 0 rfl ?_
  refine z_aload_n B dX8_open_55 rfl 2 rfl ?_
  refine pf_X8_103 (x := (some (b + 29))) (σ' := (ap b σ [(0, 7, 1)] [] [(40, 3, (some (b + 29)))])) B (lKA (hk_K hK 40 rfl rfl)) wR_ap dX8_open_56 ?_
  refine z_aload B dX8_open_59 0 rfl ?_
  refine z_iload_n B dX8_open_61 rfl 4 rfl ?_
  refine pf_X8_259 (x := (-1)) (σ' := (ap b σ [(40, 4, (-1)), (0, 7, 1)] [] [(40, 3, (some (b + 29)))])) B (lKA (hk_K hK 40 rfl rfl)) wI_ap dX8_open_62 ?_
  refine z_aload B dX8_open_65 0 rfl ?_
  refine z_iload B dX8_open_67 5 rfl ?_
  refine z_iconst (v := (-1)) B dX8_open_69 (by decide) ?_
  refine z_icmp_ne (tgt := 81) B dX8_open_70 (by decide) (fun h => absurd (by decide) h) (fun _ => ?_)
  refine z_aload B dX8_open_73 0 rfl ?_
  refine gf_X8_150 (x := 0) B (lKA (hk_K hK 40 rfl rfl)) (rI_at 40 0 hI_40_0) dX8_open_75 ?_
  refine z_goto (tgt := 83) B dX8_open_78 (by decide) ?_
  refine pf_X8_406 (x := 0) (σ' := (ap b σ [(40, 5, 0), (40, 4, (-1)), (0, 7, 1)] [] [(40, 3, (some (b + 29)))])) B (lKA (hk_K hK 40 rfl rfl)) wI_ap dX8_open_83 ?_
  refine z_aload B dX8_open_86 0 rfl ?_
  refine gf_X8_179 (x := (some (b + 37))) B (lKA (hk_K hK 40 rfl rfl)) (rR_at 40 1 hR_40_1) dX8_open_88 ?_
  refine z_iconst (v := 0) B dX8_open_91 (by decide) ?_
  refine z_iload_n B dX8_open_92 rfl 3 rfl ?_
  refine z_i2l B dX8_open_93 rfl ?_
  refine z_cVv (As := [.int 0, .long (w1.toInt64)]) (rest := []) B cw_X8_333 cx_2 dX8_open_94 (ci_X1_add_663 l (σ := (ap b σ [(40, 5, 0), (40, 4, (-1)), (0, 7, 1)] [] [(40, 3, (some (b + 29)))])) (b := b) (lyA hK) (w1.toInt64) (rI_at 37 2 hI_37_2) (rR_at 37 0 hR_37_0) (rR_at 37 1 hR_37_1)) (lKA (hk_K hK 37 rfl rfl)) rfl (by decide) rfl (Nat.le_of_ble_eq_true rfl) (by decide) (fun u hu => ?_)
  refine z_eqs (σ' := (ap b σ [(37, 2, 1), (38, 0, 0), (40, 5, 0), (40, 4, (-1)), (0, 7, 1)] [(39, 0, (w1.toInt64))] [(40, 3, (some (b + 29)))])) (hu.trans ap_ap) ?_
  show zx p l e _ s m _ below meth c g 6 0 0 _ _ 97 [(5, .ref (b + 40)), (0, .ref (b + 0)), (1, .ref (b + 29)), (2, .int w1), (3, .int (-1)), (4, .int (-1))] _
  refine z_aload B dX8_open_97 0 rfl ?_
  refine gf_X8_249 (x := (some (b + 41))) B (lKA (hk_K hK 40 rfl rfl)) (rR_at 40 2 hR_40_2) dX8_open_99 ?_
  refine z_aload_n B dX8_open_102 rfl 2 rfl ?_
  refine z_aload B dX8_open_103 0 rfl ?_
  refine gf_X8_179 (x := (some (b + 37))) B (lKA (hk_K hK 40 rfl rfl)) (rR_at 40 1 hR_40_1) dX8_open_105 ?_
  refine z_cVv (As := [.ref (b + 29), .ref (b + 37)]) (rest := []) B cw_X8_286 cx_6 dX8_open_108 (ci_X5_begin_833 l (σ := (ap b σ [(37, 2, 1), (38, 0, 0), (40, 5, 0), (40, 4, (-1)), (0, 7, 1)] [(39, 0, (w1.toInt64))] [(40, 3, (some (b + 29)))])) (b := b) (lyA hK) (w1.toInt64) (rI_at 37 2 rfl) (rJ_at 39 0 rfl) (rR_at 37 1 hR_37_1) (rR_at 41 0 hR_41_0) (rR_at 41 1 hR_41_1)) (lKA (hk_K hK 41 rfl rfl)) rfl (by decide) rfl (Nat.le_of_ble_eq_true rfl) (by decide) (fun u hu => ?_)
  refine z_eqs (σ' := (ap b σ [(41, 19, 0), (41, 18, (-1)), (41, 16, (-1)), (41, 15, 0), (41, 14, 0), (41, 13, 0), (41, 12, 0), (41, 10, (-1)), (41, 9, (-1)), (41, 8, 0), (41, 7, 0), (41, 6, ((w1.toInt64).toInt32)), (41, 5, 0), (41, 4, 1), (44, 1, 0), (42, 1, 0), (37, 2, 1), (38, 0, 0), (40, 5, 0), (40, 4, (-1)), (0, 7, 1)] [(41, 17, 0), (41, 11, 0), (39, 0, (w1.toInt64))] [(41, 3, (some (b + 37))), (41, 2, (some (b + 29))), (40, 3, (some (b + 29)))])) (hu.trans ap_ap) ?_
  show zx p l e _ s m _ below meth c g 6 0 0 _ _ 111 [(5, .ref (b + 40)), (0, .ref (b + 0)), (1, .ref (b + 29)), (2, .int w1), (3, .int (-1)), (4, .int (-1))] _
  refine z_aload B dX8_open_111 0 rfl ?_
  exact z_qret (r := (some (b + 40))) B hr (by decide) (by decide) dX8_open_113 ⟨rfl, rfl⟩
set_option maxRecDepth 100000 in
set_option maxHeartbeats 4000000 in
theorem ci_X4_operation_835 (l : Launch) {g : gx_T} {σ : sx_T} {b : Nat} (hK : lay b σ)   (hI_30_0 : sx_I σ (b + 30) 0 = 0) (hR_29_1 : sx_R σ (b + 29) 1 = (some (b + 30))) : Met l yX4_operation (.code yX4_operation cX4_operation 2 (some .int) :: lw_g) { frames := 0, cells := 0, slots := 0, locals := 0 } (va_Pc [.ref (b + 29), .int 0] (zx_w g σ)) (va_Qi (fun r u => r = 0 ∧ u = σ) (zx_w g) (gx_Q g)) 0 0 (gx_Q g) := by
  refine z_met (by decide) (Nat.le_of_ble_eq_true rfl) (fun p e s m below meth c B hr hin => ?_)
  refine z_eqs (σ' := (ap b σ [] [] [])) rfl ?_
  show zx p l e _ s m _ below meth c g 2 0 0 _ _ 0 [(0, .ref (b + 29)), (1, .int 0)] []
  refine z_iload_n B dX4_operation_0 rfl 1 rfl ?_
  refine z_if_lt (tgt := 22) B dX4_operation_1 (by decide) (fun h => absurd h (by decide)) (fun _ => ?_)
  refine z_iload_n B dX4_operation_4 rfl 1 rfl ?_
  refine z_aload_n B dX4_operation_5 rfl 0 rfl ?_
  refine gf_X4_9 (x := (some (b + 30))) B (lKA (hk_K hK 29 rfl rfl)) (rR_at 29 1 hR_29_1) dX4_operation_6 ?_
  refine z_alen (kd := 13) (ti := 1) (v := 20) B (lKA (hk_K hK 30 rfl rfl)) (by decide) rfl (congrArg Int32.ofNat (lNA (hk_N hK 30 rfl rfl))) dX4_operation_9 ?_
  refine z_icmp_ge (tgt := 22) B dX4_operation_10 (by decide) (fun h => absurd h (by decide)) (fun _ => ?_)
  refine z_aload_n B dX4_operation_13 rfl 0 rfl ?_
  refine gf_X4_9 (x := (some (b + 30))) B (lKA (hk_K hK 29 rfl rfl)) (rR_at 29 1 hR_29_1) dX4_operation_14 ?_
  refine z_iload_n B dX4_operation_17 rfl 1 rfl ?_
  refine z_iald (j := 0) (x := 0) B (lKA (hk_K hK 30 rfl rfl)) (by decide) (in_of (lNA (hk_N hK 30 rfl rfl)) (show ¬ ((0 : Int32) < 0 ∨ 20 ≤ (0 : Int32).toNatClampNeg) by decide)) (rI_at 30 0 hI_30_0) dX4_operation_18 ?_
  refine z_goto (tgt := 23) B dX4_operation_19 (by decide) ?_
  exact z_iret B hr (by decide) (by decide) dX4_operation_23 ⟨rfl, rfl⟩
set_option maxRecDepth 100000 in
set_option maxHeartbeats 4000000 in
theorem ci_X4_first_836 (l : Launch) {g : gx_T} {σ : sx_T} {b : Nat} (hK : lay b σ)   (hI_31_0 : sx_I σ (b + 31) 0 = 0) (hR_29_2 : sx_R σ (b + 29) 2 = (some (b + 31))) : Met l yX4_first (.code yX4_first cX4_first 2 (some .int) :: lw_g) { frames := 0, cells := 0, slots := 0, locals := 0 } (va_Pc [.ref (b + 29), .int 0] (zx_w g σ)) (va_Qi (fun r u => r = 0 ∧ u = σ) (zx_w g) (gx_Q g)) 0 0 (gx_Q g) := by
  refine z_met (by decide) (Nat.le_of_ble_eq_true rfl) (fun p e s m below meth c B hr hin => ?_)
  refine z_eqs (σ' := (ap b σ [] [] [])) rfl ?_
  show zx p l e _ s m _ below meth c g 2 0 0 _ _ 0 [(0, .ref (b + 29)), (1, .int 0)] []
  refine z_iload_n B dX4_first_0 rfl 1 rfl ?_
  refine z_if_lt (tgt := 22) B dX4_first_1 (by decide) (fun h => absurd h (by decide)) (fun _ => ?_)
  refine z_iload_n B dX4_first_4 rfl 1 rfl ?_
  refine z_aload_n B dX4_first_5 rfl 0 rfl ?_
  refine gf_X4_15 (x := (some (b + 31))) B (lKA (hk_K hK 29 rfl rfl)) (rR_at 29 2 hR_29_2) dX4_first_6 ?_
  refine z_alen (kd := 13) (ti := 1) (v := 20) B (lKA (hk_K hK 31 rfl rfl)) (by decide) rfl (congrArg Int32.ofNat (lNA (hk_N hK 31 rfl rfl))) dX4_first_9 ?_
  refine z_icmp_ge (tgt := 22) B dX4_first_10 (by decide) (fun h => absurd h (by decide)) (fun _ => ?_)
  refine z_aload_n B dX4_first_13 rfl 0 rfl ?_
  refine gf_X4_15 (x := (some (b + 31))) B (lKA (hk_K hK 29 rfl rfl)) (rR_at 29 2 hR_29_2) dX4_first_14 ?_
  refine z_iload_n B dX4_first_17 rfl 1 rfl ?_
  refine z_iald (j := 0) (x := 0) B (lKA (hk_K hK 31 rfl rfl)) (by decide) (in_of (lNA (hk_N hK 31 rfl rfl)) (show ¬ ((0 : Int32) < 0 ∨ 20 ≤ (0 : Int32).toNatClampNeg) by decide)) (rI_at 31 0 hI_31_0) dX4_first_18 ?_
  refine z_goto (tgt := 23) B dX4_first_19 (by decide) ?_
  exact z_iret B hr (by decide) (by decide) dX4_first_23 ⟨rfl, rfl⟩
set_option maxRecDepth 100000 in
set_option maxHeartbeats 4000000 in
theorem ci_X4_second_837 (l : Launch) {g : gx_T} {σ : sx_T} {b : Nat} (hK : lay b σ)   (hI_32_0 : sx_I σ (b + 32) 0 = 0) (hR_29_3 : sx_R σ (b + 29) 3 = (some (b + 32))) : Met l yX4_second (.code yX4_second cX4_second 2 (some .int) :: lw_g) { frames := 0, cells := 0, slots := 0, locals := 0 } (va_Pc [.ref (b + 29), .int 0] (zx_w g σ)) (va_Qi (fun r u => r = 0 ∧ u = σ) (zx_w g) (gx_Q g)) 0 0 (gx_Q g) := by
  refine z_met (by decide) (Nat.le_of_ble_eq_true rfl) (fun p e s m below meth c B hr hin => ?_)
  refine z_eqs (σ' := (ap b σ [] [] [])) rfl ?_
  show zx p l e _ s m _ below meth c g 2 0 0 _ _ 0 [(0, .ref (b + 29)), (1, .int 0)] []
  refine z_iload_n B dX4_second_0 rfl 1 rfl ?_
  refine z_if_lt (tgt := 22) B dX4_second_1 (by decide) (fun h => absurd h (by decide)) (fun _ => ?_)
  refine z_iload_n B dX4_second_4 rfl 1 rfl ?_
  refine z_aload_n B dX4_second_5 rfl 0 rfl ?_
  refine gf_X4_18 (x := (some (b + 32))) B (lKA (hk_K hK 29 rfl rfl)) (rR_at 29 3 hR_29_3) dX4_second_6 ?_
  refine z_alen (kd := 13) (ti := 1) (v := 20) B (lKA (hk_K hK 32 rfl rfl)) (by decide) rfl (congrArg Int32.ofNat (lNA (hk_N hK 32 rfl rfl))) dX4_second_9 ?_
  refine z_icmp_ge (tgt := 22) B dX4_second_10 (by decide) (fun h => absurd h (by decide)) (fun _ => ?_)
  refine z_aload_n B dX4_second_13 rfl 0 rfl ?_
  refine gf_X4_18 (x := (some (b + 32))) B (lKA (hk_K hK 29 rfl rfl)) (rR_at 29 3 hR_29_3) dX4_second_14 ?_
  refine z_iload_n B dX4_second_17 rfl 1 rfl ?_
  refine z_iald (j := 0) (x := 0) B (lKA (hk_K hK 32 rfl rfl)) (by decide) (in_of (lNA (hk_N hK 32 rfl rfl)) (show ¬ ((0 : Int32) < 0 ∨ 20 ≤ (0 : Int32).toNatClampNeg) by decide)) (rI_at 32 0 hI_32_0) dX4_second_18 ?_
  refine z_goto (tgt := 23) B dX4_second_19 (by decide) ?_
  exact z_iret B hr (by decide) (by decide) dX4_second_23 ⟨rfl, rfl⟩
set_option maxRecDepth 100000 in
set_option maxHeartbeats 4000000 in
theorem ci_X5_step_838 (l : Launch) {g : gx_T} {σ : sx_T} {b : Nat} (hK : lay b σ) (w1 : Int32)  (hI_30_0 : sx_I σ (b + 30) 0 = 0) (hI_31_0 : sx_I σ (b + 31) 0 = 0) (hI_32_0 : sx_I σ (b + 32) 0 = 0) (hI_41_5 : sx_I σ (b + 41) 5 = 0) (hI_41_6 : sx_I σ (b + 41) 6 = w1) (hI_41_7 : sx_I σ (b + 41) 7 = 0) (hR_29_1 : sx_R σ (b + 29) 1 = (some (b + 30))) (hR_29_2 : sx_R σ (b + 29) 2 = (some (b + 31))) (hR_29_3 : sx_R σ (b + 29) 3 = (some (b + 32))) (hR_41_2 : sx_R σ (b + 41) 2 = (some (b + 29))) : Met l yX5_step (.code yX5_step cX5_step 4 none :: lw_g) { frames := 1, cells := 0, slots := 0, locals := 23 } (va_Pc [.ref (b + 41)] (zx_w g σ)) (va_Qv (fun u => u = (ap b σ [(41, 16, 13), (41, 7, 1), (41, 5, 1)] [(41, 17, ((10 * (w1.toInt64)) + 1))] [])) (zx_w g) (gx_Q g)) 0 0 (gx_Q g) := by
  refine z_met (by decide) (Nat.le_of_ble_eq_true rfl) (fun p e s m below meth c B hr hin => ?_)
  refine z_eqs (σ' := (ap b σ [] [] [])) rfl ?_
  show zx p l e _ s m _ below meth c g 4 0 0 _ _ 0 [(0, .ref (b + 41))] []
  refine z_aload_n B dX5_step_0 rfl 0 rfl ?_
  refine gf_X5_25 (x := (some (b + 29))) B (lKA (hk_K hK 41 rfl rfl)) (rR_at 41 2 hR_41_2) dX5_step_1 ?_
  refine z_aload_n B dX5_step_4 rfl 0 rfl ?_
  refine gf_X5_41 (x := 0) B (lKA (hk_K hK 41 rfl rfl)) (rI_at 41 5 hI_41_5) dX5_step_5 ?_
  refine z_cVi (As := [.int 0]) (rest := []) B cw_X5_155 cx_5 dX5_step_8 (ci_X4_operation_835 l (σ := (ap b σ [] [] [])) (b := b) (lyA hK) (rI_at 30 0 hI_30_0) (rR_at 29 1 hR_29_1)) (lKA (hk_K hK 29 rfl rfl)) rfl (by decide) rfl (Nat.le_of_ble_eq_true rfl) (by decide) (fun r u hu => ?_)
  refine z_eqs (σ' := (ap b σ [] [] [])) hu.2 ?_
  show zx p l e _ s m _ below meth c g 4 0 0 _ _ 11 [(0, .ref (b + 41))] _
  refine z_seti (y := 0) hu.1 ?_
  refine z_istore_n (lv' := [(1, .int 0), (0, .ref (b + 41))]) B dX5_step_11 rfl (by decide) rfl ?_
  refine z_aload_n B dX5_step_12 rfl 1 rfl ?_
  refine gf_X5_25 (x := (some (b + 29))) B (lKA (hk_K hK 41 rfl rfl)) (rR_at 41 2 hR_41_2) dX5_step_13 ?_
  refine z_aload_n B dX5_step_16 rfl 1 rfl ?_
  refine gf_X5_41 (x := 0) B (lKA (hk_K hK 41 rfl rfl)) (rI_at 41 5 hI_41_5) dX5_step_17 ?_
  refine z_cVi (As := [.int 0]) (rest := []) B cw_X5_160 cx_5 dX5_step_20 (ci_X4_first_836 l (σ := (ap b σ [] [] [])) (b := b) (lyA hK) (rI_at 31 0 hI_31_0) (rR_at 29 2 hR_29_2)) (lKA (hk_K hK 29 rfl rfl)) rfl (by decide) rfl (Nat.le_of_ble_eq_true rfl) (by decide) (fun r u hu => ?_)
  refine z_eqs (σ' := (ap b σ [] [] [])) hu.2 ?_
  show zx p l e _ s m _ below meth c g 4 0 0 _ _ 23 [(1, .int 0), (0, .ref (b + 41))] _
  refine z_seti (y := 0) hu.1 ?_
  refine z_istore_n (lv' := [(2, .int 0), (1, .int 0), (0, .ref (b + 41))]) B dX5_step_23 rfl (by decide) rfl ?_
  refine z_aload_n B dX5_step_24 rfl 2 rfl ?_
  refine gf_X5_25 (x := (some (b + 29))) B (lKA (hk_K hK 41 rfl rfl)) (rR_at 41 2 hR_41_2) dX5_step_25 ?_
  refine z_aload_n B dX5_step_28 rfl 2 rfl ?_
  refine gf_X5_41 (x := 0) B (lKA (hk_K hK 41 rfl rfl)) (rI_at 41 5 hI_41_5) dX5_step_29 ?_
  refine z_cVi (As := [.int 0]) (rest := []) B cw_X5_163 cx_5 dX5_step_32 (ci_X4_second_837 l (σ := (ap b σ [] [] [])) (b := b) (lyA hK) (rI_at 32 0 hI_32_0) (rR_at 29 3 hR_29_3)) (lKA (hk_K hK 29 rfl rfl)) rfl (by decide) rfl (Nat.le_of_ble_eq_true rfl) (by decide) (fun r u hu => ?_)
  refine z_eqs (σ' := (ap b σ [] [] [])) hu.2 ?_
  show zx p l e _ s m _ below meth c g 4 0 0 _ _ 35 [(2, .int 0), (1, .int 0), (0, .ref (b + 41))] _
  refine z_seti (y := 0) hu.1 ?_
  refine z_istore_n (lv' := [(3, .int 0), (2, .int 0), (1, .int 0), (0, .ref (b + 41))]) B dX5_step_35 rfl (by decide) rfl ?_
  refine z_aload_n B dX5_step_36 rfl 3 rfl ?_
  refine z_aload_n B dX5_step_37 rfl 3 rfl ?_
  refine gf_X5_41 (x := 0) B (lKA (hk_K hK 41 rfl rfl)) (rI_at 41 5 hI_41_5) dX5_step_38 ?_
  refine z_iconst (v := 1) B dX5_step_41 (by decide) ?_
  refine z_iadd B dX5_step_42 ?_
  refine z_seti (y := 1) (by decide) ?_
  refine z_bipush (v := 20) B dX5_step_43 (by decide) ?_
  refine z_irem B dX5_step_45 (by decide) ?_
  refine z_seti (y := 1) (by decide) ?_
  refine pf_X5_41 (x := 1) (σ' := (ap b σ [(41, 5, 1)] [] [])) B (lKA (hk_K hK 41 rfl rfl)) wI_ap dX5_step_46 ?_
  refine z_aload_n B dX5_step_49 rfl 3 rfl ?_
  refine z_dup B dX5_step_50 rfl ?_
  refine gf_X5_53 (x := 0) B (lKA (hk_K hK 41 rfl rfl)) (rI_at 41 7 hI_41_7) dX5_step_51 ?_
  refine z_iconst (v := 1) B dX5_step_54 (by decide) ?_
  refine z_iadd B dX5_step_55 ?_
  refine z_seti (y := 1) (by decide) ?_
  refine pf_X5_53 (x := 1) (σ' := (ap b σ [(41, 7, 1), (41, 5, 1)] [] [])) B (lKA (hk_K hK 41 rfl rfl)) wI_ap dX5_step_56 ?_
  refine z_aload_n B dX5_step_59 rfl 3 rfl ?_
  refine gf_X5_53 (x := 1) B (lKA (hk_K hK 41 rfl rfl)) (rI_at 41 7 rfl) dX5_step_60 ?_
  refine z_bipush (v := 60) B dX5_step_63 (by decide) ?_
  refine z_icmp_gt (tgt := 77) B dX5_step_65 (by decide) (fun h => absurd h (by decide)) (fun _ => ?_)
  refine z_aload_n B dX5_step_68 rfl 3 rfl ?_
  refine z_iload_n B dX5_step_69 rfl 2 rfl ?_
  refine z_iload_n B dX5_step_70 rfl 1 rfl ?_
  refine z_cVi (As := [.int 0, .int 0]) (rest := []) B cw_X5_166 cx_6 dX5_step_71 (ci_X5_isRefused_674 l (σ := (ap b σ [(41, 7, 1), (41, 5, 1)] [] [])) (b := b) (lyA hK) ) (lKA (hk_K hK 41 rfl rfl)) rfl (by decide) rfl (Nat.le_of_ble_eq_true rfl) (by decide) (fun r u hu => ?_)
  refine z_eqs (σ' := (ap b σ [(41, 7, 1), (41, 5, 1)] [] [])) hu.2 ?_
  show zx p l e _ s m _ below meth c g 4 0 0 _ _ 74 [(3, .int 0), (2, .int 0), (1, .int 0), (0, .ref (b + 41))] _
  refine z_seti (y := 0) hu.1 ?_
  refine z_if_eq (tgt := 82) B dX5_step_74 (by decide) (fun _ => ?_) (fun h => absurd (by decide) h)
  refine z_iload_n B dX5_step_82 rfl 2 rfl ?_
  refine z_tableIn (tgt := 276) B dX5_step_83 (by decide) (by decide) (show _ = some (193 : Int) by decide) (by decide) ?_
  refine z_aload_n B dX5_step_276 rfl 3 rfl ?_
  refine z_bipush (v := 13) B dX5_step_277 (by decide) ?_
  refine z_ldc2 (v := 10) B dX5_step_279 wg_370 ?_
  refine z_aload_n B dX5_step_282 rfl 3 rfl ?_
  refine gf_X5_50 (x := w1) B (lKA (hk_K hK 41 rfl rfl)) (rI_at 41 6 hI_41_6) dX5_step_283 ?_
  refine z_i2l B dX5_step_286 rfl ?_
  refine z_lmul B dX5_step_287 ?_
  refine z_lconst (v := 1) B dX5_step_288 (by decide) ?_
  refine z_ladd B dX5_step_289 ?_
  refine z_cVv (As := [.int 13, .long ((10 * (w1.toInt64)) + 1)]) (rest := []) B cw_X5_114 cx_6 dX5_step_290 (ci_X5_want_675 l (σ := (ap b σ [(41, 7, 1), (41, 5, 1)] [] [])) (b := b) (lyA hK) ((10 * (w1.toInt64)) + 1)) (lKA (hk_K hK 41 rfl rfl)) rfl (by decide) rfl (Nat.le_of_ble_eq_true rfl) (by decide) (fun u hu => ?_)
  refine z_eqs (σ' := (ap b σ [(41, 16, 13), (41, 7, 1), (41, 5, 1)] [(41, 17, ((10 * (w1.toInt64)) + 1))] [])) (hu.trans ap_ap) ?_
  show zx p l e _ s m _ below meth c g 4 0 0 _ _ 293 [(3, .int 0), (2, .int 0), (1, .int 0), (0, .ref (b + 41))] _
  refine z_goto (tgt := 302) B dX5_step_293 (by decide) ?_
  exact z_vret B hr (by decide) (by decide) dX5_step_302 rfl
set_option maxRecDepth 100000 in
set_option maxHeartbeats 4000000 in
theorem ci_X5_advance_839 (l : Launch) {g : gx_T} {σ : sx_T} {b : Nat} (hK : lay b σ) (w1 : Int32)  (hI_30_0 : sx_I σ (b + 30) 0 = 0) (hI_31_0 : sx_I σ (b + 31) 0 = 0) (hI_32_0 : sx_I σ (b + 32) 0 = 0) (hI_41_4 : sx_I σ (b + 41) 4 = 1) (hI_41_5 : sx_I σ (b + 41) 5 = 0) (hI_41_6 : sx_I σ (b + 41) 6 = w1) (hI_41_7 : sx_I σ (b + 41) 7 = 0) (hI_41_8 : sx_I σ (b + 41) 8 = 0) (hI_41_14 : sx_I σ (b + 41) 14 = 0) (hI_41_15 : sx_I σ (b + 41) 15 = 0) (hI_41_16 : sx_I σ (b + 41) 16 = (-1)) (hI_41_19 : sx_I σ (b + 41) 19 = 0) (hR_29_1 : sx_R σ (b + 29) 1 = (some (b + 30))) (hR_29_2 : sx_R σ (b + 29) 2 = (some (b + 31))) (hR_29_3 : sx_R σ (b + 29) 3 = (some (b + 32))) (hR_41_2 : sx_R σ (b + 41) 2 = (some (b + 29))) : Met l yX5_advance (.code yX5_advance cX5_advance 5 none :: lw_g) { frames := 2, cells := 0, slots := 0, locals := 46 } (va_Pc [.ref (b + 41), .int 1] (zx_w g σ)) (va_Qv (fun u => u = (ap b σ [(41, 16, 13), (41, 7, 1), (41, 5, 1)] [(41, 17, ((10 * (w1.toInt64)) + 1))] [])) (zx_w g) (gx_Q g)) 0 0 (gx_Q g) := by
  refine z_met (by decide) (Nat.le_of_ble_eq_true rfl) (fun p e s m below meth c B hr hin => ?_)
  refine z_eqs (σ' := (ap b σ [] [] [])) rfl ?_
  show zx p l e _ s m _ below meth c g 5 0 0 _ _ 0 [(0, .ref (b + 41)), (1, .int 1)] []
  refine z_iconst (v := 1) B dX5_advance_0 (by decide) ?_
  refine z_istore_n (lv' := [(2, .int 1), (0, .ref (b + 41)), (1, .int 1)]) B dX5_advance_1 rfl (by decide) rfl ?_
  refine z_iconst (v := 0) B dX5_advance_2 (by decide) ?_
  refine z_istore_n (lv' := [(3, .int 0), (2, .int 1), (0, .ref (b + 41)), (1, .int 1)]) B dX5_advance_3 rfl (by decide) rfl ?_
  refine z_iload_n B dX5_advance_4 rfl 0 rfl ?_
  refine z_ldc (v := 1000000) B dX5_advance_5 wg_355 ?_
  refine z_icmp_ge (tgt := 122) B dX5_advance_7 (by decide) (fun h => absurd h (by decide)) (fun _ => ?_)
  refine z_iload_n B dX5_advance_10 rfl 1 rfl ?_
  refine z_if_eq (tgt := 122) B dX5_advance_11 (by decide) (fun h => absurd h (by decide)) (fun _ => ?_)
  refine z_aload_n B dX5_advance_14 rfl 2 rfl ?_
  refine gf_X5_38 (x := 1) B (lKA (hk_K hK 41 rfl rfl)) (rI_at 41 4 hI_41_4) dX5_advance_15 ?_
  refine z_iload_n B dX5_advance_18 rfl 3 rfl ?_
  refine z_icmp_ge (tgt := 26) B dX5_advance_19 (by decide) (fun _ => ?_) (fun h => absurd (by decide) h)
  refine z_iconst (v := 0) B dX5_advance_26 (by decide) ?_
  refine z_istore (lv' := [(4, .int 0), (3, .int 0), (2, .int 1), (0, .ref (b + 41)), (1, .int 1)]) B dX5_advance_27 (by decide) rfl ?_
  refine z_aload_n B dX5_advance_29 rfl 3 rfl ?_
  refine gf_X5_91 (x := 0) B (lKA (hk_K hK 41 rfl rfl)) (rI_at 41 19 hI_41_19) dX5_advance_30 ?_
  refine z_if_eq (tgt := 41) B dX5_advance_33 (by decide) (fun _ => ?_) (fun h => absurd (by decide) h)
  refine z_aload_n B dX5_advance_41 rfl 3 rfl ?_
  refine gf_X5_82 (x := (-1)) B (lKA (hk_K hK 41 rfl rfl)) (rI_at 41 16 hI_41_16) dX5_advance_42 ?_
  refine z_iconst (v := (-1)) B dX5_advance_45 (by decide) ?_
  refine z_icmp_eq (tgt := 61) B dX5_advance_46 (by decide) (fun _ => ?_) (fun h => absurd (by decide) h)
  refine z_aload_n B dX5_advance_61 rfl 3 rfl ?_
  refine gf_X5_79 (x := 0) B (lKA (hk_K hK 41 rfl rfl)) (rI_at 41 15 hI_41_15) dX5_advance_62 ?_
  refine z_if_eq (tgt := 79) B dX5_advance_65 (by decide) (fun _ => ?_) (fun h => absurd (by decide) h)
  refine z_aload_n B dX5_advance_79 rfl 3 rfl ?_
  refine gf_X5_56 (x := 0) B (lKA (hk_K hK 41 rfl rfl)) (rI_at 41 8 hI_41_8) dX5_advance_80 ?_
  refine z_if_eq (tgt := 98) B dX5_advance_83 (by decide) (fun _ => ?_) (fun h => absurd (by decide) h)
  refine z_aload_n B dX5_advance_98 rfl 3 rfl ?_
  refine gf_X5_76 (x := 0) B (lKA (hk_K hK 41 rfl rfl)) (rI_at 41 14 hI_41_14) dX5_advance_99 ?_
  refine z_if_eq (tgt := 112) B dX5_advance_102 (by decide) (fun _ => ?_) (fun h => absurd (by decide) h)
  refine z_aload_n B dX5_advance_112 rfl 3 rfl ?_
  refine z_cVv (As := []) (rest := []) B cw_X5_105 cx_6 dX5_advance_113 (ci_X5_step_838 l (σ := (ap b σ [] [] [])) (b := b) (lyA hK) w1 (rI_at 30 0 hI_30_0) (rI_at 31 0 hI_31_0) (rI_at 32 0 hI_32_0) (rI_at 41 5 hI_41_5) (rI_at 41 6 hI_41_6) (rI_at 41 7 hI_41_7) (rR_at 29 1 hR_29_1) (rR_at 29 2 hR_29_2) (rR_at 29 3 hR_29_3) (rR_at 41 2 hR_41_2)) (lKA (hk_K hK 41 rfl rfl)) rfl (by decide) rfl (Nat.le_of_ble_eq_true rfl) (by decide) (fun u hu => ?_)
  refine z_eqs (σ' := (ap b σ [(41, 16, 13), (41, 7, 1), (41, 5, 1)] [(41, 17, ((10 * (w1.toInt64)) + 1))] [])) (hu.trans ap_ap) ?_
  show zx p l e _ s m _ below meth c g 5 0 0 _ _ 116 [(4, .int 0), (3, .int 0), (2, .int 1), (0, .ref (b + 41)), (1, .int 1)] _
  refine z_iinc (v := 1) (lv' := [(3, .int 1), (4, .int 0), (2, .int 1), (0, .ref (b + 41)), (1, .int 1)]) B dX5_advance_116 1 rfl (by decide) (by decide) rfl ?_
  refine z_goto (tgt := 4) B dX5_advance_119 (by decide) ?_
  refine z_iload_n B dX5_advance_4 rfl 0 rfl ?_
  refine z_ldc (v := 1000000) B dX5_advance_5 wg_355 ?_
  refine z_icmp_ge (tgt := 122) B dX5_advance_7 (by decide) (fun h => absurd h (by decide)) (fun _ => ?_)
  refine z_iload_n B dX5_advance_10 rfl 2 rfl ?_
  refine z_if_eq (tgt := 122) B dX5_advance_11 (by decide) (fun h => absurd h (by decide)) (fun _ => ?_)
  refine z_aload_n B dX5_advance_14 rfl 3 rfl ?_
  refine gf_X5_38 (x := 1) B (lKA (hk_K hK 41 rfl rfl)) (rI_at 41 4 hI_41_4) dX5_advance_15 ?_
  refine z_iload_n B dX5_advance_18 rfl 4 rfl ?_
  refine z_icmp_ge (tgt := 26) B dX5_advance_19 (by decide) (fun _ => ?_) (fun h => absurd (by decide) h)
  refine z_iconst (v := 0) B dX5_advance_26 (by decide) ?_
  refine z_istore (lv' := [(4, .int 0), (3, .int 1), (2, .int 1), (0, .ref (b + 41)), (1, .int 1)]) B dX5_advance_27 (by decide) rfl ?_
  refine z_aload_n B dX5_advance_29 rfl 3 rfl ?_
  refine gf_X5_91 (x := 0) B (lKA (hk_K hK 41 rfl rfl)) (rI_at 41 19 hI_41_19) dX5_advance_30 ?_
  refine z_if_eq (tgt := 41) B dX5_advance_33 (by decide) (fun _ => ?_) (fun h => absurd (by decide) h)
  refine z_aload_n B dX5_advance_41 rfl 3 rfl ?_
  refine gf_X5_82 (x := 13) B (lKA (hk_K hK 41 rfl rfl)) (rI_at 41 16 rfl) dX5_advance_42 ?_
  refine z_iconst (v := (-1)) B dX5_advance_45 (by decide) ?_
  refine z_icmp_eq (tgt := 61) B dX5_advance_46 (by decide) (fun h => absurd h (by decide)) (fun _ => ?_)
  refine z_iload B dX5_advance_49 0 rfl ?_
  refine z_istore_n (lv' := [(2, .int 0), (4, .int 0), (3, .int 1), (0, .ref (b + 41)), (1, .int 1)]) B dX5_advance_51 rfl (by decide) rfl ?_
  refine z_aload_n B dX5_advance_52 rfl 3 rfl ?_
  refine z_iload B dX5_advance_53 1 rfl ?_
  refine z_cVv (As := [.int 0]) (rest := []) B cw_X5_95 cx_6 dX5_advance_55 (ci_X5_takeWanted_677 l (σ := (ap b σ [(41, 16, 13), (41, 7, 1), (41, 5, 1)] [(41, 17, ((10 * (w1.toInt64)) + 1))] [])) (b := b) (lyA hK) ) (lKA (hk_K hK 41 rfl rfl)) rfl (by decide) rfl (Nat.le_of_ble_eq_true rfl) (by decide) (fun u hu => ?_)
  refine z_eqs (σ' := (ap b σ [(41, 16, 13), (41, 7, 1), (41, 5, 1)] [(41, 17, ((10 * (w1.toInt64)) + 1))] [])) hu ?_
  show zx p l e _ s m _ below meth c g 5 0 0 _ _ 58 [(2, .int 0), (4, .int 0), (3, .int 1), (0, .ref (b + 41)), (1, .int 1)] _
  refine z_goto (tgt := 116) B dX5_advance_58 (by decide) ?_
  refine z_iinc (v := 2) (lv' := [(3, .int 2), (2, .int 0), (4, .int 0), (0, .ref (b + 41)), (1, .int 1)]) B dX5_advance_116 2 rfl (by decide) (by decide) rfl ?_
  refine z_goto (tgt := 4) B dX5_advance_119 (by decide) ?_
  refine z_iload_n B dX5_advance_4 rfl 0 rfl ?_
  refine z_ldc (v := 1000000) B dX5_advance_5 wg_355 ?_
  refine z_icmp_ge (tgt := 122) B dX5_advance_7 (by decide) (fun h => absurd h (by decide)) (fun _ => ?_)
  refine z_iload_n B dX5_advance_10 rfl 1 rfl ?_
  refine z_if_eq (tgt := 122) B dX5_advance_11 (by decide) (fun _ => ?_) (fun h => absurd (by decide) h)
  exact z_vret B hr (by decide) (by decide) dX5_advance_122 rfl
set_option maxRecDepth 100000 in
set_option maxHeartbeats 4000000 in
theorem ci_X8_goOn_840 (l : Launch) {g : gx_T} {σ : sx_T} {b : Nat} (hK : lay b σ) (w1 : Int32) (q1_w1 : (-999 : Int) ≤ w1.toInt) (q2_w1 : w1.toInt ≤ (-1 : Int)) (hI_5_1 : sx_I σ (b + 5) 1 = 0) (hI_5_2 : sx_I σ (b + 5) 2 = 0) (hI_7_1 : sx_I σ (b + 7) 1 = 0) (hI_7_2 : sx_I σ (b + 7) 2 = 0) (hI_30_0 : sx_I σ (b + 30) 0 = 0) (hI_31_0 : sx_I σ (b + 31) 0 = 0) (hI_32_0 : sx_I σ (b + 32) 0 = 0) (hI_37_2 : sx_I σ (b + 37) 2 = 1) (hI_40_4 : sx_I σ (b + 40) 4 = (-1)) (hI_40_8 : sx_I σ (b + 40) 8 = 0) (hI_41_4 : sx_I σ (b + 41) 4 = 1) (hI_41_5 : sx_I σ (b + 41) 5 = 0) (hI_41_6 : sx_I σ (b + 41) 6 = w1) (hI_41_7 : sx_I σ (b + 41) 7 = 0) (hI_41_8 : sx_I σ (b + 41) 8 = 0) (hI_41_14 : sx_I σ (b + 41) 14 = 0) (hI_41_15 : sx_I σ (b + 41) 15 = 0) (hI_41_16 : sx_I σ (b + 41) 16 = (-1)) (hI_41_18 : sx_I σ (b + 41) 18 = (-1)) (hI_41_19 : sx_I σ (b + 41) 19 = 0) (hR_0_4 : sx_R σ (b + 0) 4 = (some (b + 5))) (hR_0_5 : sx_R σ (b + 0) 5 = (some (b + 7))) (hR_5_0 : sx_R σ (b + 5) 0 = (some (b + 6))) (hR_29_1 : sx_R σ (b + 29) 1 = (some (b + 30))) (hR_29_2 : sx_R σ (b + 29) 2 = (some (b + 31))) (hR_29_3 : sx_R σ (b + 29) 3 = (some (b + 32))) (hR_37_0 : sx_R σ (b + 37) 0 = (some (b + 38))) (hR_37_1 : sx_R σ (b + 37) 1 = (some (b + 39))) (hR_40_1 : sx_R σ (b + 40) 1 = (some (b + 37))) (hR_40_2 : sx_R σ (b + 40) 2 = (some (b + 41))) (hR_40_7 : sx_R σ (b + 40) 7 = none) (hR_41_2 : sx_R σ (b + 41) 2 = (some (b + 29))) (hR_41_3 : sx_R σ (b + 41) 3 = (some (b + 37))) : Met l yX8_goOn (.code yX8_goOn cX8_goOn 5 none :: lw_g) { frames := 3, cells := 0, slots := 0, locals := 72 } (va_Pc [.ref (b + 0), .ref (b + 40)] (zx_w g σ)) (va_Qv (fun u => u = (ap b σ [(7, 2, 0), (7, 1, 0), (40, 8, 2), (5, 2, 0), (41, 19, 0), (41, 19, 0), (41, 15, 1), (41, 4, 2), (41, 16, (-1)), (37, 2, 2), (38, 1, 13), (41, 16, 13), (41, 7, 1), (41, 5, 1), (5, 2, 1)] [(39, 1, ((10 * (w1.toInt64)) + 1)), (41, 17, ((10 * (w1.toInt64)) + 1))] [(6, 0, (some (b + 40)))])) (zx_w g) (gx_Q g)) 0 0 (gx_Q g) := by
  refine z_met (by decide) (Nat.le_of_ble_eq_true rfl) (fun p e s m below meth c B hr hin => ?_)
  refine z_eqs (σ' := (ap b σ [] [] [])) rfl ?_
  show zx p l e _ s m _ below meth c g 5 0 0 _ _ 0 [(0, .ref (b + 0)), (1, .ref (b + 40))] []
  refine z_aload_n B dX8_goOn_0 rfl 0 rfl ?_
  refine gf_X8_35 (x := (some (b + 5))) B (lKA (hk_K hK 0 rfl rfl)) (rR_at 0 4 hR_0_4) dX8_goOn_1 ?_
  refine z_aload_n B dX8_goOn_4 rfl 1 rfl ?_
  refine z_cVv (As := [.ref (b + 40)]) (rest := []) B cw_X8_337 cx_3 dX8_goOn_5 (ci_X2_addLast_667 l (σ := (ap b σ [] [] [])) (b := b) (lyA hK) (rI_at 5 2 hI_5_2) (rR_at 5 0 hR_5_0)) (lKA (hk_K hK 5 rfl rfl)) rfl (by decide) rfl (Nat.le_of_ble_eq_true rfl) (by decide) (fun u hu => ?_)
  refine z_eqs (σ' := (ap b σ [(5, 2, 1)] [] [(6, 0, (some (b + 40)))])) (hu.trans ap_ap) ?_
  show zx p l e _ s m _ below meth c g 5 0 0 _ _ 8 [(0, .ref (b + 0)), (1, .ref (b + 40))] _
  refine z_iconst (v := 0) B dX8_goOn_8 (by decide) ?_
  refine z_istore_n (lv' := [(2, .int 0), (0, .ref (b + 0)), (1, .ref (b + 40))]) B dX8_goOn_9 rfl (by decide) rfl ?_
  refine z_iload_n B dX8_goOn_10 rfl 0 rfl ?_
  refine z_ldcw (v := 1000000) B dX8_goOn_11 wg_515 ?_
  refine z_icmp_ge (tgt := 126) B dX8_goOn_14 (by decide) (fun h => absurd h (by decide)) (fun _ => ?_)
  refine z_aload_n B dX8_goOn_17 rfl 1 rfl ?_
  refine gf_X8_35 (x := (some (b + 5))) B (lKA (hk_K hK 0 rfl rfl)) (rR_at 0 4 hR_0_4) dX8_goOn_18 ?_
  refine z_cVi (As := []) (rest := []) B cw_X8_341 cx_3 dX8_goOn_21 (ci_X2_isEmpty_668 l (σ := (ap b σ [(5, 2, 1)] [] [(6, 0, (some (b + 40)))])) (b := b) (lyA hK) (rI_at 5 1 hI_5_1) (rI_at 5 2 rfl)) (lKA (hk_K hK 5 rfl rfl)) rfl (by decide) rfl (Nat.le_of_ble_eq_true rfl) (by decide) (fun r u hu => ?_)
  refine z_eqs (σ' := (ap b σ [(5, 2, 1)] [] [(6, 0, (some (b + 40)))])) hu.2 ?_
  show zx p l e _ s m _ below meth c g 5 0 0 _ _ 24 [(2, .int 0), (0, .ref (b + 0)), (1, .ref (b + 40))] _
  refine z_seti (y := 0) hu.1 ?_
  refine z_if_eq (tgt := 41) B dX8_goOn_24 (by decide) (fun _ => ?_) (fun h => absurd (by decide) h)
  refine z_aload_n B dX8_goOn_41 rfl 1 rfl ?_
  refine gf_X8_35 (x := (some (b + 5))) B (lKA (hk_K hK 0 rfl rfl)) (rR_at 0 4 hR_0_4) dX8_goOn_42 ?_
  refine z_cVq (As := []) (rest := []) B cw_X8_348 cx_3 dX8_goOn_45 (ci_X2_last_669 l (σ := (ap b σ [(5, 2, 1)] [] [(6, 0, (some (b + 40)))])) (b := b) (lyA hK) (rI_at 5 1 hI_5_1) (rI_at 5 2 rfl) (rR_at 5 0 hR_5_0) (rR_at 6 0 rfl)) (lKA (hk_K hK 5 rfl rfl)) rfl (by decide) rfl (Nat.le_of_ble_eq_true rfl) (by decide) (fun r u hu => ?_)
  refine z_eqs (σ' := (ap b σ [(5, 2, 1)] [] [(6, 0, (some (b + 40)))])) hu.2 ?_
  show zx p l e _ s m _ below meth c g 5 0 0 _ _ 48 [(2, .int 0), (0, .ref (b + 0)), (1, .ref (b + 40))] _
  refine z_setr (y := (some (b + 40))) hu.1 ?_
  refine z_astore_n (lv' := [(3, .ref (b + 40)), (2, .int 0), (0, .ref (b + 0)), (1, .ref (b + 40))]) B dX8_goOn_48 rfl (by decide) rfl ?_
  refine z_aload_n B dX8_goOn_49 rfl 0 rfl ?_
  refine z_ifnonnull (r := (some (b + 40))) (tgt := 54) B dX8_goOn_50 (by decide) (fun _ _ => ?_) (fun h => nomatch h)
  refine z_aload_n B dX8_goOn_54 rfl 0 rfl ?_
  refine gf_X8_249 (x := (some (b + 41))) B (lKA (hk_K hK 40 rfl rfl)) (rR_at 40 2 hR_40_2) dX8_goOn_55 ?_
  refine z_aload_n B dX8_goOn_58 rfl 0 rfl ?_
  refine gf_X8_179 (x := (some (b + 37))) B (lKA (hk_K hK 40 rfl rfl)) (rR_at 40 1 hR_40_1) dX8_goOn_59 ?_
  refine z_cVi (As := []) (rest := [.ref (b + 41)]) B cw_X8_183 cx_2 dX8_goOn_62 (ci_X1_size_670 l (σ := (ap b σ [(5, 2, 1)] [] [(6, 0, (some (b + 40)))])) (b := b) (lyA hK) (rI_at 37 2 hI_37_2)) (lKA (hk_K hK 37 rfl rfl)) rfl (by decide) rfl (Nat.le_of_ble_eq_true rfl) (by decide) (fun r u hu => ?_)
  refine z_eqs (σ' := (ap b σ [(5, 2, 1)] [] [(6, 0, (some (b + 40)))])) hu.2 ?_
  show zx p l e _ s m _ below meth c g 5 0 0 _ _ 65 [(3, .ref (b + 40)), (2, .int 0), (0, .ref (b + 0)), (1, .ref (b + 40))] _
  refine z_seti (y := 1) hu.1 ?_
  refine z_cVv (As := [.int 1]) (rest := []) B cw_X8_289 cx_6 dX8_goOn_65 (ci_X5_advance_839 l (σ := (ap b σ [(5, 2, 1)] [] [(6, 0, (some (b + 40)))])) (b := b) (lyA hK) w1 (rI_at 30 0 hI_30_0) (rI_at 31 0 hI_31_0) (rI_at 32 0 hI_32_0) (rI_at 41 4 hI_41_4) (rI_at 41 5 hI_41_5) (rI_at 41 6 hI_41_6) (rI_at 41 7 hI_41_7) (rI_at 41 8 hI_41_8) (rI_at 41 14 hI_41_14) (rI_at 41 15 hI_41_15) (rI_at 41 16 hI_41_16) (rI_at 41 19 hI_41_19) (rR_at 29 1 hR_29_1) (rR_at 29 2 hR_29_2) (rR_at 29 3 hR_29_3) (rR_at 41 2 hR_41_2)) (lKA (hk_K hK 41 rfl rfl)) rfl (by decide) rfl (Nat.le_of_ble_eq_true rfl) (by decide) (fun u hu => ?_)
  refine z_eqs (σ' := (ap b σ [(41, 16, 13), (41, 7, 1), (41, 5, 1), (5, 2, 1)] [(41, 17, ((10 * (w1.toInt64)) + 1))] [(6, 0, (some (b + 40)))])) (hu.trans ap_ap) ?_
  show zx p l e _ s m _ below meth c g 5 0 0 _ _ 68 [(3, .ref (b + 40)), (2, .int 0), (0, .ref (b + 0)), (1, .ref (b + 40))] _
  refine z_aload_n B dX8_goOn_68 rfl 0 rfl ?_
  refine z_cVv (As := []) (rest := []) B cw_X8_351 cx_1 dX8_goOn_69 (ci_X0_letGo_679 l (σ := (ap b σ [(41, 16, 13), (41, 7, 1), (41, 5, 1), (5, 2, 1)] [(41, 17, ((10 * (w1.toInt64)) + 1))] [(6, 0, (some (b + 40)))])) (b := b) (lyA hK) (rR_at 40 7 hR_40_7)) (lKA (hk_K hK 40 rfl rfl)) rfl (by decide) rfl (Nat.le_of_ble_eq_true rfl) (by decide) (fun u hu => ?_)
  refine z_eqs (σ' := (ap b σ [(41, 16, 13), (41, 7, 1), (41, 5, 1), (5, 2, 1)] [(41, 17, ((10 * (w1.toInt64)) + 1))] [(6, 0, (some (b + 40)))])) hu ?_
  show zx p l e _ s m _ below meth c g 5 0 0 _ _ 72 [(3, .ref (b + 40)), (2, .int 0), (0, .ref (b + 0)), (1, .ref (b + 40))] _
  refine z_aload_n B dX8_goOn_72 rfl 0 rfl ?_
  refine gf_X8_249 (x := (some (b + 41))) B (lKA (hk_K hK 40 rfl rfl)) (rR_at 40 2 hR_40_2) dX8_goOn_73 ?_
  refine z_cVi (As := []) (rest := []) B cw_X8_354 cx_6 dX8_goOn_76 (ci_X5_wantsEvent_680 l (σ := (ap b σ [(41, 16, 13), (41, 7, 1), (41, 5, 1), (5, 2, 1)] [(41, 17, ((10 * (w1.toInt64)) + 1))] [(6, 0, (some (b + 40)))])) (b := b) (lyA hK) (rI_at 41 16 rfl) (rI_at 41 19 hI_41_19)) (lKA (hk_K hK 41 rfl rfl)) rfl (by decide) rfl (Nat.le_of_ble_eq_true rfl) (by decide) (fun r u hu => ?_)
  refine z_eqs (σ' := (ap b σ [(41, 16, 13), (41, 7, 1), (41, 5, 1), (5, 2, 1)] [(41, 17, ((10 * (w1.toInt64)) + 1))] [(6, 0, (some (b + 40)))])) hu.2 ?_
  show zx p l e _ s m _ below meth c g 5 0 0 _ _ 79 [(3, .ref (b + 40)), (2, .int 0), (0, .ref (b + 0)), (1, .ref (b + 40))] _
  refine z_seti (y := 1) hu.1 ?_
  refine z_if_eq (tgt := 115) B dX8_goOn_79 (by decide) (fun h => absurd h (by decide)) (fun _ => ?_)
  refine z_aload_n B dX8_goOn_82 rfl 2 rfl ?_
  refine z_aload_n B dX8_goOn_83 rfl 0 rfl ?_
  refine z_cVq (As := [.ref (b + 40)]) (rest := []) B cw_X8_357 cx_9 dX8_goOn_84 (ci_X8_make_684 l (σ := (ap b σ [(41, 16, 13), (41, 7, 1), (41, 5, 1), (5, 2, 1)] [(41, 17, ((10 * (w1.toInt64)) + 1))] [(6, 0, (some (b + 40)))])) (b := b) (lyA hK) ((10 * (w1.toInt64)) + 1) (rI_at 37 2 hI_37_2) (rI_at 40 4 hI_40_4) (rI_at 41 16 rfl) (rJ_at 41 17 rfl) (rR_at 37 0 hR_37_0) (rR_at 37 1 hR_37_1) (rR_at 40 1 hR_40_1) (rR_at 40 2 hR_40_2)) (lKA (hk_K hK 0 rfl rfl)) rfl (by decide) rfl (Nat.le_of_ble_eq_true rfl) (by decide) (fun r u hu => ?_)
  refine z_eqs (σ' := (ap b σ [(37, 2, 2), (38, 1, 13), (41, 16, 13), (41, 7, 1), (41, 5, 1), (5, 2, 1)] [(39, 1, ((10 * (w1.toInt64)) + 1)), (41, 17, ((10 * (w1.toInt64)) + 1))] [(6, 0, (some (b + 40)))])) (hu.2.trans ap_ap) ?_
  show zx p l e _ s m _ below meth c g 5 0 0 _ _ 87 [(3, .ref (b + 40)), (2, .int 0), (0, .ref (b + 0)), (1, .ref (b + 40))] _
  refine z_setr (y := none) hu.1 ?_
  refine z_qstore (r := none) (lv' := [(4, .null), (3, .ref (b + 40)), (2, .int 0), (0, .ref (b + 0)), (1, .ref (b + 40))]) B dX8_goOn_87 (by decide) rfl ?_
  refine z_aload_n B dX8_goOn_89 rfl 1 rfl ?_
  refine gf_X8_249 (x := (some (b + 41))) B (lKA (hk_K hK 40 rfl rfl)) (rR_at 40 2 hR_40_2) dX8_goOn_90 ?_
  refine z_aload_n B dX8_goOn_93 rfl 1 rfl ?_
  refine gf_X8_179 (x := (some (b + 37))) B (lKA (hk_K hK 40 rfl rfl)) (rR_at 40 1 hR_40_1) dX8_goOn_94 ?_
  refine z_cVi (As := []) (rest := [.ref (b + 41)]) B cw_X8_183 cx_2 dX8_goOn_97 (ci_X1_size_685 l (σ := (ap b σ [(37, 2, 2), (38, 1, 13), (41, 16, 13), (41, 7, 1), (41, 5, 1), (5, 2, 1)] [(39, 1, ((10 * (w1.toInt64)) + 1)), (41, 17, ((10 * (w1.toInt64)) + 1))] [(6, 0, (some (b + 40)))])) (b := b) (lyA hK) (rI_at 37 2 rfl)) (lKA (hk_K hK 37 rfl rfl)) rfl (by decide) rfl (Nat.le_of_ble_eq_true rfl) (by decide) (fun r u hu => ?_)
  refine z_eqs (σ' := (ap b σ [(37, 2, 2), (38, 1, 13), (41, 16, 13), (41, 7, 1), (41, 5, 1), (5, 2, 1)] [(39, 1, ((10 * (w1.toInt64)) + 1)), (41, 17, ((10 * (w1.toInt64)) + 1))] [(6, 0, (some (b + 40)))])) hu.2 ?_
  show zx p l e _ s m _ below meth c g 5 0 0 _ _ 100 [(4, .null), (3, .ref (b + 40)), (2, .int 0), (0, .ref (b + 0)), (1, .ref (b + 40))] _
  refine z_seti (y := 2) hu.1 ?_
  refine z_cVv (As := [.int 2]) (rest := []) B cw_X8_289 cx_6 dX8_goOn_100 (ci_X5_advance_690 l (σ := (ap b σ [(37, 2, 2), (38, 1, 13), (41, 16, 13), (41, 7, 1), (41, 5, 1), (5, 2, 1)] [(39, 1, ((10 * (w1.toInt64)) + 1)), (41, 17, ((10 * (w1.toInt64)) + 1))] [(6, 0, (some (b + 40)))])) (b := b) (lyA hK) ((10 * (w1.toInt64)) + 1) (iv_ladd (c := 1) (n := 1) rfl (iv_lmul (c := 10) (n := 10) rfl (by decide) (iv_i2l q1_w1 q2_w1).1 (iv_i2l q1_w1 q2_w1).2 (by decide) (by decide)).1 (iv_lmul (c := 10) (n := 10) rfl (by decide) (iv_i2l q1_w1 q2_w1).1 (iv_i2l q1_w1 q2_w1).2 (by decide) (by decide)).2 (by decide) (by decide)).1 (iv_ladd (c := 1) (n := 1) rfl (iv_lmul (c := 10) (n := 10) rfl (by decide) (iv_i2l q1_w1 q2_w1).1 (iv_i2l q1_w1 q2_w1).2 (by decide) (by decide)).1 (iv_lmul (c := 10) (n := 10) rfl (by decide) (iv_i2l q1_w1 q2_w1).1 (iv_i2l q1_w1 q2_w1).2 (by decide) (by decide)).2 (by decide) (by decide)).2 (rI_at 37 2 rfl) (rI_at 38 1 rfl) (rI_at 41 4 hI_41_4) (rI_at 41 16 rfl) (rI_at 41 19 hI_41_19) (rJ_at 39 1 rfl) (rJ_at 41 17 rfl) (rR_at 37 0 hR_37_0) (rR_at 37 1 hR_37_1) (rR_at 41 3 hR_41_3)) (lKA (hk_K hK 41 rfl rfl)) rfl (by decide) rfl (Nat.le_of_ble_eq_true rfl) (by decide) (fun u hu => ?_)
  refine z_eqs (σ' := (ap b σ [(41, 19, 0), (41, 15, 1), (41, 4, 2), (41, 16, (-1)), (37, 2, 2), (38, 1, 13), (41, 16, 13), (41, 7, 1), (41, 5, 1), (5, 2, 1)] [(39, 1, ((10 * (w1.toInt64)) + 1)), (41, 17, ((10 * (w1.toInt64)) + 1))] [(6, 0, (some (b + 40)))])) (hu.trans ap_ap) ?_
  show zx p l e _ s m _ below meth c g 5 0 0 _ _ 103 [(4, .null), (3, .ref (b + 40)), (2, .int 0), (0, .ref (b + 0)), (1, .ref (b + 40))] _
  refine z_aload_n B dX8_goOn_103 rfl 3 rfl ?_
  refine gf_X8_35 (x := (some (b + 5))) B (lKA (hk_K hK 0 rfl rfl)) (rR_at 0 4 hR_0_4) dX8_goOn_104 ?_
  refine z_qload (r := none) B dX8_goOn_107 0 rfl ?_
  refine z_cVv (As := [.null]) (rest := []) B cw_X8_337 cx_3 dX8_goOn_109 (ci_X2_addLast_691 l (σ := (ap b σ [(41, 19, 0), (41, 15, 1), (41, 4, 2), (41, 16, (-1)), (37, 2, 2), (38, 1, 13), (41, 16, 13), (41, 7, 1), (41, 5, 1), (5, 2, 1)] [(39, 1, ((10 * (w1.toInt64)) + 1)), (41, 17, ((10 * (w1.toInt64)) + 1))] [(6, 0, (some (b + 40)))])) (b := b) (lyA hK) ) (lKA (hk_K hK 5 rfl rfl)) rfl (by decide) rfl (Nat.le_of_ble_eq_true rfl) (by decide) (fun u hu => ?_)
  refine z_eqs (σ' := (ap b σ [(41, 19, 0), (41, 15, 1), (41, 4, 2), (41, 16, (-1)), (37, 2, 2), (38, 1, 13), (41, 16, 13), (41, 7, 1), (41, 5, 1), (5, 2, 1)] [(39, 1, ((10 * (w1.toInt64)) + 1)), (41, 17, ((10 * (w1.toInt64)) + 1))] [(6, 0, (some (b + 40)))])) hu ?_
  show zx p l e _ s m _ below meth c g 5 0 0 _ _ 112 [(4, .null), (3, .ref (b + 40)), (2, .int 0), (0, .ref (b + 0)), (1, .ref (b + 40))] _
  refine z_goto (tgt := 120) B dX8_goOn_112 (by decide) ?_
  refine z_iinc (v := 1) (lv' := [(2, .int 1), (4, .null), (3, .ref (b + 40)), (0, .ref (b + 0)), (1, .ref (b + 40))]) B dX8_goOn_120 2 rfl (by decide) (by decide) rfl ?_
  refine z_goto (tgt := 10) B dX8_goOn_123 (by decide) ?_
  refine z_iload_n B dX8_goOn_10 rfl 0 rfl ?_
  refine z_ldcw (v := 1000000) B dX8_goOn_11 wg_515 ?_
  refine z_icmp_ge (tgt := 126) B dX8_goOn_14 (by decide) (fun h => absurd h (by decide)) (fun _ => ?_)
  refine z_aload_n B dX8_goOn_17 rfl 3 rfl ?_
  refine gf_X8_35 (x := (some (b + 5))) B (lKA (hk_K hK 0 rfl rfl)) (rR_at 0 4 hR_0_4) dX8_goOn_18 ?_
  refine z_cVi (As := []) (rest := []) B cw_X8_341 cx_3 dX8_goOn_21 (ci_X2_isEmpty_668 l (σ := (ap b σ [(41, 19, 0), (41, 15, 1), (41, 4, 2), (41, 16, (-1)), (37, 2, 2), (38, 1, 13), (41, 16, 13), (41, 7, 1), (41, 5, 1), (5, 2, 1)] [(39, 1, ((10 * (w1.toInt64)) + 1)), (41, 17, ((10 * (w1.toInt64)) + 1))] [(6, 0, (some (b + 40)))])) (b := b) (lyA hK) (rI_at 5 1 hI_5_1) (rI_at 5 2 rfl)) (lKA (hk_K hK 5 rfl rfl)) rfl (by decide) rfl (Nat.le_of_ble_eq_true rfl) (by decide) (fun r u hu => ?_)
  refine z_eqs (σ' := (ap b σ [(41, 19, 0), (41, 15, 1), (41, 4, 2), (41, 16, (-1)), (37, 2, 2), (38, 1, 13), (41, 16, 13), (41, 7, 1), (41, 5, 1), (5, 2, 1)] [(39, 1, ((10 * (w1.toInt64)) + 1)), (41, 17, ((10 * (w1.toInt64)) + 1))] [(6, 0, (some (b + 40)))])) hu.2 ?_
  show zx p l e _ s m _ below meth c g 5 0 0 _ _ 24 [(2, .int 1), (4, .null), (3, .ref (b + 40)), (0, .ref (b + 0)), (1, .ref (b + 40))] _
  refine z_seti (y := 0) hu.1 ?_
  refine z_if_eq (tgt := 41) B dX8_goOn_24 (by decide) (fun _ => ?_) (fun h => absurd (by decide) h)
  refine z_aload_n B dX8_goOn_41 rfl 3 rfl ?_
  refine gf_X8_35 (x := (some (b + 5))) B (lKA (hk_K hK 0 rfl rfl)) (rR_at 0 4 hR_0_4) dX8_goOn_42 ?_
  refine z_cVq (As := []) (rest := []) B cw_X8_348 cx_3 dX8_goOn_45 (ci_X2_last_669 l (σ := (ap b σ [(41, 19, 0), (41, 15, 1), (41, 4, 2), (41, 16, (-1)), (37, 2, 2), (38, 1, 13), (41, 16, 13), (41, 7, 1), (41, 5, 1), (5, 2, 1)] [(39, 1, ((10 * (w1.toInt64)) + 1)), (41, 17, ((10 * (w1.toInt64)) + 1))] [(6, 0, (some (b + 40)))])) (b := b) (lyA hK) (rI_at 5 1 hI_5_1) (rI_at 5 2 rfl) (rR_at 5 0 hR_5_0) (rR_at 6 0 rfl)) (lKA (hk_K hK 5 rfl rfl)) rfl (by decide) rfl (Nat.le_of_ble_eq_true rfl) (by decide) (fun r u hu => ?_)
  refine z_eqs (σ' := (ap b σ [(41, 19, 0), (41, 15, 1), (41, 4, 2), (41, 16, (-1)), (37, 2, 2), (38, 1, 13), (41, 16, 13), (41, 7, 1), (41, 5, 1), (5, 2, 1)] [(39, 1, ((10 * (w1.toInt64)) + 1)), (41, 17, ((10 * (w1.toInt64)) + 1))] [(6, 0, (some (b + 40)))])) hu.2 ?_
  show zx p l e _ s m _ below meth c g 5 0 0 _ _ 48 [(2, .int 1), (4, .null), (3, .ref (b + 40)), (0, .ref (b + 0)), (1, .ref (b + 40))] _
  refine z_setr (y := (some (b + 40))) hu.1 ?_
  refine z_astore_n (lv' := [(3, .ref (b + 40)), (2, .int 1), (4, .null), (0, .ref (b + 0)), (1, .ref (b + 40))]) B dX8_goOn_48 rfl (by decide) rfl ?_
  refine z_aload_n B dX8_goOn_49 rfl 0 rfl ?_
  refine z_ifnonnull (r := (some (b + 40))) (tgt := 54) B dX8_goOn_50 (by decide) (fun _ _ => ?_) (fun h => nomatch h)
  refine z_aload_n B dX8_goOn_54 rfl 0 rfl ?_
  refine gf_X8_249 (x := (some (b + 41))) B (lKA (hk_K hK 40 rfl rfl)) (rR_at 40 2 hR_40_2) dX8_goOn_55 ?_
  refine z_aload_n B dX8_goOn_58 rfl 0 rfl ?_
  refine gf_X8_179 (x := (some (b + 37))) B (lKA (hk_K hK 40 rfl rfl)) (rR_at 40 1 hR_40_1) dX8_goOn_59 ?_
  refine z_cVi (As := []) (rest := [.ref (b + 41)]) B cw_X8_183 cx_2 dX8_goOn_62 (ci_X1_size_685 l (σ := (ap b σ [(41, 19, 0), (41, 15, 1), (41, 4, 2), (41, 16, (-1)), (37, 2, 2), (38, 1, 13), (41, 16, 13), (41, 7, 1), (41, 5, 1), (5, 2, 1)] [(39, 1, ((10 * (w1.toInt64)) + 1)), (41, 17, ((10 * (w1.toInt64)) + 1))] [(6, 0, (some (b + 40)))])) (b := b) (lyA hK) (rI_at 37 2 rfl)) (lKA (hk_K hK 37 rfl rfl)) rfl (by decide) rfl (Nat.le_of_ble_eq_true rfl) (by decide) (fun r u hu => ?_)
  refine z_eqs (σ' := (ap b σ [(41, 19, 0), (41, 15, 1), (41, 4, 2), (41, 16, (-1)), (37, 2, 2), (38, 1, 13), (41, 16, 13), (41, 7, 1), (41, 5, 1), (5, 2, 1)] [(39, 1, ((10 * (w1.toInt64)) + 1)), (41, 17, ((10 * (w1.toInt64)) + 1))] [(6, 0, (some (b + 40)))])) hu.2 ?_
  show zx p l e _ s m _ below meth c g 5 0 0 _ _ 65 [(3, .ref (b + 40)), (2, .int 1), (4, .null), (0, .ref (b + 0)), (1, .ref (b + 40))] _
  refine z_seti (y := 2) hu.1 ?_
  refine z_cVv (As := [.int 2]) (rest := []) B cw_X8_289 cx_6 dX8_goOn_65 (ci_X5_advance_692 l (σ := (ap b σ [(41, 19, 0), (41, 15, 1), (41, 4, 2), (41, 16, (-1)), (37, 2, 2), (38, 1, 13), (41, 16, 13), (41, 7, 1), (41, 5, 1), (5, 2, 1)] [(39, 1, ((10 * (w1.toInt64)) + 1)), (41, 17, ((10 * (w1.toInt64)) + 1))] [(6, 0, (some (b + 40)))])) (b := b) (lyA hK) (rI_at 41 4 rfl) (rI_at 41 15 rfl) (rI_at 41 16 rfl) (rI_at 41 19 rfl)) (lKA (hk_K hK 41 rfl rfl)) rfl (by decide) rfl (Nat.le_of_ble_eq_true rfl) (by decide) (fun u hu => ?_)
  refine z_eqs (σ' := (ap b σ [(41, 19, 0), (41, 19, 0), (41, 15, 1), (41, 4, 2), (41, 16, (-1)), (37, 2, 2), (38, 1, 13), (41, 16, 13), (41, 7, 1), (41, 5, 1), (5, 2, 1)] [(39, 1, ((10 * (w1.toInt64)) + 1)), (41, 17, ((10 * (w1.toInt64)) + 1))] [(6, 0, (some (b + 40)))])) (hu.trans ap_ap) ?_
  show zx p l e _ s m _ below meth c g 5 0 0 _ _ 68 [(3, .ref (b + 40)), (2, .int 1), (4, .null), (0, .ref (b + 0)), (1, .ref (b + 40))] _
  refine z_aload_n B dX8_goOn_68 rfl 0 rfl ?_
  refine z_cVv (As := []) (rest := []) B cw_X8_351 cx_1 dX8_goOn_69 (ci_X0_letGo_679 l (σ := (ap b σ [(41, 19, 0), (41, 19, 0), (41, 15, 1), (41, 4, 2), (41, 16, (-1)), (37, 2, 2), (38, 1, 13), (41, 16, 13), (41, 7, 1), (41, 5, 1), (5, 2, 1)] [(39, 1, ((10 * (w1.toInt64)) + 1)), (41, 17, ((10 * (w1.toInt64)) + 1))] [(6, 0, (some (b + 40)))])) (b := b) (lyA hK) (rR_at 40 7 hR_40_7)) (lKA (hk_K hK 40 rfl rfl)) rfl (by decide) rfl (Nat.le_of_ble_eq_true rfl) (by decide) (fun u hu => ?_)
  refine z_eqs (σ' := (ap b σ [(41, 19, 0), (41, 19, 0), (41, 15, 1), (41, 4, 2), (41, 16, (-1)), (37, 2, 2), (38, 1, 13), (41, 16, 13), (41, 7, 1), (41, 5, 1), (5, 2, 1)] [(39, 1, ((10 * (w1.toInt64)) + 1)), (41, 17, ((10 * (w1.toInt64)) + 1))] [(6, 0, (some (b + 40)))])) hu ?_
  show zx p l e _ s m _ below meth c g 5 0 0 _ _ 72 [(3, .ref (b + 40)), (2, .int 1), (4, .null), (0, .ref (b + 0)), (1, .ref (b + 40))] _
  refine z_aload_n B dX8_goOn_72 rfl 0 rfl ?_
  refine gf_X8_249 (x := (some (b + 41))) B (lKA (hk_K hK 40 rfl rfl)) (rR_at 40 2 hR_40_2) dX8_goOn_73 ?_
  refine z_cVi (As := []) (rest := []) B cw_X8_354 cx_6 dX8_goOn_76 (ci_X5_wantsEvent_693 l (σ := (ap b σ [(41, 19, 0), (41, 19, 0), (41, 15, 1), (41, 4, 2), (41, 16, (-1)), (37, 2, 2), (38, 1, 13), (41, 16, 13), (41, 7, 1), (41, 5, 1), (5, 2, 1)] [(39, 1, ((10 * (w1.toInt64)) + 1)), (41, 17, ((10 * (w1.toInt64)) + 1))] [(6, 0, (some (b + 40)))])) (b := b) (lyA hK) (rI_at 41 16 rfl) (rI_at 41 19 rfl)) (lKA (hk_K hK 41 rfl rfl)) rfl (by decide) rfl (Nat.le_of_ble_eq_true rfl) (by decide) (fun r u hu => ?_)
  refine z_eqs (σ' := (ap b σ [(41, 19, 0), (41, 19, 0), (41, 15, 1), (41, 4, 2), (41, 16, (-1)), (37, 2, 2), (38, 1, 13), (41, 16, 13), (41, 7, 1), (41, 5, 1), (5, 2, 1)] [(39, 1, ((10 * (w1.toInt64)) + 1)), (41, 17, ((10 * (w1.toInt64)) + 1))] [(6, 0, (some (b + 40)))])) hu.2 ?_
  show zx p l e _ s m _ below meth c g 5 0 0 _ _ 79 [(3, .ref (b + 40)), (2, .int 1), (4, .null), (0, .ref (b + 0)), (1, .ref (b + 40))] _
  refine z_seti (y := 0) hu.1 ?_
  refine z_if_eq (tgt := 115) B dX8_goOn_79 (by decide) (fun _ => ?_) (fun h => absurd (by decide) h)
  refine z_aload_n B dX8_goOn_115 rfl 3 rfl ?_
  refine z_aload_n B dX8_goOn_116 rfl 0 rfl ?_
  refine z_cVv (As := [.ref (b + 40)]) (rest := []) B cw_X8_361 cx_9 dX8_goOn_117 (ci_X8_leave_695 l (σ := (ap b σ [(41, 19, 0), (41, 19, 0), (41, 15, 1), (41, 4, 2), (41, 16, (-1)), (37, 2, 2), (38, 1, 13), (41, 16, 13), (41, 7, 1), (41, 5, 1), (5, 2, 1)] [(39, 1, ((10 * (w1.toInt64)) + 1)), (41, 17, ((10 * (w1.toInt64)) + 1))] [(6, 0, (some (b + 40)))])) (b := b) (lyA hK) (rI_at 5 1 hI_5_1) (rI_at 5 2 rfl) (rI_at 37 2 rfl) (rI_at 40 8 hI_40_8) (rI_at 41 18 hI_41_18) (rI_at 41 19 rfl) (rR_at 0 4 hR_0_4) (rR_at 40 1 hR_40_1) (rR_at 40 2 hR_40_2)) (lKA (hk_K hK 0 rfl rfl)) rfl (by decide) rfl (Nat.le_of_ble_eq_true rfl) (by decide) (fun u hu => ?_)
  refine z_eqs (σ' := (ap b σ [(40, 8, 2), (5, 2, 0), (41, 19, 0), (41, 19, 0), (41, 15, 1), (41, 4, 2), (41, 16, (-1)), (37, 2, 2), (38, 1, 13), (41, 16, 13), (41, 7, 1), (41, 5, 1), (5, 2, 1)] [(39, 1, ((10 * (w1.toInt64)) + 1)), (41, 17, ((10 * (w1.toInt64)) + 1))] [(6, 0, (some (b + 40)))])) (hu.trans ap_ap) ?_
  show zx p l e _ s m _ below meth c g 5 0 0 _ _ 120 [(3, .ref (b + 40)), (2, .int 1), (4, .null), (0, .ref (b + 0)), (1, .ref (b + 40))] _
  refine z_iinc (v := 2) (lv' := [(2, .int 2), (3, .ref (b + 40)), (4, .null), (0, .ref (b + 0)), (1, .ref (b + 40))]) B dX8_goOn_120 1 rfl (by decide) (by decide) rfl ?_
  refine z_goto (tgt := 10) B dX8_goOn_123 (by decide) ?_
  refine z_iload_n B dX8_goOn_10 rfl 0 rfl ?_
  refine z_ldcw (v := 1000000) B dX8_goOn_11 wg_515 ?_
  refine z_icmp_ge (tgt := 126) B dX8_goOn_14 (by decide) (fun h => absurd h (by decide)) (fun _ => ?_)
  refine z_aload_n B dX8_goOn_17 rfl 3 rfl ?_
  refine gf_X8_35 (x := (some (b + 5))) B (lKA (hk_K hK 0 rfl rfl)) (rR_at 0 4 hR_0_4) dX8_goOn_18 ?_
  refine z_cVi (As := []) (rest := []) B cw_X8_341 cx_3 dX8_goOn_21 (ci_X2_isEmpty_696 l (σ := (ap b σ [(40, 8, 2), (5, 2, 0), (41, 19, 0), (41, 19, 0), (41, 15, 1), (41, 4, 2), (41, 16, (-1)), (37, 2, 2), (38, 1, 13), (41, 16, 13), (41, 7, 1), (41, 5, 1), (5, 2, 1)] [(39, 1, ((10 * (w1.toInt64)) + 1)), (41, 17, ((10 * (w1.toInt64)) + 1))] [(6, 0, (some (b + 40)))])) (b := b) (lyA hK) (rI_at 5 1 hI_5_1) (rI_at 5 2 rfl)) (lKA (hk_K hK 5 rfl rfl)) rfl (by decide) rfl (Nat.le_of_ble_eq_true rfl) (by decide) (fun r u hu => ?_)
  refine z_eqs (σ' := (ap b σ [(40, 8, 2), (5, 2, 0), (41, 19, 0), (41, 19, 0), (41, 15, 1), (41, 4, 2), (41, 16, (-1)), (37, 2, 2), (38, 1, 13), (41, 16, 13), (41, 7, 1), (41, 5, 1), (5, 2, 1)] [(39, 1, ((10 * (w1.toInt64)) + 1)), (41, 17, ((10 * (w1.toInt64)) + 1))] [(6, 0, (some (b + 40)))])) hu.2 ?_
  show zx p l e _ s m _ below meth c g 5 0 0 _ _ 24 [(2, .int 2), (3, .ref (b + 40)), (4, .null), (0, .ref (b + 0)), (1, .ref (b + 40))] _
  refine z_seti (y := 1) hu.1 ?_
  refine z_if_eq (tgt := 41) B dX8_goOn_24 (by decide) (fun h => absurd h (by decide)) (fun _ => ?_)
  refine z_aload_n B dX8_goOn_27 rfl 3 rfl ?_
  refine gf_X8_35 (x := (some (b + 5))) B (lKA (hk_K hK 0 rfl rfl)) (rR_at 0 4 hR_0_4) dX8_goOn_28 ?_
  refine z_aload_n B dX8_goOn_31 rfl 3 rfl ?_
  refine gf_X8_39 (x := (some (b + 7))) B (lKA (hk_K hK 0 rfl rfl)) (rR_at 0 5 hR_0_5) dX8_goOn_32 ?_
  refine z_cVq (As := []) (rest := [.ref (b + 5)]) B cw_X8_344 cx_3 dX8_goOn_35 (ci_X2_removeFirst_697 l (σ := (ap b σ [(40, 8, 2), (5, 2, 0), (41, 19, 0), (41, 19, 0), (41, 15, 1), (41, 4, 2), (41, 16, (-1)), (37, 2, 2), (38, 1, 13), (41, 16, 13), (41, 7, 1), (41, 5, 1), (5, 2, 1)] [(39, 1, ((10 * (w1.toInt64)) + 1)), (41, 17, ((10 * (w1.toInt64)) + 1))] [(6, 0, (some (b + 40)))])) (b := b) (lyA hK) (rI_at 7 1 hI_7_1) (rI_at 7 2 hI_7_2)) (lKA (hk_K hK 7 rfl rfl)) rfl (by decide) rfl (Nat.le_of_ble_eq_true rfl) (by decide) (fun r u hu => ?_)
  refine z_eqs (σ' := (ap b σ [(7, 2, 0), (7, 1, 0), (40, 8, 2), (5, 2, 0), (41, 19, 0), (41, 19, 0), (41, 15, 1), (41, 4, 2), (41, 16, (-1)), (37, 2, 2), (38, 1, 13), (41, 16, 13), (41, 7, 1), (41, 5, 1), (5, 2, 1)] [(39, 1, ((10 * (w1.toInt64)) + 1)), (41, 17, ((10 * (w1.toInt64)) + 1))] [(6, 0, (some (b + 40)))])) (hu.2.trans ap_ap) ?_
  show zx p l e _ s m _ below meth c g 5 0 0 _ _ 38 [(2, .int 2), (3, .ref (b + 40)), (4, .null), (0, .ref (b + 0)), (1, .ref (b + 40))] _
  refine z_setr (y := none) hu.1 ?_
  refine z_cVv (As := [.null]) (rest := []) B cw_X8_337 cx_3 dX8_goOn_38 (ci_X2_addLast_691 l (σ := (ap b σ [(7, 2, 0), (7, 1, 0), (40, 8, 2), (5, 2, 0), (41, 19, 0), (41, 19, 0), (41, 15, 1), (41, 4, 2), (41, 16, (-1)), (37, 2, 2), (38, 1, 13), (41, 16, 13), (41, 7, 1), (41, 5, 1), (5, 2, 1)] [(39, 1, ((10 * (w1.toInt64)) + 1)), (41, 17, ((10 * (w1.toInt64)) + 1))] [(6, 0, (some (b + 40)))])) (b := b) (lyA hK) ) (lKA (hk_K hK 5 rfl rfl)) rfl (by decide) rfl (Nat.le_of_ble_eq_true rfl) (by decide) (fun u hu => ?_)
  refine z_eqs (σ' := (ap b σ [(7, 2, 0), (7, 1, 0), (40, 8, 2), (5, 2, 0), (41, 19, 0), (41, 19, 0), (41, 15, 1), (41, 4, 2), (41, 16, (-1)), (37, 2, 2), (38, 1, 13), (41, 16, 13), (41, 7, 1), (41, 5, 1), (5, 2, 1)] [(39, 1, ((10 * (w1.toInt64)) + 1)), (41, 17, ((10 * (w1.toInt64)) + 1))] [(6, 0, (some (b + 40)))])) hu ?_
  show zx p l e _ s m _ below meth c g 5 0 0 _ _ 41 [(2, .int 2), (3, .ref (b + 40)), (4, .null), (0, .ref (b + 0)), (1, .ref (b + 40))] _
  refine z_aload_n B dX8_goOn_41 rfl 3 rfl ?_
  refine gf_X8_35 (x := (some (b + 5))) B (lKA (hk_K hK 0 rfl rfl)) (rR_at 0 4 hR_0_4) dX8_goOn_42 ?_
  refine z_cVq (As := []) (rest := []) B cw_X8_348 cx_3 dX8_goOn_45 (ci_X2_last_698 l (σ := (ap b σ [(7, 2, 0), (7, 1, 0), (40, 8, 2), (5, 2, 0), (41, 19, 0), (41, 19, 0), (41, 15, 1), (41, 4, 2), (41, 16, (-1)), (37, 2, 2), (38, 1, 13), (41, 16, 13), (41, 7, 1), (41, 5, 1), (5, 2, 1)] [(39, 1, ((10 * (w1.toInt64)) + 1)), (41, 17, ((10 * (w1.toInt64)) + 1))] [(6, 0, (some (b + 40)))])) (b := b) (lyA hK) (rI_at 5 1 hI_5_1) (rI_at 5 2 rfl)) (lKA (hk_K hK 5 rfl rfl)) rfl (by decide) rfl (Nat.le_of_ble_eq_true rfl) (by decide) (fun r u hu => ?_)
  refine z_eqs (σ' := (ap b σ [(7, 2, 0), (7, 1, 0), (40, 8, 2), (5, 2, 0), (41, 19, 0), (41, 19, 0), (41, 15, 1), (41, 4, 2), (41, 16, (-1)), (37, 2, 2), (38, 1, 13), (41, 16, 13), (41, 7, 1), (41, 5, 1), (5, 2, 1)] [(39, 1, ((10 * (w1.toInt64)) + 1)), (41, 17, ((10 * (w1.toInt64)) + 1))] [(6, 0, (some (b + 40)))])) hu.2 ?_
  show zx p l e _ s m _ below meth c g 5 0 0 _ _ 48 [(2, .int 2), (3, .ref (b + 40)), (4, .null), (0, .ref (b + 0)), (1, .ref (b + 40))] _
  refine z_setr (y := none) hu.1 ?_
  refine z_qstore_n (r := none) (lv' := [(3, .null), (2, .int 2), (4, .null), (0, .ref (b + 0)), (1, .ref (b + 40))]) B dX8_goOn_48 rfl (by decide) rfl ?_
  refine z_qload_n (r := none) B dX8_goOn_49 rfl 0 rfl ?_
  refine z_ifnonnull (r := none) (tgt := 54) B dX8_goOn_50 (by decide) (fun a h => nomatch h) (fun _ => ?_)
  exact z_vret B hr (by decide) (by decide) dX8_goOn_53 rfl
set_option maxRecDepth 100000 in
set_option maxHeartbeats 4000000 in
theorem ci_X8_start_841 (l : Launch) {g : gx_T} {σ : sx_T} {b : Nat} (hK : lay b σ) (w1 : Int32) (q1_w1 : (-999 : Int) ≤ w1.toInt) (q2_w1 : w1.toInt ≤ (-1 : Int)) (hI_0_7 : sx_I σ (b + 0) 7 = 0) (hI_5_1 : sx_I σ (b + 5) 1 = 0) (hI_5_2 : sx_I σ (b + 5) 2 = 0) (hI_7_1 : sx_I σ (b + 7) 1 = 0) (hI_7_2 : sx_I σ (b + 7) 2 = 0) (hI_30_0 : sx_I σ (b + 30) 0 = 0) (hI_31_0 : sx_I σ (b + 31) 0 = 0) (hI_32_0 : sx_I σ (b + 32) 0 = 0) (hI_37_2 : sx_I σ (b + 37) 2 = 0) (hI_40_0 : sx_I σ (b + 40) 0 = 0) (hI_40_8 : sx_I σ (b + 40) 8 = 0) (hR_0_0 : sx_R σ (b + 0) 0 = (some (b + 1))) (hR_0_2 : sx_R σ (b + 0) 2 = (some (b + 3))) (hR_0_4 : sx_R σ (b + 0) 4 = (some (b + 5))) (hR_0_5 : sx_R σ (b + 0) 5 = (some (b + 7))) (hR_1_5 : sx_R σ (b + 1) 5 = (some (b + 29))) (hR_3_0 : sx_R σ (b + 3) 0 = (some (b + 40))) (hR_5_0 : sx_R σ (b + 5) 0 = (some (b + 6))) (hR_29_1 : sx_R σ (b + 29) 1 = (some (b + 30))) (hR_29_2 : sx_R σ (b + 29) 2 = (some (b + 31))) (hR_29_3 : sx_R σ (b + 29) 3 = (some (b + 32))) (hR_37_0 : sx_R σ (b + 37) 0 = (some (b + 38))) (hR_37_1 : sx_R σ (b + 37) 1 = (some (b + 39))) (hR_40_1 : sx_R σ (b + 40) 1 = (some (b + 37))) (hR_40_2 : sx_R σ (b + 40) 2 = (some (b + 41))) (hR_40_7 : sx_R σ (b + 40) 7 = none) (hR_41_0 : sx_R σ (b + 41) 0 = (some (b + 42))) (hR_41_1 : sx_R σ (b + 41) 1 = (some (b + 44))) : Met l yX8_start (.code yX8_start cX8_start 5 (some .int) :: lw_g) { frames := 4, cells := 0, slots := 0, locals := 96 } (va_Pc [.ref (b + 0), .int 5, .int w1] (zx_w g σ)) (va_Qi (fun r u => r = 0 ∧ u = (ap b σ [(7, 2, 0), (7, 1, 0), (40, 8, 2), (5, 2, 0), (41, 19, 0), (41, 19, 0), (41, 15, 1), (41, 4, 2), (41, 16, (-1)), (37, 2, 2), (38, 1, 13), (41, 16, 13), (41, 7, 1), (41, 5, 1), (5, 2, 1), (41, 19, 0), (41, 18, (-1)), (41, 16, (-1)), (41, 15, 0), (41, 14, 0), (41, 13, 0), (41, 12, 0), (41, 10, (-1)), (41, 9, (-1)), (41, 8, 0), (41, 7, 0), (41, 6, ((w1.toInt64).toInt32)), (41, 5, 0), (41, 4, 1), (44, 1, 0), (42, 1, 0), (37, 2, 1), (38, 0, 0), (40, 5, 0), (40, 4, (-1)), (0, 7, 1)] [(39, 1, ((10 * (((w1.toInt64).toInt32).toInt64)) + 1)), (41, 17, ((10 * (((w1.toInt64).toInt32).toInt64)) + 1)), (41, 17, 0), (41, 11, 0), (39, 0, (w1.toInt64))] [(6, 0, (some (b + 40))), (41, 3, (some (b + 37))), (41, 2, (some (b + 29))), (40, 3, (some (b + 29)))])) (zx_w g) (gx_Q g)) 0 0 (gx_Q g) := by
  refine z_met (by decide) (Nat.le_of_ble_eq_true rfl) (fun p e s m below meth c B hr hin => ?_)
  refine z_eqs (σ' := (ap b σ [] [] [])) rfl ?_
  show zx p l e _ s m _ below meth c g 5 0 0 _ _ 0 [(0, .ref (b + 0)), (1, .int 5), (2, .int w1)] []
  refine z_aload_n B dX8_start_0 rfl 0 rfl ?_
  refine z_iload_n B dX8_start_1 rfl 1 rfl ?_
  refine z_cVq (As := [.int 5]) (rest := []) B cw_X8_64 cx_9 dX8_start_2 (ci_X8_programAt_318 l (σ := (ap b σ [] [] [])) (b := b) (lyA hK) (rR_at 0 0 hR_0_0) (rR_at 1 5 hR_1_5)) (lKA (hk_K hK 0 rfl rfl)) rfl (by decide) rfl (Nat.le_of_ble_eq_true rfl) (by decide) (fun r u hu => ?_)
  refine z_eqs (σ' := (ap b σ [] [] [])) hu.2 ?_
  show zx p l e _ s m _ below meth c g 5 0 0 _ _ 5 [(0, .ref (b + 0)), (1, .int 5), (2, .int w1)] _
  refine z_setr (y := (some (b + 29))) hu.1 ?_
  refine z_astore_n (lv' := [(3, .ref (b + 29)), (0, .ref (b + 0)), (1, .int 5), (2, .int w1)]) B dX8_start_5 rfl (by decide) rfl ?_
  refine z_aload_n B dX8_start_6 rfl 0 rfl ?_
  refine z_ifnonnull (r := (some (b + 29))) (tgt := 20) B dX8_start_7 (by decide) (fun _ _ => ?_) (fun h => nomatch h)
  refine z_iload_n B dX8_start_20 rfl 3 rfl ?_
  refine z_sipush (v := (-999)) B dX8_start_21 (by decide) ?_
  refine z_icmp_lt (tgt := 34) B dX8_start_24 (by decide) (fun h => absurd h (iv_nlt q1_w1 (by decide))) (fun _ => ?_)
  refine z_iload_n B dX8_start_27 rfl 3 rfl ?_
  refine z_sipush (v := 999) B dX8_start_28 (by decide) ?_
  refine z_icmp_le (tgt := 44) B dX8_start_31 (by decide) (fun _ => ?_) (fun h => absurd (iv_le q2_w1 (by decide)) h)
  refine z_aload_n B dX8_start_44 rfl 1 rfl ?_
  refine z_aload_n B dX8_start_45 rfl 0 rfl ?_
  refine z_iload_n B dX8_start_46 rfl 3 rfl ?_
  refine z_iconst (v := (-1)) B dX8_start_47 (by decide) ?_
  refine z_iconst (v := (-1)) B dX8_start_48 (by decide) ?_
  refine z_cVq (As := [.ref (b + 29), .int w1, .int (-1), .int (-1)]) (rest := []) B cw_X8_141 cx_9 dX8_start_49 (ci_X8_open_834 l (σ := (ap b σ [] [] [])) (b := b) (lyA hK) w1 (rI_at 0 7 hI_0_7) (rI_at 37 2 hI_37_2) (rI_at 40 0 hI_40_0) (rR_at 0 2 hR_0_2) (rR_at 3 0 hR_3_0) (rR_at 37 0 hR_37_0) (rR_at 37 1 hR_37_1) (rR_at 40 1 hR_40_1) (rR_at 40 2 hR_40_2) (rR_at 41 0 hR_41_0) (rR_at 41 1 hR_41_1)) (lKA (hk_K hK 0 rfl rfl)) rfl (by decide) rfl (Nat.le_of_ble_eq_true rfl) (by decide) (fun r u hu => ?_)
  refine z_eqs (σ' := (ap b σ [(41, 19, 0), (41, 18, (-1)), (41, 16, (-1)), (41, 15, 0), (41, 14, 0), (41, 13, 0), (41, 12, 0), (41, 10, (-1)), (41, 9, (-1)), (41, 8, 0), (41, 7, 0), (41, 6, ((w1.toInt64).toInt32)), (41, 5, 0), (41, 4, 1), (44, 1, 0), (42, 1, 0), (37, 2, 1), (38, 0, 0), (40, 5, 0), (40, 4, (-1)), (0, 7, 1)] [(41, 17, 0), (41, 11, 0), (39, 0, (w1.toInt64))] [(41, 3, (some (b + 37))), (41, 2, (some (b + 29))), (40, 3, (some (b + 29)))])) (hu.2.trans ap_ap) ?_
  show zx p l e _ s m _ below meth c g 5 0 0 _ _ 52 [(3, .ref (b + 29)), (0, .ref (b + 0)), (1, .int 5), (2, .int w1)] _
  refine z_setr (y := (some (b + 40))) hu.1 ?_
  refine z_astore (lv' := [(4, .ref (b + 40)), (3, .ref (b + 29)), (0, .ref (b + 0)), (1, .int 5), (2, .int w1)]) B dX8_start_52 (by decide) rfl ?_
  refine z_aload B dX8_start_54 0 rfl ?_
  refine z_ifnonnull (r := (some (b + 40))) (tgt := 69) B dX8_start_56 (by decide) (fun _ _ => ?_) (fun h => nomatch h)
  refine z_aload_n B dX8_start_69 rfl 2 rfl ?_
  refine z_aload B dX8_start_70 0 rfl ?_
  refine z_cVv (As := [.ref (b + 40)]) (rest := []) B cw_X8_111 cx_9 dX8_start_72 (ci_X8_goOn_840 l (σ := (ap b σ [(41, 19, 0), (41, 18, (-1)), (41, 16, (-1)), (41, 15, 0), (41, 14, 0), (41, 13, 0), (41, 12, 0), (41, 10, (-1)), (41, 9, (-1)), (41, 8, 0), (41, 7, 0), (41, 6, ((w1.toInt64).toInt32)), (41, 5, 0), (41, 4, 1), (44, 1, 0), (42, 1, 0), (37, 2, 1), (38, 0, 0), (40, 5, 0), (40, 4, (-1)), (0, 7, 1)] [(41, 17, 0), (41, 11, 0), (39, 0, (w1.toInt64))] [(41, 3, (some (b + 37))), (41, 2, (some (b + 29))), (40, 3, (some (b + 29)))])) (b := b) (lyA hK) ((w1.toInt64).toInt32) (iv_l2i (iv_i2l q1_w1 q2_w1).1 (iv_i2l q1_w1 q2_w1).2 (by decide) (by decide)).1 (iv_l2i (iv_i2l q1_w1 q2_w1).1 (iv_i2l q1_w1 q2_w1).2 (by decide) (by decide)).2 (rI_at 5 1 hI_5_1) (rI_at 5 2 hI_5_2) (rI_at 7 1 hI_7_1) (rI_at 7 2 hI_7_2) (rI_at 30 0 hI_30_0) (rI_at 31 0 hI_31_0) (rI_at 32 0 hI_32_0) (rI_at 37 2 rfl) (rI_at 40 4 rfl) (rI_at 40 8 hI_40_8) (rI_at 41 4 rfl) (rI_at 41 5 rfl) (rI_at 41 6 rfl) (rI_at 41 7 rfl) (rI_at 41 8 rfl) (rI_at 41 14 rfl) (rI_at 41 15 rfl) (rI_at 41 16 rfl) (rI_at 41 18 rfl) (rI_at 41 19 rfl) (rR_at 0 4 hR_0_4) (rR_at 0 5 hR_0_5) (rR_at 5 0 hR_5_0) (rR_at 29 1 hR_29_1) (rR_at 29 2 hR_29_2) (rR_at 29 3 hR_29_3) (rR_at 37 0 hR_37_0) (rR_at 37 1 hR_37_1) (rR_at 40 1 hR_40_1) (rR_at 40 2 hR_40_2) (rR_at 40 7 hR_40_7) (rR_at 41 2 rfl) (rR_at 41 3 rfl)) (lKA (hk_K hK 0 rfl rfl)) rfl (by decide) rfl (Nat.le_of_ble_eq_true rfl) (by decide) (fun u hu => ?_)
  refine z_eqs (σ' := (ap b σ [(7, 2, 0), (7, 1, 0), (40, 8, 2), (5, 2, 0), (41, 19, 0), (41, 19, 0), (41, 15, 1), (41, 4, 2), (41, 16, (-1)), (37, 2, 2), (38, 1, 13), (41, 16, 13), (41, 7, 1), (41, 5, 1), (5, 2, 1), (41, 19, 0), (41, 18, (-1)), (41, 16, (-1)), (41, 15, 0), (41, 14, 0), (41, 13, 0), (41, 12, 0), (41, 10, (-1)), (41, 9, (-1)), (41, 8, 0), (41, 7, 0), (41, 6, ((w1.toInt64).toInt32)), (41, 5, 0), (41, 4, 1), (44, 1, 0), (42, 1, 0), (37, 2, 1), (38, 0, 0), (40, 5, 0), (40, 4, (-1)), (0, 7, 1)] [(39, 1, ((10 * (((w1.toInt64).toInt32).toInt64)) + 1)), (41, 17, ((10 * (((w1.toInt64).toInt32).toInt64)) + 1)), (41, 17, 0), (41, 11, 0), (39, 0, (w1.toInt64))] [(6, 0, (some (b + 40))), (41, 3, (some (b + 37))), (41, 2, (some (b + 29))), (40, 3, (some (b + 29)))])) (hu.trans ap_ap) ?_
  show zx p l e _ s m _ below meth c g 5 0 0 _ _ 75 [(4, .ref (b + 40)), (3, .ref (b + 29)), (0, .ref (b + 0)), (1, .int 5), (2, .int w1)] _
  refine z_aload B dX8_start_75 0 rfl ?_
  refine gf_X8_150 (x := 0) B (lKA (hk_K hK 40 rfl rfl)) (rI_at 40 0 hI_40_0) dX8_start_77 ?_
  exact z_iret B hr (by decide) (by decide) dX8_start_80 ⟨rfl, rfl⟩
set_option maxRecDepth 100000 in
set_option maxHeartbeats 4000000 in
theorem ci_L_start_842 (l : Launch) {g : gx_T} {σ : sx_T} {b : Nat} (hK : lay b σ) (w1 : Int32) (q1_w1 : (-999 : Int) ≤ w1.toInt) (q2_w1 : w1.toInt ≤ (-1 : Int)) (hI_0_7 : sx_I σ (b + 0) 7 = 0) (hI_5_1 : sx_I σ (b + 5) 1 = 0) (hI_5_2 : sx_I σ (b + 5) 2 = 0) (hI_7_1 : sx_I σ (b + 7) 1 = 0) (hI_7_2 : sx_I σ (b + 7) 2 = 0) (hI_30_0 : sx_I σ (b + 30) 0 = 0) (hI_31_0 : sx_I σ (b + 31) 0 = 0) (hI_32_0 : sx_I σ (b + 32) 0 = 0) (hI_37_2 : sx_I σ (b + 37) 2 = 0) (hI_40_0 : sx_I σ (b + 40) 0 = 0) (hI_40_8 : sx_I σ (b + 40) 8 = 0) (hR_0_0 : sx_R σ (b + 0) 0 = (some (b + 1))) (hR_0_2 : sx_R σ (b + 0) 2 = (some (b + 3))) (hR_0_4 : sx_R σ (b + 0) 4 = (some (b + 5))) (hR_0_5 : sx_R σ (b + 0) 5 = (some (b + 7))) (hR_1_5 : sx_R σ (b + 1) 5 = (some (b + 29))) (hR_3_0 : sx_R σ (b + 3) 0 = (some (b + 40))) (hR_5_0 : sx_R σ (b + 5) 0 = (some (b + 6))) (hR_29_1 : sx_R σ (b + 29) 1 = (some (b + 30))) (hR_29_2 : sx_R σ (b + 29) 2 = (some (b + 31))) (hR_29_3 : sx_R σ (b + 29) 3 = (some (b + 32))) (hR_37_0 : sx_R σ (b + 37) 0 = (some (b + 38))) (hR_37_1 : sx_R σ (b + 37) 1 = (some (b + 39))) (hR_40_1 : sx_R σ (b + 40) 1 = (some (b + 37))) (hR_40_2 : sx_R σ (b + 40) 2 = (some (b + 41))) (hR_40_7 : sx_R σ (b + 40) 7 = none) (hR_41_0 : sx_R σ (b + 41) 0 = (some (b + 42))) (hR_41_1 : sx_R σ (b + 41) 1 = (some (b + 44))) : Met l yL_start (.codeWith yL_start cL_start 5 (some .int) [(0, 10, 13, 13), (0, 10, 17, 15), (0, 10, 21, 24)] :: lw_g) { frames := 5, cells := 0, slots := 0, locals := 120 } (va_Pc [.ref (b + 0), .int 5, .int w1, .ref (b + 431)] (zx_w g σ)) (va_Qi (fun r u => r = 0 ∧ u = (ap b σ [(7, 2, 0), (7, 1, 0), (40, 8, 2), (5, 2, 0), (41, 19, 0), (41, 19, 0), (41, 15, 1), (41, 4, 2), (41, 16, (-1)), (37, 2, 2), (38, 1, 13), (41, 16, 13), (41, 7, 1), (41, 5, 1), (5, 2, 1), (41, 19, 0), (41, 18, (-1)), (41, 16, (-1)), (41, 15, 0), (41, 14, 0), (41, 13, 0), (41, 12, 0), (41, 10, (-1)), (41, 9, (-1)), (41, 8, 0), (41, 7, 0), (41, 6, ((w1.toInt64).toInt32)), (41, 5, 0), (41, 4, 1), (44, 1, 0), (42, 1, 0), (37, 2, 1), (38, 0, 0), (40, 5, 0), (40, 4, (-1)), (0, 7, 1)] [(431, 0, 0), (39, 1, ((10 * (((w1.toInt64).toInt32).toInt64)) + 1)), (41, 17, ((10 * (((w1.toInt64).toInt32).toInt64)) + 1)), (41, 17, 0), (41, 11, 0), (39, 0, (w1.toInt64))] [(6, 0, (some (b + 40))), (41, 3, (some (b + 37))), (41, 2, (some (b + 29))), (40, 3, (some (b + 29)))])) (zx_w g) (gx_Q g)) 0 0 (gx_Q g) := by
  refine z_metW (by decide) (Nat.le_of_ble_eq_true rfl) (fun p e s m below meth c B hr htab => ?_)
  refine z_eqs (σ' := (ap b σ [] [] [])) rfl ?_
  show zx p l e _ s m _ below meth c g 5 0 0 _ _ 0 [(0, .ref (b + 0)), (1, .int 5), (2, .int w1), (3, .ref (b + 431))] []
  refine z_aload_n B dL_start_0 rfl 3 rfl ?_
  refine z_iconst (v := 0) B dL_start_1 (by decide) ?_
  refine z_aload_n B dL_start_2 rfl 0 rfl ?_
  refine z_iload_n B dL_start_3 rfl 1 rfl ?_
  refine z_iload_n B dL_start_4 rfl 2 rfl ?_
  refine z_cVi (As := [.int 5, .int w1]) (rest := [.int 0, .ref (b + 431)]) B cw_L_20 cx_9 dL_start_5 (ci_X8_start_841 l (σ := (ap b σ [] [] [])) (b := b) (lyA hK) w1 q1_w1 q2_w1 (rI_at 0 7 hI_0_7) (rI_at 5 1 hI_5_1) (rI_at 5 2 hI_5_2) (rI_at 7 1 hI_7_1) (rI_at 7 2 hI_7_2) (rI_at 30 0 hI_30_0) (rI_at 31 0 hI_31_0) (rI_at 32 0 hI_32_0) (rI_at 37 2 hI_37_2) (rI_at 40 0 hI_40_0) (rI_at 40 8 hI_40_8) (rR_at 0 0 hR_0_0) (rR_at 0 2 hR_0_2) (rR_at 0 4 hR_0_4) (rR_at 0 5 hR_0_5) (rR_at 1 5 hR_1_5) (rR_at 3 0 hR_3_0) (rR_at 5 0 hR_5_0) (rR_at 29 1 hR_29_1) (rR_at 29 2 hR_29_2) (rR_at 29 3 hR_29_3) (rR_at 37 0 hR_37_0) (rR_at 37 1 hR_37_1) (rR_at 40 1 hR_40_1) (rR_at 40 2 hR_40_2) (rR_at 40 7 hR_40_7) (rR_at 41 0 hR_41_0) (rR_at 41 1 hR_41_1)) (lKA (hk_K hK 0 rfl rfl)) rfl (by decide) rfl (Nat.le_of_ble_eq_true rfl) (by decide) (fun r u hu => ?_)
  refine z_eqs (σ' := (ap b σ [(7, 2, 0), (7, 1, 0), (40, 8, 2), (5, 2, 0), (41, 19, 0), (41, 19, 0), (41, 15, 1), (41, 4, 2), (41, 16, (-1)), (37, 2, 2), (38, 1, 13), (41, 16, 13), (41, 7, 1), (41, 5, 1), (5, 2, 1), (41, 19, 0), (41, 18, (-1)), (41, 16, (-1)), (41, 15, 0), (41, 14, 0), (41, 13, 0), (41, 12, 0), (41, 10, (-1)), (41, 9, (-1)), (41, 8, 0), (41, 7, 0), (41, 6, ((w1.toInt64).toInt32)), (41, 5, 0), (41, 4, 1), (44, 1, 0), (42, 1, 0), (37, 2, 1), (38, 0, 0), (40, 5, 0), (40, 4, (-1)), (0, 7, 1)] [(39, 1, ((10 * (((w1.toInt64).toInt32).toInt64)) + 1)), (41, 17, ((10 * (((w1.toInt64).toInt32).toInt64)) + 1)), (41, 17, 0), (41, 11, 0), (39, 0, (w1.toInt64))] [(6, 0, (some (b + 40))), (41, 3, (some (b + 37))), (41, 2, (some (b + 29))), (40, 3, (some (b + 29)))])) (hu.2.trans ap_ap) ?_
  show zx p l e _ s m _ below meth c g 5 0 0 _ _ 8 [(0, .ref (b + 0)), (1, .int 5), (2, .int w1), (3, .ref (b + 431))] _
  refine z_seti (y := 0) hu.1 ?_
  refine z_i2l (v := 0) B dL_start_8 (by decide) ?_
  refine z_last (j := 0) (σ' := (ap b σ [(7, 2, 0), (7, 1, 0), (40, 8, 2), (5, 2, 0), (41, 19, 0), (41, 19, 0), (41, 15, 1), (41, 4, 2), (41, 16, (-1)), (37, 2, 2), (38, 1, 13), (41, 16, 13), (41, 7, 1), (41, 5, 1), (5, 2, 1), (41, 19, 0), (41, 18, (-1)), (41, 16, (-1)), (41, 15, 0), (41, 14, 0), (41, 13, 0), (41, 12, 0), (41, 10, (-1)), (41, 9, (-1)), (41, 8, 0), (41, 7, 0), (41, 6, ((w1.toInt64).toInt32)), (41, 5, 0), (41, 4, 1), (44, 1, 0), (42, 1, 0), (37, 2, 1), (38, 0, 0), (40, 5, 0), (40, 4, (-1)), (0, 7, 1)] [(431, 0, 0), (39, 1, ((10 * (((w1.toInt64).toInt32).toInt64)) + 1)), (41, 17, ((10 * (((w1.toInt64).toInt32).toInt64)) + 1)), (41, 17, 0), (41, 11, 0), (39, 0, (w1.toInt64))] [(6, 0, (some (b + 40))), (41, 3, (some (b + 37))), (41, 2, (some (b + 29))), (40, 3, (some (b + 29)))])) B (lKA (hk_K hK 431 rfl rfl)) (by decide) (in_of (lNA (hk_N hK 431 rfl rfl)) (show ¬ ((0 : Int32) < 0 ∨ 1 ≤ (0 : Int32).toNatClampNeg) by decide)) wJ_ap dL_start_9 ?_
  refine z_goto (tgt := 25) B dL_start_10 (by decide) ?_
  refine z_iconst (v := 0) B dL_start_25 (by decide) ?_
  exact z_iret B hr (by decide) (by decide) dL_start_26 ⟨rfl, rfl⟩
set_option maxRecDepth 100000 in
set_option maxHeartbeats 4000000 in
theorem ci_X9_begets_843 (l : Launch) {g : gx_T} {σ : sx_T} {b : Nat} (hK : lay b σ) (w1 : Int32)  (hI_405_6 : sx_I σ (b + 405) 6 = 0) (hI_413_0 : sx_I σ (b + 413) 0 = 0) (hR_405_7 : sx_R σ (b + 405) 7 = (some (b + 409))) (hR_405_8 : sx_R σ (b + 405) 8 = (some (b + 410))) (hR_405_9 : sx_R σ (b + 405) 9 = (some (b + 411))) (hR_405_11 : sx_R σ (b + 405) 11 = (some (b + 413))) (hR_405_13 : sx_R σ (b + 405) 13 = (some (b + 415))) (hR_405_14 : sx_R σ (b + 405) 14 = (some (b + 416))) (hR_405_15 : sx_R σ (b + 405) 15 = (some (b + 417))) : Met l yX9_begets (.code yX9_begets cX9_begets 6 (some .int) :: lw_g) { frames := 1, cells := 0, slots := 0, locals := 24 } (va_Pc [.ref (b + 405), .int 5, .int w1, .int (-1), .int (-1)] (zx_w g σ)) (va_Qi (fun r u => r = 0 ∧ u = (ap b σ [(413, 0, 1), (416, 0, 0), (415, 0, (-1)), (411, 0, 0), (410, 0, (-1)), (409, 0, 5), (405, 6, 1)] [(417, 0, (w1.toInt64))] [])) (zx_w g) (gx_Q g)) 0 0 (gx_Q g) := by
  refine z_met (by decide) (Nat.le_of_ble_eq_true rfl) (fun p e s m below meth c B hr hin => ?_)
  refine z_eqs (σ' := (ap b σ [] [] [])) rfl ?_
  show zx p l e _ s m _ below meth c g 6 0 0 _ _ 0 [(0, .ref (b + 405)), (1, .int 5), (2, .int w1), (3, .int (-1)), (4, .int (-1))] []
  refine z_aload_n B dX9_begets_0 rfl 0 rfl ?_
  refine gf_X9_93 (x := 0) B (lKA (hk_K hK 405 rfl rfl)) (rI_at 405 6 hI_405_6) dX9_begets_1 ?_
  refine z_bipush (v := 40) B dX9_begets_4 (by decide) ?_
  refine z_icmp_ne (tgt := 11) B dX9_begets_6 (by decide) (fun _ => ?_) (fun h => absurd h (by decide))
  refine z_aload_n B dX9_begets_11 rfl 0 rfl ?_
  refine gf_X9_93 (x := 0) B (lKA (hk_K hK 405 rfl rfl)) (rI_at 405 6 hI_405_6) dX9_begets_12 ?_
  refine z_istore (lv' := [(5, .int 0), (0, .ref (b + 405)), (1, .int 5), (2, .int w1), (3, .int (-1)), (4, .int (-1))]) B dX9_begets_15 (by decide) rfl ?_
  refine z_aload_n B dX9_begets_17 rfl 1 rfl ?_
  refine z_dup B dX9_begets_18 rfl ?_
  refine gf_X9_93 (x := 0) B (lKA (hk_K hK 405 rfl rfl)) (rI_at 405 6 hI_405_6) dX9_begets_19 ?_
  refine z_iconst (v := 1) B dX9_begets_22 (by decide) ?_
  refine z_iadd B dX9_begets_23 ?_
  refine z_seti (y := 1) (by decide) ?_
  refine pf_X9_93 (x := 1) (σ' := (ap b σ [(405, 6, 1)] [] [])) B (lKA (hk_K hK 405 rfl rfl)) wI_ap dX9_begets_24 ?_
  refine z_aload_n B dX9_begets_27 rfl 1 rfl ?_
  refine gf_X9_23 (x := (some (b + 409))) B (lKA (hk_K hK 405 rfl rfl)) (rR_at 405 7 hR_405_7) dX9_begets_28 ?_
  refine z_iload B dX9_begets_31 0 rfl ?_
  refine z_iload_n B dX9_begets_33 rfl 2 rfl ?_
  refine z_iast (j := 0) (σ' := (ap b σ [(409, 0, 5), (405, 6, 1)] [] [])) B (lKA (hk_K hK 409 rfl rfl)) (by decide) (in_of (lNA (hk_N hK 409 rfl rfl)) (show ¬ ((0 : Int32) < 0 ∨ 41 ≤ (0 : Int32).toNatClampNeg) by decide)) wI_ap dX9_begets_34 ?_
  refine z_aload_n B dX9_begets_35 rfl 1 rfl ?_
  refine gf_X9_26 (x := (some (b + 410))) B (lKA (hk_K hK 405 rfl rfl)) (rR_at 405 8 hR_405_8) dX9_begets_36 ?_
  refine z_iload B dX9_begets_39 0 rfl ?_
  refine z_iload_n B dX9_begets_41 rfl 4 rfl ?_
  refine z_iast (j := 0) (σ' := (ap b σ [(410, 0, (-1)), (409, 0, 5), (405, 6, 1)] [] [])) B (lKA (hk_K hK 410 rfl rfl)) (by decide) (in_of (lNA (hk_N hK 410 rfl rfl)) (show ¬ ((0 : Int32) < 0 ∨ 41 ≤ (0 : Int32).toNatClampNeg) by decide)) wI_ap dX9_begets_42 ?_
  refine z_aload_n B dX9_begets_43 rfl 1 rfl ?_
  refine gf_X9_29 (x := (some (b + 411))) B (lKA (hk_K hK 405 rfl rfl)) (rR_at 405 9 hR_405_9) dX9_begets_44 ?_
  refine z_iload B dX9_begets_47 0 rfl ?_
  refine z_iload B dX9_begets_49 5 rfl ?_
  refine z_iconst (v := (-1)) B dX9_begets_51 (by decide) ?_
  refine z_icmp_ne (tgt := 60) B dX9_begets_52 (by decide) (fun h => absurd (by decide) h) (fun _ => ?_)
  refine z_iload B dX9_begets_55 0 rfl ?_
  refine z_goto (tgt := 62) B dX9_begets_57 (by decide) ?_
  refine z_iast (j := 0) (σ' := (ap b σ [(411, 0, 0), (410, 0, (-1)), (409, 0, 5), (405, 6, 1)] [] [])) B (lKA (hk_K hK 411 rfl rfl)) (by decide) (in_of (lNA (hk_N hK 411 rfl rfl)) (show ¬ ((0 : Int32) < 0 ∨ 41 ≤ (0 : Int32).toNatClampNeg) by decide)) wI_ap dX9_begets_62 ?_
  refine z_aload_n B dX9_begets_63 rfl 1 rfl ?_
  refine gf_X9_41 (x := (some (b + 415))) B (lKA (hk_K hK 405 rfl rfl)) (rR_at 405 13 hR_405_13) dX9_begets_64 ?_
  refine z_iload B dX9_begets_67 0 rfl ?_
  refine z_iconst (v := (-1)) B dX9_begets_69 (by decide) ?_
  refine z_iast (j := 0) (σ' := (ap b σ [(415, 0, (-1)), (411, 0, 0), (410, 0, (-1)), (409, 0, 5), (405, 6, 1)] [] [])) B (lKA (hk_K hK 415 rfl rfl)) (by decide) (in_of (lNA (hk_N hK 415 rfl rfl)) (show ¬ ((0 : Int32) < 0 ∨ 41 ≤ (0 : Int32).toNatClampNeg) by decide)) wI_ap dX9_begets_70 ?_
  refine z_aload_n B dX9_begets_71 rfl 1 rfl ?_
  refine z_iload B dX9_begets_72 0 rfl ?_
  refine z_iconst (v := 0) B dX9_begets_74 (by decide) ?_
  refine z_iload_n B dX9_begets_75 rfl 3 rfl ?_
  refine z_i2l B dX9_begets_76 rfl ?_
  refine z_cVv (As := [.int 0, .int 0, .long (w1.toInt64)]) (rest := []) B cw_X9_143 cx_10 dX9_begets_77 (ci_X9_adds_704 l (σ := (ap b σ [(415, 0, (-1)), (411, 0, 0), (410, 0, (-1)), (409, 0, 5), (405, 6, 1)] [] [])) (b := b) (lyA hK) (w1.toInt64) (rI_at 413 0 hI_413_0) (rR_at 405 11 hR_405_11) (rR_at 405 14 hR_405_14) (rR_at 405 15 hR_405_15)) (lKA (hk_K hK 405 rfl rfl)) rfl (by decide) rfl (Nat.le_of_ble_eq_true rfl) (by decide) (fun u hu => ?_)
  refine z_eqs (σ' := (ap b σ [(413, 0, 1), (416, 0, 0), (415, 0, (-1)), (411, 0, 0), (410, 0, (-1)), (409, 0, 5), (405, 6, 1)] [(417, 0, (w1.toInt64))] [])) (hu.trans ap_ap) ?_
  show zx p l e _ s m _ below meth c g 6 0 0 _ _ 80 [(5, .int 0), (0, .ref (b + 405)), (1, .int 5), (2, .int w1), (3, .int (-1)), (4, .int (-1))] _
  refine z_iload B dX9_begets_80 0 rfl ?_
  exact z_iret B hr (by decide) (by decide) dX9_begets_82 ⟨rfl, rfl⟩
set_option maxRecDepth 100000 in
set_option maxHeartbeats 4000000 in
theorem ci_X9_steps_844 (l : Launch) {g : gx_T} {σ : sx_T} {b : Nat} (hK : lay b σ) (w1 : Int32)  (hI_405_27 : sx_I σ (b + 405) 27 = 1) (hI_405_28 : sx_I σ (b + 405) 28 = 0) (hI_405_29 : sx_I σ (b + 405) 29 = w1) (hI_405_38 : sx_I σ (b + 405) 38 = 0) (hI_406_100 : sx_I σ (b + 406) 100 = 0) (hI_407_100 : sx_I σ (b + 407) 100 = 0) (hI_409_0 : sx_I σ (b + 409) 0 = 5) (hI_413_0 : sx_I σ (b + 413) 0 = 1) (hR_405_3 : sx_R σ (b + 405) 3 = (some (b + 406))) (hR_405_4 : sx_R σ (b + 405) 4 = (some (b + 407))) (hR_405_7 : sx_R σ (b + 405) 7 = (some (b + 409))) (hR_405_11 : sx_R σ (b + 405) 11 = (some (b + 413))) (hR_405_14 : sx_R σ (b + 405) 14 = (some (b + 416))) (hR_405_15 : sx_R σ (b + 405) 15 = (some (b + 417))) : Met l yX9_steps (.code yX9_steps cX9_steps 12 (some .boolean) :: lw_g) { frames := 2, cells := 0, slots := 0, locals := 51 } (va_Pc [.ref (b + 405), .int 0, .int 1, .int 1] (zx_w g σ)) (va_Qi (fun r u => r = 1 ∧ u = (ap b σ [(405, 37, 1), (405, 27, 2), (413, 0, 2), (416, 1, 13), (405, 28, 1), (405, 38, 1)] [(417, 1, ((10 * (w1.toInt64)) + 1))] [])) (zx_w g) (gx_Q g)) 0 0 (gx_Q g) := by
  refine z_met (by decide) (Nat.le_of_ble_eq_true rfl) (fun p e s m below meth c B hr hin => ?_)
  refine z_eqs (σ' := (ap b σ [] [] [])) rfl ?_
  show zx p l e _ s m _ below meth c g 12 0 0 _ _ 0 [(0, .ref (b + 405)), (1, .int 0), (2, .int 1), (3, .int 1)] []
  refine z_aload_n B dX9_steps_0 rfl 0 rfl ?_
  refine gf_X9_137 (x := 0) B (lKA (hk_K hK 405 rfl rfl)) (rI_at 405 38 hI_405_38) dX9_steps_1 ?_
  refine z_bipush (v := 60) B dX9_steps_4 (by decide) ?_
  refine z_icmp_ne (tgt := 16) B dX9_steps_6 (by decide) (fun _ => ?_) (fun h => absurd h (by decide))
  refine z_bipush (v := 20) B dX9_steps_16 (by decide) ?_
  refine z_aload_n B dX9_steps_18 rfl 0 rfl ?_
  refine gf_X9_23 (x := (some (b + 409))) B (lKA (hk_K hK 405 rfl rfl)) (rR_at 405 7 hR_405_7) dX9_steps_19 ?_
  refine z_iload_n B dX9_steps_22 rfl 1 rfl ?_
  refine z_iald (j := 0) (x := 5) B (lKA (hk_K hK 409 rfl rfl)) (by decide) (in_of (lNA (hk_N hK 409 rfl rfl)) (show ¬ ((0 : Int32) < 0 ∨ 41 ≤ (0 : Int32).toNatClampNeg) by decide)) (rI_at 409 0 hI_409_0) dX9_steps_23 ?_
  refine z_imul B dX9_steps_24 ?_
  refine z_seti (y := 100) (by decide) ?_
  refine z_aload_n B dX9_steps_25 rfl 0 rfl ?_
  refine gf_X9_110 (x := 0) B (lKA (hk_K hK 405 rfl rfl)) (rI_at 405 28 hI_405_28) dX9_steps_26 ?_
  refine z_iadd B dX9_steps_29 ?_
  refine z_seti (y := 100) (by decide) ?_
  refine z_istore (lv' := [(4, .int 100), (0, .ref (b + 405)), (1, .int 0), (2, .int 1), (3, .int 1)]) B dX9_steps_30 (by decide) rfl ?_
  refine z_aload_n B dX9_steps_32 rfl 1 rfl ?_
  refine gf_X9_13 (x := (some (b + 406))) B (lKA (hk_K hK 405 rfl rfl)) (rR_at 405 3 hR_405_3) dX9_steps_33 ?_
  refine z_iload B dX9_steps_36 0 rfl ?_
  refine z_iald (j := 100) (x := 0) B (lKA (hk_K hK 406 rfl rfl)) (by decide) (in_of (lNA (hk_N hK 406 rfl rfl)) (show ¬ ((100 : Int32) < 0 ∨ 120 ≤ (100 : Int32).toNatClampNeg) by decide)) (rI_at 406 100 hI_406_100) dX9_steps_38 ?_
  refine z_istore (lv' := [(5, .int 0), (4, .int 100), (0, .ref (b + 405)), (1, .int 0), (2, .int 1), (3, .int 1)]) B dX9_steps_39 (by decide) rfl ?_
  refine z_aload_n B dX9_steps_41 rfl 2 rfl ?_
  refine gf_X9_17 (x := (some (b + 407))) B (lKA (hk_K hK 405 rfl rfl)) (rR_at 405 4 hR_405_4) dX9_steps_42 ?_
  refine z_iload B dX9_steps_45 1 rfl ?_
  refine z_iald (j := 100) (x := 0) B (lKA (hk_K hK 407 rfl rfl)) (by decide) (in_of (lNA (hk_N hK 407 rfl rfl)) (show ¬ ((100 : Int32) < 0 ∨ 120 ≤ (100 : Int32).toNatClampNeg) by decide)) (rI_at 407 100 hI_407_100) dX9_steps_47 ?_
  refine z_istore (lv' := [(6, .int 0), (5, .int 0), (4, .int 100), (0, .ref (b + 405)), (1, .int 0), (2, .int 1), (3, .int 1)]) B dX9_steps_48 (by decide) rfl ?_
  refine z_aload_n B dX9_steps_50 rfl 3 rfl ?_
  refine gf_X9_107 (x := 1) B (lKA (hk_K hK 405 rfl rfl)) (rI_at 405 27 hI_405_27) dX9_steps_51 ?_
  refine z_iload_n B dX9_steps_54 rfl 5 rfl ?_
  refine z_icmp_lt (tgt := 62) B dX9_steps_55 (by decide) (fun h => absurd h (by decide)) (fun _ => ?_)
  refine z_iconst (v := 1) B dX9_steps_58 (by decide) ?_
  refine z_goto (tgt := 63) B dX9_steps_59 (by decide) ?_
  refine z_istore (lv' := [(7, .int 1), (6, .int 0), (5, .int 0), (4, .int 100), (0, .ref (b + 405)), (1, .int 0), (2, .int 1), (3, .int 1)]) B dX9_steps_63 (by decide) rfl ?_
  refine z_aload_n B dX9_steps_65 rfl 4 rfl ?_
  refine gf_X9_110 (x := 0) B (lKA (hk_K hK 405 rfl rfl)) (rI_at 405 28 hI_405_28) dX9_steps_66 ?_
  refine z_istore (lv' := [(8, .int 0), (7, .int 1), (6, .int 0), (5, .int 0), (4, .int 100), (0, .ref (b + 405)), (1, .int 0), (2, .int 1), (3, .int 1)]) B dX9_steps_69 (by decide) rfl ?_
  refine z_aload_n B dX9_steps_71 rfl 5 rfl ?_
  refine z_dup B dX9_steps_72 rfl ?_
  refine gf_X9_137 (x := 0) B (lKA (hk_K hK 405 rfl rfl)) (rI_at 405 38 hI_405_38) dX9_steps_73 ?_
  refine z_iconst (v := 1) B dX9_steps_76 (by decide) ?_
  refine z_iadd B dX9_steps_77 ?_
  refine z_seti (y := 1) (by decide) ?_
  refine pf_X9_137 (x := 1) (σ' := (ap b σ [(405, 38, 1)] [] [])) B (lKA (hk_K hK 405 rfl rfl)) wI_ap dX9_steps_78 ?_
  refine z_aload_n B dX9_steps_81 rfl 5 rfl ?_
  refine z_aload_n B dX9_steps_82 rfl 5 rfl ?_
  refine gf_X9_110 (x := 0) B (lKA (hk_K hK 405 rfl rfl)) (rI_at 405 28 hI_405_28) dX9_steps_83 ?_
  refine z_iconst (v := 1) B dX9_steps_86 (by decide) ?_
  refine z_iadd B dX9_steps_87 ?_
  refine z_seti (y := 1) (by decide) ?_
  refine z_bipush (v := 20) B dX9_steps_88 (by decide) ?_
  refine z_irem B dX9_steps_90 (by decide) ?_
  refine z_seti (y := 1) (by decide) ?_
  refine pf_X9_110 (x := 1) (σ' := (ap b σ [(405, 28, 1), (405, 38, 1)] [] [])) B (lKA (hk_K hK 405 rfl rfl)) wI_ap dX9_steps_91 ?_
  refine z_iload B dX9_steps_94 3 rfl ?_
  refine z_iconst (v := 3) B dX9_steps_96 (by decide) ?_
  refine z_icmp_eq (tgt := 106) B dX9_steps_97 (by decide) (fun h => absurd h (by decide)) (fun _ => ?_)
  refine z_iload B dX9_steps_100 3 rfl ?_
  refine z_iconst (v := 4) B dX9_steps_102 (by decide) ?_
  refine z_icmp_ne (tgt := 115) B dX9_steps_103 (by decide) (fun _ => ?_) (fun h => absurd h (by decide))
  refine z_iconst (v := (-1)) B dX9_steps_115 (by decide) ?_
  refine z_istore (lv' := [(9, .int (-1)), (8, .int 0), (7, .int 1), (6, .int 0), (5, .int 0), (4, .int 100), (0, .ref (b + 405)), (1, .int 0), (2, .int 1), (3, .int 1)]) B dX9_steps_116 (by decide) rfl ?_
  refine z_iload B dX9_steps_118 4 rfl ?_
  refine z_cSi (As := [.int 0]) (rest := []) B cw_X9_193 dX9_steps_120 (ci_X9_isBounded_707 l (σ := (ap b σ [(405, 28, 1), (405, 38, 1)] [] [])) (b := b) (lyA hK) ) rfl (by decide) rfl (Nat.le_of_ble_eq_true rfl) (by decide) (fun r u hu => ?_)
  refine z_eqs (σ' := (ap b σ [(405, 28, 1), (405, 38, 1)] [] [])) hu.2 ?_
  show zx p l e _ s m _ below meth c g 12 0 0 _ _ 123 [(9, .int (-1)), (8, .int 0), (7, .int 1), (6, .int 0), (5, .int 0), (4, .int 100), (0, .ref (b + 405)), (1, .int 0), (2, .int 1), (3, .int 1)] _
  refine z_seti (y := 0) hu.1 ?_
  refine z_if_eq (tgt := 141) B dX9_steps_123 (by decide) (fun _ => ?_) (fun h => absurd (by decide) h)
  refine z_iload B dX9_steps_141 4 rfl ?_
  refine z_bipush (v := 12) B dX9_steps_143 (by decide) ?_
  refine z_icmp_ne (tgt := 164) B dX9_steps_145 (by decide) (fun _ => ?_) (fun h => absurd h (by decide))
  refine z_iconst (v := 1) B dX9_steps_164 (by decide) ?_
  refine z_istore (lv' := [(10, .int 1), (9, .int (-1)), (8, .int 0), (7, .int 1), (6, .int 0), (5, .int 0), (4, .int 100), (0, .ref (b + 405)), (1, .int 0), (2, .int 1), (3, .int 1)]) B dX9_steps_165 (by decide) rfl ?_
  refine z_iload B dX9_steps_167 5 rfl ?_
  refine z_tableIn (tgt := 252) B dX9_steps_169 (by decide) (by decide) (show _ = some (83 : Int) by decide) (by decide) ?_
  refine z_aload_n B dX9_steps_252 rfl 7 rfl ?_
  refine z_iload_n B dX9_steps_253 rfl 8 rfl ?_
  refine z_iload_n B dX9_steps_254 rfl 9 rfl ?_
  refine z_iload_n B dX9_steps_255 rfl 10 rfl ?_
  refine z_bipush (v := 13) B dX9_steps_256 (by decide) ?_
  refine z_ldc2 (v := 10) B dX9_steps_258 wg_1247 ?_
  refine z_aload_n B dX9_steps_261 rfl 7 rfl ?_
  refine gf_X9_113 (x := w1) B (lKA (hk_K hK 405 rfl rfl)) (rI_at 405 29 hI_405_29) dX9_steps_262 ?_
  refine z_i2l B dX9_steps_265 rfl ?_
  refine z_lmul B dX9_steps_266 ?_
  refine z_lconst (v := 1) B dX9_steps_267 (by decide) ?_
  refine z_ladd B dX9_steps_268 ?_
  refine z_iconst (v := 0) B dX9_steps_269 (by decide) ?_
  refine z_cVi (As := [.int 0, .int 1, .int 1, .int 13, .long ((10 * (w1.toInt64)) + 1), .int 0]) (rest := []) B cw_X9_164 cx_10 dX9_steps_270 (ci_X9_meets_709 l (σ := (ap b σ [(405, 28, 1), (405, 38, 1)] [] [])) (b := b) (lyA hK) ((10 * (w1.toInt64)) + 1) (rI_at 405 27 hI_405_27) (rI_at 413 0 hI_413_0) (rR_at 405 11 hR_405_11) (rR_at 405 14 hR_405_14) (rR_at 405 15 hR_405_15)) (lKA (hk_K hK 405 rfl rfl)) rfl (by decide) rfl (Nat.le_of_ble_eq_true rfl) (by decide) (fun r u hu => ?_)
  refine z_eqs (σ' := (ap b σ [(405, 27, 2), (413, 0, 2), (416, 1, 13), (405, 28, 1), (405, 38, 1)] [(417, 1, ((10 * (w1.toInt64)) + 1))] [])) (hu.2.trans ap_ap) ?_
  show zx p l e _ s m _ below meth c g 12 0 0 _ _ 273 [(10, .int 1), (9, .int (-1)), (8, .int 0), (7, .int 1), (6, .int 0), (5, .int 0), (4, .int 100), (0, .ref (b + 405)), (1, .int 0), (2, .int 1), (3, .int 1)] _
  refine z_seti (y := 1) hu.1 ?_
  refine z_istore (lv' := [(10, .int 1), (9, .int (-1)), (8, .int 0), (7, .int 1), (6, .int 0), (5, .int 0), (4, .int 100), (0, .ref (b + 405)), (1, .int 0), (2, .int 1), (3, .int 1)]) B dX9_steps_273 (by decide) rfl ?_
  refine z_aload_n B dX9_steps_275 rfl 7 rfl ?_
  refine z_iload B dX9_steps_276 0 rfl ?_
  refine z_if_eq (tgt := 285) B dX9_steps_278 (by decide) (fun h => absurd h (by decide)) (fun _ => ?_)
  refine z_iconst (v := 1) B dX9_steps_281 (by decide) ?_
  refine z_goto (tgt := 286) B dX9_steps_282 (by decide) ?_
  refine pf_X9_134 (x := 1) (σ' := (ap b σ [(405, 37, 1), (405, 27, 2), (413, 0, 2), (416, 1, 13), (405, 28, 1), (405, 38, 1)] [(417, 1, ((10 * (w1.toInt64)) + 1))] [])) B (lKA (hk_K hK 405 rfl rfl)) wI_ap dX9_steps_286 ?_
  refine z_goto (tgt := 1085) B dX9_steps_289 (by decide) ?_
  refine z_iload B dX9_steps_1085 0 rfl ?_
  refine z_if_ne (tgt := 1113) B dX9_steps_1087 (by decide) (fun _ => ?_) (fun h => absurd h (by decide))
  refine z_iload B dX9_steps_1113 0 rfl ?_
  exact z_zret B hr (by decide) (by decide) (by decide) dX9_steps_1115 ⟨rfl, rfl⟩
set_option maxRecDepth 100000 in
set_option maxHeartbeats 4000000 in
theorem ci_X9_replays_845 (l : Launch) {g : gx_T} {σ : sx_T} {b : Nat} (hK : lay b σ) (w1 : Int64)  (hI_406_100 : sx_I σ (b + 406) 100 = 0) (hI_407_100 : sx_I σ (b + 407) 100 = 0) (hI_409_0 : sx_I σ (b + 409) 0 = 5) (hI_413_0 : sx_I σ (b + 413) 0 = 1) (hI_416_0 : sx_I σ (b + 416) 0 = 0) (hJ_417_0 : sx_J σ (b + 417) 0 = w1) (hR_405_3 : sx_R σ (b + 405) 3 = (some (b + 406))) (hR_405_4 : sx_R σ (b + 405) 4 = (some (b + 407))) (hR_405_7 : sx_R σ (b + 405) 7 = (some (b + 409))) (hR_405_11 : sx_R σ (b + 405) 11 = (some (b + 413))) (hR_405_14 : sx_R σ (b + 405) 14 = (some (b + 416))) (hR_405_15 : sx_R σ (b + 405) 15 = (some (b + 417))) : Met l yX9_replays (.code yX9_replays cX9_replays 5 (some .int) :: lw_g) { frames := 3, cells := 0, slots := 0, locals := 82 } (va_Pc [.ref (b + 405), .int 0, .int 1, .int 1] (zx_w g σ)) (va_Qi (fun r u => r = (-1) ∧ u = (ap b σ [(405, 26, 1), (405, 37, 1), (405, 27, 2), (413, 0, 2), (416, 1, 13), (405, 28, 1), (405, 38, 1), (405, 48, (-1)), (405, 27, 1), (405, 29, (w1.toInt32)), (405, 26, 1), (405, 47, 1), (405, 39, 0), (405, 38, 0), (405, 37, 0), (405, 36, 0), (405, 35, 0), (405, 34, 0), (405, 32, 0), (405, 31, 0), (405, 30, 0), (405, 29, 0), (405, 28, 0), (405, 27, 0), (405, 26, 1)] [(417, 1, ((10 * ((w1.toInt32).toInt64)) + 1))] [])) (zx_w g) (gx_Q g)) 0 0 (gx_Q g) := by
  refine z_met (by decide) (Nat.le_of_ble_eq_true rfl) (fun p e s m below meth c B hr hin => ?_)
  refine z_eqs (σ' := (ap b σ [] [] [])) rfl ?_
  show zx p l e _ s m _ below meth c g 5 0 0 _ _ 0 [(0, .ref (b + 405)), (1, .int 0), (2, .int 1), (3, .int 1)] []
  refine z_aload_n B dX9_replays_0 rfl 0 rfl ?_
  refine z_cVv (As := []) (rest := []) B cw_X9_175 cx_10 dX9_replays_1 (ci_X9_begins_706 l (σ := (ap b σ [] [] [])) (b := b) (lyA hK) ) (lKA (hk_K hK 405 rfl rfl)) rfl (by decide) rfl (Nat.le_of_ble_eq_true rfl) (by decide) (fun u hu => ?_)
  refine z_eqs (σ' := (ap b σ [(405, 39, 0), (405, 38, 0), (405, 37, 0), (405, 36, 0), (405, 35, 0), (405, 34, 0), (405, 32, 0), (405, 31, 0), (405, 30, 0), (405, 29, 0), (405, 28, 0), (405, 27, 0), (405, 26, 1)] [] [])) (hu.trans ap_ap) ?_
  show zx p l e _ s m _ below meth c g 5 0 0 _ _ 4 [(0, .ref (b + 405)), (1, .int 0), (2, .int 1), (3, .int 1)] _
  refine z_aload_n B dX9_replays_4 rfl 0 rfl ?_
  refine z_iload_n B dX9_replays_5 rfl 3 rfl ?_
  refine pf_X9_156 (x := 1) (σ' := (ap b σ [(405, 47, 1), (405, 39, 0), (405, 38, 0), (405, 37, 0), (405, 36, 0), (405, 35, 0), (405, 34, 0), (405, 32, 0), (405, 31, 0), (405, 30, 0), (405, 29, 0), (405, 28, 0), (405, 27, 0), (405, 26, 1)] [] [])) B (by decide) (lKA (hk_K hK 405 rfl rfl)) wI_ap dX9_replays_6 ?_
  refine z_aload_n B dX9_replays_9 rfl 0 rfl ?_
  refine z_aload_n B dX9_replays_10 rfl 0 rfl ?_
  refine gf_X9_44 (x := (some (b + 416))) B (lKA (hk_K hK 405 rfl rfl)) (rR_at 405 14 hR_405_14) dX9_replays_11 ?_
  refine z_sipush (v := 160) B dX9_replays_14 (by decide) ?_
  refine z_iload_n B dX9_replays_17 rfl 1 rfl ?_
  refine z_imul B dX9_replays_18 ?_
  refine z_seti (y := 0) (by decide) ?_
  refine z_iald (j := 0) (x := 0) B (lKA (hk_K hK 416 rfl rfl)) (by decide) (in_of (lNA (hk_N hK 416 rfl rfl)) (show ¬ ((0 : Int32) < 0 ∨ 6560 ≤ (0 : Int32).toNatClampNeg) by decide)) (rI_at 416 0 hI_416_0) dX9_replays_19 ?_
  refine z_if_ne (tgt := 27) B dX9_replays_20 (by decide) (fun h => absurd (by decide) h) (fun _ => ?_)
  refine z_iconst (v := 1) B dX9_replays_23 (by decide) ?_
  refine z_goto (tgt := 28) B dX9_replays_24 (by decide) ?_
  refine pf_X9_103 (x := 1) (σ' := (ap b σ [(405, 26, 1), (405, 47, 1), (405, 39, 0), (405, 38, 0), (405, 37, 0), (405, 36, 0), (405, 35, 0), (405, 34, 0), (405, 32, 0), (405, 31, 0), (405, 30, 0), (405, 29, 0), (405, 28, 0), (405, 27, 0), (405, 26, 1)] [] [])) B (by decide) (lKA (hk_K hK 405 rfl rfl)) wI_ap dX9_replays_28 ?_
  refine z_aload_n B dX9_replays_31 rfl 0 rfl ?_
  refine z_aload_n B dX9_replays_32 rfl 0 rfl ?_
  refine gf_X9_47 (x := (some (b + 417))) B (lKA (hk_K hK 405 rfl rfl)) (rR_at 405 15 hR_405_15) dX9_replays_33 ?_
  refine z_sipush (v := 160) B dX9_replays_36 (by decide) ?_
  refine z_iload_n B dX9_replays_39 rfl 1 rfl ?_
  refine z_imul B dX9_replays_40 ?_
  refine z_seti (y := 0) (by decide) ?_
  refine z_lald (j := 0) (x := w1) B (lKA (hk_K hK 417 rfl rfl)) (by decide) (in_of (lNA (hk_N hK 417 rfl rfl)) (show ¬ ((0 : Int32) < 0 ∨ 6560 ≤ (0 : Int32).toNatClampNeg) by decide)) (rJ_at 417 0 hJ_417_0) dX9_replays_41 ?_
  refine z_l2i B dX9_replays_42 rfl ?_
  refine pf_X9_113 (x := (w1.toInt32)) (σ' := (ap b σ [(405, 29, (w1.toInt32)), (405, 26, 1), (405, 47, 1), (405, 39, 0), (405, 38, 0), (405, 37, 0), (405, 36, 0), (405, 35, 0), (405, 34, 0), (405, 32, 0), (405, 31, 0), (405, 30, 0), (405, 29, 0), (405, 28, 0), (405, 27, 0), (405, 26, 1)] [] [])) B (lKA (hk_K hK 405 rfl rfl)) wI_ap dX9_replays_43 ?_
  refine z_aload_n B dX9_replays_46 rfl 0 rfl ?_
  refine z_iconst (v := 1) B dX9_replays_47 (by decide) ?_
  refine pf_X9_107 (x := 1) (σ' := (ap b σ [(405, 27, 1), (405, 29, (w1.toInt32)), (405, 26, 1), (405, 47, 1), (405, 39, 0), (405, 38, 0), (405, 37, 0), (405, 36, 0), (405, 35, 0), (405, 34, 0), (405, 32, 0), (405, 31, 0), (405, 30, 0), (405, 29, 0), (405, 28, 0), (405, 27, 0), (405, 26, 1)] [] [])) B (lKA (hk_K hK 405 rfl rfl)) wI_ap dX9_replays_48 ?_
  refine z_aload_n B dX9_replays_51 rfl 0 rfl ?_
  refine z_iconst (v := (-1)) B dX9_replays_52 (by decide) ?_
  refine pf_X9_172 (x := (-1)) (σ' := (ap b σ [(405, 48, (-1)), (405, 27, 1), (405, 29, (w1.toInt32)), (405, 26, 1), (405, 47, 1), (405, 39, 0), (405, 38, 0), (405, 37, 0), (405, 36, 0), (405, 35, 0), (405, 34, 0), (405, 32, 0), (405, 31, 0), (405, 30, 0), (405, 29, 0), (405, 28, 0), (405, 27, 0), (405, 26, 1)] [] [])) B (lKA (hk_K hK 405 rfl rfl)) wI_ap dX9_replays_53 ?_
  refine z_aload_n B dX9_replays_56 rfl 0 rfl ?_
  refine gf_X9_103 (x := 1) B (lKA (hk_K hK 405 rfl rfl)) (rI_at 405 26 rfl) dX9_replays_57 ?_
  refine z_istore (lv' := [(4, .int 1), (0, .ref (b + 405)), (1, .int 0), (2, .int 1), (3, .int 1)]) B dX9_replays_60 (by decide) rfl ?_
  refine z_iload B dX9_replays_62 0 rfl ?_
  refine z_if_eq (tgt := 180) B dX9_replays_64 (by decide) (fun h => absurd h (by decide)) (fun _ => ?_)
  refine z_aload_n B dX9_replays_67 rfl 1 rfl ?_
  refine gf_X9_103 (x := 1) B (lKA (hk_K hK 405 rfl rfl)) (rI_at 405 26 rfl) dX9_replays_68 ?_
  refine z_if_eq (tgt := 180) B dX9_replays_71 (by decide) (fun h => absurd h (by decide)) (fun _ => ?_)
  refine z_aload_n B dX9_replays_74 rfl 1 rfl ?_
  refine gf_X9_134 (x := 0) B (lKA (hk_K hK 405 rfl rfl)) (rI_at 405 37 rfl) dX9_replays_75 ?_
  refine z_if_le (tgt := 104) B dX9_replays_78 (by decide) (fun _ => ?_) (fun h => absurd (by decide) h)
  refine z_aload_n B dX9_replays_104 rfl 1 rfl ?_
  refine gf_X9_116 (x := 0) B (lKA (hk_K hK 405 rfl rfl)) (rI_at 405 30 rfl) dX9_replays_105 ?_
  refine z_if_eq (tgt := 139) B dX9_replays_108 (by decide) (fun _ => ?_) (fun h => absurd (by decide) h)
  refine z_aload_n B dX9_replays_139 rfl 1 rfl ?_
  refine gf_X9_131 (x := 0) B (lKA (hk_K hK 405 rfl rfl)) (rI_at 405 36 rfl) dX9_replays_140 ?_
  refine z_if_le (tgt := 158) B dX9_replays_143 (by decide) (fun _ => ?_) (fun h => absurd (by decide) h)
  refine z_aload_n B dX9_replays_158 rfl 1 rfl ?_
  refine z_iload_n B dX9_replays_159 rfl 2 rfl ?_
  refine z_iload_n B dX9_replays_160 rfl 3 rfl ?_
  refine z_iload_n B dX9_replays_161 rfl 4 rfl ?_
  refine z_cVi (As := [.int 0, .int 1, .int 1]) (rest := []) B cw_X9_186 cx_10 dX9_replays_162 (ci_X9_steps_844 l (σ := (ap b σ [(405, 48, (-1)), (405, 27, 1), (405, 29, (w1.toInt32)), (405, 26, 1), (405, 47, 1), (405, 39, 0), (405, 38, 0), (405, 37, 0), (405, 36, 0), (405, 35, 0), (405, 34, 0), (405, 32, 0), (405, 31, 0), (405, 30, 0), (405, 29, 0), (405, 28, 0), (405, 27, 0), (405, 26, 1)] [] [])) (b := b) (lyA hK) (w1.toInt32) (rI_at 405 27 rfl) (rI_at 405 28 rfl) (rI_at 405 29 rfl) (rI_at 405 38 rfl) (rI_at 406 100 hI_406_100) (rI_at 407 100 hI_407_100) (rI_at 409 0 hI_409_0) (rI_at 413 0 hI_413_0) (rR_at 405 3 hR_405_3) (rR_at 405 4 hR_405_4) (rR_at 405 7 hR_405_7) (rR_at 405 11 hR_405_11) (rR_at 405 14 hR_405_14) (rR_at 405 15 hR_405_15)) (lKA (hk_K hK 405 rfl rfl)) rfl (by decide) rfl (Nat.le_of_ble_eq_true rfl) (by decide) (fun r u hu => ?_)
  refine z_eqs (σ' := (ap b σ [(405, 37, 1), (405, 27, 2), (413, 0, 2), (416, 1, 13), (405, 28, 1), (405, 38, 1), (405, 48, (-1)), (405, 27, 1), (405, 29, (w1.toInt32)), (405, 26, 1), (405, 47, 1), (405, 39, 0), (405, 38, 0), (405, 37, 0), (405, 36, 0), (405, 35, 0), (405, 34, 0), (405, 32, 0), (405, 31, 0), (405, 30, 0), (405, 29, 0), (405, 28, 0), (405, 27, 0), (405, 26, 1)] [(417, 1, ((10 * ((w1.toInt32).toInt64)) + 1))] [])) (hu.2.trans ap_ap) ?_
  show zx p l e _ s m _ below meth c g 5 0 0 _ _ 165 [(4, .int 1), (0, .ref (b + 405)), (1, .int 0), (2, .int 1), (3, .int 1)] _
  refine z_seti (y := 1) hu.1 ?_
  refine z_istore (lv' := [(4, .int 1), (0, .ref (b + 405)), (1, .int 0), (2, .int 1), (3, .int 1)]) B dX9_replays_165 (by decide) rfl ?_
  refine z_aload_n B dX9_replays_167 rfl 1 rfl ?_
  refine gf_X9_172 (x := (-1)) B (lKA (hk_K hK 405 rfl rfl)) (rI_at 405 48 rfl) dX9_replays_168 ?_
  refine z_iconst (v := (-1)) B dX9_replays_171 (by decide) ?_
  refine z_icmp_eq (tgt := 62) B dX9_replays_172 (by decide) (fun _ => ?_) (fun h => absurd (by decide) h)
  refine z_iload B dX9_replays_62 0 rfl ?_
  refine z_if_eq (tgt := 180) B dX9_replays_64 (by decide) (fun h => absurd h (by decide)) (fun _ => ?_)
  refine z_aload_n B dX9_replays_67 rfl 1 rfl ?_
  refine gf_X9_103 (x := 1) B (lKA (hk_K hK 405 rfl rfl)) (rI_at 405 26 rfl) dX9_replays_68 ?_
  refine z_if_eq (tgt := 180) B dX9_replays_71 (by decide) (fun h => absurd h (by decide)) (fun _ => ?_)
  refine z_aload_n B dX9_replays_74 rfl 1 rfl ?_
  refine gf_X9_134 (x := 1) B (lKA (hk_K hK 405 rfl rfl)) (rI_at 405 37 rfl) dX9_replays_75 ?_
  refine z_if_le (tgt := 104) B dX9_replays_78 (by decide) (fun h => absurd h (by decide)) (fun _ => ?_)
  refine z_aload_n B dX9_replays_81 rfl 1 rfl ?_
  refine z_aload_n B dX9_replays_82 rfl 1 rfl ?_
  refine gf_X9_107 (x := 2) B (lKA (hk_K hK 405 rfl rfl)) (rI_at 405 27 rfl) dX9_replays_83 ?_
  refine z_iload_n B dX9_replays_86 rfl 3 rfl ?_
  refine z_icmp_lt (tgt := 94) B dX9_replays_87 (by decide) (fun h => absurd h (by decide)) (fun _ => ?_)
  refine z_iconst (v := 1) B dX9_replays_90 (by decide) ?_
  refine z_goto (tgt := 95) B dX9_replays_91 (by decide) ?_
  refine pf_X9_103 (x := 1) (σ' := (ap b σ [(405, 26, 1), (405, 37, 1), (405, 27, 2), (413, 0, 2), (416, 1, 13), (405, 28, 1), (405, 38, 1), (405, 48, (-1)), (405, 27, 1), (405, 29, (w1.toInt32)), (405, 26, 1), (405, 47, 1), (405, 39, 0), (405, 38, 0), (405, 37, 0), (405, 36, 0), (405, 35, 0), (405, 34, 0), (405, 32, 0), (405, 31, 0), (405, 30, 0), (405, 29, 0), (405, 28, 0), (405, 27, 0), (405, 26, 1)] [(417, 1, ((10 * ((w1.toInt32).toInt64)) + 1))] [])) B (by decide) (lKA (hk_K hK 405 rfl rfl)) wI_ap dX9_replays_95 ?_
  refine z_iconst (v := 0) B dX9_replays_98 (by decide) ?_
  refine z_istore (lv' := [(4, .int 0), (0, .ref (b + 405)), (1, .int 0), (2, .int 1), (3, .int 1)]) B dX9_replays_99 (by decide) rfl ?_
  refine z_goto (tgt := 62) B dX9_replays_101 (by decide) ?_
  refine z_iload B dX9_replays_62 0 rfl ?_
  refine z_if_eq (tgt := 180) B dX9_replays_64 (by decide) (fun _ => ?_) (fun h => absurd (by decide) h)
  refine z_iconst (v := (-1)) B dX9_replays_180 (by decide) ?_
  exact z_iret B hr (by decide) (by decide) dX9_replays_181 ⟨rfl, rfl⟩
set_option maxRecDepth 100000 in
set_option maxHeartbeats 4000000 in
theorem ci_X9_goesOn_846 (l : Launch) {g : gx_T} {σ : sx_T} {b : Nat} (hK : lay b σ) (w1 : Int64)  (hI_405_16 : sx_I σ (b + 405) 16 = 0) (hI_406_100 : sx_I σ (b + 406) 100 = 0) (hI_407_100 : sx_I σ (b + 407) 100 = 0) (hI_409_0 : sx_I σ (b + 409) 0 = 5) (hI_410_0 : sx_I σ (b + 410) 0 = (-1)) (hI_412_0 : sx_I σ (b + 412) 0 = 0) (hI_413_0 : sx_I σ (b + 413) 0 = 1) (hI_416_0 : sx_I σ (b + 416) 0 = 0) (hJ_417_0 : sx_J σ (b + 417) 0 = w1) (hR_405_3 : sx_R σ (b + 405) 3 = (some (b + 406))) (hR_405_4 : sx_R σ (b + 405) 4 = (some (b + 407))) (hR_405_7 : sx_R σ (b + 405) 7 = (some (b + 409))) (hR_405_8 : sx_R σ (b + 405) 8 = (some (b + 410))) (hR_405_10 : sx_R σ (b + 405) 10 = (some (b + 412))) (hR_405_11 : sx_R σ (b + 405) 11 = (some (b + 413))) (hR_405_12 : sx_R σ (b + 405) 12 = (some (b + 414))) (hR_405_14 : sx_R σ (b + 405) 14 = (some (b + 416))) (hR_405_15 : sx_R σ (b + 405) 15 = (some (b + 417))) (hR_405_42 : sx_R σ (b + 405) 42 = (some (b + 428))) : Met l yX9_goesOn (.code yX9_goesOn cX9_goesOn 5 none :: lw_g) { frames := 4, cells := 0, slots := 0, locals := 106 } (va_Pc [.ref (b + 405), .int 0] (zx_w g σ)) (va_Qv (fun u => u = (ap b σ [(412, 0, 1), (414, 0, 2), (405, 26, 1), (405, 37, 1), (405, 27, 2), (413, 0, 2), (416, 1, 13), (405, 28, 1), (405, 38, 1), (405, 48, (-1)), (405, 27, 1), (405, 29, (w1.toInt32)), (405, 26, 1), (405, 47, 1), (405, 39, 0), (405, 38, 0), (405, 37, 0), (405, 36, 0), (405, 35, 0), (405, 34, 0), (405, 32, 0), (405, 31, 0), (405, 30, 0), (405, 29, 0), (405, 28, 0), (405, 27, 0), (405, 26, 1), (428, 0, 0)] [(417, 1, ((10 * ((w1.toInt32).toInt64)) + 1))] [])) (zx_w g) (gx_Q g)) 0 0 (gx_Q g) := by
  refine z_met (by decide) (Nat.le_of_ble_eq_true rfl) (fun p e s m below meth c B hr hin => ?_)
  refine z_eqs (σ' := (ap b σ [] [] [])) rfl ?_
  show zx p l e _ s m _ below meth c g 5 0 0 _ _ 0 [(0, .ref (b + 405)), (1, .int 0)] []
  refine z_iconst (v := 1) B dX9_goesOn_0 (by decide) ?_
  refine z_istore_n (lv' := [(2, .int 1), (0, .ref (b + 405)), (1, .int 0)]) B dX9_goesOn_1 rfl (by decide) rfl ?_
  refine z_aload_n B dX9_goesOn_2 rfl 1 rfl ?_
  refine gf_X9_81 (x := (some (b + 428))) B (lKA (hk_K hK 405 rfl rfl)) (rR_at 405 42 hR_405_42) dX9_goesOn_3 ?_
  refine z_iconst (v := 0) B dX9_goesOn_6 (by decide) ?_
  refine z_iload_n B dX9_goesOn_7 rfl 2 rfl ?_
  refine z_iast (j := 0) (σ' := (ap b σ [(428, 0, 0)] [] [])) B (lKA (hk_K hK 428 rfl rfl)) (by decide) (in_of (lNA (hk_N hK 428 rfl rfl)) (show ¬ ((0 : Int32) < 0 ∨ 50 ≤ (0 : Int32).toNatClampNeg) by decide)) wI_ap dX9_goesOn_8 ?_
  refine z_iload_n B dX9_goesOn_9 rfl 0 rfl ?_
  refine z_if_le (tgt := 106) B dX9_goesOn_10 (by decide) (fun h => absurd h (by decide)) (fun _ => ?_)
  refine z_aload_n B dX9_goesOn_13 rfl 1 rfl ?_
  refine gf_X9_81 (x := (some (b + 428))) B (lKA (hk_K hK 405 rfl rfl)) (rR_at 405 42 hR_405_42) dX9_goesOn_14 ?_
  refine z_iload_n B dX9_goesOn_17 rfl 0 rfl ?_
  refine z_iconst (v := 1) B dX9_goesOn_18 (by decide) ?_
  refine z_isub B dX9_goesOn_19 ?_
  refine z_seti (y := 0) (by decide) ?_
  refine z_iald (j := 0) (x := 0) B (lKA (hk_K hK 428 rfl rfl)) (by decide) (in_of (lNA (hk_N hK 428 rfl rfl)) (show ¬ ((0 : Int32) < 0 ∨ 50 ≤ (0 : Int32).toNatClampNeg) by decide)) (rI_at 428 0 rfl) dX9_goesOn_20 ?_
  refine z_istore_n (lv' := [(3, .int 0), (2, .int 1), (0, .ref (b + 405)), (1, .int 0)]) B dX9_goesOn_21 rfl (by decide) rfl ?_
  refine z_aload_n B dX9_goesOn_22 rfl 2 rfl ?_
  refine gf_X9_32 (x := (some (b + 412))) B (lKA (hk_K hK 405 rfl rfl)) (rR_at 405 10 hR_405_10) dX9_goesOn_23 ?_
  refine z_iload_n B dX9_goesOn_26 rfl 0 rfl ?_
  refine z_iald (j := 0) (x := 0) B (lKA (hk_K hK 412 rfl rfl)) (by decide) (in_of (lNA (hk_N hK 412 rfl rfl)) (show ¬ ((0 : Int32) < 0 ∨ 41 ≤ (0 : Int32).toNatClampNeg) by decide)) (rI_at 412 0 hI_412_0) dX9_goesOn_27 ?_
  refine z_if_le (tgt := 35) B dX9_goesOn_28 (by decide) (fun _ => ?_) (fun h => absurd (by decide) h)
  refine z_aload_n B dX9_goesOn_35 rfl 2 rfl ?_
  refine z_iload_n B dX9_goesOn_36 rfl 0 rfl ?_
  refine z_aload_n B dX9_goesOn_37 rfl 2 rfl ?_
  refine gf_X9_35 (x := (some (b + 413))) B (lKA (hk_K hK 405 rfl rfl)) (rR_at 405 11 hR_405_11) dX9_goesOn_38 ?_
  refine z_iload_n B dX9_goesOn_41 rfl 0 rfl ?_
  refine z_iald (j := 0) (x := 1) B (lKA (hk_K hK 413 rfl rfl)) (by decide) (in_of (lNA (hk_N hK 413 rfl rfl)) (show ¬ ((0 : Int32) < 0 ∨ 41 ≤ (0 : Int32).toNatClampNeg) by decide)) (rI_at 413 0 hI_413_0) dX9_goesOn_42 ?_
  refine z_iconst (v := 1) B dX9_goesOn_43 (by decide) ?_
  refine z_cVi (As := [.int 0, .int 1, .int 1]) (rest := []) B cw_X9_216 cx_10 dX9_goesOn_44 (ci_X9_replays_845 l (σ := (ap b σ [(428, 0, 0)] [] [])) (b := b) (lyA hK) w1 (rI_at 406 100 hI_406_100) (rI_at 407 100 hI_407_100) (rI_at 409 0 hI_409_0) (rI_at 413 0 hI_413_0) (rI_at 416 0 hI_416_0) (rJ_at 417 0 hJ_417_0) (rR_at 405 3 hR_405_3) (rR_at 405 4 hR_405_4) (rR_at 405 7 hR_405_7) (rR_at 405 11 hR_405_11) (rR_at 405 14 hR_405_14) (rR_at 405 15 hR_405_15)) (lKA (hk_K hK 405 rfl rfl)) rfl (by decide) rfl (Nat.le_of_ble_eq_true rfl) (by decide) (fun r u hu => ?_)
  refine z_eqs (σ' := (ap b σ [(405, 26, 1), (405, 37, 1), (405, 27, 2), (413, 0, 2), (416, 1, 13), (405, 28, 1), (405, 38, 1), (405, 48, (-1)), (405, 27, 1), (405, 29, (w1.toInt32)), (405, 26, 1), (405, 47, 1), (405, 39, 0), (405, 38, 0), (405, 37, 0), (405, 36, 0), (405, 35, 0), (405, 34, 0), (405, 32, 0), (405, 31, 0), (405, 30, 0), (405, 29, 0), (405, 28, 0), (405, 27, 0), (405, 26, 1), (428, 0, 0)] [(417, 1, ((10 * ((w1.toInt32).toInt64)) + 1))] [])) (hu.2.trans ap_ap) ?_
  show zx p l e _ s m _ below meth c g 5 0 0 _ _ 47 [(3, .int 0), (2, .int 1), (0, .ref (b + 405)), (1, .int 0)] _
  refine z_seti (y := (-1)) hu.1 ?_
  refine z_istore (lv' := [(4, .int (-1)), (3, .int 0), (2, .int 1), (0, .ref (b + 405)), (1, .int 0)]) B dX9_goesOn_47 (by decide) rfl ?_
  refine z_iload B dX9_goesOn_49 0 rfl ?_
  refine z_iconst (v := (-1)) B dX9_goesOn_51 (by decide) ?_
  refine z_icmp_eq (tgt := 69) B dX9_goesOn_52 (by decide) (fun _ => ?_) (fun h => absurd (by decide) h)
  refine z_iinc (v := 0) (lv' := [(2, .int 0), (4, .int (-1)), (3, .int 0), (0, .ref (b + 405)), (1, .int 0)]) B dX9_goesOn_69 2 rfl (by decide) (by decide) rfl ?_
  refine z_aload_n B dX9_goesOn_72 rfl 3 rfl ?_
  refine gf_X9_32 (x := (some (b + 412))) B (lKA (hk_K hK 405 rfl rfl)) (rR_at 405 10 hR_405_10) dX9_goesOn_73 ?_
  refine z_iload_n B dX9_goesOn_76 rfl 2 rfl ?_
  refine z_iald (j := 0) (x := 0) B (lKA (hk_K hK 412 rfl rfl)) (by decide) (in_of (lNA (hk_N hK 412 rfl rfl)) (show ¬ ((0 : Int32) < 0 ∨ 41 ≤ (0 : Int32).toNatClampNeg) by decide)) (rI_at 412 0 hI_412_0) dX9_goesOn_77 ?_
  refine z_if_ne (tgt := 103) B dX9_goesOn_78 (by decide) (fun h => absurd (by decide) h) (fun _ => ?_)
  refine z_aload_n B dX9_goesOn_81 rfl 3 rfl ?_
  refine gf_X9_103 (x := 1) B (lKA (hk_K hK 405 rfl rfl)) (rI_at 405 26 rfl) dX9_goesOn_82 ?_
  refine z_if_eq (tgt := 103) B dX9_goesOn_85 (by decide) (fun h => absurd h (by decide)) (fun _ => ?_)
  refine z_aload_n B dX9_goesOn_88 rfl 3 rfl ?_
  refine gf_X9_38 (x := (some (b + 414))) B (lKA (hk_K hK 405 rfl rfl)) (rR_at 405 12 hR_405_12) dX9_goesOn_89 ?_
  refine z_iload_n B dX9_goesOn_92 rfl 2 rfl ?_
  refine z_aload_n B dX9_goesOn_93 rfl 3 rfl ?_
  refine gf_X9_107 (x := 2) B (lKA (hk_K hK 405 rfl rfl)) (rI_at 405 27 rfl) dX9_goesOn_94 ?_
  refine z_iast (j := 0) (σ' := (ap b σ [(414, 0, 2), (405, 26, 1), (405, 37, 1), (405, 27, 2), (413, 0, 2), (416, 1, 13), (405, 28, 1), (405, 38, 1), (405, 48, (-1)), (405, 27, 1), (405, 29, (w1.toInt32)), (405, 26, 1), (405, 47, 1), (405, 39, 0), (405, 38, 0), (405, 37, 0), (405, 36, 0), (405, 35, 0), (405, 34, 0), (405, 32, 0), (405, 31, 0), (405, 30, 0), (405, 29, 0), (405, 28, 0), (405, 27, 0), (405, 26, 1), (428, 0, 0)] [(417, 1, ((10 * ((w1.toInt32).toInt64)) + 1))] [])) B (lKA (hk_K hK 414 rfl rfl)) (by decide) (in_of (lNA (hk_N hK 414 rfl rfl)) (show ¬ ((0 : Int32) < 0 ∨ 41 ≤ (0 : Int32).toNatClampNeg) by decide)) wI_ap dX9_goesOn_97 ?_
  refine z_aload_n B dX9_goesOn_98 rfl 3 rfl ?_
  refine z_iload_n B dX9_goesOn_99 rfl 2 rfl ?_
  refine z_cVv (As := [.int 0]) (rest := []) B cw_X9_220 cx_10 dX9_goesOn_100 (ci_X9_rests_712 l (σ := (ap b σ [(414, 0, 2), (405, 26, 1), (405, 37, 1), (405, 27, 2), (413, 0, 2), (416, 1, 13), (405, 28, 1), (405, 38, 1), (405, 48, (-1)), (405, 27, 1), (405, 29, (w1.toInt32)), (405, 26, 1), (405, 47, 1), (405, 39, 0), (405, 38, 0), (405, 37, 0), (405, 36, 0), (405, 35, 0), (405, 34, 0), (405, 32, 0), (405, 31, 0), (405, 30, 0), (405, 29, 0), (405, 28, 0), (405, 27, 0), (405, 26, 1), (428, 0, 0)] [(417, 1, ((10 * ((w1.toInt32).toInt64)) + 1))] [])) (b := b) (lyA hK) (w1.toInt32) (rI_at 405 16 hI_405_16) (rI_at 405 29 rfl) (rI_at 405 30 rfl) (rI_at 405 37 rfl) (rI_at 410 0 hI_410_0) (rR_at 405 8 hR_405_8) (rR_at 405 10 hR_405_10)) (lKA (hk_K hK 405 rfl rfl)) rfl (by decide) rfl (Nat.le_of_ble_eq_true rfl) (by decide) (fun u hu => ?_)
  refine z_eqs (σ' := (ap b σ [(412, 0, 1), (414, 0, 2), (405, 26, 1), (405, 37, 1), (405, 27, 2), (413, 0, 2), (416, 1, 13), (405, 28, 1), (405, 38, 1), (405, 48, (-1)), (405, 27, 1), (405, 29, (w1.toInt32)), (405, 26, 1), (405, 47, 1), (405, 39, 0), (405, 38, 0), (405, 37, 0), (405, 36, 0), (405, 35, 0), (405, 34, 0), (405, 32, 0), (405, 31, 0), (405, 30, 0), (405, 29, 0), (405, 28, 0), (405, 27, 0), (405, 26, 1), (428, 0, 0)] [(417, 1, ((10 * ((w1.toInt32).toInt64)) + 1))] [])) (hu.trans ap_ap) ?_
  show zx p l e _ s m _ below meth c g 5 0 0 _ _ 103 [(2, .int 0), (4, .int (-1)), (3, .int 0), (0, .ref (b + 405)), (1, .int 0)] _
  refine z_goto (tgt := 9) B dX9_goesOn_103 (by decide) ?_
  refine z_iload_n B dX9_goesOn_9 rfl 0 rfl ?_
  refine z_if_le (tgt := 106) B dX9_goesOn_10 (by decide) (fun _ => ?_) (fun h => absurd (by decide) h)
  exact z_vret B hr (by decide) (by decide) dX9_goesOn_106 rfl
set_option maxRecDepth 100000 in
set_option maxHeartbeats 4000000 in
theorem ci_X9_runs_847 (l : Launch) {g : gx_T} {σ : sx_T} {b : Nat} (hK : lay b σ) (w1 : Int64)  (hI_405_16 : sx_I σ (b + 405) 16 = 0) (hI_406_100 : sx_I σ (b + 406) 100 = 0) (hI_407_100 : sx_I σ (b + 407) 100 = 0) (hI_409_0 : sx_I σ (b + 409) 0 = 5) (hI_410_0 : sx_I σ (b + 410) 0 = (-1)) (hI_412_0 : sx_I σ (b + 412) 0 = 0) (hI_413_0 : sx_I σ (b + 413) 0 = 1) (hI_416_0 : sx_I σ (b + 416) 0 = 0) (hJ_417_0 : sx_J σ (b + 417) 0 = w1) (hR_405_3 : sx_R σ (b + 405) 3 = (some (b + 406))) (hR_405_4 : sx_R σ (b + 405) 4 = (some (b + 407))) (hR_405_7 : sx_R σ (b + 405) 7 = (some (b + 409))) (hR_405_8 : sx_R σ (b + 405) 8 = (some (b + 410))) (hR_405_10 : sx_R σ (b + 405) 10 = (some (b + 412))) (hR_405_11 : sx_R σ (b + 405) 11 = (some (b + 413))) (hR_405_12 : sx_R σ (b + 405) 12 = (some (b + 414))) (hR_405_14 : sx_R σ (b + 405) 14 = (some (b + 416))) (hR_405_15 : sx_R σ (b + 405) 15 = (some (b + 417))) (hR_405_42 : sx_R σ (b + 405) 42 = (some (b + 428))) : Met l yX9_runs (.code yX9_runs cX9_runs 5 none :: lw_g) { frames := 5, cells := 0, slots := 0, locals := 130 } (va_Pc [.ref (b + 405), .int 0] (zx_w g σ)) (va_Qv (fun u => u = (ap b σ [(412, 0, 1), (414, 0, 2), (405, 26, 1), (405, 37, 1), (405, 27, 2), (413, 0, 2), (416, 1, 13), (405, 28, 1), (405, 38, 1), (405, 48, (-1)), (405, 27, 1), (405, 29, (w1.toInt32)), (405, 26, 1), (405, 47, 1), (405, 39, 0), (405, 38, 0), (405, 37, 0), (405, 36, 0), (405, 35, 0), (405, 34, 0), (405, 32, 0), (405, 31, 0), (405, 30, 0), (405, 29, 0), (405, 28, 0), (405, 27, 0), (405, 26, 1), (428, 0, 0), (405, 45, 0), (405, 43, 0)] [(417, 1, ((10 * ((w1.toInt32).toInt64)) + 1))] [])) (zx_w g) (gx_Q g)) 0 0 (gx_Q g) := by
  refine z_met (by decide) (Nat.le_of_ble_eq_true rfl) (fun p e s m below meth c B hr hin => ?_)
  refine z_eqs (σ' := (ap b σ [] [] [])) rfl ?_
  show zx p l e _ s m _ below meth c g 5 0 0 _ _ 0 [(0, .ref (b + 405)), (1, .int 0)] []
  refine z_aload_n B dX9_runs_0 rfl 0 rfl ?_
  refine z_iconst (v := 0) B dX9_runs_1 (by decide) ?_
  refine pf_X9_226 (x := 0) (σ' := (ap b σ [(405, 43, 0)] [] [])) B (lKA (hk_K hK 405 rfl rfl)) wI_ap dX9_runs_2 ?_
  refine z_aload_n B dX9_runs_5 rfl 0 rfl ?_
  refine z_iconst (v := 0) B dX9_runs_6 (by decide) ?_
  refine pf_X9_159 (x := 0) (σ' := (ap b σ [(405, 45, 0), (405, 43, 0)] [] [])) B (lKA (hk_K hK 405 rfl rfl)) wI_ap dX9_runs_7 ?_
  refine z_aload_n B dX9_runs_10 rfl 0 rfl ?_
  refine z_iload_n B dX9_runs_11 rfl 1 rfl ?_
  refine z_cVv (As := [.int 0]) (rest := []) B cw_X9_229 cx_10 dX9_runs_12 (ci_X9_goesOn_846 l (σ := (ap b σ [(405, 45, 0), (405, 43, 0)] [] [])) (b := b) (lyA hK) w1 (rI_at 405 16 hI_405_16) (rI_at 406 100 hI_406_100) (rI_at 407 100 hI_407_100) (rI_at 409 0 hI_409_0) (rI_at 410 0 hI_410_0) (rI_at 412 0 hI_412_0) (rI_at 413 0 hI_413_0) (rI_at 416 0 hI_416_0) (rJ_at 417 0 hJ_417_0) (rR_at 405 3 hR_405_3) (rR_at 405 4 hR_405_4) (rR_at 405 7 hR_405_7) (rR_at 405 8 hR_405_8) (rR_at 405 10 hR_405_10) (rR_at 405 11 hR_405_11) (rR_at 405 12 hR_405_12) (rR_at 405 14 hR_405_14) (rR_at 405 15 hR_405_15) (rR_at 405 42 hR_405_42)) (lKA (hk_K hK 405 rfl rfl)) rfl (by decide) rfl (Nat.le_of_ble_eq_true rfl) (by decide) (fun u hu => ?_)
  refine z_eqs (σ' := (ap b σ [(412, 0, 1), (414, 0, 2), (405, 26, 1), (405, 37, 1), (405, 27, 2), (413, 0, 2), (416, 1, 13), (405, 28, 1), (405, 38, 1), (405, 48, (-1)), (405, 27, 1), (405, 29, (w1.toInt32)), (405, 26, 1), (405, 47, 1), (405, 39, 0), (405, 38, 0), (405, 37, 0), (405, 36, 0), (405, 35, 0), (405, 34, 0), (405, 32, 0), (405, 31, 0), (405, 30, 0), (405, 29, 0), (405, 28, 0), (405, 27, 0), (405, 26, 1), (428, 0, 0), (405, 45, 0), (405, 43, 0)] [(417, 1, ((10 * ((w1.toInt32).toInt64)) + 1))] [])) (hu.trans ap_ap) ?_
  show zx p l e _ s m _ below meth c g 5 0 0 _ _ 15 [(0, .ref (b + 405)), (1, .int 0)] _
  refine z_iconst (v := 0) B dX9_runs_15 (by decide) ?_
  refine z_istore_n (lv' := [(2, .int 0), (0, .ref (b + 405)), (1, .int 0)]) B dX9_runs_16 rfl (by decide) rfl ?_
  refine z_iconst (v := 0) B dX9_runs_17 (by decide) ?_
  refine z_istore_n (lv' := [(3, .int 0), (2, .int 0), (0, .ref (b + 405)), (1, .int 0)]) B dX9_runs_18 rfl (by decide) rfl ?_
  refine z_iload_n B dX9_runs_19 rfl 1 rfl ?_
  refine z_aload_n B dX9_runs_20 rfl 2 rfl ?_
  refine gf_X9_226 (x := 0) B (lKA (hk_K hK 405 rfl rfl)) (rI_at 405 43 rfl) dX9_runs_21 ?_
  refine z_icmp_lt (tgt := 35) B dX9_runs_24 (by decide) (fun h => absurd h (by decide)) (fun _ => ?_)
  refine z_iload_n B dX9_runs_27 rfl 0 rfl ?_
  refine z_aload_n B dX9_runs_28 rfl 2 rfl ?_
  refine gf_X9_159 (x := 0) B (lKA (hk_K hK 405 rfl rfl)) (rI_at 405 45 rfl) dX9_runs_29 ?_
  refine z_icmp_ge (tgt := 90) B dX9_runs_32 (by decide) (fun _ => ?_) (fun h => absurd (by decide) h)
  exact z_vret B hr (by decide) (by decide) dX9_runs_90 rfl
set_option maxRecDepth 100000 in
set_option maxHeartbeats 4000000 in
theorem ci_X9_start_848 (l : Launch) {g : gx_T} {σ : sx_T} {b : Nat} (hK : lay b σ) (w1 : Int32) (q1_w1 : (-999 : Int) ≤ w1.toInt) (q2_w1 : w1.toInt ≤ (-1 : Int)) (hI_405_6 : sx_I σ (b + 405) 6 = 0) (hI_405_16 : sx_I σ (b + 405) 16 = 0) (hI_406_100 : sx_I σ (b + 406) 100 = 0) (hI_407_100 : sx_I σ (b + 407) 100 = 0) (hI_412_0 : sx_I σ (b + 412) 0 = 0) (hI_413_0 : sx_I σ (b + 413) 0 = 0) (hR_405_3 : sx_R σ (b + 405) 3 = (some (b + 406))) (hR_405_4 : sx_R σ (b + 405) 4 = (some (b + 407))) (hR_405_7 : sx_R σ (b + 405) 7 = (some (b + 409))) (hR_405_8 : sx_R σ (b + 405) 8 = (some (b + 410))) (hR_405_9 : sx_R σ (b + 405) 9 = (some (b + 411))) (hR_405_10 : sx_R σ (b + 405) 10 = (some (b + 412))) (hR_405_11 : sx_R σ (b + 405) 11 = (some (b + 413))) (hR_405_12 : sx_R σ (b + 405) 12 = (some (b + 414))) (hR_405_13 : sx_R σ (b + 405) 13 = (some (b + 415))) (hR_405_14 : sx_R σ (b + 405) 14 = (some (b + 416))) (hR_405_15 : sx_R σ (b + 405) 15 = (some (b + 417))) (hR_405_42 : sx_R σ (b + 405) 42 = (some (b + 428))) : Met l yX9_start (.code yX9_start cX9_start 4 (some .int) :: lw_g) { frames := 6, cells := 0, slots := 0, locals := 154 } (va_Pc [.ref (b + 405), .int 5, .int w1] (zx_w g σ)) (va_Qi (fun r u => r = 0 ∧ u = (ap b σ [(412, 0, 1), (414, 0, 2), (405, 26, 1), (405, 37, 1), (405, 27, 2), (413, 0, 2), (416, 1, 13), (405, 28, 1), (405, 38, 1), (405, 48, (-1)), (405, 27, 1), (405, 29, ((w1.toInt64).toInt32)), (405, 26, 1), (405, 47, 1), (405, 39, 0), (405, 38, 0), (405, 37, 0), (405, 36, 0), (405, 35, 0), (405, 34, 0), (405, 32, 0), (405, 31, 0), (405, 30, 0), (405, 29, 0), (405, 28, 0), (405, 27, 0), (405, 26, 1), (428, 0, 0), (405, 45, 0), (405, 43, 0), (413, 0, 1), (416, 0, 0), (415, 0, (-1)), (411, 0, 0), (410, 0, (-1)), (409, 0, 5), (405, 6, 1), (405, 0, 0)] [(417, 1, ((10 * (((w1.toInt64).toInt32).toInt64)) + 1)), (417, 0, (w1.toInt64))] [])) (zx_w g) (gx_Q g)) 0 0 (gx_Q g) := by
  refine z_met (by decide) (Nat.le_of_ble_eq_true rfl) (fun p e s m below meth c B hr hin => ?_)
  refine z_eqs (σ' := (ap b σ [] [] [])) rfl ?_
  show zx p l e _ s m _ below meth c g 4 0 0 _ _ 0 [(0, .ref (b + 405)), (1, .int 5), (2, .int w1)] []
  refine z_aload_n B dX9_start_0 rfl 0 rfl ?_
  refine z_iload_n B dX9_start_1 rfl 1 rfl ?_
  refine z_iconst (v := 0) B dX9_start_2 (by decide) ?_
  refine z_iconst (v := 5) B dX9_start_3 (by decide) ?_
  refine z_cSi (As := [.int 5, .int 0, .int 5]) (rest := [.ref (b + 405)]) B cw_X9_96 dX9_start_4 (ci_X9_in_321 l (σ := (ap b σ [] [] [])) (b := b) (lyA hK) ) rfl (by decide) rfl (Nat.le_of_ble_eq_true rfl) (by decide) (fun r u hu => ?_)
  refine z_eqs (σ' := (ap b σ [] [] [])) hu.2 ?_
  show zx p l e _ s m _ below meth c g 4 0 0 _ _ 7 [(0, .ref (b + 405)), (1, .int 5), (2, .int w1)] _
  refine z_seti (y := 1) hu.1 ?_
  refine z_iload_n B dX9_start_7 rfl 2 rfl ?_
  refine z_sipush (v := (-999)) B dX9_start_8 (by decide) ?_
  refine z_sipush (v := 999) B dX9_start_11 (by decide) ?_
  refine z_cSi (As := [.int w1, .int (-999), .int 999]) (rest := [.int 1, .ref (b + 405)]) B cw_X9_96 dX9_start_14 (ci_X9_in_702 l (σ := (ap b σ [] [] [])) (b := b) (lyA hK) w1 q1_w1 q2_w1) rfl (by decide) rfl (Nat.le_of_ble_eq_true rfl) (by decide) (fun r u hu => ?_)
  refine z_eqs (σ' := (ap b σ [] [] [])) hu.2 ?_
  show zx p l e _ s m _ below meth c g 4 0 0 _ _ 17 [(0, .ref (b + 405)), (1, .int 5), (2, .int w1)] _
  refine z_seti (y := 1) hu.1 ?_
  refine z_aload_n B dX9_start_17 rfl 0 rfl ?_
  refine gf_X9_93 (x := 0) B (lKA (hk_K hK 405 rfl rfl)) (rI_at 405 6 hI_405_6) dX9_start_18 ?_
  refine z_bipush (v := 40) B dX9_start_21 (by decide) ?_
  refine z_icmp_ge (tgt := 30) B dX9_start_23 (by decide) (fun h => absurd h (by decide)) (fun _ => ?_)
  refine z_iconst (v := 1) B dX9_start_26 (by decide) ?_
  refine z_goto (tgt := 31) B dX9_start_27 (by decide) ?_
  refine z_cVi (As := [.int 1, .int 1, .int 1]) (rest := []) B cw_X9_259 cx_10 dX9_start_31 (ci_X9_needs___703 l (σ := (ap b σ [] [] [])) (b := b) (lyA hK) ) (lKA (hk_K hK 405 rfl rfl)) rfl (by decide) rfl (Nat.le_of_ble_eq_true rfl) (by decide) (fun r u hu => ?_)
  refine z_eqs (σ' := (ap b σ [(405, 0, 0)] [] [])) (hu.2.trans ap_ap) ?_
  show zx p l e _ s m _ below meth c g 4 0 0 _ _ 34 [(0, .ref (b + 405)), (1, .int 5), (2, .int w1)] _
  refine z_seti (y := 1) hu.1 ?_
  refine z_if_ne (tgt := 39) B dX9_start_34 (by decide) (fun _ => ?_) (fun h => absurd h (by decide))
  refine z_aload_n B dX9_start_39 rfl 0 rfl ?_
  refine z_iload_n B dX9_start_40 rfl 1 rfl ?_
  refine z_iload_n B dX9_start_41 rfl 2 rfl ?_
  refine z_iconst (v := (-1)) B dX9_start_42 (by decide) ?_
  refine z_iconst (v := (-1)) B dX9_start_43 (by decide) ?_
  refine z_cVi (As := [.int 5, .int w1, .int (-1), .int (-1)]) (rest := []) B cw_X9_168 cx_10 dX9_start_44 (ci_X9_begets_843 l (σ := (ap b σ [(405, 0, 0)] [] [])) (b := b) (lyA hK) w1 (rI_at 405 6 hI_405_6) (rI_at 413 0 hI_413_0) (rR_at 405 7 hR_405_7) (rR_at 405 8 hR_405_8) (rR_at 405 9 hR_405_9) (rR_at 405 11 hR_405_11) (rR_at 405 13 hR_405_13) (rR_at 405 14 hR_405_14) (rR_at 405 15 hR_405_15)) (lKA (hk_K hK 405 rfl rfl)) rfl (by decide) rfl (Nat.le_of_ble_eq_true rfl) (by decide) (fun r u hu => ?_)
  refine z_eqs (σ' := (ap b σ [(413, 0, 1), (416, 0, 0), (415, 0, (-1)), (411, 0, 0), (410, 0, (-1)), (409, 0, 5), (405, 6, 1), (405, 0, 0)] [(417, 0, (w1.toInt64))] [])) (hu.2.trans ap_ap) ?_
  show zx p l e _ s m _ below meth c g 4 0 0 _ _ 47 [(0, .ref (b + 405)), (1, .int 5), (2, .int w1)] _
  refine z_seti (y := 0) hu.1 ?_
  refine z_istore_n (lv' := [(3, .int 0), (0, .ref (b + 405)), (1, .int 5), (2, .int w1)]) B dX9_start_47 rfl (by decide) rfl ?_
  refine z_aload_n B dX9_start_48 rfl 1 rfl ?_
  refine z_iload_n B dX9_start_49 rfl 0 rfl ?_
  refine z_cVv (As := [.int 0]) (rest := []) B cw_X9_253 cx_10 dX9_start_50 (ci_X9_runs_847 l (σ := (ap b σ [(413, 0, 1), (416, 0, 0), (415, 0, (-1)), (411, 0, 0), (410, 0, (-1)), (409, 0, 5), (405, 6, 1), (405, 0, 0)] [(417, 0, (w1.toInt64))] [])) (b := b) (lyA hK) (w1.toInt64) (rI_at 405 16 hI_405_16) (rI_at 406 100 hI_406_100) (rI_at 407 100 hI_407_100) (rI_at 409 0 rfl) (rI_at 410 0 rfl) (rI_at 412 0 hI_412_0) (rI_at 413 0 rfl) (rI_at 416 0 rfl) (rJ_at 417 0 rfl) (rR_at 405 3 hR_405_3) (rR_at 405 4 hR_405_4) (rR_at 405 7 hR_405_7) (rR_at 405 8 hR_405_8) (rR_at 405 10 hR_405_10) (rR_at 405 11 hR_405_11) (rR_at 405 12 hR_405_12) (rR_at 405 14 hR_405_14) (rR_at 405 15 hR_405_15) (rR_at 405 42 hR_405_42)) (lKA (hk_K hK 405 rfl rfl)) rfl (by decide) rfl (Nat.le_of_ble_eq_true rfl) (by decide) (fun u hu => ?_)
  refine z_eqs (σ' := (ap b σ [(412, 0, 1), (414, 0, 2), (405, 26, 1), (405, 37, 1), (405, 27, 2), (413, 0, 2), (416, 1, 13), (405, 28, 1), (405, 38, 1), (405, 48, (-1)), (405, 27, 1), (405, 29, ((w1.toInt64).toInt32)), (405, 26, 1), (405, 47, 1), (405, 39, 0), (405, 38, 0), (405, 37, 0), (405, 36, 0), (405, 35, 0), (405, 34, 0), (405, 32, 0), (405, 31, 0), (405, 30, 0), (405, 29, 0), (405, 28, 0), (405, 27, 0), (405, 26, 1), (428, 0, 0), (405, 45, 0), (405, 43, 0), (413, 0, 1), (416, 0, 0), (415, 0, (-1)), (411, 0, 0), (410, 0, (-1)), (409, 0, 5), (405, 6, 1), (405, 0, 0)] [(417, 1, ((10 * (((w1.toInt64).toInt32).toInt64)) + 1)), (417, 0, (w1.toInt64))] [])) (hu.trans ap_ap) ?_
  show zx p l e _ s m _ below meth c g 4 0 0 _ _ 53 [(3, .int 0), (0, .ref (b + 405)), (1, .int 5), (2, .int w1)] _
  refine z_iload_n B dX9_start_53 rfl 0 rfl ?_
  exact z_iret B hr (by decide) (by decide) dX9_start_54 ⟨rfl, rfl⟩
set_option maxRecDepth 100000 in
set_option maxHeartbeats 4000000 in
theorem ci_X8_goOn_849 (l : Launch) {g : gx_T} {σ : sx_T} {b : Nat} (hK : lay b σ) (w1 : Int32) (q1_w1 : (0 : Int) ≤ w1.toInt) (q2_w1 : w1.toInt ≤ (999 : Int)) (hI_5_1 : sx_I σ (b + 5) 1 = 0) (hI_5_2 : sx_I σ (b + 5) 2 = 0) (hI_7_1 : sx_I σ (b + 7) 1 = 0) (hI_7_2 : sx_I σ (b + 7) 2 = 0) (hI_30_0 : sx_I σ (b + 30) 0 = 0) (hI_31_0 : sx_I σ (b + 31) 0 = 0) (hI_32_0 : sx_I σ (b + 32) 0 = 0) (hI_37_2 : sx_I σ (b + 37) 2 = 1) (hI_40_4 : sx_I σ (b + 40) 4 = (-1)) (hI_40_8 : sx_I σ (b + 40) 8 = 0) (hI_41_4 : sx_I σ (b + 41) 4 = 1) (hI_41_5 : sx_I σ (b + 41) 5 = 0) (hI_41_6 : sx_I σ (b + 41) 6 = w1) (hI_41_7 : sx_I σ (b + 41) 7 = 0) (hI_41_8 : sx_I σ (b + 41) 8 = 0) (hI_41_14 : sx_I σ (b + 41) 14 = 0) (hI_41_15 : sx_I σ (b + 41) 15 = 0) (hI_41_16 : sx_I σ (b + 41) 16 = (-1)) (hI_41_18 : sx_I σ (b + 41) 18 = (-1)) (hI_41_19 : sx_I σ (b + 41) 19 = 0) (hR_0_4 : sx_R σ (b + 0) 4 = (some (b + 5))) (hR_0_5 : sx_R σ (b + 0) 5 = (some (b + 7))) (hR_5_0 : sx_R σ (b + 5) 0 = (some (b + 6))) (hR_29_1 : sx_R σ (b + 29) 1 = (some (b + 30))) (hR_29_2 : sx_R σ (b + 29) 2 = (some (b + 31))) (hR_29_3 : sx_R σ (b + 29) 3 = (some (b + 32))) (hR_37_0 : sx_R σ (b + 37) 0 = (some (b + 38))) (hR_37_1 : sx_R σ (b + 37) 1 = (some (b + 39))) (hR_40_1 : sx_R σ (b + 40) 1 = (some (b + 37))) (hR_40_2 : sx_R σ (b + 40) 2 = (some (b + 41))) (hR_40_7 : sx_R σ (b + 40) 7 = none) (hR_41_2 : sx_R σ (b + 41) 2 = (some (b + 29))) (hR_41_3 : sx_R σ (b + 41) 3 = (some (b + 37))) : Met l yX8_goOn (.code yX8_goOn cX8_goOn 5 none :: lw_g) { frames := 3, cells := 0, slots := 0, locals := 72 } (va_Pc [.ref (b + 0), .ref (b + 40)] (zx_w g σ)) (va_Qv (fun u => u = (ap b σ [(7, 2, 0), (7, 1, 0), (40, 8, 2), (5, 2, 0), (41, 19, 0), (41, 19, 0), (41, 15, 1), (41, 4, 2), (41, 16, (-1)), (37, 2, 2), (38, 1, 13), (41, 16, 13), (41, 7, 1), (41, 5, 1), (5, 2, 1)] [(39, 1, ((10 * (w1.toInt64)) + 1)), (41, 17, ((10 * (w1.toInt64)) + 1))] [(6, 0, (some (b + 40)))])) (zx_w g) (gx_Q g)) 0 0 (gx_Q g) := by
  refine z_met (by decide) (Nat.le_of_ble_eq_true rfl) (fun p e s m below meth c B hr hin => ?_)
  refine z_eqs (σ' := (ap b σ [] [] [])) rfl ?_
  show zx p l e _ s m _ below meth c g 5 0 0 _ _ 0 [(0, .ref (b + 0)), (1, .ref (b + 40))] []
  refine z_aload_n B dX8_goOn_0 rfl 0 rfl ?_
  refine gf_X8_35 (x := (some (b + 5))) B (lKA (hk_K hK 0 rfl rfl)) (rR_at 0 4 hR_0_4) dX8_goOn_1 ?_
  refine z_aload_n B dX8_goOn_4 rfl 1 rfl ?_
  refine z_cVv (As := [.ref (b + 40)]) (rest := []) B cw_X8_337 cx_3 dX8_goOn_5 (ci_X2_addLast_667 l (σ := (ap b σ [] [] [])) (b := b) (lyA hK) (rI_at 5 2 hI_5_2) (rR_at 5 0 hR_5_0)) (lKA (hk_K hK 5 rfl rfl)) rfl (by decide) rfl (Nat.le_of_ble_eq_true rfl) (by decide) (fun u hu => ?_)
  refine z_eqs (σ' := (ap b σ [(5, 2, 1)] [] [(6, 0, (some (b + 40)))])) (hu.trans ap_ap) ?_
  show zx p l e _ s m _ below meth c g 5 0 0 _ _ 8 [(0, .ref (b + 0)), (1, .ref (b + 40))] _
  refine z_iconst (v := 0) B dX8_goOn_8 (by decide) ?_
  refine z_istore_n (lv' := [(2, .int 0), (0, .ref (b + 0)), (1, .ref (b + 40))]) B dX8_goOn_9 rfl (by decide) rfl ?_
  refine z_iload_n B dX8_goOn_10 rfl 0 rfl ?_
  refine z_ldcw (v := 1000000) B dX8_goOn_11 wg_515 ?_
  refine z_icmp_ge (tgt := 126) B dX8_goOn_14 (by decide) (fun h => absurd h (by decide)) (fun _ => ?_)
  refine z_aload_n B dX8_goOn_17 rfl 1 rfl ?_
  refine gf_X8_35 (x := (some (b + 5))) B (lKA (hk_K hK 0 rfl rfl)) (rR_at 0 4 hR_0_4) dX8_goOn_18 ?_
  refine z_cVi (As := []) (rest := []) B cw_X8_341 cx_3 dX8_goOn_21 (ci_X2_isEmpty_668 l (σ := (ap b σ [(5, 2, 1)] [] [(6, 0, (some (b + 40)))])) (b := b) (lyA hK) (rI_at 5 1 hI_5_1) (rI_at 5 2 rfl)) (lKA (hk_K hK 5 rfl rfl)) rfl (by decide) rfl (Nat.le_of_ble_eq_true rfl) (by decide) (fun r u hu => ?_)
  refine z_eqs (σ' := (ap b σ [(5, 2, 1)] [] [(6, 0, (some (b + 40)))])) hu.2 ?_
  show zx p l e _ s m _ below meth c g 5 0 0 _ _ 24 [(2, .int 0), (0, .ref (b + 0)), (1, .ref (b + 40))] _
  refine z_seti (y := 0) hu.1 ?_
  refine z_if_eq (tgt := 41) B dX8_goOn_24 (by decide) (fun _ => ?_) (fun h => absurd (by decide) h)
  refine z_aload_n B dX8_goOn_41 rfl 1 rfl ?_
  refine gf_X8_35 (x := (some (b + 5))) B (lKA (hk_K hK 0 rfl rfl)) (rR_at 0 4 hR_0_4) dX8_goOn_42 ?_
  refine z_cVq (As := []) (rest := []) B cw_X8_348 cx_3 dX8_goOn_45 (ci_X2_last_669 l (σ := (ap b σ [(5, 2, 1)] [] [(6, 0, (some (b + 40)))])) (b := b) (lyA hK) (rI_at 5 1 hI_5_1) (rI_at 5 2 rfl) (rR_at 5 0 hR_5_0) (rR_at 6 0 rfl)) (lKA (hk_K hK 5 rfl rfl)) rfl (by decide) rfl (Nat.le_of_ble_eq_true rfl) (by decide) (fun r u hu => ?_)
  refine z_eqs (σ' := (ap b σ [(5, 2, 1)] [] [(6, 0, (some (b + 40)))])) hu.2 ?_
  show zx p l e _ s m _ below meth c g 5 0 0 _ _ 48 [(2, .int 0), (0, .ref (b + 0)), (1, .ref (b + 40))] _
  refine z_setr (y := (some (b + 40))) hu.1 ?_
  refine z_astore_n (lv' := [(3, .ref (b + 40)), (2, .int 0), (0, .ref (b + 0)), (1, .ref (b + 40))]) B dX8_goOn_48 rfl (by decide) rfl ?_
  refine z_aload_n B dX8_goOn_49 rfl 0 rfl ?_
  refine z_ifnonnull (r := (some (b + 40))) (tgt := 54) B dX8_goOn_50 (by decide) (fun _ _ => ?_) (fun h => nomatch h)
  refine z_aload_n B dX8_goOn_54 rfl 0 rfl ?_
  refine gf_X8_249 (x := (some (b + 41))) B (lKA (hk_K hK 40 rfl rfl)) (rR_at 40 2 hR_40_2) dX8_goOn_55 ?_
  refine z_aload_n B dX8_goOn_58 rfl 0 rfl ?_
  refine gf_X8_179 (x := (some (b + 37))) B (lKA (hk_K hK 40 rfl rfl)) (rR_at 40 1 hR_40_1) dX8_goOn_59 ?_
  refine z_cVi (As := []) (rest := [.ref (b + 41)]) B cw_X8_183 cx_2 dX8_goOn_62 (ci_X1_size_670 l (σ := (ap b σ [(5, 2, 1)] [] [(6, 0, (some (b + 40)))])) (b := b) (lyA hK) (rI_at 37 2 hI_37_2)) (lKA (hk_K hK 37 rfl rfl)) rfl (by decide) rfl (Nat.le_of_ble_eq_true rfl) (by decide) (fun r u hu => ?_)
  refine z_eqs (σ' := (ap b σ [(5, 2, 1)] [] [(6, 0, (some (b + 40)))])) hu.2 ?_
  show zx p l e _ s m _ below meth c g 5 0 0 _ _ 65 [(3, .ref (b + 40)), (2, .int 0), (0, .ref (b + 0)), (1, .ref (b + 40))] _
  refine z_seti (y := 1) hu.1 ?_
  refine z_cVv (As := [.int 1]) (rest := []) B cw_X8_289 cx_6 dX8_goOn_65 (ci_X5_advance_839 l (σ := (ap b σ [(5, 2, 1)] [] [(6, 0, (some (b + 40)))])) (b := b) (lyA hK) w1 (rI_at 30 0 hI_30_0) (rI_at 31 0 hI_31_0) (rI_at 32 0 hI_32_0) (rI_at 41 4 hI_41_4) (rI_at 41 5 hI_41_5) (rI_at 41 6 hI_41_6) (rI_at 41 7 hI_41_7) (rI_at 41 8 hI_41_8) (rI_at 41 14 hI_41_14) (rI_at 41 15 hI_41_15) (rI_at 41 16 hI_41_16) (rI_at 41 19 hI_41_19) (rR_at 29 1 hR_29_1) (rR_at 29 2 hR_29_2) (rR_at 29 3 hR_29_3) (rR_at 41 2 hR_41_2)) (lKA (hk_K hK 41 rfl rfl)) rfl (by decide) rfl (Nat.le_of_ble_eq_true rfl) (by decide) (fun u hu => ?_)
  refine z_eqs (σ' := (ap b σ [(41, 16, 13), (41, 7, 1), (41, 5, 1), (5, 2, 1)] [(41, 17, ((10 * (w1.toInt64)) + 1))] [(6, 0, (some (b + 40)))])) (hu.trans ap_ap) ?_
  show zx p l e _ s m _ below meth c g 5 0 0 _ _ 68 [(3, .ref (b + 40)), (2, .int 0), (0, .ref (b + 0)), (1, .ref (b + 40))] _
  refine z_aload_n B dX8_goOn_68 rfl 0 rfl ?_
  refine z_cVv (As := []) (rest := []) B cw_X8_351 cx_1 dX8_goOn_69 (ci_X0_letGo_679 l (σ := (ap b σ [(41, 16, 13), (41, 7, 1), (41, 5, 1), (5, 2, 1)] [(41, 17, ((10 * (w1.toInt64)) + 1))] [(6, 0, (some (b + 40)))])) (b := b) (lyA hK) (rR_at 40 7 hR_40_7)) (lKA (hk_K hK 40 rfl rfl)) rfl (by decide) rfl (Nat.le_of_ble_eq_true rfl) (by decide) (fun u hu => ?_)
  refine z_eqs (σ' := (ap b σ [(41, 16, 13), (41, 7, 1), (41, 5, 1), (5, 2, 1)] [(41, 17, ((10 * (w1.toInt64)) + 1))] [(6, 0, (some (b + 40)))])) hu ?_
  show zx p l e _ s m _ below meth c g 5 0 0 _ _ 72 [(3, .ref (b + 40)), (2, .int 0), (0, .ref (b + 0)), (1, .ref (b + 40))] _
  refine z_aload_n B dX8_goOn_72 rfl 0 rfl ?_
  refine gf_X8_249 (x := (some (b + 41))) B (lKA (hk_K hK 40 rfl rfl)) (rR_at 40 2 hR_40_2) dX8_goOn_73 ?_
  refine z_cVi (As := []) (rest := []) B cw_X8_354 cx_6 dX8_goOn_76 (ci_X5_wantsEvent_680 l (σ := (ap b σ [(41, 16, 13), (41, 7, 1), (41, 5, 1), (5, 2, 1)] [(41, 17, ((10 * (w1.toInt64)) + 1))] [(6, 0, (some (b + 40)))])) (b := b) (lyA hK) (rI_at 41 16 rfl) (rI_at 41 19 hI_41_19)) (lKA (hk_K hK 41 rfl rfl)) rfl (by decide) rfl (Nat.le_of_ble_eq_true rfl) (by decide) (fun r u hu => ?_)
  refine z_eqs (σ' := (ap b σ [(41, 16, 13), (41, 7, 1), (41, 5, 1), (5, 2, 1)] [(41, 17, ((10 * (w1.toInt64)) + 1))] [(6, 0, (some (b + 40)))])) hu.2 ?_
  show zx p l e _ s m _ below meth c g 5 0 0 _ _ 79 [(3, .ref (b + 40)), (2, .int 0), (0, .ref (b + 0)), (1, .ref (b + 40))] _
  refine z_seti (y := 1) hu.1 ?_
  refine z_if_eq (tgt := 115) B dX8_goOn_79 (by decide) (fun h => absurd h (by decide)) (fun _ => ?_)
  refine z_aload_n B dX8_goOn_82 rfl 2 rfl ?_
  refine z_aload_n B dX8_goOn_83 rfl 0 rfl ?_
  refine z_cVq (As := [.ref (b + 40)]) (rest := []) B cw_X8_357 cx_9 dX8_goOn_84 (ci_X8_make_684 l (σ := (ap b σ [(41, 16, 13), (41, 7, 1), (41, 5, 1), (5, 2, 1)] [(41, 17, ((10 * (w1.toInt64)) + 1))] [(6, 0, (some (b + 40)))])) (b := b) (lyA hK) ((10 * (w1.toInt64)) + 1) (rI_at 37 2 hI_37_2) (rI_at 40 4 hI_40_4) (rI_at 41 16 rfl) (rJ_at 41 17 rfl) (rR_at 37 0 hR_37_0) (rR_at 37 1 hR_37_1) (rR_at 40 1 hR_40_1) (rR_at 40 2 hR_40_2)) (lKA (hk_K hK 0 rfl rfl)) rfl (by decide) rfl (Nat.le_of_ble_eq_true rfl) (by decide) (fun r u hu => ?_)
  refine z_eqs (σ' := (ap b σ [(37, 2, 2), (38, 1, 13), (41, 16, 13), (41, 7, 1), (41, 5, 1), (5, 2, 1)] [(39, 1, ((10 * (w1.toInt64)) + 1)), (41, 17, ((10 * (w1.toInt64)) + 1))] [(6, 0, (some (b + 40)))])) (hu.2.trans ap_ap) ?_
  show zx p l e _ s m _ below meth c g 5 0 0 _ _ 87 [(3, .ref (b + 40)), (2, .int 0), (0, .ref (b + 0)), (1, .ref (b + 40))] _
  refine z_setr (y := none) hu.1 ?_
  refine z_qstore (r := none) (lv' := [(4, .null), (3, .ref (b + 40)), (2, .int 0), (0, .ref (b + 0)), (1, .ref (b + 40))]) B dX8_goOn_87 (by decide) rfl ?_
  refine z_aload_n B dX8_goOn_89 rfl 1 rfl ?_
  refine gf_X8_249 (x := (some (b + 41))) B (lKA (hk_K hK 40 rfl rfl)) (rR_at 40 2 hR_40_2) dX8_goOn_90 ?_
  refine z_aload_n B dX8_goOn_93 rfl 1 rfl ?_
  refine gf_X8_179 (x := (some (b + 37))) B (lKA (hk_K hK 40 rfl rfl)) (rR_at 40 1 hR_40_1) dX8_goOn_94 ?_
  refine z_cVi (As := []) (rest := [.ref (b + 41)]) B cw_X8_183 cx_2 dX8_goOn_97 (ci_X1_size_685 l (σ := (ap b σ [(37, 2, 2), (38, 1, 13), (41, 16, 13), (41, 7, 1), (41, 5, 1), (5, 2, 1)] [(39, 1, ((10 * (w1.toInt64)) + 1)), (41, 17, ((10 * (w1.toInt64)) + 1))] [(6, 0, (some (b + 40)))])) (b := b) (lyA hK) (rI_at 37 2 rfl)) (lKA (hk_K hK 37 rfl rfl)) rfl (by decide) rfl (Nat.le_of_ble_eq_true rfl) (by decide) (fun r u hu => ?_)
  refine z_eqs (σ' := (ap b σ [(37, 2, 2), (38, 1, 13), (41, 16, 13), (41, 7, 1), (41, 5, 1), (5, 2, 1)] [(39, 1, ((10 * (w1.toInt64)) + 1)), (41, 17, ((10 * (w1.toInt64)) + 1))] [(6, 0, (some (b + 40)))])) hu.2 ?_
  show zx p l e _ s m _ below meth c g 5 0 0 _ _ 100 [(4, .null), (3, .ref (b + 40)), (2, .int 0), (0, .ref (b + 0)), (1, .ref (b + 40))] _
  refine z_seti (y := 2) hu.1 ?_
  refine z_cVv (As := [.int 2]) (rest := []) B cw_X8_289 cx_6 dX8_goOn_100 (ci_X5_advance_717 l (σ := (ap b σ [(37, 2, 2), (38, 1, 13), (41, 16, 13), (41, 7, 1), (41, 5, 1), (5, 2, 1)] [(39, 1, ((10 * (w1.toInt64)) + 1)), (41, 17, ((10 * (w1.toInt64)) + 1))] [(6, 0, (some (b + 40)))])) (b := b) (lyA hK) ((10 * (w1.toInt64)) + 1) (iv_ladd (c := 1) (n := 1) rfl (iv_lmul (c := 10) (n := 10) rfl (by decide) (iv_i2l q1_w1 q2_w1).1 (iv_i2l q1_w1 q2_w1).2 (by decide) (by decide)).1 (iv_lmul (c := 10) (n := 10) rfl (by decide) (iv_i2l q1_w1 q2_w1).1 (iv_i2l q1_w1 q2_w1).2 (by decide) (by decide)).2 (by decide) (by decide)).1 (iv_ladd (c := 1) (n := 1) rfl (iv_lmul (c := 10) (n := 10) rfl (by decide) (iv_i2l q1_w1 q2_w1).1 (iv_i2l q1_w1 q2_w1).2 (by decide) (by decide)).1 (iv_lmul (c := 10) (n := 10) rfl (by decide) (iv_i2l q1_w1 q2_w1).1 (iv_i2l q1_w1 q2_w1).2 (by decide) (by decide)).2 (by decide) (by decide)).2 (rI_at 37 2 rfl) (rI_at 38 1 rfl) (rI_at 41 4 hI_41_4) (rI_at 41 16 rfl) (rI_at 41 19 hI_41_19) (rJ_at 39 1 rfl) (rJ_at 41 17 rfl) (rR_at 37 0 hR_37_0) (rR_at 37 1 hR_37_1) (rR_at 41 3 hR_41_3)) (lKA (hk_K hK 41 rfl rfl)) rfl (by decide) rfl (Nat.le_of_ble_eq_true rfl) (by decide) (fun u hu => ?_)
  refine z_eqs (σ' := (ap b σ [(41, 19, 0), (41, 15, 1), (41, 4, 2), (41, 16, (-1)), (37, 2, 2), (38, 1, 13), (41, 16, 13), (41, 7, 1), (41, 5, 1), (5, 2, 1)] [(39, 1, ((10 * (w1.toInt64)) + 1)), (41, 17, ((10 * (w1.toInt64)) + 1))] [(6, 0, (some (b + 40)))])) (hu.trans ap_ap) ?_
  show zx p l e _ s m _ below meth c g 5 0 0 _ _ 103 [(4, .null), (3, .ref (b + 40)), (2, .int 0), (0, .ref (b + 0)), (1, .ref (b + 40))] _
  refine z_aload_n B dX8_goOn_103 rfl 3 rfl ?_
  refine gf_X8_35 (x := (some (b + 5))) B (lKA (hk_K hK 0 rfl rfl)) (rR_at 0 4 hR_0_4) dX8_goOn_104 ?_
  refine z_qload (r := none) B dX8_goOn_107 0 rfl ?_
  refine z_cVv (As := [.null]) (rest := []) B cw_X8_337 cx_3 dX8_goOn_109 (ci_X2_addLast_691 l (σ := (ap b σ [(41, 19, 0), (41, 15, 1), (41, 4, 2), (41, 16, (-1)), (37, 2, 2), (38, 1, 13), (41, 16, 13), (41, 7, 1), (41, 5, 1), (5, 2, 1)] [(39, 1, ((10 * (w1.toInt64)) + 1)), (41, 17, ((10 * (w1.toInt64)) + 1))] [(6, 0, (some (b + 40)))])) (b := b) (lyA hK) ) (lKA (hk_K hK 5 rfl rfl)) rfl (by decide) rfl (Nat.le_of_ble_eq_true rfl) (by decide) (fun u hu => ?_)
  refine z_eqs (σ' := (ap b σ [(41, 19, 0), (41, 15, 1), (41, 4, 2), (41, 16, (-1)), (37, 2, 2), (38, 1, 13), (41, 16, 13), (41, 7, 1), (41, 5, 1), (5, 2, 1)] [(39, 1, ((10 * (w1.toInt64)) + 1)), (41, 17, ((10 * (w1.toInt64)) + 1))] [(6, 0, (some (b + 40)))])) hu ?_
  show zx p l e _ s m _ below meth c g 5 0 0 _ _ 112 [(4, .null), (3, .ref (b + 40)), (2, .int 0), (0, .ref (b + 0)), (1, .ref (b + 40))] _
  refine z_goto (tgt := 120) B dX8_goOn_112 (by decide) ?_
  refine z_iinc (v := 1) (lv' := [(2, .int 1), (4, .null), (3, .ref (b + 40)), (0, .ref (b + 0)), (1, .ref (b + 40))]) B dX8_goOn_120 2 rfl (by decide) (by decide) rfl ?_
  refine z_goto (tgt := 10) B dX8_goOn_123 (by decide) ?_
  refine z_iload_n B dX8_goOn_10 rfl 0 rfl ?_
  refine z_ldcw (v := 1000000) B dX8_goOn_11 wg_515 ?_
  refine z_icmp_ge (tgt := 126) B dX8_goOn_14 (by decide) (fun h => absurd h (by decide)) (fun _ => ?_)
  refine z_aload_n B dX8_goOn_17 rfl 3 rfl ?_
  refine gf_X8_35 (x := (some (b + 5))) B (lKA (hk_K hK 0 rfl rfl)) (rR_at 0 4 hR_0_4) dX8_goOn_18 ?_
  refine z_cVi (As := []) (rest := []) B cw_X8_341 cx_3 dX8_goOn_21 (ci_X2_isEmpty_668 l (σ := (ap b σ [(41, 19, 0), (41, 15, 1), (41, 4, 2), (41, 16, (-1)), (37, 2, 2), (38, 1, 13), (41, 16, 13), (41, 7, 1), (41, 5, 1), (5, 2, 1)] [(39, 1, ((10 * (w1.toInt64)) + 1)), (41, 17, ((10 * (w1.toInt64)) + 1))] [(6, 0, (some (b + 40)))])) (b := b) (lyA hK) (rI_at 5 1 hI_5_1) (rI_at 5 2 rfl)) (lKA (hk_K hK 5 rfl rfl)) rfl (by decide) rfl (Nat.le_of_ble_eq_true rfl) (by decide) (fun r u hu => ?_)
  refine z_eqs (σ' := (ap b σ [(41, 19, 0), (41, 15, 1), (41, 4, 2), (41, 16, (-1)), (37, 2, 2), (38, 1, 13), (41, 16, 13), (41, 7, 1), (41, 5, 1), (5, 2, 1)] [(39, 1, ((10 * (w1.toInt64)) + 1)), (41, 17, ((10 * (w1.toInt64)) + 1))] [(6, 0, (some (b + 40)))])) hu.2 ?_
  show zx p l e _ s m _ below meth c g 5 0 0 _ _ 24 [(2, .int 1), (4, .null), (3, .ref (b + 40)), (0, .ref (b + 0)), (1, .ref (b + 40))] _
  refine z_seti (y := 0) hu.1 ?_
  refine z_if_eq (tgt := 41) B dX8_goOn_24 (by decide) (fun _ => ?_) (fun h => absurd (by decide) h)
  refine z_aload_n B dX8_goOn_41 rfl 3 rfl ?_
  refine gf_X8_35 (x := (some (b + 5))) B (lKA (hk_K hK 0 rfl rfl)) (rR_at 0 4 hR_0_4) dX8_goOn_42 ?_
  refine z_cVq (As := []) (rest := []) B cw_X8_348 cx_3 dX8_goOn_45 (ci_X2_last_669 l (σ := (ap b σ [(41, 19, 0), (41, 15, 1), (41, 4, 2), (41, 16, (-1)), (37, 2, 2), (38, 1, 13), (41, 16, 13), (41, 7, 1), (41, 5, 1), (5, 2, 1)] [(39, 1, ((10 * (w1.toInt64)) + 1)), (41, 17, ((10 * (w1.toInt64)) + 1))] [(6, 0, (some (b + 40)))])) (b := b) (lyA hK) (rI_at 5 1 hI_5_1) (rI_at 5 2 rfl) (rR_at 5 0 hR_5_0) (rR_at 6 0 rfl)) (lKA (hk_K hK 5 rfl rfl)) rfl (by decide) rfl (Nat.le_of_ble_eq_true rfl) (by decide) (fun r u hu => ?_)
  refine z_eqs (σ' := (ap b σ [(41, 19, 0), (41, 15, 1), (41, 4, 2), (41, 16, (-1)), (37, 2, 2), (38, 1, 13), (41, 16, 13), (41, 7, 1), (41, 5, 1), (5, 2, 1)] [(39, 1, ((10 * (w1.toInt64)) + 1)), (41, 17, ((10 * (w1.toInt64)) + 1))] [(6, 0, (some (b + 40)))])) hu.2 ?_
  show zx p l e _ s m _ below meth c g 5 0 0 _ _ 48 [(2, .int 1), (4, .null), (3, .ref (b + 40)), (0, .ref (b + 0)), (1, .ref (b + 40))] _
  refine z_setr (y := (some (b + 40))) hu.1 ?_
  refine z_astore_n (lv' := [(3, .ref (b + 40)), (2, .int 1), (4, .null), (0, .ref (b + 0)), (1, .ref (b + 40))]) B dX8_goOn_48 rfl (by decide) rfl ?_
  refine z_aload_n B dX8_goOn_49 rfl 0 rfl ?_
  refine z_ifnonnull (r := (some (b + 40))) (tgt := 54) B dX8_goOn_50 (by decide) (fun _ _ => ?_) (fun h => nomatch h)
  refine z_aload_n B dX8_goOn_54 rfl 0 rfl ?_
  refine gf_X8_249 (x := (some (b + 41))) B (lKA (hk_K hK 40 rfl rfl)) (rR_at 40 2 hR_40_2) dX8_goOn_55 ?_
  refine z_aload_n B dX8_goOn_58 rfl 0 rfl ?_
  refine gf_X8_179 (x := (some (b + 37))) B (lKA (hk_K hK 40 rfl rfl)) (rR_at 40 1 hR_40_1) dX8_goOn_59 ?_
  refine z_cVi (As := []) (rest := [.ref (b + 41)]) B cw_X8_183 cx_2 dX8_goOn_62 (ci_X1_size_685 l (σ := (ap b σ [(41, 19, 0), (41, 15, 1), (41, 4, 2), (41, 16, (-1)), (37, 2, 2), (38, 1, 13), (41, 16, 13), (41, 7, 1), (41, 5, 1), (5, 2, 1)] [(39, 1, ((10 * (w1.toInt64)) + 1)), (41, 17, ((10 * (w1.toInt64)) + 1))] [(6, 0, (some (b + 40)))])) (b := b) (lyA hK) (rI_at 37 2 rfl)) (lKA (hk_K hK 37 rfl rfl)) rfl (by decide) rfl (Nat.le_of_ble_eq_true rfl) (by decide) (fun r u hu => ?_)
  refine z_eqs (σ' := (ap b σ [(41, 19, 0), (41, 15, 1), (41, 4, 2), (41, 16, (-1)), (37, 2, 2), (38, 1, 13), (41, 16, 13), (41, 7, 1), (41, 5, 1), (5, 2, 1)] [(39, 1, ((10 * (w1.toInt64)) + 1)), (41, 17, ((10 * (w1.toInt64)) + 1))] [(6, 0, (some (b + 40)))])) hu.2 ?_
  show zx p l e _ s m _ below meth c g 5 0 0 _ _ 65 [(3, .ref (b + 40)), (2, .int 1), (4, .null), (0, .ref (b + 0)), (1, .ref (b + 40))] _
  refine z_seti (y := 2) hu.1 ?_
  refine z_cVv (As := [.int 2]) (rest := []) B cw_X8_289 cx_6 dX8_goOn_65 (ci_X5_advance_692 l (σ := (ap b σ [(41, 19, 0), (41, 15, 1), (41, 4, 2), (41, 16, (-1)), (37, 2, 2), (38, 1, 13), (41, 16, 13), (41, 7, 1), (41, 5, 1), (5, 2, 1)] [(39, 1, ((10 * (w1.toInt64)) + 1)), (41, 17, ((10 * (w1.toInt64)) + 1))] [(6, 0, (some (b + 40)))])) (b := b) (lyA hK) (rI_at 41 4 rfl) (rI_at 41 15 rfl) (rI_at 41 16 rfl) (rI_at 41 19 rfl)) (lKA (hk_K hK 41 rfl rfl)) rfl (by decide) rfl (Nat.le_of_ble_eq_true rfl) (by decide) (fun u hu => ?_)
  refine z_eqs (σ' := (ap b σ [(41, 19, 0), (41, 19, 0), (41, 15, 1), (41, 4, 2), (41, 16, (-1)), (37, 2, 2), (38, 1, 13), (41, 16, 13), (41, 7, 1), (41, 5, 1), (5, 2, 1)] [(39, 1, ((10 * (w1.toInt64)) + 1)), (41, 17, ((10 * (w1.toInt64)) + 1))] [(6, 0, (some (b + 40)))])) (hu.trans ap_ap) ?_
  show zx p l e _ s m _ below meth c g 5 0 0 _ _ 68 [(3, .ref (b + 40)), (2, .int 1), (4, .null), (0, .ref (b + 0)), (1, .ref (b + 40))] _
  refine z_aload_n B dX8_goOn_68 rfl 0 rfl ?_
  refine z_cVv (As := []) (rest := []) B cw_X8_351 cx_1 dX8_goOn_69 (ci_X0_letGo_679 l (σ := (ap b σ [(41, 19, 0), (41, 19, 0), (41, 15, 1), (41, 4, 2), (41, 16, (-1)), (37, 2, 2), (38, 1, 13), (41, 16, 13), (41, 7, 1), (41, 5, 1), (5, 2, 1)] [(39, 1, ((10 * (w1.toInt64)) + 1)), (41, 17, ((10 * (w1.toInt64)) + 1))] [(6, 0, (some (b + 40)))])) (b := b) (lyA hK) (rR_at 40 7 hR_40_7)) (lKA (hk_K hK 40 rfl rfl)) rfl (by decide) rfl (Nat.le_of_ble_eq_true rfl) (by decide) (fun u hu => ?_)
  refine z_eqs (σ' := (ap b σ [(41, 19, 0), (41, 19, 0), (41, 15, 1), (41, 4, 2), (41, 16, (-1)), (37, 2, 2), (38, 1, 13), (41, 16, 13), (41, 7, 1), (41, 5, 1), (5, 2, 1)] [(39, 1, ((10 * (w1.toInt64)) + 1)), (41, 17, ((10 * (w1.toInt64)) + 1))] [(6, 0, (some (b + 40)))])) hu ?_
  show zx p l e _ s m _ below meth c g 5 0 0 _ _ 72 [(3, .ref (b + 40)), (2, .int 1), (4, .null), (0, .ref (b + 0)), (1, .ref (b + 40))] _
  refine z_aload_n B dX8_goOn_72 rfl 0 rfl ?_
  refine gf_X8_249 (x := (some (b + 41))) B (lKA (hk_K hK 40 rfl rfl)) (rR_at 40 2 hR_40_2) dX8_goOn_73 ?_
  refine z_cVi (As := []) (rest := []) B cw_X8_354 cx_6 dX8_goOn_76 (ci_X5_wantsEvent_693 l (σ := (ap b σ [(41, 19, 0), (41, 19, 0), (41, 15, 1), (41, 4, 2), (41, 16, (-1)), (37, 2, 2), (38, 1, 13), (41, 16, 13), (41, 7, 1), (41, 5, 1), (5, 2, 1)] [(39, 1, ((10 * (w1.toInt64)) + 1)), (41, 17, ((10 * (w1.toInt64)) + 1))] [(6, 0, (some (b + 40)))])) (b := b) (lyA hK) (rI_at 41 16 rfl) (rI_at 41 19 rfl)) (lKA (hk_K hK 41 rfl rfl)) rfl (by decide) rfl (Nat.le_of_ble_eq_true rfl) (by decide) (fun r u hu => ?_)
  refine z_eqs (σ' := (ap b σ [(41, 19, 0), (41, 19, 0), (41, 15, 1), (41, 4, 2), (41, 16, (-1)), (37, 2, 2), (38, 1, 13), (41, 16, 13), (41, 7, 1), (41, 5, 1), (5, 2, 1)] [(39, 1, ((10 * (w1.toInt64)) + 1)), (41, 17, ((10 * (w1.toInt64)) + 1))] [(6, 0, (some (b + 40)))])) hu.2 ?_
  show zx p l e _ s m _ below meth c g 5 0 0 _ _ 79 [(3, .ref (b + 40)), (2, .int 1), (4, .null), (0, .ref (b + 0)), (1, .ref (b + 40))] _
  refine z_seti (y := 0) hu.1 ?_
  refine z_if_eq (tgt := 115) B dX8_goOn_79 (by decide) (fun _ => ?_) (fun h => absurd (by decide) h)
  refine z_aload_n B dX8_goOn_115 rfl 3 rfl ?_
  refine z_aload_n B dX8_goOn_116 rfl 0 rfl ?_
  refine z_cVv (As := [.ref (b + 40)]) (rest := []) B cw_X8_361 cx_9 dX8_goOn_117 (ci_X8_leave_695 l (σ := (ap b σ [(41, 19, 0), (41, 19, 0), (41, 15, 1), (41, 4, 2), (41, 16, (-1)), (37, 2, 2), (38, 1, 13), (41, 16, 13), (41, 7, 1), (41, 5, 1), (5, 2, 1)] [(39, 1, ((10 * (w1.toInt64)) + 1)), (41, 17, ((10 * (w1.toInt64)) + 1))] [(6, 0, (some (b + 40)))])) (b := b) (lyA hK) (rI_at 5 1 hI_5_1) (rI_at 5 2 rfl) (rI_at 37 2 rfl) (rI_at 40 8 hI_40_8) (rI_at 41 18 hI_41_18) (rI_at 41 19 rfl) (rR_at 0 4 hR_0_4) (rR_at 40 1 hR_40_1) (rR_at 40 2 hR_40_2)) (lKA (hk_K hK 0 rfl rfl)) rfl (by decide) rfl (Nat.le_of_ble_eq_true rfl) (by decide) (fun u hu => ?_)
  refine z_eqs (σ' := (ap b σ [(40, 8, 2), (5, 2, 0), (41, 19, 0), (41, 19, 0), (41, 15, 1), (41, 4, 2), (41, 16, (-1)), (37, 2, 2), (38, 1, 13), (41, 16, 13), (41, 7, 1), (41, 5, 1), (5, 2, 1)] [(39, 1, ((10 * (w1.toInt64)) + 1)), (41, 17, ((10 * (w1.toInt64)) + 1))] [(6, 0, (some (b + 40)))])) (hu.trans ap_ap) ?_
  show zx p l e _ s m _ below meth c g 5 0 0 _ _ 120 [(3, .ref (b + 40)), (2, .int 1), (4, .null), (0, .ref (b + 0)), (1, .ref (b + 40))] _
  refine z_iinc (v := 2) (lv' := [(2, .int 2), (3, .ref (b + 40)), (4, .null), (0, .ref (b + 0)), (1, .ref (b + 40))]) B dX8_goOn_120 1 rfl (by decide) (by decide) rfl ?_
  refine z_goto (tgt := 10) B dX8_goOn_123 (by decide) ?_
  refine z_iload_n B dX8_goOn_10 rfl 0 rfl ?_
  refine z_ldcw (v := 1000000) B dX8_goOn_11 wg_515 ?_
  refine z_icmp_ge (tgt := 126) B dX8_goOn_14 (by decide) (fun h => absurd h (by decide)) (fun _ => ?_)
  refine z_aload_n B dX8_goOn_17 rfl 3 rfl ?_
  refine gf_X8_35 (x := (some (b + 5))) B (lKA (hk_K hK 0 rfl rfl)) (rR_at 0 4 hR_0_4) dX8_goOn_18 ?_
  refine z_cVi (As := []) (rest := []) B cw_X8_341 cx_3 dX8_goOn_21 (ci_X2_isEmpty_696 l (σ := (ap b σ [(40, 8, 2), (5, 2, 0), (41, 19, 0), (41, 19, 0), (41, 15, 1), (41, 4, 2), (41, 16, (-1)), (37, 2, 2), (38, 1, 13), (41, 16, 13), (41, 7, 1), (41, 5, 1), (5, 2, 1)] [(39, 1, ((10 * (w1.toInt64)) + 1)), (41, 17, ((10 * (w1.toInt64)) + 1))] [(6, 0, (some (b + 40)))])) (b := b) (lyA hK) (rI_at 5 1 hI_5_1) (rI_at 5 2 rfl)) (lKA (hk_K hK 5 rfl rfl)) rfl (by decide) rfl (Nat.le_of_ble_eq_true rfl) (by decide) (fun r u hu => ?_)
  refine z_eqs (σ' := (ap b σ [(40, 8, 2), (5, 2, 0), (41, 19, 0), (41, 19, 0), (41, 15, 1), (41, 4, 2), (41, 16, (-1)), (37, 2, 2), (38, 1, 13), (41, 16, 13), (41, 7, 1), (41, 5, 1), (5, 2, 1)] [(39, 1, ((10 * (w1.toInt64)) + 1)), (41, 17, ((10 * (w1.toInt64)) + 1))] [(6, 0, (some (b + 40)))])) hu.2 ?_
  show zx p l e _ s m _ below meth c g 5 0 0 _ _ 24 [(2, .int 2), (3, .ref (b + 40)), (4, .null), (0, .ref (b + 0)), (1, .ref (b + 40))] _
  refine z_seti (y := 1) hu.1 ?_
  refine z_if_eq (tgt := 41) B dX8_goOn_24 (by decide) (fun h => absurd h (by decide)) (fun _ => ?_)
  refine z_aload_n B dX8_goOn_27 rfl 3 rfl ?_
  refine gf_X8_35 (x := (some (b + 5))) B (lKA (hk_K hK 0 rfl rfl)) (rR_at 0 4 hR_0_4) dX8_goOn_28 ?_
  refine z_aload_n B dX8_goOn_31 rfl 3 rfl ?_
  refine gf_X8_39 (x := (some (b + 7))) B (lKA (hk_K hK 0 rfl rfl)) (rR_at 0 5 hR_0_5) dX8_goOn_32 ?_
  refine z_cVq (As := []) (rest := [.ref (b + 5)]) B cw_X8_344 cx_3 dX8_goOn_35 (ci_X2_removeFirst_697 l (σ := (ap b σ [(40, 8, 2), (5, 2, 0), (41, 19, 0), (41, 19, 0), (41, 15, 1), (41, 4, 2), (41, 16, (-1)), (37, 2, 2), (38, 1, 13), (41, 16, 13), (41, 7, 1), (41, 5, 1), (5, 2, 1)] [(39, 1, ((10 * (w1.toInt64)) + 1)), (41, 17, ((10 * (w1.toInt64)) + 1))] [(6, 0, (some (b + 40)))])) (b := b) (lyA hK) (rI_at 7 1 hI_7_1) (rI_at 7 2 hI_7_2)) (lKA (hk_K hK 7 rfl rfl)) rfl (by decide) rfl (Nat.le_of_ble_eq_true rfl) (by decide) (fun r u hu => ?_)
  refine z_eqs (σ' := (ap b σ [(7, 2, 0), (7, 1, 0), (40, 8, 2), (5, 2, 0), (41, 19, 0), (41, 19, 0), (41, 15, 1), (41, 4, 2), (41, 16, (-1)), (37, 2, 2), (38, 1, 13), (41, 16, 13), (41, 7, 1), (41, 5, 1), (5, 2, 1)] [(39, 1, ((10 * (w1.toInt64)) + 1)), (41, 17, ((10 * (w1.toInt64)) + 1))] [(6, 0, (some (b + 40)))])) (hu.2.trans ap_ap) ?_
  show zx p l e _ s m _ below meth c g 5 0 0 _ _ 38 [(2, .int 2), (3, .ref (b + 40)), (4, .null), (0, .ref (b + 0)), (1, .ref (b + 40))] _
  refine z_setr (y := none) hu.1 ?_
  refine z_cVv (As := [.null]) (rest := []) B cw_X8_337 cx_3 dX8_goOn_38 (ci_X2_addLast_691 l (σ := (ap b σ [(7, 2, 0), (7, 1, 0), (40, 8, 2), (5, 2, 0), (41, 19, 0), (41, 19, 0), (41, 15, 1), (41, 4, 2), (41, 16, (-1)), (37, 2, 2), (38, 1, 13), (41, 16, 13), (41, 7, 1), (41, 5, 1), (5, 2, 1)] [(39, 1, ((10 * (w1.toInt64)) + 1)), (41, 17, ((10 * (w1.toInt64)) + 1))] [(6, 0, (some (b + 40)))])) (b := b) (lyA hK) ) (lKA (hk_K hK 5 rfl rfl)) rfl (by decide) rfl (Nat.le_of_ble_eq_true rfl) (by decide) (fun u hu => ?_)
  refine z_eqs (σ' := (ap b σ [(7, 2, 0), (7, 1, 0), (40, 8, 2), (5, 2, 0), (41, 19, 0), (41, 19, 0), (41, 15, 1), (41, 4, 2), (41, 16, (-1)), (37, 2, 2), (38, 1, 13), (41, 16, 13), (41, 7, 1), (41, 5, 1), (5, 2, 1)] [(39, 1, ((10 * (w1.toInt64)) + 1)), (41, 17, ((10 * (w1.toInt64)) + 1))] [(6, 0, (some (b + 40)))])) hu ?_
  show zx p l e _ s m _ below meth c g 5 0 0 _ _ 41 [(2, .int 2), (3, .ref (b + 40)), (4, .null), (0, .ref (b + 0)), (1, .ref (b + 40))] _
  refine z_aload_n B dX8_goOn_41 rfl 3 rfl ?_
  refine gf_X8_35 (x := (some (b + 5))) B (lKA (hk_K hK 0 rfl rfl)) (rR_at 0 4 hR_0_4) dX8_goOn_42 ?_
  refine z_cVq (As := []) (rest := []) B cw_X8_348 cx_3 dX8_goOn_45 (ci_X2_last_698 l (σ := (ap b σ [(7, 2, 0), (7, 1, 0), (40, 8, 2), (5, 2, 0), (41, 19, 0), (41, 19, 0), (41, 15, 1), (41, 4, 2), (41, 16, (-1)), (37, 2, 2), (38, 1, 13), (41, 16, 13), (41, 7, 1), (41, 5, 1), (5, 2, 1)] [(39, 1, ((10 * (w1.toInt64)) + 1)), (41, 17, ((10 * (w1.toInt64)) + 1))] [(6, 0, (some (b + 40)))])) (b := b) (lyA hK) (rI_at 5 1 hI_5_1) (rI_at 5 2 rfl)) (lKA (hk_K hK 5 rfl rfl)) rfl (by decide) rfl (Nat.le_of_ble_eq_true rfl) (by decide) (fun r u hu => ?_)
  refine z_eqs (σ' := (ap b σ [(7, 2, 0), (7, 1, 0), (40, 8, 2), (5, 2, 0), (41, 19, 0), (41, 19, 0), (41, 15, 1), (41, 4, 2), (41, 16, (-1)), (37, 2, 2), (38, 1, 13), (41, 16, 13), (41, 7, 1), (41, 5, 1), (5, 2, 1)] [(39, 1, ((10 * (w1.toInt64)) + 1)), (41, 17, ((10 * (w1.toInt64)) + 1))] [(6, 0, (some (b + 40)))])) hu.2 ?_
  show zx p l e _ s m _ below meth c g 5 0 0 _ _ 48 [(2, .int 2), (3, .ref (b + 40)), (4, .null), (0, .ref (b + 0)), (1, .ref (b + 40))] _
  refine z_setr (y := none) hu.1 ?_
  refine z_qstore_n (r := none) (lv' := [(3, .null), (2, .int 2), (4, .null), (0, .ref (b + 0)), (1, .ref (b + 40))]) B dX8_goOn_48 rfl (by decide) rfl ?_
  refine z_qload_n (r := none) B dX8_goOn_49 rfl 0 rfl ?_
  refine z_ifnonnull (r := none) (tgt := 54) B dX8_goOn_50 (by decide) (fun a h => nomatch h) (fun _ => ?_)
  exact z_vret B hr (by decide) (by decide) dX8_goOn_53 rfl
set_option maxRecDepth 100000 in
set_option maxHeartbeats 4000000 in
theorem ci_X8_start_850 (l : Launch) {g : gx_T} {σ : sx_T} {b : Nat} (hK : lay b σ) (w1 : Int32) (q1_w1 : (0 : Int) ≤ w1.toInt) (q2_w1 : w1.toInt ≤ (999 : Int)) (hI_0_7 : sx_I σ (b + 0) 7 = 0) (hI_5_1 : sx_I σ (b + 5) 1 = 0) (hI_5_2 : sx_I σ (b + 5) 2 = 0) (hI_7_1 : sx_I σ (b + 7) 1 = 0) (hI_7_2 : sx_I σ (b + 7) 2 = 0) (hI_30_0 : sx_I σ (b + 30) 0 = 0) (hI_31_0 : sx_I σ (b + 31) 0 = 0) (hI_32_0 : sx_I σ (b + 32) 0 = 0) (hI_37_2 : sx_I σ (b + 37) 2 = 0) (hI_40_0 : sx_I σ (b + 40) 0 = 0) (hI_40_8 : sx_I σ (b + 40) 8 = 0) (hR_0_0 : sx_R σ (b + 0) 0 = (some (b + 1))) (hR_0_2 : sx_R σ (b + 0) 2 = (some (b + 3))) (hR_0_4 : sx_R σ (b + 0) 4 = (some (b + 5))) (hR_0_5 : sx_R σ (b + 0) 5 = (some (b + 7))) (hR_1_5 : sx_R σ (b + 1) 5 = (some (b + 29))) (hR_3_0 : sx_R σ (b + 3) 0 = (some (b + 40))) (hR_5_0 : sx_R σ (b + 5) 0 = (some (b + 6))) (hR_29_1 : sx_R σ (b + 29) 1 = (some (b + 30))) (hR_29_2 : sx_R σ (b + 29) 2 = (some (b + 31))) (hR_29_3 : sx_R σ (b + 29) 3 = (some (b + 32))) (hR_37_0 : sx_R σ (b + 37) 0 = (some (b + 38))) (hR_37_1 : sx_R σ (b + 37) 1 = (some (b + 39))) (hR_40_1 : sx_R σ (b + 40) 1 = (some (b + 37))) (hR_40_2 : sx_R σ (b + 40) 2 = (some (b + 41))) (hR_40_7 : sx_R σ (b + 40) 7 = none) (hR_41_0 : sx_R σ (b + 41) 0 = (some (b + 42))) (hR_41_1 : sx_R σ (b + 41) 1 = (some (b + 44))) : Met l yX8_start (.code yX8_start cX8_start 5 (some .int) :: lw_g) { frames := 4, cells := 0, slots := 0, locals := 96 } (va_Pc [.ref (b + 0), .int 5, .int w1] (zx_w g σ)) (va_Qi (fun r u => r = 0 ∧ u = (ap b σ [(7, 2, 0), (7, 1, 0), (40, 8, 2), (5, 2, 0), (41, 19, 0), (41, 19, 0), (41, 15, 1), (41, 4, 2), (41, 16, (-1)), (37, 2, 2), (38, 1, 13), (41, 16, 13), (41, 7, 1), (41, 5, 1), (5, 2, 1), (41, 19, 0), (41, 18, (-1)), (41, 16, (-1)), (41, 15, 0), (41, 14, 0), (41, 13, 0), (41, 12, 0), (41, 10, (-1)), (41, 9, (-1)), (41, 8, 0), (41, 7, 0), (41, 6, ((w1.toInt64).toInt32)), (41, 5, 0), (41, 4, 1), (44, 1, 0), (42, 1, 0), (37, 2, 1), (38, 0, 0), (40, 5, 0), (40, 4, (-1)), (0, 7, 1)] [(39, 1, ((10 * (((w1.toInt64).toInt32).toInt64)) + 1)), (41, 17, ((10 * (((w1.toInt64).toInt32).toInt64)) + 1)), (41, 17, 0), (41, 11, 0), (39, 0, (w1.toInt64))] [(6, 0, (some (b + 40))), (41, 3, (some (b + 37))), (41, 2, (some (b + 29))), (40, 3, (some (b + 29)))])) (zx_w g) (gx_Q g)) 0 0 (gx_Q g) := by
  refine z_met (by decide) (Nat.le_of_ble_eq_true rfl) (fun p e s m below meth c B hr hin => ?_)
  refine z_eqs (σ' := (ap b σ [] [] [])) rfl ?_
  show zx p l e _ s m _ below meth c g 5 0 0 _ _ 0 [(0, .ref (b + 0)), (1, .int 5), (2, .int w1)] []
  refine z_aload_n B dX8_start_0 rfl 0 rfl ?_
  refine z_iload_n B dX8_start_1 rfl 1 rfl ?_
  refine z_cVq (As := [.int 5]) (rest := []) B cw_X8_64 cx_9 dX8_start_2 (ci_X8_programAt_318 l (σ := (ap b σ [] [] [])) (b := b) (lyA hK) (rR_at 0 0 hR_0_0) (rR_at 1 5 hR_1_5)) (lKA (hk_K hK 0 rfl rfl)) rfl (by decide) rfl (Nat.le_of_ble_eq_true rfl) (by decide) (fun r u hu => ?_)
  refine z_eqs (σ' := (ap b σ [] [] [])) hu.2 ?_
  show zx p l e _ s m _ below meth c g 5 0 0 _ _ 5 [(0, .ref (b + 0)), (1, .int 5), (2, .int w1)] _
  refine z_setr (y := (some (b + 29))) hu.1 ?_
  refine z_astore_n (lv' := [(3, .ref (b + 29)), (0, .ref (b + 0)), (1, .int 5), (2, .int w1)]) B dX8_start_5 rfl (by decide) rfl ?_
  refine z_aload_n B dX8_start_6 rfl 0 rfl ?_
  refine z_ifnonnull (r := (some (b + 29))) (tgt := 20) B dX8_start_7 (by decide) (fun _ _ => ?_) (fun h => nomatch h)
  refine z_iload_n B dX8_start_20 rfl 3 rfl ?_
  refine z_sipush (v := (-999)) B dX8_start_21 (by decide) ?_
  refine z_icmp_lt (tgt := 34) B dX8_start_24 (by decide) (fun h => absurd h (iv_nlt q1_w1 (by decide))) (fun _ => ?_)
  refine z_iload_n B dX8_start_27 rfl 3 rfl ?_
  refine z_sipush (v := 999) B dX8_start_28 (by decide) ?_
  refine z_icmp_le (tgt := 44) B dX8_start_31 (by decide) (fun _ => ?_) (fun h => absurd (iv_le q2_w1 (by decide)) h)
  refine z_aload_n B dX8_start_44 rfl 1 rfl ?_
  refine z_aload_n B dX8_start_45 rfl 0 rfl ?_
  refine z_iload_n B dX8_start_46 rfl 3 rfl ?_
  refine z_iconst (v := (-1)) B dX8_start_47 (by decide) ?_
  refine z_iconst (v := (-1)) B dX8_start_48 (by decide) ?_
  refine z_cVq (As := [.ref (b + 29), .int w1, .int (-1), .int (-1)]) (rest := []) B cw_X8_141 cx_9 dX8_start_49 (ci_X8_open_834 l (σ := (ap b σ [] [] [])) (b := b) (lyA hK) w1 (rI_at 0 7 hI_0_7) (rI_at 37 2 hI_37_2) (rI_at 40 0 hI_40_0) (rR_at 0 2 hR_0_2) (rR_at 3 0 hR_3_0) (rR_at 37 0 hR_37_0) (rR_at 37 1 hR_37_1) (rR_at 40 1 hR_40_1) (rR_at 40 2 hR_40_2) (rR_at 41 0 hR_41_0) (rR_at 41 1 hR_41_1)) (lKA (hk_K hK 0 rfl rfl)) rfl (by decide) rfl (Nat.le_of_ble_eq_true rfl) (by decide) (fun r u hu => ?_)
  refine z_eqs (σ' := (ap b σ [(41, 19, 0), (41, 18, (-1)), (41, 16, (-1)), (41, 15, 0), (41, 14, 0), (41, 13, 0), (41, 12, 0), (41, 10, (-1)), (41, 9, (-1)), (41, 8, 0), (41, 7, 0), (41, 6, ((w1.toInt64).toInt32)), (41, 5, 0), (41, 4, 1), (44, 1, 0), (42, 1, 0), (37, 2, 1), (38, 0, 0), (40, 5, 0), (40, 4, (-1)), (0, 7, 1)] [(41, 17, 0), (41, 11, 0), (39, 0, (w1.toInt64))] [(41, 3, (some (b + 37))), (41, 2, (some (b + 29))), (40, 3, (some (b + 29)))])) (hu.2.trans ap_ap) ?_
  show zx p l e _ s m _ below meth c g 5 0 0 _ _ 52 [(3, .ref (b + 29)), (0, .ref (b + 0)), (1, .int 5), (2, .int w1)] _
  refine z_setr (y := (some (b + 40))) hu.1 ?_
  refine z_astore (lv' := [(4, .ref (b + 40)), (3, .ref (b + 29)), (0, .ref (b + 0)), (1, .int 5), (2, .int w1)]) B dX8_start_52 (by decide) rfl ?_
  refine z_aload B dX8_start_54 0 rfl ?_
  refine z_ifnonnull (r := (some (b + 40))) (tgt := 69) B dX8_start_56 (by decide) (fun _ _ => ?_) (fun h => nomatch h)
  refine z_aload_n B dX8_start_69 rfl 2 rfl ?_
  refine z_aload B dX8_start_70 0 rfl ?_
  refine z_cVv (As := [.ref (b + 40)]) (rest := []) B cw_X8_111 cx_9 dX8_start_72 (ci_X8_goOn_849 l (σ := (ap b σ [(41, 19, 0), (41, 18, (-1)), (41, 16, (-1)), (41, 15, 0), (41, 14, 0), (41, 13, 0), (41, 12, 0), (41, 10, (-1)), (41, 9, (-1)), (41, 8, 0), (41, 7, 0), (41, 6, ((w1.toInt64).toInt32)), (41, 5, 0), (41, 4, 1), (44, 1, 0), (42, 1, 0), (37, 2, 1), (38, 0, 0), (40, 5, 0), (40, 4, (-1)), (0, 7, 1)] [(41, 17, 0), (41, 11, 0), (39, 0, (w1.toInt64))] [(41, 3, (some (b + 37))), (41, 2, (some (b + 29))), (40, 3, (some (b + 29)))])) (b := b) (lyA hK) ((w1.toInt64).toInt32) (iv_l2i (iv_i2l q1_w1 q2_w1).1 (iv_i2l q1_w1 q2_w1).2 (by decide) (by decide)).1 (iv_l2i (iv_i2l q1_w1 q2_w1).1 (iv_i2l q1_w1 q2_w1).2 (by decide) (by decide)).2 (rI_at 5 1 hI_5_1) (rI_at 5 2 hI_5_2) (rI_at 7 1 hI_7_1) (rI_at 7 2 hI_7_2) (rI_at 30 0 hI_30_0) (rI_at 31 0 hI_31_0) (rI_at 32 0 hI_32_0) (rI_at 37 2 rfl) (rI_at 40 4 rfl) (rI_at 40 8 hI_40_8) (rI_at 41 4 rfl) (rI_at 41 5 rfl) (rI_at 41 6 rfl) (rI_at 41 7 rfl) (rI_at 41 8 rfl) (rI_at 41 14 rfl) (rI_at 41 15 rfl) (rI_at 41 16 rfl) (rI_at 41 18 rfl) (rI_at 41 19 rfl) (rR_at 0 4 hR_0_4) (rR_at 0 5 hR_0_5) (rR_at 5 0 hR_5_0) (rR_at 29 1 hR_29_1) (rR_at 29 2 hR_29_2) (rR_at 29 3 hR_29_3) (rR_at 37 0 hR_37_0) (rR_at 37 1 hR_37_1) (rR_at 40 1 hR_40_1) (rR_at 40 2 hR_40_2) (rR_at 40 7 hR_40_7) (rR_at 41 2 rfl) (rR_at 41 3 rfl)) (lKA (hk_K hK 0 rfl rfl)) rfl (by decide) rfl (Nat.le_of_ble_eq_true rfl) (by decide) (fun u hu => ?_)
  refine z_eqs (σ' := (ap b σ [(7, 2, 0), (7, 1, 0), (40, 8, 2), (5, 2, 0), (41, 19, 0), (41, 19, 0), (41, 15, 1), (41, 4, 2), (41, 16, (-1)), (37, 2, 2), (38, 1, 13), (41, 16, 13), (41, 7, 1), (41, 5, 1), (5, 2, 1), (41, 19, 0), (41, 18, (-1)), (41, 16, (-1)), (41, 15, 0), (41, 14, 0), (41, 13, 0), (41, 12, 0), (41, 10, (-1)), (41, 9, (-1)), (41, 8, 0), (41, 7, 0), (41, 6, ((w1.toInt64).toInt32)), (41, 5, 0), (41, 4, 1), (44, 1, 0), (42, 1, 0), (37, 2, 1), (38, 0, 0), (40, 5, 0), (40, 4, (-1)), (0, 7, 1)] [(39, 1, ((10 * (((w1.toInt64).toInt32).toInt64)) + 1)), (41, 17, ((10 * (((w1.toInt64).toInt32).toInt64)) + 1)), (41, 17, 0), (41, 11, 0), (39, 0, (w1.toInt64))] [(6, 0, (some (b + 40))), (41, 3, (some (b + 37))), (41, 2, (some (b + 29))), (40, 3, (some (b + 29)))])) (hu.trans ap_ap) ?_
  show zx p l e _ s m _ below meth c g 5 0 0 _ _ 75 [(4, .ref (b + 40)), (3, .ref (b + 29)), (0, .ref (b + 0)), (1, .int 5), (2, .int w1)] _
  refine z_aload B dX8_start_75 0 rfl ?_
  refine gf_X8_150 (x := 0) B (lKA (hk_K hK 40 rfl rfl)) (rI_at 40 0 hI_40_0) dX8_start_77 ?_
  exact z_iret B hr (by decide) (by decide) dX8_start_80 ⟨rfl, rfl⟩
set_option maxRecDepth 100000 in
set_option maxHeartbeats 4000000 in
theorem ci_L_start_851 (l : Launch) {g : gx_T} {σ : sx_T} {b : Nat} (hK : lay b σ) (w1 : Int32) (q1_w1 : (0 : Int) ≤ w1.toInt) (q2_w1 : w1.toInt ≤ (999 : Int)) (hI_0_7 : sx_I σ (b + 0) 7 = 0) (hI_5_1 : sx_I σ (b + 5) 1 = 0) (hI_5_2 : sx_I σ (b + 5) 2 = 0) (hI_7_1 : sx_I σ (b + 7) 1 = 0) (hI_7_2 : sx_I σ (b + 7) 2 = 0) (hI_30_0 : sx_I σ (b + 30) 0 = 0) (hI_31_0 : sx_I σ (b + 31) 0 = 0) (hI_32_0 : sx_I σ (b + 32) 0 = 0) (hI_37_2 : sx_I σ (b + 37) 2 = 0) (hI_40_0 : sx_I σ (b + 40) 0 = 0) (hI_40_8 : sx_I σ (b + 40) 8 = 0) (hR_0_0 : sx_R σ (b + 0) 0 = (some (b + 1))) (hR_0_2 : sx_R σ (b + 0) 2 = (some (b + 3))) (hR_0_4 : sx_R σ (b + 0) 4 = (some (b + 5))) (hR_0_5 : sx_R σ (b + 0) 5 = (some (b + 7))) (hR_1_5 : sx_R σ (b + 1) 5 = (some (b + 29))) (hR_3_0 : sx_R σ (b + 3) 0 = (some (b + 40))) (hR_5_0 : sx_R σ (b + 5) 0 = (some (b + 6))) (hR_29_1 : sx_R σ (b + 29) 1 = (some (b + 30))) (hR_29_2 : sx_R σ (b + 29) 2 = (some (b + 31))) (hR_29_3 : sx_R σ (b + 29) 3 = (some (b + 32))) (hR_37_0 : sx_R σ (b + 37) 0 = (some (b + 38))) (hR_37_1 : sx_R σ (b + 37) 1 = (some (b + 39))) (hR_40_1 : sx_R σ (b + 40) 1 = (some (b + 37))) (hR_40_2 : sx_R σ (b + 40) 2 = (some (b + 41))) (hR_40_7 : sx_R σ (b + 40) 7 = none) (hR_41_0 : sx_R σ (b + 41) 0 = (some (b + 42))) (hR_41_1 : sx_R σ (b + 41) 1 = (some (b + 44))) : Met l yL_start (.codeWith yL_start cL_start 5 (some .int) [(0, 10, 13, 13), (0, 10, 17, 15), (0, 10, 21, 24)] :: lw_g) { frames := 5, cells := 0, slots := 0, locals := 120 } (va_Pc [.ref (b + 0), .int 5, .int w1, .ref (b + 431)] (zx_w g σ)) (va_Qi (fun r u => r = 0 ∧ u = (ap b σ [(7, 2, 0), (7, 1, 0), (40, 8, 2), (5, 2, 0), (41, 19, 0), (41, 19, 0), (41, 15, 1), (41, 4, 2), (41, 16, (-1)), (37, 2, 2), (38, 1, 13), (41, 16, 13), (41, 7, 1), (41, 5, 1), (5, 2, 1), (41, 19, 0), (41, 18, (-1)), (41, 16, (-1)), (41, 15, 0), (41, 14, 0), (41, 13, 0), (41, 12, 0), (41, 10, (-1)), (41, 9, (-1)), (41, 8, 0), (41, 7, 0), (41, 6, ((w1.toInt64).toInt32)), (41, 5, 0), (41, 4, 1), (44, 1, 0), (42, 1, 0), (37, 2, 1), (38, 0, 0), (40, 5, 0), (40, 4, (-1)), (0, 7, 1)] [(431, 0, 0), (39, 1, ((10 * (((w1.toInt64).toInt32).toInt64)) + 1)), (41, 17, ((10 * (((w1.toInt64).toInt32).toInt64)) + 1)), (41, 17, 0), (41, 11, 0), (39, 0, (w1.toInt64))] [(6, 0, (some (b + 40))), (41, 3, (some (b + 37))), (41, 2, (some (b + 29))), (40, 3, (some (b + 29)))])) (zx_w g) (gx_Q g)) 0 0 (gx_Q g) := by
  refine z_metW (by decide) (Nat.le_of_ble_eq_true rfl) (fun p e s m below meth c B hr htab => ?_)
  refine z_eqs (σ' := (ap b σ [] [] [])) rfl ?_
  show zx p l e _ s m _ below meth c g 5 0 0 _ _ 0 [(0, .ref (b + 0)), (1, .int 5), (2, .int w1), (3, .ref (b + 431))] []
  refine z_aload_n B dL_start_0 rfl 3 rfl ?_
  refine z_iconst (v := 0) B dL_start_1 (by decide) ?_
  refine z_aload_n B dL_start_2 rfl 0 rfl ?_
  refine z_iload_n B dL_start_3 rfl 1 rfl ?_
  refine z_iload_n B dL_start_4 rfl 2 rfl ?_
  refine z_cVi (As := [.int 5, .int w1]) (rest := [.int 0, .ref (b + 431)]) B cw_L_20 cx_9 dL_start_5 (ci_X8_start_850 l (σ := (ap b σ [] [] [])) (b := b) (lyA hK) w1 q1_w1 q2_w1 (rI_at 0 7 hI_0_7) (rI_at 5 1 hI_5_1) (rI_at 5 2 hI_5_2) (rI_at 7 1 hI_7_1) (rI_at 7 2 hI_7_2) (rI_at 30 0 hI_30_0) (rI_at 31 0 hI_31_0) (rI_at 32 0 hI_32_0) (rI_at 37 2 hI_37_2) (rI_at 40 0 hI_40_0) (rI_at 40 8 hI_40_8) (rR_at 0 0 hR_0_0) (rR_at 0 2 hR_0_2) (rR_at 0 4 hR_0_4) (rR_at 0 5 hR_0_5) (rR_at 1 5 hR_1_5) (rR_at 3 0 hR_3_0) (rR_at 5 0 hR_5_0) (rR_at 29 1 hR_29_1) (rR_at 29 2 hR_29_2) (rR_at 29 3 hR_29_3) (rR_at 37 0 hR_37_0) (rR_at 37 1 hR_37_1) (rR_at 40 1 hR_40_1) (rR_at 40 2 hR_40_2) (rR_at 40 7 hR_40_7) (rR_at 41 0 hR_41_0) (rR_at 41 1 hR_41_1)) (lKA (hk_K hK 0 rfl rfl)) rfl (by decide) rfl (Nat.le_of_ble_eq_true rfl) (by decide) (fun r u hu => ?_)
  refine z_eqs (σ' := (ap b σ [(7, 2, 0), (7, 1, 0), (40, 8, 2), (5, 2, 0), (41, 19, 0), (41, 19, 0), (41, 15, 1), (41, 4, 2), (41, 16, (-1)), (37, 2, 2), (38, 1, 13), (41, 16, 13), (41, 7, 1), (41, 5, 1), (5, 2, 1), (41, 19, 0), (41, 18, (-1)), (41, 16, (-1)), (41, 15, 0), (41, 14, 0), (41, 13, 0), (41, 12, 0), (41, 10, (-1)), (41, 9, (-1)), (41, 8, 0), (41, 7, 0), (41, 6, ((w1.toInt64).toInt32)), (41, 5, 0), (41, 4, 1), (44, 1, 0), (42, 1, 0), (37, 2, 1), (38, 0, 0), (40, 5, 0), (40, 4, (-1)), (0, 7, 1)] [(39, 1, ((10 * (((w1.toInt64).toInt32).toInt64)) + 1)), (41, 17, ((10 * (((w1.toInt64).toInt32).toInt64)) + 1)), (41, 17, 0), (41, 11, 0), (39, 0, (w1.toInt64))] [(6, 0, (some (b + 40))), (41, 3, (some (b + 37))), (41, 2, (some (b + 29))), (40, 3, (some (b + 29)))])) (hu.2.trans ap_ap) ?_
  show zx p l e _ s m _ below meth c g 5 0 0 _ _ 8 [(0, .ref (b + 0)), (1, .int 5), (2, .int w1), (3, .ref (b + 431))] _
  refine z_seti (y := 0) hu.1 ?_
  refine z_i2l (v := 0) B dL_start_8 (by decide) ?_
  refine z_last (j := 0) (σ' := (ap b σ [(7, 2, 0), (7, 1, 0), (40, 8, 2), (5, 2, 0), (41, 19, 0), (41, 19, 0), (41, 15, 1), (41, 4, 2), (41, 16, (-1)), (37, 2, 2), (38, 1, 13), (41, 16, 13), (41, 7, 1), (41, 5, 1), (5, 2, 1), (41, 19, 0), (41, 18, (-1)), (41, 16, (-1)), (41, 15, 0), (41, 14, 0), (41, 13, 0), (41, 12, 0), (41, 10, (-1)), (41, 9, (-1)), (41, 8, 0), (41, 7, 0), (41, 6, ((w1.toInt64).toInt32)), (41, 5, 0), (41, 4, 1), (44, 1, 0), (42, 1, 0), (37, 2, 1), (38, 0, 0), (40, 5, 0), (40, 4, (-1)), (0, 7, 1)] [(431, 0, 0), (39, 1, ((10 * (((w1.toInt64).toInt32).toInt64)) + 1)), (41, 17, ((10 * (((w1.toInt64).toInt32).toInt64)) + 1)), (41, 17, 0), (41, 11, 0), (39, 0, (w1.toInt64))] [(6, 0, (some (b + 40))), (41, 3, (some (b + 37))), (41, 2, (some (b + 29))), (40, 3, (some (b + 29)))])) B (lKA (hk_K hK 431 rfl rfl)) (by decide) (in_of (lNA (hk_N hK 431 rfl rfl)) (show ¬ ((0 : Int32) < 0 ∨ 1 ≤ (0 : Int32).toNatClampNeg) by decide)) wJ_ap dL_start_9 ?_
  refine z_goto (tgt := 25) B dL_start_10 (by decide) ?_
  refine z_iconst (v := 0) B dL_start_25 (by decide) ?_
  exact z_iret B hr (by decide) (by decide) dL_start_26 ⟨rfl, rfl⟩
set_option maxRecDepth 100000 in
set_option maxHeartbeats 4000000 in
theorem ci_X9_start_852 (l : Launch) {g : gx_T} {σ : sx_T} {b : Nat} (hK : lay b σ) (w1 : Int32) (q1_w1 : (0 : Int) ≤ w1.toInt) (q2_w1 : w1.toInt ≤ (999 : Int)) (hI_405_6 : sx_I σ (b + 405) 6 = 0) (hI_405_16 : sx_I σ (b + 405) 16 = 0) (hI_406_100 : sx_I σ (b + 406) 100 = 0) (hI_407_100 : sx_I σ (b + 407) 100 = 0) (hI_412_0 : sx_I σ (b + 412) 0 = 0) (hI_413_0 : sx_I σ (b + 413) 0 = 0) (hR_405_3 : sx_R σ (b + 405) 3 = (some (b + 406))) (hR_405_4 : sx_R σ (b + 405) 4 = (some (b + 407))) (hR_405_7 : sx_R σ (b + 405) 7 = (some (b + 409))) (hR_405_8 : sx_R σ (b + 405) 8 = (some (b + 410))) (hR_405_9 : sx_R σ (b + 405) 9 = (some (b + 411))) (hR_405_10 : sx_R σ (b + 405) 10 = (some (b + 412))) (hR_405_11 : sx_R σ (b + 405) 11 = (some (b + 413))) (hR_405_12 : sx_R σ (b + 405) 12 = (some (b + 414))) (hR_405_13 : sx_R σ (b + 405) 13 = (some (b + 415))) (hR_405_14 : sx_R σ (b + 405) 14 = (some (b + 416))) (hR_405_15 : sx_R σ (b + 405) 15 = (some (b + 417))) (hR_405_42 : sx_R σ (b + 405) 42 = (some (b + 428))) : Met l yX9_start (.code yX9_start cX9_start 4 (some .int) :: lw_g) { frames := 6, cells := 0, slots := 0, locals := 154 } (va_Pc [.ref (b + 405), .int 5, .int w1] (zx_w g σ)) (va_Qi (fun r u => r = 0 ∧ u = (ap b σ [(412, 0, 1), (414, 0, 2), (405, 26, 1), (405, 37, 1), (405, 27, 2), (413, 0, 2), (416, 1, 13), (405, 28, 1), (405, 38, 1), (405, 48, (-1)), (405, 27, 1), (405, 29, ((w1.toInt64).toInt32)), (405, 26, 1), (405, 47, 1), (405, 39, 0), (405, 38, 0), (405, 37, 0), (405, 36, 0), (405, 35, 0), (405, 34, 0), (405, 32, 0), (405, 31, 0), (405, 30, 0), (405, 29, 0), (405, 28, 0), (405, 27, 0), (405, 26, 1), (428, 0, 0), (405, 45, 0), (405, 43, 0), (413, 0, 1), (416, 0, 0), (415, 0, (-1)), (411, 0, 0), (410, 0, (-1)), (409, 0, 5), (405, 6, 1), (405, 0, 0)] [(417, 1, ((10 * (((w1.toInt64).toInt32).toInt64)) + 1)), (417, 0, (w1.toInt64))] [])) (zx_w g) (gx_Q g)) 0 0 (gx_Q g) := by
  refine z_met (by decide) (Nat.le_of_ble_eq_true rfl) (fun p e s m below meth c B hr hin => ?_)
  refine z_eqs (σ' := (ap b σ [] [] [])) rfl ?_
  show zx p l e _ s m _ below meth c g 4 0 0 _ _ 0 [(0, .ref (b + 405)), (1, .int 5), (2, .int w1)] []
  refine z_aload_n B dX9_start_0 rfl 0 rfl ?_
  refine z_iload_n B dX9_start_1 rfl 1 rfl ?_
  refine z_iconst (v := 0) B dX9_start_2 (by decide) ?_
  refine z_iconst (v := 5) B dX9_start_3 (by decide) ?_
  refine z_cSi (As := [.int 5, .int 0, .int 5]) (rest := [.ref (b + 405)]) B cw_X9_96 dX9_start_4 (ci_X9_in_321 l (σ := (ap b σ [] [] [])) (b := b) (lyA hK) ) rfl (by decide) rfl (Nat.le_of_ble_eq_true rfl) (by decide) (fun r u hu => ?_)
  refine z_eqs (σ' := (ap b σ [] [] [])) hu.2 ?_
  show zx p l e _ s m _ below meth c g 4 0 0 _ _ 7 [(0, .ref (b + 405)), (1, .int 5), (2, .int w1)] _
  refine z_seti (y := 1) hu.1 ?_
  refine z_iload_n B dX9_start_7 rfl 2 rfl ?_
  refine z_sipush (v := (-999)) B dX9_start_8 (by decide) ?_
  refine z_sipush (v := 999) B dX9_start_11 (by decide) ?_
  refine z_cSi (As := [.int w1, .int (-999), .int 999]) (rest := [.int 1, .ref (b + 405)]) B cw_X9_96 dX9_start_14 (ci_X9_in_721 l (σ := (ap b σ [] [] [])) (b := b) (lyA hK) w1 q1_w1 q2_w1) rfl (by decide) rfl (Nat.le_of_ble_eq_true rfl) (by decide) (fun r u hu => ?_)
  refine z_eqs (σ' := (ap b σ [] [] [])) hu.2 ?_
  show zx p l e _ s m _ below meth c g 4 0 0 _ _ 17 [(0, .ref (b + 405)), (1, .int 5), (2, .int w1)] _
  refine z_seti (y := 1) hu.1 ?_
  refine z_aload_n B dX9_start_17 rfl 0 rfl ?_
  refine gf_X9_93 (x := 0) B (lKA (hk_K hK 405 rfl rfl)) (rI_at 405 6 hI_405_6) dX9_start_18 ?_
  refine z_bipush (v := 40) B dX9_start_21 (by decide) ?_
  refine z_icmp_ge (tgt := 30) B dX9_start_23 (by decide) (fun h => absurd h (by decide)) (fun _ => ?_)
  refine z_iconst (v := 1) B dX9_start_26 (by decide) ?_
  refine z_goto (tgt := 31) B dX9_start_27 (by decide) ?_
  refine z_cVi (As := [.int 1, .int 1, .int 1]) (rest := []) B cw_X9_259 cx_10 dX9_start_31 (ci_X9_needs___703 l (σ := (ap b σ [] [] [])) (b := b) (lyA hK) ) (lKA (hk_K hK 405 rfl rfl)) rfl (by decide) rfl (Nat.le_of_ble_eq_true rfl) (by decide) (fun r u hu => ?_)
  refine z_eqs (σ' := (ap b σ [(405, 0, 0)] [] [])) (hu.2.trans ap_ap) ?_
  show zx p l e _ s m _ below meth c g 4 0 0 _ _ 34 [(0, .ref (b + 405)), (1, .int 5), (2, .int w1)] _
  refine z_seti (y := 1) hu.1 ?_
  refine z_if_ne (tgt := 39) B dX9_start_34 (by decide) (fun _ => ?_) (fun h => absurd h (by decide))
  refine z_aload_n B dX9_start_39 rfl 0 rfl ?_
  refine z_iload_n B dX9_start_40 rfl 1 rfl ?_
  refine z_iload_n B dX9_start_41 rfl 2 rfl ?_
  refine z_iconst (v := (-1)) B dX9_start_42 (by decide) ?_
  refine z_iconst (v := (-1)) B dX9_start_43 (by decide) ?_
  refine z_cVi (As := [.int 5, .int w1, .int (-1), .int (-1)]) (rest := []) B cw_X9_168 cx_10 dX9_start_44 (ci_X9_begets_843 l (σ := (ap b σ [(405, 0, 0)] [] [])) (b := b) (lyA hK) w1 (rI_at 405 6 hI_405_6) (rI_at 413 0 hI_413_0) (rR_at 405 7 hR_405_7) (rR_at 405 8 hR_405_8) (rR_at 405 9 hR_405_9) (rR_at 405 11 hR_405_11) (rR_at 405 13 hR_405_13) (rR_at 405 14 hR_405_14) (rR_at 405 15 hR_405_15)) (lKA (hk_K hK 405 rfl rfl)) rfl (by decide) rfl (Nat.le_of_ble_eq_true rfl) (by decide) (fun r u hu => ?_)
  refine z_eqs (σ' := (ap b σ [(413, 0, 1), (416, 0, 0), (415, 0, (-1)), (411, 0, 0), (410, 0, (-1)), (409, 0, 5), (405, 6, 1), (405, 0, 0)] [(417, 0, (w1.toInt64))] [])) (hu.2.trans ap_ap) ?_
  show zx p l e _ s m _ below meth c g 4 0 0 _ _ 47 [(0, .ref (b + 405)), (1, .int 5), (2, .int w1)] _
  refine z_seti (y := 0) hu.1 ?_
  refine z_istore_n (lv' := [(3, .int 0), (0, .ref (b + 405)), (1, .int 5), (2, .int w1)]) B dX9_start_47 rfl (by decide) rfl ?_
  refine z_aload_n B dX9_start_48 rfl 1 rfl ?_
  refine z_iload_n B dX9_start_49 rfl 0 rfl ?_
  refine z_cVv (As := [.int 0]) (rest := []) B cw_X9_253 cx_10 dX9_start_50 (ci_X9_runs_847 l (σ := (ap b σ [(413, 0, 1), (416, 0, 0), (415, 0, (-1)), (411, 0, 0), (410, 0, (-1)), (409, 0, 5), (405, 6, 1), (405, 0, 0)] [(417, 0, (w1.toInt64))] [])) (b := b) (lyA hK) (w1.toInt64) (rI_at 405 16 hI_405_16) (rI_at 406 100 hI_406_100) (rI_at 407 100 hI_407_100) (rI_at 409 0 rfl) (rI_at 410 0 rfl) (rI_at 412 0 hI_412_0) (rI_at 413 0 rfl) (rI_at 416 0 rfl) (rJ_at 417 0 rfl) (rR_at 405 3 hR_405_3) (rR_at 405 4 hR_405_4) (rR_at 405 7 hR_405_7) (rR_at 405 8 hR_405_8) (rR_at 405 10 hR_405_10) (rR_at 405 11 hR_405_11) (rR_at 405 12 hR_405_12) (rR_at 405 14 hR_405_14) (rR_at 405 15 hR_405_15) (rR_at 405 42 hR_405_42)) (lKA (hk_K hK 405 rfl rfl)) rfl (by decide) rfl (Nat.le_of_ble_eq_true rfl) (by decide) (fun u hu => ?_)
  refine z_eqs (σ' := (ap b σ [(412, 0, 1), (414, 0, 2), (405, 26, 1), (405, 37, 1), (405, 27, 2), (413, 0, 2), (416, 1, 13), (405, 28, 1), (405, 38, 1), (405, 48, (-1)), (405, 27, 1), (405, 29, ((w1.toInt64).toInt32)), (405, 26, 1), (405, 47, 1), (405, 39, 0), (405, 38, 0), (405, 37, 0), (405, 36, 0), (405, 35, 0), (405, 34, 0), (405, 32, 0), (405, 31, 0), (405, 30, 0), (405, 29, 0), (405, 28, 0), (405, 27, 0), (405, 26, 1), (428, 0, 0), (405, 45, 0), (405, 43, 0), (413, 0, 1), (416, 0, 0), (415, 0, (-1)), (411, 0, 0), (410, 0, (-1)), (409, 0, 5), (405, 6, 1), (405, 0, 0)] [(417, 1, ((10 * (((w1.toInt64).toInt32).toInt64)) + 1)), (417, 0, (w1.toInt64))] [])) (hu.trans ap_ap) ?_
  show zx p l e _ s m _ below meth c g 4 0 0 _ _ 53 [(3, .int 0), (0, .ref (b + 405)), (1, .int 5), (2, .int w1)] _
  refine z_iload_n B dX9_start_53 rfl 0 rfl ?_
  exact z_iret B hr (by decide) (by decide) dX9_start_54 ⟨rfl, rfl⟩
set_option maxRecDepth 100000 in
set_option maxHeartbeats 4000000 in
theorem ci_X8_start_853 (l : Launch) (hlt : l.stackTraces = false) {g : gx_T} {σ : sx_T} {b : Nat} (hK : lay b σ) (w1 : Int32) (q1_w1 : (1000 : Int) ≤ w1.toInt) (q2_w1 : w1.toInt ≤ (2147483647 : Int)) (hR_0_0 : sx_R σ (b + 0) 0 = (some (b + 1))) (hR_1_5 : sx_R σ (b + 1) 5 = (some (b + 29))) : vx_Met l yX8_start (.code yX8_start cX8_start 5 (some .int) :: lw_g) { frames := 7, cells := 1, slots := 6, locals := 136 } (va_Pc [.ref (b + 0), .int 5, .int w1] (zx_w g σ)) (va_Qi (S := sx_T) (fun _ _ => False) (zx_w g) (gx_Q g)) (vx_X (fun u : sx_T => ∃ z, u = wx_Z σ z) (fun E u t => E = "java/lang/IllegalArgumentException" ∧ zx_h g u t.heap) (gx_Q g)) 1 6 (gx_Q g) := by
  refine z_metX (by decide) (Nat.le_of_ble_eq_true rfl) (fun p e s m below meth c B hr hin hout => ?_)
  refine z_eqs (σ' := (ap b σ [] [] [])) rfl ?_
  show zx p l e _ s m _ below meth c g 5 0 0 _ _ 0 [(0, .ref (b + 0)), (1, .int 5), (2, .int w1)] []
  refine z_aload_n B dX8_start_0 rfl 0 rfl ?_
  refine z_iload_n B dX8_start_1 rfl 1 rfl ?_
  refine z_cVq (As := [.int 5]) (rest := []) B cw_X8_64 cx_9 dX8_start_2 (ci_X8_programAt_318 l (σ := (ap b σ [] [] [])) (b := b) (lyA hK) (rR_at 0 0 hR_0_0) (rR_at 1 5 hR_1_5)) (lKA (hk_K hK 0 rfl rfl)) rfl (by decide) rfl (Nat.le_of_ble_eq_true rfl) (by decide) (fun r u hu => ?_)
  refine z_eqs (σ' := (ap b σ [] [] [])) hu.2 ?_
  show zx p l e _ s m _ below meth c g 5 0 0 _ _ 5 [(0, .ref (b + 0)), (1, .int 5), (2, .int w1)] _
  refine z_setr (y := (some (b + 29))) hu.1 ?_
  refine z_astore_n (lv' := [(3, .ref (b + 29)), (0, .ref (b + 0)), (1, .int 5), (2, .int w1)]) B dX8_start_5 rfl (by decide) rfl ?_
  refine z_aload_n B dX8_start_6 rfl 0 rfl ?_
  refine z_ifnonnull (r := (some (b + 29))) (tgt := 20) B dX8_start_7 (by decide) (fun _ _ => ?_) (fun h => nomatch h)
  refine z_iload_n B dX8_start_20 rfl 3 rfl ?_
  refine z_sipush (v := (-999)) B dX8_start_21 (by decide) ?_
  refine z_icmp_lt (tgt := 34) B dX8_start_24 (by decide) (fun h => absurd h (iv_nlt q1_w1 (by decide))) (fun _ => ?_)
  refine z_iload_n B dX8_start_27 rfl 3 rfl ?_
  refine z_sipush (v := 999) B dX8_start_28 (by decide) ?_
  refine z_icmp_le (tgt := 44) B dX8_start_31 (by decide) (fun h => absurd h (iv_nle q1_w1 (by decide))) (fun _ => ?_)
  exact z_throw B hlt hout (cls := "java/lang/IllegalArgumentException") (text := "input is out of range") tw_X8_83_139_87 dX8_start_34 dX8_start_37 dX8_start_38 dX8_start_40 dX8_start_43 (by decide) (by decide) (by decide) (by decide) (by decide) (by decide) (fun z => ⟨z, rfl⟩)
set_option maxRecDepth 100000 in
set_option maxHeartbeats 4000000 in
theorem ci_L_start_854 (l : Launch) (hlt : l.stackTraces = false) {g : gx_T} {σ : sx_T} {b : Nat} (hK : lay b σ) (w1 : Int32) (q1_w1 : (1000 : Int) ≤ w1.toInt) (q2_w1 : w1.toInt ≤ (2147483647 : Int)) (hR_0_0 : sx_R σ (b + 0) 0 = (some (b + 1))) (hR_1_5 : sx_R σ (b + 1) 5 = (some (b + 29))) : Met l yL_start (.codeWith yL_start cL_start 5 (some .int) [(0, 10, 13, 13), (0, 10, 17, 15), (0, 10, 21, 24)] :: lw_g) { frames := 8, cells := 1, slots := 6, locals := 160 } (va_Pc [.ref (b + 0), .int 5, .int w1, .ref (b + 431)] (zx_w g σ)) (va_Qi (fun r u => r = 2 ∧ ∃ z, u = (ap b (wx_Z σ z) [] [] [])) (zx_w g) (gx_Q g)) 1 6 (gx_Q g) := by
  refine z_metW (by decide) (Nat.le_of_ble_eq_true rfl) (fun p e s m below meth c B hr htab => ?_)
  refine z_eqs (σ' := (ap b σ [] [] [])) rfl ?_
  show zx p l e _ s m _ below meth c g 5 0 0 _ _ 0 [(0, .ref (b + 0)), (1, .int 5), (2, .int w1), (3, .ref (b + 431))] []
  refine z_aload_n B dL_start_0 rfl 3 rfl ?_
  refine z_iconst (v := 0) B dL_start_1 (by decide) ?_
  refine z_aload_n B dL_start_2 rfl 0 rfl ?_
  refine z_iload_n B dL_start_3 rfl 1 rfl ?_
  refine z_iload_n B dL_start_4 rfl 2 rfl ?_
  refine z_cXi (As := [.int 5, .int w1]) (rest := [.int 0, .ref (b + 431)]) B htab tc_start_5_IllegalArgumentException cw_L_20 cx_9 dL_start_5 (ci_X8_start_853 l hlt (σ := (ap b σ [] [] [])) (b := b) (lyA hK) w1 q1_w1 q2_w1 (rR_at 0 0 hR_0_0) (rR_at 1 5 hR_1_5)) (lKA (hk_K hK 0 rfl rfl)) rfl (by decide) rfl (Nat.le_of_ble_eq_true rfl) (by decide) (fun z q => ?_)
  refine z_eqs (σ' := (ap b (wx_Z σ z) [] [] [])) rfl ?_
  show zx p l e _ s m _ below meth c g 5 _ _ _ _ 17 [(0, .ref (b + 0)), (1, .int 5), (2, .int w1), (3, .ref (b + 431))] _
  refine z_astore (lv' := [(4, .ref q), (0, .ref (b + 0)), (1, .int 5), (2, .int w1), (3, .ref (b + 431))]) B dL_start_17 (by decide) rfl ?_
  refine z_iconst (v := 2) B dL_start_19 (by decide) ?_
  exact z_iret B hr (by decide) (by decide) dL_start_20 ⟨rfl, _, rfl⟩
set_option maxRecDepth 100000 in
set_option maxHeartbeats 4000000 in
theorem ci_X9_start_855 (l : Launch) {g : gx_T} {σ : sx_T} {b : Nat} (hK : lay b σ) (w1 : Int32) (q1_w1 : (1000 : Int) ≤ w1.toInt) (q2_w1 : w1.toInt ≤ (2147483647 : Int)) (hI_405_6 : sx_I σ (b + 405) 6 = 0) : Met l yX9_start (.code yX9_start cX9_start 4 (some .int) :: lw_g) { frames := 1, cells := 0, slots := 0, locals := 23 } (va_Pc [.ref (b + 405), .int 5, .int w1] (zx_w g σ)) (va_Qi (fun r u => r = 0 ∧ u = (ap b σ [(405, 0, 2)] [] [])) (zx_w g) (gx_Q g)) 0 0 (gx_Q g) := by
  refine z_met (by decide) (Nat.le_of_ble_eq_true rfl) (fun p e s m below meth c B hr hin => ?_)
  refine z_eqs (σ' := (ap b σ [] [] [])) rfl ?_
  show zx p l e _ s m _ below meth c g 4 0 0 _ _ 0 [(0, .ref (b + 405)), (1, .int 5), (2, .int w1)] []
  refine z_aload_n B dX9_start_0 rfl 0 rfl ?_
  refine z_iload_n B dX9_start_1 rfl 1 rfl ?_
  refine z_iconst (v := 0) B dX9_start_2 (by decide) ?_
  refine z_iconst (v := 5) B dX9_start_3 (by decide) ?_
  refine z_cSi (As := [.int 5, .int 0, .int 5]) (rest := [.ref (b + 405)]) B cw_X9_96 dX9_start_4 (ci_X9_in_321 l (σ := (ap b σ [] [] [])) (b := b) (lyA hK) ) rfl (by decide) rfl (Nat.le_of_ble_eq_true rfl) (by decide) (fun r u hu => ?_)
  refine z_eqs (σ' := (ap b σ [] [] [])) hu.2 ?_
  show zx p l e _ s m _ below meth c g 4 0 0 _ _ 7 [(0, .ref (b + 405)), (1, .int 5), (2, .int w1)] _
  refine z_seti (y := 1) hu.1 ?_
  refine z_iload_n B dX9_start_7 rfl 2 rfl ?_
  refine z_sipush (v := (-999)) B dX9_start_8 (by decide) ?_
  refine z_sipush (v := 999) B dX9_start_11 (by decide) ?_
  refine z_cSi (As := [.int w1, .int (-999), .int 999]) (rest := [.int 1, .ref (b + 405)]) B cw_X9_96 dX9_start_14 (ci_X9_in_657 l (σ := (ap b σ [] [] [])) (b := b) (lyA hK) w1 q1_w1 q2_w1) rfl (by decide) rfl (Nat.le_of_ble_eq_true rfl) (by decide) (fun r u hu => ?_)
  refine z_eqs (σ' := (ap b σ [] [] [])) hu.2 ?_
  show zx p l e _ s m _ below meth c g 4 0 0 _ _ 17 [(0, .ref (b + 405)), (1, .int 5), (2, .int w1)] _
  refine z_seti (y := 0) hu.1 ?_
  refine z_aload_n B dX9_start_17 rfl 0 rfl ?_
  refine gf_X9_93 (x := 0) B (lKA (hk_K hK 405 rfl rfl)) (rI_at 405 6 hI_405_6) dX9_start_18 ?_
  refine z_bipush (v := 40) B dX9_start_21 (by decide) ?_
  refine z_icmp_ge (tgt := 30) B dX9_start_23 (by decide) (fun h => absurd h (by decide)) (fun _ => ?_)
  refine z_iconst (v := 1) B dX9_start_26 (by decide) ?_
  refine z_goto (tgt := 31) B dX9_start_27 (by decide) ?_
  refine z_cVi (As := [.int 1, .int 0, .int 1]) (rest := []) B cw_X9_259 cx_10 dX9_start_31 (ci_X9_needs___661 l (σ := (ap b σ [] [] [])) (b := b) (lyA hK) ) (lKA (hk_K hK 405 rfl rfl)) rfl (by decide) rfl (Nat.le_of_ble_eq_true rfl) (by decide) (fun r u hu => ?_)
  refine z_eqs (σ' := (ap b σ [(405, 0, 2)] [] [])) (hu.2.trans ap_ap) ?_
  show zx p l e _ s m _ below meth c g 4 0 0 _ _ 34 [(0, .ref (b + 405)), (1, .int 5), (2, .int w1)] _
  refine z_seti (y := 0) hu.1 ?_
  refine z_if_ne (tgt := 39) B dX9_start_34 (by decide) (fun h => absurd (by decide) h) (fun _ => ?_)
  refine z_iconst (v := 0) B dX9_start_37 (by decide) ?_
  exact z_iret B hr (by decide) (by decide) dX9_start_38 ⟨rfl, rfl⟩
set_option maxRecDepth 100000 in
set_option maxHeartbeats 4000000 in
theorem ci_X8_start_856 (l : Launch) (hlt : l.stackTraces = false) {g : gx_T} {σ : sx_T} {b : Nat} (hK : lay b σ) (w1 : Int32) (w2 : Int32) (q1_w1 : (6 : Int) ≤ w1.toInt) (q2_w1 : w1.toInt ≤ (2147483647 : Int)) (hR_0_0 : sx_R σ (b + 0) 0 = (some (b + 1))) : vx_Met l yX8_start (.code yX8_start cX8_start 5 (some .int) :: lw_g) { frames := 7, cells := 1, slots := 6, locals := 136 } (va_Pc [.ref (b + 0), .int w1, .int w2] (zx_w g σ)) (va_Qi (S := sx_T) (fun _ _ => False) (zx_w g) (gx_Q g)) (vx_X (fun u : sx_T => ∃ z, u = wx_Z σ z) (fun E u t => E = "java/lang/IndexOutOfBoundsException" ∧ zx_h g u t.heap) (gx_Q g)) 1 6 (gx_Q g) := by
  refine z_metX (by decide) (Nat.le_of_ble_eq_true rfl) (fun p e s m below meth c B hr hin hout => ?_)
  refine z_eqs (σ' := (ap b σ [] [] [])) rfl ?_
  show zx p l e _ s m _ below meth c g 5 0 0 _ _ 0 [(0, .ref (b + 0)), (1, .int w1), (2, .int w2)] []
  refine z_aload_n B dX8_start_0 rfl 0 rfl ?_
  refine z_iload_n B dX8_start_1 rfl 1 rfl ?_
  refine z_cVq (As := [.int w1]) (rest := []) B cw_X8_64 cx_9 dX8_start_2 (ci_X8_programAt_367 l (σ := (ap b σ [] [] [])) (b := b) (lyA hK) w1 q1_w1 q2_w1 (rR_at 0 0 hR_0_0)) (lKA (hk_K hK 0 rfl rfl)) rfl (by decide) rfl (Nat.le_of_ble_eq_true rfl) (by decide) (fun r u hu => ?_)
  refine z_eqs (σ' := (ap b σ [] [] [])) hu.2 ?_
  show zx p l e _ s m _ below meth c g 5 0 0 _ _ 5 [(0, .ref (b + 0)), (1, .int w1), (2, .int w2)] _
  refine z_setr (y := none) hu.1 ?_
  refine z_qstore_n (r := none) (lv' := [(3, .null), (0, .ref (b + 0)), (1, .int w1), (2, .int w2)]) B dX8_start_5 rfl (by decide) rfl ?_
  refine z_qload_n (r := none) B dX8_start_6 rfl 0 rfl ?_
  refine z_ifnonnull (r := none) (tgt := 20) B dX8_start_7 (by decide) (fun a h => nomatch h) (fun _ => ?_)
  exact z_throw B hlt hout (cls := "java/lang/IndexOutOfBoundsException") (text := "no such program") tw_X8_72_137_76 dX8_start_10 dX8_start_13 dX8_start_14 dX8_start_16 dX8_start_19 (by decide) (by decide) (by decide) (by decide) (by decide) (by decide) (fun z => ⟨z, rfl⟩)
set_option maxRecDepth 100000 in
set_option maxHeartbeats 4000000 in
theorem ci_L_start_857 (l : Launch) (hlt : l.stackTraces = false) {g : gx_T} {σ : sx_T} {b : Nat} (hK : lay b σ) (w1 : Int32) (w2 : Int32) (q1_w1 : (6 : Int) ≤ w1.toInt) (q2_w1 : w1.toInt ≤ (2147483647 : Int)) (hR_0_0 : sx_R σ (b + 0) 0 = (some (b + 1))) : Met l yL_start (.codeWith yL_start cL_start 5 (some .int) [(0, 10, 13, 13), (0, 10, 17, 15), (0, 10, 21, 24)] :: lw_g) { frames := 8, cells := 1, slots := 6, locals := 160 } (va_Pc [.ref (b + 0), .int w1, .int w2, .ref (b + 431)] (zx_w g σ)) (va_Qi (fun r u => r = 1 ∧ ∃ z, u = (ap b (wx_Z σ z) [] [] [])) (zx_w g) (gx_Q g)) 1 6 (gx_Q g) := by
  refine z_metW (by decide) (Nat.le_of_ble_eq_true rfl) (fun p e s m below meth c B hr htab => ?_)
  refine z_eqs (σ' := (ap b σ [] [] [])) rfl ?_
  show zx p l e _ s m _ below meth c g 5 0 0 _ _ 0 [(0, .ref (b + 0)), (1, .int w1), (2, .int w2), (3, .ref (b + 431))] []
  refine z_aload_n B dL_start_0 rfl 3 rfl ?_
  refine z_iconst (v := 0) B dL_start_1 (by decide) ?_
  refine z_aload_n B dL_start_2 rfl 0 rfl ?_
  refine z_iload_n B dL_start_3 rfl 1 rfl ?_
  refine z_iload_n B dL_start_4 rfl 2 rfl ?_
  refine z_cXi (As := [.int w1, .int w2]) (rest := [.int 0, .ref (b + 431)]) B htab tc_start_5_IndexOutOfBoundsException cw_L_20 cx_9 dL_start_5 (ci_X8_start_856 l hlt (σ := (ap b σ [] [] [])) (b := b) (lyA hK) w1 w2 q1_w1 q2_w1 (rR_at 0 0 hR_0_0)) (lKA (hk_K hK 0 rfl rfl)) rfl (by decide) rfl (Nat.le_of_ble_eq_true rfl) (by decide) (fun z q => ?_)
  refine z_eqs (σ' := (ap b (wx_Z σ z) [] [] [])) rfl ?_
  show zx p l e _ s m _ below meth c g 5 _ _ _ _ 13 [(0, .ref (b + 0)), (1, .int w1), (2, .int w2), (3, .ref (b + 431))] _
  refine z_astore (lv' := [(4, .ref q), (0, .ref (b + 0)), (1, .int w1), (2, .int w2), (3, .ref (b + 431))]) B dL_start_13 (by decide) rfl ?_
  refine z_iconst (v := 1) B dL_start_15 (by decide) ?_
  exact z_iret B hr (by decide) (by decide) dL_start_16 ⟨rfl, _, rfl⟩
set_option maxRecDepth 100000 in
set_option maxHeartbeats 4000000 in
theorem ci_X9_start_858 (l : Launch) {g : gx_T} {σ : sx_T} {b : Nat} (hK : lay b σ) (w1 : Int32) (w2 : Int32) (q1_w1 : (6 : Int) ≤ w1.toInt) (q2_w1 : w1.toInt ≤ (2147483647 : Int)) (q1_w2 : (-2147483648 : Int) ≤ w2.toInt) (q2_w2 : w2.toInt ≤ (-1000 : Int)) (hI_405_6 : sx_I σ (b + 405) 6 = 0) : Met l yX9_start (.code yX9_start cX9_start 4 (some .int) :: lw_g) { frames := 1, cells := 0, slots := 0, locals := 23 } (va_Pc [.ref (b + 405), .int w1, .int w2] (zx_w g σ)) (va_Qi (fun r u => r = 0 ∧ u = (ap b σ [(405, 0, 1)] [] [])) (zx_w g) (gx_Q g)) 0 0 (gx_Q g) := by
  refine z_met (by decide) (Nat.le_of_ble_eq_true rfl) (fun p e s m below meth c B hr hin => ?_)
  refine z_eqs (σ' := (ap b σ [] [] [])) rfl ?_
  show zx p l e _ s m _ below meth c g 4 0 0 _ _ 0 [(0, .ref (b + 405)), (1, .int w1), (2, .int w2)] []
  refine z_aload_n B dX9_start_0 rfl 0 rfl ?_
  refine z_iload_n B dX9_start_1 rfl 1 rfl ?_
  refine z_iconst (v := 0) B dX9_start_2 (by decide) ?_
  refine z_iconst (v := 5) B dX9_start_3 (by decide) ?_
  refine z_cSi (As := [.int w1, .int 0, .int 5]) (rest := [.ref (b + 405)]) B cw_X9_96 dX9_start_4 (ci_X9_in_370 l (σ := (ap b σ [] [] [])) (b := b) (lyA hK) w1 q1_w1 q2_w1) rfl (by decide) rfl (Nat.le_of_ble_eq_true rfl) (by decide) (fun r u hu => ?_)
  refine z_eqs (σ' := (ap b σ [] [] [])) hu.2 ?_
  show zx p l e _ s m _ below meth c g 4 0 0 _ _ 7 [(0, .ref (b + 405)), (1, .int w1), (2, .int w2)] _
  refine z_seti (y := 0) hu.1 ?_
  refine z_iload_n B dX9_start_7 rfl 2 rfl ?_
  refine z_sipush (v := (-999)) B dX9_start_8 (by decide) ?_
  refine z_sipush (v := 999) B dX9_start_11 (by decide) ?_
  refine z_cSi (As := [.int w2, .int (-999), .int 999]) (rest := [.int 0, .ref (b + 405)]) B cw_X9_96 dX9_start_14 (ci_X9_in_651 l (σ := (ap b σ [] [] [])) (b := b) (lyA hK) w2 q1_w2 q2_w2) rfl (by decide) rfl (Nat.le_of_ble_eq_true rfl) (by decide) (fun r u hu => ?_)
  refine z_eqs (σ' := (ap b σ [] [] [])) hu.2 ?_
  show zx p l e _ s m _ below meth c g 4 0 0 _ _ 17 [(0, .ref (b + 405)), (1, .int w1), (2, .int w2)] _
  refine z_seti (y := 0) hu.1 ?_
  refine z_aload_n B dX9_start_17 rfl 0 rfl ?_
  refine gf_X9_93 (x := 0) B (lKA (hk_K hK 405 rfl rfl)) (rI_at 405 6 hI_405_6) dX9_start_18 ?_
  refine z_bipush (v := 40) B dX9_start_21 (by decide) ?_
  refine z_icmp_ge (tgt := 30) B dX9_start_23 (by decide) (fun h => absurd h (by decide)) (fun _ => ?_)
  refine z_iconst (v := 1) B dX9_start_26 (by decide) ?_
  refine z_goto (tgt := 31) B dX9_start_27 (by decide) ?_
  refine z_cVi (As := [.int 0, .int 0, .int 1]) (rest := []) B cw_X9_259 cx_10 dX9_start_31 (ci_X9_needs___652 l (σ := (ap b σ [] [] [])) (b := b) (lyA hK) ) (lKA (hk_K hK 405 rfl rfl)) rfl (by decide) rfl (Nat.le_of_ble_eq_true rfl) (by decide) (fun r u hu => ?_)
  refine z_eqs (σ' := (ap b σ [(405, 0, 1)] [] [])) (hu.2.trans ap_ap) ?_
  show zx p l e _ s m _ below meth c g 4 0 0 _ _ 34 [(0, .ref (b + 405)), (1, .int w1), (2, .int w2)] _
  refine z_seti (y := 0) hu.1 ?_
  refine z_if_ne (tgt := 39) B dX9_start_34 (by decide) (fun h => absurd (by decide) h) (fun _ => ?_)
  refine z_iconst (v := 0) B dX9_start_37 (by decide) ?_
  exact z_iret B hr (by decide) (by decide) dX9_start_38 ⟨rfl, rfl⟩
set_option maxRecDepth 100000 in
set_option maxHeartbeats 4000000 in
theorem ci_X9_start_859 (l : Launch) {g : gx_T} {σ : sx_T} {b : Nat} (hK : lay b σ) (w1 : Int32) (w2 : Int32) (q1_w1 : (6 : Int) ≤ w1.toInt) (q2_w1 : w1.toInt ≤ (2147483647 : Int)) (q1_w2 : (-999 : Int) ≤ w2.toInt) (q2_w2 : w2.toInt ≤ (999 : Int)) (hI_405_6 : sx_I σ (b + 405) 6 = 0) : Met l yX9_start (.code yX9_start cX9_start 4 (some .int) :: lw_g) { frames := 1, cells := 0, slots := 0, locals := 23 } (va_Pc [.ref (b + 405), .int w1, .int w2] (zx_w g σ)) (va_Qi (fun r u => r = 0 ∧ u = (ap b σ [(405, 0, 1)] [] [])) (zx_w g) (gx_Q g)) 0 0 (gx_Q g) := by
  refine z_met (by decide) (Nat.le_of_ble_eq_true rfl) (fun p e s m below meth c B hr hin => ?_)
  refine z_eqs (σ' := (ap b σ [] [] [])) rfl ?_
  show zx p l e _ s m _ below meth c g 4 0 0 _ _ 0 [(0, .ref (b + 405)), (1, .int w1), (2, .int w2)] []
  refine z_aload_n B dX9_start_0 rfl 0 rfl ?_
  refine z_iload_n B dX9_start_1 rfl 1 rfl ?_
  refine z_iconst (v := 0) B dX9_start_2 (by decide) ?_
  refine z_iconst (v := 5) B dX9_start_3 (by decide) ?_
  refine z_cSi (As := [.int w1, .int 0, .int 5]) (rest := [.ref (b + 405)]) B cw_X9_96 dX9_start_4 (ci_X9_in_370 l (σ := (ap b σ [] [] [])) (b := b) (lyA hK) w1 q1_w1 q2_w1) rfl (by decide) rfl (Nat.le_of_ble_eq_true rfl) (by decide) (fun r u hu => ?_)
  refine z_eqs (σ' := (ap b σ [] [] [])) hu.2 ?_
  show zx p l e _ s m _ below meth c g 4 0 0 _ _ 7 [(0, .ref (b + 405)), (1, .int w1), (2, .int w2)] _
  refine z_seti (y := 0) hu.1 ?_
  refine z_iload_n B dX9_start_7 rfl 2 rfl ?_
  refine z_sipush (v := (-999)) B dX9_start_8 (by decide) ?_
  refine z_sipush (v := 999) B dX9_start_11 (by decide) ?_
  refine z_cSi (As := [.int w2, .int (-999), .int 999]) (rest := [.int 0, .ref (b + 405)]) B cw_X9_96 dX9_start_14 (ci_X9_in_654 l (σ := (ap b σ [] [] [])) (b := b) (lyA hK) w2 q1_w2 q2_w2) rfl (by decide) rfl (Nat.le_of_ble_eq_true rfl) (by decide) (fun r u hu => ?_)
  refine z_eqs (σ' := (ap b σ [] [] [])) hu.2 ?_
  show zx p l e _ s m _ below meth c g 4 0 0 _ _ 17 [(0, .ref (b + 405)), (1, .int w1), (2, .int w2)] _
  refine z_seti (y := 1) hu.1 ?_
  refine z_aload_n B dX9_start_17 rfl 0 rfl ?_
  refine gf_X9_93 (x := 0) B (lKA (hk_K hK 405 rfl rfl)) (rI_at 405 6 hI_405_6) dX9_start_18 ?_
  refine z_bipush (v := 40) B dX9_start_21 (by decide) ?_
  refine z_icmp_ge (tgt := 30) B dX9_start_23 (by decide) (fun h => absurd h (by decide)) (fun _ => ?_)
  refine z_iconst (v := 1) B dX9_start_26 (by decide) ?_
  refine z_goto (tgt := 31) B dX9_start_27 (by decide) ?_
  refine z_cVi (As := [.int 0, .int 1, .int 1]) (rest := []) B cw_X9_259 cx_10 dX9_start_31 (ci_X9_needs___655 l (σ := (ap b σ [] [] [])) (b := b) (lyA hK) ) (lKA (hk_K hK 405 rfl rfl)) rfl (by decide) rfl (Nat.le_of_ble_eq_true rfl) (by decide) (fun r u hu => ?_)
  refine z_eqs (σ' := (ap b σ [(405, 0, 1)] [] [])) (hu.2.trans ap_ap) ?_
  show zx p l e _ s m _ below meth c g 4 0 0 _ _ 34 [(0, .ref (b + 405)), (1, .int w1), (2, .int w2)] _
  refine z_seti (y := 0) hu.1 ?_
  refine z_if_ne (tgt := 39) B dX9_start_34 (by decide) (fun h => absurd (by decide) h) (fun _ => ?_)
  refine z_iconst (v := 0) B dX9_start_37 (by decide) ?_
  exact z_iret B hr (by decide) (by decide) dX9_start_38 ⟨rfl, rfl⟩
set_option maxRecDepth 100000 in
set_option maxHeartbeats 4000000 in
theorem ci_X9_start_860 (l : Launch) {g : gx_T} {σ : sx_T} {b : Nat} (hK : lay b σ) (w1 : Int32) (w2 : Int32) (q1_w1 : (6 : Int) ≤ w1.toInt) (q2_w1 : w1.toInt ≤ (2147483647 : Int)) (q1_w2 : (1000 : Int) ≤ w2.toInt) (q2_w2 : w2.toInt ≤ (2147483647 : Int)) (hI_405_6 : sx_I σ (b + 405) 6 = 0) : Met l yX9_start (.code yX9_start cX9_start 4 (some .int) :: lw_g) { frames := 1, cells := 0, slots := 0, locals := 23 } (va_Pc [.ref (b + 405), .int w1, .int w2] (zx_w g σ)) (va_Qi (fun r u => r = 0 ∧ u = (ap b σ [(405, 0, 1)] [] [])) (zx_w g) (gx_Q g)) 0 0 (gx_Q g) := by
  refine z_met (by decide) (Nat.le_of_ble_eq_true rfl) (fun p e s m below meth c B hr hin => ?_)
  refine z_eqs (σ' := (ap b σ [] [] [])) rfl ?_
  show zx p l e _ s m _ below meth c g 4 0 0 _ _ 0 [(0, .ref (b + 405)), (1, .int w1), (2, .int w2)] []
  refine z_aload_n B dX9_start_0 rfl 0 rfl ?_
  refine z_iload_n B dX9_start_1 rfl 1 rfl ?_
  refine z_iconst (v := 0) B dX9_start_2 (by decide) ?_
  refine z_iconst (v := 5) B dX9_start_3 (by decide) ?_
  refine z_cSi (As := [.int w1, .int 0, .int 5]) (rest := [.ref (b + 405)]) B cw_X9_96 dX9_start_4 (ci_X9_in_370 l (σ := (ap b σ [] [] [])) (b := b) (lyA hK) w1 q1_w1 q2_w1) rfl (by decide) rfl (Nat.le_of_ble_eq_true rfl) (by decide) (fun r u hu => ?_)
  refine z_eqs (σ' := (ap b σ [] [] [])) hu.2 ?_
  show zx p l e _ s m _ below meth c g 4 0 0 _ _ 7 [(0, .ref (b + 405)), (1, .int w1), (2, .int w2)] _
  refine z_seti (y := 0) hu.1 ?_
  refine z_iload_n B dX9_start_7 rfl 2 rfl ?_
  refine z_sipush (v := (-999)) B dX9_start_8 (by decide) ?_
  refine z_sipush (v := 999) B dX9_start_11 (by decide) ?_
  refine z_cSi (As := [.int w2, .int (-999), .int 999]) (rest := [.int 0, .ref (b + 405)]) B cw_X9_96 dX9_start_14 (ci_X9_in_657 l (σ := (ap b σ [] [] [])) (b := b) (lyA hK) w2 q1_w2 q2_w2) rfl (by decide) rfl (Nat.le_of_ble_eq_true rfl) (by decide) (fun r u hu => ?_)
  refine z_eqs (σ' := (ap b σ [] [] [])) hu.2 ?_
  show zx p l e _ s m _ below meth c g 4 0 0 _ _ 17 [(0, .ref (b + 405)), (1, .int w1), (2, .int w2)] _
  refine z_seti (y := 0) hu.1 ?_
  refine z_aload_n B dX9_start_17 rfl 0 rfl ?_
  refine gf_X9_93 (x := 0) B (lKA (hk_K hK 405 rfl rfl)) (rI_at 405 6 hI_405_6) dX9_start_18 ?_
  refine z_bipush (v := 40) B dX9_start_21 (by decide) ?_
  refine z_icmp_ge (tgt := 30) B dX9_start_23 (by decide) (fun h => absurd h (by decide)) (fun _ => ?_)
  refine z_iconst (v := 1) B dX9_start_26 (by decide) ?_
  refine z_goto (tgt := 31) B dX9_start_27 (by decide) ?_
  refine z_cVi (As := [.int 0, .int 0, .int 1]) (rest := []) B cw_X9_259 cx_10 dX9_start_31 (ci_X9_needs___652 l (σ := (ap b σ [] [] [])) (b := b) (lyA hK) ) (lKA (hk_K hK 405 rfl rfl)) rfl (by decide) rfl (Nat.le_of_ble_eq_true rfl) (by decide) (fun r u hu => ?_)
  refine z_eqs (σ' := (ap b σ [(405, 0, 1)] [] [])) (hu.2.trans ap_ap) ?_
  show zx p l e _ s m _ below meth c g 4 0 0 _ _ 34 [(0, .ref (b + 405)), (1, .int w1), (2, .int w2)] _
  refine z_seti (y := 0) hu.1 ?_
  refine z_if_ne (tgt := 39) B dX9_start_34 (by decide) (fun h => absurd (by decide) h) (fun _ => ?_)
  refine z_iconst (v := 0) B dX9_start_37 (by decide) ?_
  exact z_iret B hr (by decide) (by decide) dX9_start_38 ⟨rfl, rfl⟩
set_option maxRecDepth 100000 in
set_option maxHeartbeats 4000000 in
theorem ci_X8_flowAt_861 (l : Launch) {g : gx_T} {σ : sx_T} {b : Nat} (hK : lay b σ) (w1 : Int32) (q1_w1 : (-2147483648 : Int) ≤ w1.toInt) (q2_w1 : w1.toInt ≤ (-1 : Int))  : Met l yX8_flowAt (.code yX8_flowAt cX8_flowAt 3 (some (.object "Loomkeeper$Flow")) :: lw_g) { frames := 0, cells := 0, slots := 0, locals := 0 } (va_Pc [.ref (b + 0), .int w1] (zx_w g σ)) (va_Qq (fun r u => r = none ∧ u = σ) (zx_w g) (gx_Q g)) 0 0 (gx_Q g) := by
  refine z_met (by decide) (Nat.le_of_ble_eq_true rfl) (fun p e s m below meth c B hr hin => ?_)
  refine z_eqs (σ' := (ap b σ [] [] [])) rfl ?_
  show zx p l e _ s m _ below meth c g 3 0 0 _ _ 0 [(0, .ref (b + 0)), (1, .int w1)] []
  refine z_iload_n B dX8_flowAt_0 rfl 1 rfl ?_
  refine z_if_lt (tgt := 25) B dX8_flowAt_1 (by decide) (fun _ => ?_) (fun h => absurd (iv_lt q2_w1 (by decide)) h)
  refine z_iconst (v := 0) B dX8_flowAt_25 (by decide) ?_
  refine z_istore_n (lv' := [(2, .int 0), (0, .ref (b + 0)), (1, .int w1)]) B dX8_flowAt_26 rfl (by decide) rfl ?_
  refine z_iload_n B dX8_flowAt_27 rfl 0 rfl ?_
  refine z_if_eq (tgt := 40) B dX8_flowAt_28 (by decide) (fun _ => ?_) (fun h => absurd (by decide) h)
  refine z_null B dX8_flowAt_40 ?_
  exact z_qret (r := none) B hr (by decide) (by decide) dX8_flowAt_41 ⟨rfl, rfl⟩
set_option maxRecDepth 100000 in
set_option maxHeartbeats 4000000 in
theorem ci_X8_signal_862 (l : Launch) (hlt : l.stackTraces = false) {g : gx_T} {σ : sx_T} {b : Nat} (hK : lay b σ) (w1 : Int32) (w2 : Int32) (w3 : Int32) (q1_w1 : (-2147483648 : Int) ≤ w1.toInt) (q2_w1 : w1.toInt ≤ (-1 : Int))  : vx_Met l yX8_signal (.code yX8_signal cX8_signal 5 (some .boolean) :: lw_g) { frames := 7, cells := 1, slots := 6, locals := 136 } (va_Pc [.ref (b + 0), .int w1, .int w2, .int w3] (zx_w g σ)) (va_Qi (S := sx_T) (fun _ _ => False) (zx_w g) (gx_Q g)) (vx_X (fun u : sx_T => ∃ z, u = wx_Z σ z) (fun E u t => E = "java/lang/IndexOutOfBoundsException" ∧ zx_h g u t.heap) (gx_Q g)) 1 6 (gx_Q g) := by
  refine z_metX (by decide) (Nat.le_of_ble_eq_true rfl) (fun p e s m below meth c B hr hin hout => ?_)
  refine z_eqs (σ' := (ap b σ [] [] [])) rfl ?_
  show zx p l e _ s m _ below meth c g 5 0 0 _ _ 0 [(0, .ref (b + 0)), (1, .int w1), (2, .int w2), (3, .int w3)] []
  refine z_aload_n B dX8_signal_0 rfl 0 rfl ?_
  refine z_iload_n B dX8_signal_1 rfl 1 rfl ?_
  refine z_cVq (As := [.int w1]) (rest := []) B cw_X8_99 cx_9 dX8_signal_2 (ci_X8_flowAt_861 l (σ := (ap b σ [] [] [])) (b := b) (lyA hK) w1 q1_w1 q2_w1) (lKA (hk_K hK 0 rfl rfl)) rfl (by decide) rfl (Nat.le_of_ble_eq_true rfl) (by decide) (fun r u hu => ?_)
  refine z_eqs (σ' := (ap b σ [] [] [])) hu.2 ?_
  show zx p l e _ s m _ below meth c g 5 0 0 _ _ 5 [(0, .ref (b + 0)), (1, .int w1), (2, .int w2), (3, .int w3)] _
  refine z_setr (y := none) hu.1 ?_
  refine z_qstore (r := none) (lv' := [(4, .null), (0, .ref (b + 0)), (1, .int w1), (2, .int w2), (3, .int w3)]) B dX8_signal_5 (by decide) rfl ?_
  refine z_qload (r := none) B dX8_signal_7 0 rfl ?_
  refine z_ifnonnull (r := none) (tgt := 22) B dX8_signal_9 (by decide) (fun a h => nomatch h) (fun _ => ?_)
  exact z_throw B hlt hout (cls := "java/lang/IndexOutOfBoundsException") (text := "no such workflow") tw_X8_72_153_76 dX8_signal_12 dX8_signal_15 dX8_signal_16 dX8_signal_18 dX8_signal_21 (by decide) (by decide) (by decide) (by decide) (by decide) (by decide) (fun z => ⟨z, rfl⟩)
set_option maxRecDepth 100000 in
set_option maxHeartbeats 4000000 in
theorem ci_L_signal_863 (l : Launch) (hlt : l.stackTraces = false) {g : gx_T} {σ : sx_T} {b : Nat} (hK : lay b σ) (w1 : Int32) (w2 : Int32) (w3 : Int32) (q1_w1 : (-2147483648 : Int) ≤ w1.toInt) (q2_w1 : w1.toInt ≤ (-1 : Int))  : Met l yL_signal (.codeWith yL_signal cL_signal 6 (some .int) [(0, 19, 22, 13), (0, 19, 26, 15)] :: lw_g) { frames := 8, cells := 1, slots := 6, locals := 160 } (va_Pc [.ref (b + 0), .int w1, .int w2, .int w3, .ref (b + 431)] (zx_w g σ)) (va_Qi (fun r u => r = 1 ∧ ∃ z, u = (ap b (wx_Z σ z) [] [] [])) (zx_w g) (gx_Q g)) 1 6 (gx_Q g) := by
  refine z_metW (by decide) (Nat.le_of_ble_eq_true rfl) (fun p e s m below meth c B hr htab => ?_)
  refine z_eqs (σ' := (ap b σ [] [] [])) rfl ?_
  show zx p l e _ s m _ below meth c g 6 0 0 _ _ 0 [(0, .ref (b + 0)), (1, .int w1), (2, .int w2), (3, .int w3), (4, .ref (b + 431))] []
  refine z_aload B dL_signal_0 4 rfl ?_
  refine z_iconst (v := 0) B dL_signal_2 (by decide) ?_
  refine z_aload_n B dL_signal_3 rfl 0 rfl ?_
  refine z_iload_n B dL_signal_4 rfl 1 rfl ?_
  refine z_iload_n B dL_signal_5 rfl 2 rfl ?_
  refine z_iload_n B dL_signal_6 rfl 3 rfl ?_
  refine z_cXi (As := [.int w1, .int w2, .int w3]) (rest := [.int 0, .ref (b + 431)]) B htab tc_signal_7_IndexOutOfBoundsException cw_L_26 cx_9 dL_signal_7 (ci_X8_signal_862 l hlt (σ := (ap b σ [] [] [])) (b := b) (lyA hK) w1 w2 w3 q1_w1 q2_w1) (lKA (hk_K hK 0 rfl rfl)) rfl (by decide) rfl (Nat.le_of_ble_eq_true rfl) (by decide) (fun z q => ?_)
  refine z_eqs (σ' := (ap b (wx_Z σ z) [] [] [])) rfl ?_
  show zx p l e _ s m _ below meth c g 6 _ _ _ _ 22 [(0, .ref (b + 0)), (1, .int w1), (2, .int w2), (3, .int w3), (4, .ref (b + 431))] _
  refine z_astore (lv' := [(5, .ref q), (0, .ref (b + 0)), (1, .int w1), (2, .int w2), (3, .int w3), (4, .ref (b + 431))]) B dL_signal_22 (by decide) rfl ?_
  refine z_iconst (v := 1) B dL_signal_24 (by decide) ?_
  exact z_iret B hr (by decide) (by decide) dL_signal_25 ⟨rfl, _, rfl⟩
set_option maxRecDepth 100000 in
set_option maxHeartbeats 4000000 in
theorem ci_X9_in_864 (l : Launch) {g : gx_T} {σ : sx_T} {b : Nat} (hK : lay b σ) (w1 : Int32) (q1_w1 : (-2147483648 : Int) ≤ w1.toInt) (q2_w1 : w1.toInt ≤ (-1 : Int))  : Met l yX9_in (.code yX9_in cX9_in 3 (some .boolean) :: lw_g) { frames := 0, cells := 0, slots := 0, locals := 0 } (va_Pc [.int w1, .int 0, .int (-1)] (zx_w g σ)) (va_Qi (fun r u => r = 0 ∧ u = σ) (zx_w g) (gx_Q g)) 0 0 (gx_Q g) := by
  refine z_met (by decide) (Nat.le_of_ble_eq_true rfl) (fun p e s m below meth c B hr hin => ?_)
  refine z_eqs (σ' := (ap b σ [] [] [])) rfl ?_
  show zx p l e _ s m _ below meth c g 3 0 0 _ _ 0 [(0, .int w1), (1, .int 0), (2, .int (-1))] []
  refine z_iload_n B dX9_in_0 rfl 0 rfl ?_
  refine z_iload_n B dX9_in_1 rfl 1 rfl ?_
  refine z_icmp_lt (tgt := 14) B dX9_in_2 (by decide) (fun _ => ?_) (fun h => absurd (iv_lt q2_w1 (by decide)) h)
  refine z_iconst (v := 0) B dX9_in_14 (by decide) ?_
  exact z_zret B hr (by decide) (by decide) (by decide) dX9_in_15 ⟨rfl, rfl⟩
set_option maxRecDepth 100000 in
set_option maxHeartbeats 4000000 in
theorem ci_X9_isWorkflow_865 (l : Launch) {g : gx_T} {σ : sx_T} {b : Nat} (hK : lay b σ) (w1 : Int32) (q1_w1 : (-2147483648 : Int) ≤ w1.toInt) (q2_w1 : w1.toInt ≤ (-1 : Int)) (hI_405_6 : sx_I σ (b + 405) 6 = 0) : Met l yX9_isWorkflow (.code yX9_isWorkflow cX9_isWorkflow 2 (some .boolean) :: lw_g) { frames := 1, cells := 0, slots := 0, locals := 22 } (va_Pc [.ref (b + 405), .int w1] (zx_w g σ)) (va_Qi (fun r u => r = 0 ∧ u = σ) (zx_w g) (gx_Q g)) 0 0 (gx_Q g) := by
  refine z_met (by decide) (Nat.le_of_ble_eq_true rfl) (fun p e s m below meth c B hr hin => ?_)
  refine z_eqs (σ' := (ap b σ [] [] [])) rfl ?_
  show zx p l e _ s m _ below meth c g 2 0 0 _ _ 0 [(0, .ref (b + 405)), (1, .int w1)] []
  refine z_iload_n B dX9_isWorkflow_0 rfl 1 rfl ?_
  refine z_iconst (v := 0) B dX9_isWorkflow_1 (by decide) ?_
  refine z_aload_n B dX9_isWorkflow_2 rfl 0 rfl ?_
  refine gf_X9_93 (x := 0) B (lKA (hk_K hK 405 rfl rfl)) (rI_at 405 6 hI_405_6) dX9_isWorkflow_3 ?_
  refine z_iconst (v := 1) B dX9_isWorkflow_6 (by decide) ?_
  refine z_isub B dX9_isWorkflow_7 ?_
  refine z_seti (y := (-1)) (by decide) ?_
  refine z_cSi (As := [.int w1, .int 0, .int (-1)]) (rest := []) B cw_X9_96 dX9_isWorkflow_8 (ci_X9_in_864 l (σ := (ap b σ [] [] [])) (b := b) (lyA hK) w1 q1_w1 q2_w1) rfl (by decide) rfl (Nat.le_of_ble_eq_true rfl) (by decide) (fun r u hu => ?_)
  refine z_eqs (σ' := (ap b σ [] [] [])) hu.2 ?_
  show zx p l e _ s m _ below meth c g 2 0 0 _ _ 11 [(0, .ref (b + 405)), (1, .int w1)] _
  refine z_seti (y := 0) hu.1 ?_
  exact z_zret B hr (by decide) (by decide) (by decide) dX9_isWorkflow_11 ⟨rfl, rfl⟩
set_option maxRecDepth 100000 in
set_option maxHeartbeats 4000000 in
theorem ci_X9_signal_866 (l : Launch) {g : gx_T} {σ : sx_T} {b : Nat} (hK : lay b σ) (w1 : Int32) (w2 : Int32) (w3 : Int32) (q1_w1 : (-2147483648 : Int) ≤ w1.toInt) (q2_w1 : w1.toInt ≤ (-1 : Int)) (q1_w2 : (-2147483648 : Int) ≤ w2.toInt) (q2_w2 : w2.toInt ≤ (-1 : Int)) (hI_405_6 : sx_I σ (b + 405) 6 = 0) : Met l yX9_signal (.code yX9_signal cX9_signal 4 (some .boolean) :: lw_g) { frames := 2, cells := 0, slots := 0, locals := 43 } (va_Pc [.ref (b + 405), .int w1, .int w2, .int w3] (zx_w g σ)) (va_Qi (fun r u => r = 0 ∧ u = (ap b σ [(405, 0, 1)] [] [])) (zx_w g) (gx_Q g)) 0 0 (gx_Q g) := by
  refine z_met (by decide) (Nat.le_of_ble_eq_true rfl) (fun p e s m below meth c B hr hin => ?_)
  refine z_eqs (σ' := (ap b σ [] [] [])) rfl ?_
  show zx p l e _ s m _ below meth c g 4 0 0 _ _ 0 [(0, .ref (b + 405)), (1, .int w1), (2, .int w2), (3, .int w3)] []
  refine z_aload_n B dX9_signal_0 rfl 0 rfl ?_
  refine z_aload_n B dX9_signal_1 rfl 0 rfl ?_
  refine z_iload_n B dX9_signal_2 rfl 1 rfl ?_
  refine z_cVi (As := [.int w1]) (rest := [.ref (b + 405)]) B cw_X9_262 cx_10 dX9_signal_3 (ci_X9_isWorkflow_865 l (σ := (ap b σ [] [] [])) (b := b) (lyA hK) w1 q1_w1 q2_w1 (rI_at 405 6 hI_405_6)) (lKA (hk_K hK 405 rfl rfl)) rfl (by decide) rfl (Nat.le_of_ble_eq_true rfl) (by decide) (fun r u hu => ?_)
  refine z_eqs (σ' := (ap b σ [] [] [])) hu.2 ?_
  show zx p l e _ s m _ below meth c g 4 0 0 _ _ 6 [(0, .ref (b + 405)), (1, .int w1), (2, .int w2), (3, .int w3)] _
  refine z_seti (y := 0) hu.1 ?_
  refine z_iload_n B dX9_signal_6 rfl 2 rfl ?_
  refine z_iconst (v := 0) B dX9_signal_7 (by decide) ?_
  refine z_bipush (v := 99) B dX9_signal_8 (by decide) ?_
  refine z_cSi (As := [.int w2, .int 0, .int 99]) (rest := [.int 0, .ref (b + 405)]) B cw_X9_96 dX9_signal_10 (ci_X9_in_33 l (σ := (ap b σ [] [] [])) (b := b) (lyA hK) w2 q1_w2 q2_w2) rfl (by decide) rfl (Nat.le_of_ble_eq_true rfl) (by decide) (fun r u hu => ?_)
  refine z_eqs (σ' := (ap b σ [] [] [])) hu.2 ?_
  show zx p l e _ s m _ below meth c g 4 0 0 _ _ 13 [(0, .ref (b + 405)), (1, .int w1), (2, .int w2), (3, .int w3)] _
  refine z_seti (y := 0) hu.1 ?_
  refine z_if_eq (tgt := 30) B dX9_signal_13 (by decide) (fun _ => ?_) (fun h => absurd (by decide) h)
  refine z_iconst (v := 0) B dX9_signal_30 (by decide) ?_
  refine z_cVi (As := [.int 0, .int 0]) (rest := []) B cw_X9_245 cx_10 dX9_signal_31 (ci_X9_needs__29 l (σ := (ap b σ [] [] [])) (b := b) (lyA hK) ) (lKA (hk_K hK 405 rfl rfl)) rfl (by decide) rfl (Nat.le_of_ble_eq_true rfl) (by decide) (fun r u hu => ?_)
  refine z_eqs (σ' := (ap b σ [(405, 0, 1)] [] [])) (hu.2.trans ap_ap) ?_
  show zx p l e _ s m _ below meth c g 4 0 0 _ _ 34 [(0, .ref (b + 405)), (1, .int w1), (2, .int w2), (3, .int w3)] _
  refine z_seti (y := 0) hu.1 ?_
  refine z_if_eq (tgt := 60) B dX9_signal_34 (by decide) (fun _ => ?_) (fun h => absurd (by decide) h)
  refine z_iconst (v := 0) B dX9_signal_60 (by decide) ?_
  exact z_zret B hr (by decide) (by decide) (by decide) dX9_signal_61 ⟨rfl, rfl⟩
set_option maxRecDepth 100000 in
set_option maxHeartbeats 4000000 in
theorem ci_X9_signal_867 (l : Launch) {g : gx_T} {σ : sx_T} {b : Nat} (hK : lay b σ) (w1 : Int32) (w2 : Int32) (w3 : Int32) (q1_w1 : (-2147483648 : Int) ≤ w1.toInt) (q2_w1 : w1.toInt ≤ (-1 : Int)) (q1_w2 : (0 : Int) ≤ w2.toInt) (q2_w2 : w2.toInt ≤ (99 : Int)) (q1_w3 : (-2147483648 : Int) ≤ w3.toInt) (q2_w3 : w3.toInt ≤ (-1 : Int)) (hI_405_6 : sx_I σ (b + 405) 6 = 0) : Met l yX9_signal (.code yX9_signal cX9_signal 4 (some .boolean) :: lw_g) { frames := 2, cells := 0, slots := 0, locals := 43 } (va_Pc [.ref (b + 405), .int w1, .int w2, .int w3] (zx_w g σ)) (va_Qi (fun r u => r = 0 ∧ u = (ap b σ [(405, 0, 1)] [] [])) (zx_w g) (gx_Q g)) 0 0 (gx_Q g) := by
  refine z_met (by decide) (Nat.le_of_ble_eq_true rfl) (fun p e s m below meth c B hr hin => ?_)
  refine z_eqs (σ' := (ap b σ [] [] [])) rfl ?_
  show zx p l e _ s m _ below meth c g 4 0 0 _ _ 0 [(0, .ref (b + 405)), (1, .int w1), (2, .int w2), (3, .int w3)] []
  refine z_aload_n B dX9_signal_0 rfl 0 rfl ?_
  refine z_aload_n B dX9_signal_1 rfl 0 rfl ?_
  refine z_iload_n B dX9_signal_2 rfl 1 rfl ?_
  refine z_cVi (As := [.int w1]) (rest := [.ref (b + 405)]) B cw_X9_262 cx_10 dX9_signal_3 (ci_X9_isWorkflow_865 l (σ := (ap b σ [] [] [])) (b := b) (lyA hK) w1 q1_w1 q2_w1 (rI_at 405 6 hI_405_6)) (lKA (hk_K hK 405 rfl rfl)) rfl (by decide) rfl (Nat.le_of_ble_eq_true rfl) (by decide) (fun r u hu => ?_)
  refine z_eqs (σ' := (ap b σ [] [] [])) hu.2 ?_
  show zx p l e _ s m _ below meth c g 4 0 0 _ _ 6 [(0, .ref (b + 405)), (1, .int w1), (2, .int w2), (3, .int w3)] _
  refine z_seti (y := 0) hu.1 ?_
  refine z_iload_n B dX9_signal_6 rfl 2 rfl ?_
  refine z_iconst (v := 0) B dX9_signal_7 (by decide) ?_
  refine z_bipush (v := 99) B dX9_signal_8 (by decide) ?_
  refine z_cSi (As := [.int w2, .int 0, .int 99]) (rest := [.int 0, .ref (b + 405)]) B cw_X9_96 dX9_signal_10 (ci_X9_in_36 l (σ := (ap b σ [] [] [])) (b := b) (lyA hK) w2 q1_w2 q2_w2) rfl (by decide) rfl (Nat.le_of_ble_eq_true rfl) (by decide) (fun r u hu => ?_)
  refine z_eqs (σ' := (ap b σ [] [] [])) hu.2 ?_
  show zx p l e _ s m _ below meth c g 4 0 0 _ _ 13 [(0, .ref (b + 405)), (1, .int w1), (2, .int w2), (3, .int w3)] _
  refine z_seti (y := 1) hu.1 ?_
  refine z_if_eq (tgt := 30) B dX9_signal_13 (by decide) (fun h => absurd h (by decide)) (fun _ => ?_)
  refine z_iload_n B dX9_signal_16 rfl 3 rfl ?_
  refine z_iconst (v := 0) B dX9_signal_17 (by decide) ?_
  refine z_bipush (v := 99) B dX9_signal_18 (by decide) ?_
  refine z_cSi (As := [.int w3, .int 0, .int 99]) (rest := [.int 0, .ref (b + 405)]) B cw_X9_96 dX9_signal_20 (ci_X9_in_33 l (σ := (ap b σ [] [] [])) (b := b) (lyA hK) w3 q1_w3 q2_w3) rfl (by decide) rfl (Nat.le_of_ble_eq_true rfl) (by decide) (fun r u hu => ?_)
  refine z_eqs (σ' := (ap b σ [] [] [])) hu.2 ?_
  show zx p l e _ s m _ below meth c g 4 0 0 _ _ 23 [(0, .ref (b + 405)), (1, .int w1), (2, .int w2), (3, .int w3)] _
  refine z_seti (y := 0) hu.1 ?_
  refine z_if_eq (tgt := 30) B dX9_signal_23 (by decide) (fun _ => ?_) (fun h => absurd (by decide) h)
  refine z_iconst (v := 0) B dX9_signal_30 (by decide) ?_
  refine z_cVi (As := [.int 0, .int 0]) (rest := []) B cw_X9_245 cx_10 dX9_signal_31 (ci_X9_needs__29 l (σ := (ap b σ [] [] [])) (b := b) (lyA hK) ) (lKA (hk_K hK 405 rfl rfl)) rfl (by decide) rfl (Nat.le_of_ble_eq_true rfl) (by decide) (fun r u hu => ?_)
  refine z_eqs (σ' := (ap b σ [(405, 0, 1)] [] [])) (hu.2.trans ap_ap) ?_
  show zx p l e _ s m _ below meth c g 4 0 0 _ _ 34 [(0, .ref (b + 405)), (1, .int w1), (2, .int w2), (3, .int w3)] _
  refine z_seti (y := 0) hu.1 ?_
  refine z_if_eq (tgt := 60) B dX9_signal_34 (by decide) (fun _ => ?_) (fun h => absurd (by decide) h)
  refine z_iconst (v := 0) B dX9_signal_60 (by decide) ?_
  exact z_zret B hr (by decide) (by decide) (by decide) dX9_signal_61 ⟨rfl, rfl⟩
set_option maxRecDepth 100000 in
set_option maxHeartbeats 4000000 in
theorem ci_X9_signal_868 (l : Launch) {g : gx_T} {σ : sx_T} {b : Nat} (hK : lay b σ) (w1 : Int32) (w2 : Int32) (w3 : Int32) (q1_w1 : (-2147483648 : Int) ≤ w1.toInt) (q2_w1 : w1.toInt ≤ (-1 : Int)) (q1_w2 : (0 : Int) ≤ w2.toInt) (q2_w2 : w2.toInt ≤ (99 : Int)) (q1_w3 : (0 : Int) ≤ w3.toInt) (q2_w3 : w3.toInt ≤ (99 : Int)) (hI_405_6 : sx_I σ (b + 405) 6 = 0) : Met l yX9_signal (.code yX9_signal cX9_signal 4 (some .boolean) :: lw_g) { frames := 2, cells := 0, slots := 0, locals := 43 } (va_Pc [.ref (b + 405), .int w1, .int w2, .int w3] (zx_w g σ)) (va_Qi (fun r u => r = 0 ∧ u = (ap b σ [(405, 0, 1)] [] [])) (zx_w g) (gx_Q g)) 0 0 (gx_Q g) := by
  refine z_met (by decide) (Nat.le_of_ble_eq_true rfl) (fun p e s m below meth c B hr hin => ?_)
  refine z_eqs (σ' := (ap b σ [] [] [])) rfl ?_
  show zx p l e _ s m _ below meth c g 4 0 0 _ _ 0 [(0, .ref (b + 405)), (1, .int w1), (2, .int w2), (3, .int w3)] []
  refine z_aload_n B dX9_signal_0 rfl 0 rfl ?_
  refine z_aload_n B dX9_signal_1 rfl 0 rfl ?_
  refine z_iload_n B dX9_signal_2 rfl 1 rfl ?_
  refine z_cVi (As := [.int w1]) (rest := [.ref (b + 405)]) B cw_X9_262 cx_10 dX9_signal_3 (ci_X9_isWorkflow_865 l (σ := (ap b σ [] [] [])) (b := b) (lyA hK) w1 q1_w1 q2_w1 (rI_at 405 6 hI_405_6)) (lKA (hk_K hK 405 rfl rfl)) rfl (by decide) rfl (Nat.le_of_ble_eq_true rfl) (by decide) (fun r u hu => ?_)
  refine z_eqs (σ' := (ap b σ [] [] [])) hu.2 ?_
  show zx p l e _ s m _ below meth c g 4 0 0 _ _ 6 [(0, .ref (b + 405)), (1, .int w1), (2, .int w2), (3, .int w3)] _
  refine z_seti (y := 0) hu.1 ?_
  refine z_iload_n B dX9_signal_6 rfl 2 rfl ?_
  refine z_iconst (v := 0) B dX9_signal_7 (by decide) ?_
  refine z_bipush (v := 99) B dX9_signal_8 (by decide) ?_
  refine z_cSi (As := [.int w2, .int 0, .int 99]) (rest := [.int 0, .ref (b + 405)]) B cw_X9_96 dX9_signal_10 (ci_X9_in_36 l (σ := (ap b σ [] [] [])) (b := b) (lyA hK) w2 q1_w2 q2_w2) rfl (by decide) rfl (Nat.le_of_ble_eq_true rfl) (by decide) (fun r u hu => ?_)
  refine z_eqs (σ' := (ap b σ [] [] [])) hu.2 ?_
  show zx p l e _ s m _ below meth c g 4 0 0 _ _ 13 [(0, .ref (b + 405)), (1, .int w1), (2, .int w2), (3, .int w3)] _
  refine z_seti (y := 1) hu.1 ?_
  refine z_if_eq (tgt := 30) B dX9_signal_13 (by decide) (fun h => absurd h (by decide)) (fun _ => ?_)
  refine z_iload_n B dX9_signal_16 rfl 3 rfl ?_
  refine z_iconst (v := 0) B dX9_signal_17 (by decide) ?_
  refine z_bipush (v := 99) B dX9_signal_18 (by decide) ?_
  refine z_cSi (As := [.int w3, .int 0, .int 99]) (rest := [.int 0, .ref (b + 405)]) B cw_X9_96 dX9_signal_20 (ci_X9_in_36 l (σ := (ap b σ [] [] [])) (b := b) (lyA hK) w3 q1_w3 q2_w3) rfl (by decide) rfl (Nat.le_of_ble_eq_true rfl) (by decide) (fun r u hu => ?_)
  refine z_eqs (σ' := (ap b σ [] [] [])) hu.2 ?_
  show zx p l e _ s m _ below meth c g 4 0 0 _ _ 23 [(0, .ref (b + 405)), (1, .int w1), (2, .int w2), (3, .int w3)] _
  refine z_seti (y := 1) hu.1 ?_
  refine z_if_eq (tgt := 30) B dX9_signal_23 (by decide) (fun h => absurd h (by decide)) (fun _ => ?_)
  refine z_iconst (v := 1) B dX9_signal_26 (by decide) ?_
  refine z_goto (tgt := 31) B dX9_signal_27 (by decide) ?_
  refine z_cVi (As := [.int 0, .int 1]) (rest := []) B cw_X9_245 cx_10 dX9_signal_31 (ci_X9_needs__40 l (σ := (ap b σ [] [] [])) (b := b) (lyA hK) ) (lKA (hk_K hK 405 rfl rfl)) rfl (by decide) rfl (Nat.le_of_ble_eq_true rfl) (by decide) (fun r u hu => ?_)
  refine z_eqs (σ' := (ap b σ [(405, 0, 1)] [] [])) (hu.2.trans ap_ap) ?_
  show zx p l e _ s m _ below meth c g 4 0 0 _ _ 34 [(0, .ref (b + 405)), (1, .int w1), (2, .int w2), (3, .int w3)] _
  refine z_seti (y := 0) hu.1 ?_
  refine z_if_eq (tgt := 60) B dX9_signal_34 (by decide) (fun _ => ?_) (fun h => absurd (by decide) h)
  refine z_iconst (v := 0) B dX9_signal_60 (by decide) ?_
  exact z_zret B hr (by decide) (by decide) (by decide) dX9_signal_61 ⟨rfl, rfl⟩
set_option maxRecDepth 100000 in
set_option maxHeartbeats 4000000 in
theorem ci_X9_signal_869 (l : Launch) {g : gx_T} {σ : sx_T} {b : Nat} (hK : lay b σ) (w1 : Int32) (w2 : Int32) (w3 : Int32) (q1_w1 : (-2147483648 : Int) ≤ w1.toInt) (q2_w1 : w1.toInt ≤ (-1 : Int)) (q1_w2 : (0 : Int) ≤ w2.toInt) (q2_w2 : w2.toInt ≤ (99 : Int)) (q1_w3 : (100 : Int) ≤ w3.toInt) (q2_w3 : w3.toInt ≤ (2147483647 : Int)) (hI_405_6 : sx_I σ (b + 405) 6 = 0) : Met l yX9_signal (.code yX9_signal cX9_signal 4 (some .boolean) :: lw_g) { frames := 2, cells := 0, slots := 0, locals := 43 } (va_Pc [.ref (b + 405), .int w1, .int w2, .int w3] (zx_w g σ)) (va_Qi (fun r u => r = 0 ∧ u = (ap b σ [(405, 0, 1)] [] [])) (zx_w g) (gx_Q g)) 0 0 (gx_Q g) := by
  refine z_met (by decide) (Nat.le_of_ble_eq_true rfl) (fun p e s m below meth c B hr hin => ?_)
  refine z_eqs (σ' := (ap b σ [] [] [])) rfl ?_
  show zx p l e _ s m _ below meth c g 4 0 0 _ _ 0 [(0, .ref (b + 405)), (1, .int w1), (2, .int w2), (3, .int w3)] []
  refine z_aload_n B dX9_signal_0 rfl 0 rfl ?_
  refine z_aload_n B dX9_signal_1 rfl 0 rfl ?_
  refine z_iload_n B dX9_signal_2 rfl 1 rfl ?_
  refine z_cVi (As := [.int w1]) (rest := [.ref (b + 405)]) B cw_X9_262 cx_10 dX9_signal_3 (ci_X9_isWorkflow_865 l (σ := (ap b σ [] [] [])) (b := b) (lyA hK) w1 q1_w1 q2_w1 (rI_at 405 6 hI_405_6)) (lKA (hk_K hK 405 rfl rfl)) rfl (by decide) rfl (Nat.le_of_ble_eq_true rfl) (by decide) (fun r u hu => ?_)
  refine z_eqs (σ' := (ap b σ [] [] [])) hu.2 ?_
  show zx p l e _ s m _ below meth c g 4 0 0 _ _ 6 [(0, .ref (b + 405)), (1, .int w1), (2, .int w2), (3, .int w3)] _
  refine z_seti (y := 0) hu.1 ?_
  refine z_iload_n B dX9_signal_6 rfl 2 rfl ?_
  refine z_iconst (v := 0) B dX9_signal_7 (by decide) ?_
  refine z_bipush (v := 99) B dX9_signal_8 (by decide) ?_
  refine z_cSi (As := [.int w2, .int 0, .int 99]) (rest := [.int 0, .ref (b + 405)]) B cw_X9_96 dX9_signal_10 (ci_X9_in_36 l (σ := (ap b σ [] [] [])) (b := b) (lyA hK) w2 q1_w2 q2_w2) rfl (by decide) rfl (Nat.le_of_ble_eq_true rfl) (by decide) (fun r u hu => ?_)
  refine z_eqs (σ' := (ap b σ [] [] [])) hu.2 ?_
  show zx p l e _ s m _ below meth c g 4 0 0 _ _ 13 [(0, .ref (b + 405)), (1, .int w1), (2, .int w2), (3, .int w3)] _
  refine z_seti (y := 1) hu.1 ?_
  refine z_if_eq (tgt := 30) B dX9_signal_13 (by decide) (fun h => absurd h (by decide)) (fun _ => ?_)
  refine z_iload_n B dX9_signal_16 rfl 3 rfl ?_
  refine z_iconst (v := 0) B dX9_signal_17 (by decide) ?_
  refine z_bipush (v := 99) B dX9_signal_18 (by decide) ?_
  refine z_cSi (As := [.int w3, .int 0, .int 99]) (rest := [.int 0, .ref (b + 405)]) B cw_X9_96 dX9_signal_20 (ci_X9_in_42 l (σ := (ap b σ [] [] [])) (b := b) (lyA hK) w3 q1_w3 q2_w3) rfl (by decide) rfl (Nat.le_of_ble_eq_true rfl) (by decide) (fun r u hu => ?_)
  refine z_eqs (σ' := (ap b σ [] [] [])) hu.2 ?_
  show zx p l e _ s m _ below meth c g 4 0 0 _ _ 23 [(0, .ref (b + 405)), (1, .int w1), (2, .int w2), (3, .int w3)] _
  refine z_seti (y := 0) hu.1 ?_
  refine z_if_eq (tgt := 30) B dX9_signal_23 (by decide) (fun _ => ?_) (fun h => absurd (by decide) h)
  refine z_iconst (v := 0) B dX9_signal_30 (by decide) ?_
  refine z_cVi (As := [.int 0, .int 0]) (rest := []) B cw_X9_245 cx_10 dX9_signal_31 (ci_X9_needs__29 l (σ := (ap b σ [] [] [])) (b := b) (lyA hK) ) (lKA (hk_K hK 405 rfl rfl)) rfl (by decide) rfl (Nat.le_of_ble_eq_true rfl) (by decide) (fun r u hu => ?_)
  refine z_eqs (σ' := (ap b σ [(405, 0, 1)] [] [])) (hu.2.trans ap_ap) ?_
  show zx p l e _ s m _ below meth c g 4 0 0 _ _ 34 [(0, .ref (b + 405)), (1, .int w1), (2, .int w2), (3, .int w3)] _
  refine z_seti (y := 0) hu.1 ?_
  refine z_if_eq (tgt := 60) B dX9_signal_34 (by decide) (fun _ => ?_) (fun h => absurd (by decide) h)
  refine z_iconst (v := 0) B dX9_signal_60 (by decide) ?_
  exact z_zret B hr (by decide) (by decide) (by decide) dX9_signal_61 ⟨rfl, rfl⟩
set_option maxRecDepth 100000 in
set_option maxHeartbeats 4000000 in
theorem ci_X9_signal_870 (l : Launch) {g : gx_T} {σ : sx_T} {b : Nat} (hK : lay b σ) (w1 : Int32) (w2 : Int32) (w3 : Int32) (q1_w1 : (-2147483648 : Int) ≤ w1.toInt) (q2_w1 : w1.toInt ≤ (-1 : Int)) (q1_w2 : (100 : Int) ≤ w2.toInt) (q2_w2 : w2.toInt ≤ (2147483647 : Int)) (hI_405_6 : sx_I σ (b + 405) 6 = 0) : Met l yX9_signal (.code yX9_signal cX9_signal 4 (some .boolean) :: lw_g) { frames := 2, cells := 0, slots := 0, locals := 43 } (va_Pc [.ref (b + 405), .int w1, .int w2, .int w3] (zx_w g σ)) (va_Qi (fun r u => r = 0 ∧ u = (ap b σ [(405, 0, 1)] [] [])) (zx_w g) (gx_Q g)) 0 0 (gx_Q g) := by
  refine z_met (by decide) (Nat.le_of_ble_eq_true rfl) (fun p e s m below meth c B hr hin => ?_)
  refine z_eqs (σ' := (ap b σ [] [] [])) rfl ?_
  show zx p l e _ s m _ below meth c g 4 0 0 _ _ 0 [(0, .ref (b + 405)), (1, .int w1), (2, .int w2), (3, .int w3)] []
  refine z_aload_n B dX9_signal_0 rfl 0 rfl ?_
  refine z_aload_n B dX9_signal_1 rfl 0 rfl ?_
  refine z_iload_n B dX9_signal_2 rfl 1 rfl ?_
  refine z_cVi (As := [.int w1]) (rest := [.ref (b + 405)]) B cw_X9_262 cx_10 dX9_signal_3 (ci_X9_isWorkflow_865 l (σ := (ap b σ [] [] [])) (b := b) (lyA hK) w1 q1_w1 q2_w1 (rI_at 405 6 hI_405_6)) (lKA (hk_K hK 405 rfl rfl)) rfl (by decide) rfl (Nat.le_of_ble_eq_true rfl) (by decide) (fun r u hu => ?_)
  refine z_eqs (σ' := (ap b σ [] [] [])) hu.2 ?_
  show zx p l e _ s m _ below meth c g 4 0 0 _ _ 6 [(0, .ref (b + 405)), (1, .int w1), (2, .int w2), (3, .int w3)] _
  refine z_seti (y := 0) hu.1 ?_
  refine z_iload_n B dX9_signal_6 rfl 2 rfl ?_
  refine z_iconst (v := 0) B dX9_signal_7 (by decide) ?_
  refine z_bipush (v := 99) B dX9_signal_8 (by decide) ?_
  refine z_cSi (As := [.int w2, .int 0, .int 99]) (rest := [.int 0, .ref (b + 405)]) B cw_X9_96 dX9_signal_10 (ci_X9_in_42 l (σ := (ap b σ [] [] [])) (b := b) (lyA hK) w2 q1_w2 q2_w2) rfl (by decide) rfl (Nat.le_of_ble_eq_true rfl) (by decide) (fun r u hu => ?_)
  refine z_eqs (σ' := (ap b σ [] [] [])) hu.2 ?_
  show zx p l e _ s m _ below meth c g 4 0 0 _ _ 13 [(0, .ref (b + 405)), (1, .int w1), (2, .int w2), (3, .int w3)] _
  refine z_seti (y := 0) hu.1 ?_
  refine z_if_eq (tgt := 30) B dX9_signal_13 (by decide) (fun _ => ?_) (fun h => absurd (by decide) h)
  refine z_iconst (v := 0) B dX9_signal_30 (by decide) ?_
  refine z_cVi (As := [.int 0, .int 0]) (rest := []) B cw_X9_245 cx_10 dX9_signal_31 (ci_X9_needs__29 l (σ := (ap b σ [] [] [])) (b := b) (lyA hK) ) (lKA (hk_K hK 405 rfl rfl)) rfl (by decide) rfl (Nat.le_of_ble_eq_true rfl) (by decide) (fun r u hu => ?_)
  refine z_eqs (σ' := (ap b σ [(405, 0, 1)] [] [])) (hu.2.trans ap_ap) ?_
  show zx p l e _ s m _ below meth c g 4 0 0 _ _ 34 [(0, .ref (b + 405)), (1, .int w1), (2, .int w2), (3, .int w3)] _
  refine z_seti (y := 0) hu.1 ?_
  refine z_if_eq (tgt := 60) B dX9_signal_34 (by decide) (fun _ => ?_) (fun h => absurd (by decide) h)
  refine z_iconst (v := 0) B dX9_signal_60 (by decide) ?_
  exact z_zret B hr (by decide) (by decide) (by decide) dX9_signal_61 ⟨rfl, rfl⟩
set_option maxRecDepth 100000 in
set_option maxHeartbeats 4000000 in
theorem ci_X8_flowAt_871 (l : Launch) {g : gx_T} {σ : sx_T} {b : Nat} (hK : lay b σ) (w1 : Int32) (q1_w1 : (0 : Int) ≤ w1.toInt) (q2_w1 : w1.toInt ≤ (2147483647 : Int)) (hI_0_7 : sx_I σ (b + 0) 7 = 0) : Met l yX8_flowAt (.code yX8_flowAt cX8_flowAt 3 (some (.object "Loomkeeper$Flow")) :: lw_g) { frames := 0, cells := 0, slots := 0, locals := 0 } (va_Pc [.ref (b + 0), .int w1] (zx_w g σ)) (va_Qq (fun r u => r = none ∧ u = σ) (zx_w g) (gx_Q g)) 0 0 (gx_Q g) := by
  refine z_met (by decide) (Nat.le_of_ble_eq_true rfl) (fun p e s m below meth c B hr hin => ?_)
  refine z_eqs (σ' := (ap b σ [] [] [])) rfl ?_
  show zx p l e _ s m _ below meth c g 3 0 0 _ _ 0 [(0, .ref (b + 0)), (1, .int w1)] []
  refine z_iload_n B dX8_flowAt_0 rfl 1 rfl ?_
  refine z_if_lt (tgt := 25) B dX8_flowAt_1 (by decide) (fun h => absurd h (iv_nlt q1_w1 (by decide))) (fun _ => ?_)
  refine z_iload_n B dX8_flowAt_4 rfl 1 rfl ?_
  refine z_aload_n B dX8_flowAt_5 rfl 0 rfl ?_
  refine gf_X8_96 (x := 0) B (lKA (hk_K hK 0 rfl rfl)) (rI_at 0 7 hI_0_7) dX8_flowAt_6 ?_
  refine z_icmp_ge (tgt := 25) B dX8_flowAt_9 (by decide) (fun _ => ?_) (fun h => absurd (iv_ge q1_w1 (by decide)) h)
  refine z_iconst (v := 0) B dX8_flowAt_25 (by decide) ?_
  refine z_istore_n (lv' := [(2, .int 0), (0, .ref (b + 0)), (1, .int w1)]) B dX8_flowAt_26 rfl (by decide) rfl ?_
  refine z_iload_n B dX8_flowAt_27 rfl 0 rfl ?_
  refine z_if_eq (tgt := 40) B dX8_flowAt_28 (by decide) (fun _ => ?_) (fun h => absurd (by decide) h)
  refine z_null B dX8_flowAt_40 ?_
  exact z_qret (r := none) B hr (by decide) (by decide) dX8_flowAt_41 ⟨rfl, rfl⟩
set_option maxRecDepth 100000 in
set_option maxHeartbeats 4000000 in
theorem ci_X8_signal_872 (l : Launch) (hlt : l.stackTraces = false) {g : gx_T} {σ : sx_T} {b : Nat} (hK : lay b σ) (w1 : Int32) (w2 : Int32) (w3 : Int32) (q1_w1 : (0 : Int) ≤ w1.toInt) (q2_w1 : w1.toInt ≤ (2147483647 : Int)) (hI_0_7 : sx_I σ (b + 0) 7 = 0) : vx_Met l yX8_signal (.code yX8_signal cX8_signal 5 (some .boolean) :: lw_g) { frames := 7, cells := 1, slots := 6, locals := 136 } (va_Pc [.ref (b + 0), .int w1, .int w2, .int w3] (zx_w g σ)) (va_Qi (S := sx_T) (fun _ _ => False) (zx_w g) (gx_Q g)) (vx_X (fun u : sx_T => ∃ z, u = wx_Z σ z) (fun E u t => E = "java/lang/IndexOutOfBoundsException" ∧ zx_h g u t.heap) (gx_Q g)) 1 6 (gx_Q g) := by
  refine z_metX (by decide) (Nat.le_of_ble_eq_true rfl) (fun p e s m below meth c B hr hin hout => ?_)
  refine z_eqs (σ' := (ap b σ [] [] [])) rfl ?_
  show zx p l e _ s m _ below meth c g 5 0 0 _ _ 0 [(0, .ref (b + 0)), (1, .int w1), (2, .int w2), (3, .int w3)] []
  refine z_aload_n B dX8_signal_0 rfl 0 rfl ?_
  refine z_iload_n B dX8_signal_1 rfl 1 rfl ?_
  refine z_cVq (As := [.int w1]) (rest := []) B cw_X8_99 cx_9 dX8_signal_2 (ci_X8_flowAt_871 l (σ := (ap b σ [] [] [])) (b := b) (lyA hK) w1 q1_w1 q2_w1 (rI_at 0 7 hI_0_7)) (lKA (hk_K hK 0 rfl rfl)) rfl (by decide) rfl (Nat.le_of_ble_eq_true rfl) (by decide) (fun r u hu => ?_)
  refine z_eqs (σ' := (ap b σ [] [] [])) hu.2 ?_
  show zx p l e _ s m _ below meth c g 5 0 0 _ _ 5 [(0, .ref (b + 0)), (1, .int w1), (2, .int w2), (3, .int w3)] _
  refine z_setr (y := none) hu.1 ?_
  refine z_qstore (r := none) (lv' := [(4, .null), (0, .ref (b + 0)), (1, .int w1), (2, .int w2), (3, .int w3)]) B dX8_signal_5 (by decide) rfl ?_
  refine z_qload (r := none) B dX8_signal_7 0 rfl ?_
  refine z_ifnonnull (r := none) (tgt := 22) B dX8_signal_9 (by decide) (fun a h => nomatch h) (fun _ => ?_)
  exact z_throw B hlt hout (cls := "java/lang/IndexOutOfBoundsException") (text := "no such workflow") tw_X8_72_153_76 dX8_signal_12 dX8_signal_15 dX8_signal_16 dX8_signal_18 dX8_signal_21 (by decide) (by decide) (by decide) (by decide) (by decide) (by decide) (fun z => ⟨z, rfl⟩)
set_option maxRecDepth 100000 in
set_option maxHeartbeats 4000000 in
theorem ci_L_signal_873 (l : Launch) (hlt : l.stackTraces = false) {g : gx_T} {σ : sx_T} {b : Nat} (hK : lay b σ) (w1 : Int32) (w2 : Int32) (w3 : Int32) (q1_w1 : (0 : Int) ≤ w1.toInt) (q2_w1 : w1.toInt ≤ (2147483647 : Int)) (hI_0_7 : sx_I σ (b + 0) 7 = 0) : Met l yL_signal (.codeWith yL_signal cL_signal 6 (some .int) [(0, 19, 22, 13), (0, 19, 26, 15)] :: lw_g) { frames := 8, cells := 1, slots := 6, locals := 160 } (va_Pc [.ref (b + 0), .int w1, .int w2, .int w3, .ref (b + 431)] (zx_w g σ)) (va_Qi (fun r u => r = 1 ∧ ∃ z, u = (ap b (wx_Z σ z) [] [] [])) (zx_w g) (gx_Q g)) 1 6 (gx_Q g) := by
  refine z_metW (by decide) (Nat.le_of_ble_eq_true rfl) (fun p e s m below meth c B hr htab => ?_)
  refine z_eqs (σ' := (ap b σ [] [] [])) rfl ?_
  show zx p l e _ s m _ below meth c g 6 0 0 _ _ 0 [(0, .ref (b + 0)), (1, .int w1), (2, .int w2), (3, .int w3), (4, .ref (b + 431))] []
  refine z_aload B dL_signal_0 4 rfl ?_
  refine z_iconst (v := 0) B dL_signal_2 (by decide) ?_
  refine z_aload_n B dL_signal_3 rfl 0 rfl ?_
  refine z_iload_n B dL_signal_4 rfl 1 rfl ?_
  refine z_iload_n B dL_signal_5 rfl 2 rfl ?_
  refine z_iload_n B dL_signal_6 rfl 3 rfl ?_
  refine z_cXi (As := [.int w1, .int w2, .int w3]) (rest := [.int 0, .ref (b + 431)]) B htab tc_signal_7_IndexOutOfBoundsException cw_L_26 cx_9 dL_signal_7 (ci_X8_signal_872 l hlt (σ := (ap b σ [] [] [])) (b := b) (lyA hK) w1 w2 w3 q1_w1 q2_w1 (rI_at 0 7 hI_0_7)) (lKA (hk_K hK 0 rfl rfl)) rfl (by decide) rfl (Nat.le_of_ble_eq_true rfl) (by decide) (fun z q => ?_)
  refine z_eqs (σ' := (ap b (wx_Z σ z) [] [] [])) rfl ?_
  show zx p l e _ s m _ below meth c g 6 _ _ _ _ 22 [(0, .ref (b + 0)), (1, .int w1), (2, .int w2), (3, .int w3), (4, .ref (b + 431))] _
  refine z_astore (lv' := [(5, .ref q), (0, .ref (b + 0)), (1, .int w1), (2, .int w2), (3, .int w3), (4, .ref (b + 431))]) B dL_signal_22 (by decide) rfl ?_
  refine z_iconst (v := 1) B dL_signal_24 (by decide) ?_
  exact z_iret B hr (by decide) (by decide) dL_signal_25 ⟨rfl, _, rfl⟩
set_option maxRecDepth 100000 in
set_option maxHeartbeats 4000000 in
theorem ci_X9_in_874 (l : Launch) {g : gx_T} {σ : sx_T} {b : Nat} (hK : lay b σ) (w1 : Int32) (q1_w1 : (0 : Int) ≤ w1.toInt) (q2_w1 : w1.toInt ≤ (2147483647 : Int))  : Met l yX9_in (.code yX9_in cX9_in 3 (some .boolean) :: lw_g) { frames := 0, cells := 0, slots := 0, locals := 0 } (va_Pc [.int w1, .int 0, .int (-1)] (zx_w g σ)) (va_Qi (fun r u => r = 0 ∧ u = σ) (zx_w g) (gx_Q g)) 0 0 (gx_Q g) := by
  refine z_met (by decide) (Nat.le_of_ble_eq_true rfl) (fun p e s m below meth c B hr hin => ?_)
  refine z_eqs (σ' := (ap b σ [] [] [])) rfl ?_
  show zx p l e _ s m _ below meth c g 3 0 0 _ _ 0 [(0, .int w1), (1, .int 0), (2, .int (-1))] []
  refine z_iload_n B dX9_in_0 rfl 0 rfl ?_
  refine z_iload_n B dX9_in_1 rfl 1 rfl ?_
  refine z_icmp_lt (tgt := 14) B dX9_in_2 (by decide) (fun h => absurd h (iv_nlt q1_w1 (by decide))) (fun _ => ?_)
  refine z_iload_n B dX9_in_5 rfl 0 rfl ?_
  refine z_iload_n B dX9_in_6 rfl 2 rfl ?_
  refine z_icmp_gt (tgt := 14) B dX9_in_7 (by decide) (fun _ => ?_) (fun h => absurd (iv_gt q1_w1 (by decide)) h)
  refine z_iconst (v := 0) B dX9_in_14 (by decide) ?_
  exact z_zret B hr (by decide) (by decide) (by decide) dX9_in_15 ⟨rfl, rfl⟩
set_option maxRecDepth 100000 in
set_option maxHeartbeats 4000000 in
theorem ci_X9_isWorkflow_875 (l : Launch) {g : gx_T} {σ : sx_T} {b : Nat} (hK : lay b σ) (w1 : Int32) (q1_w1 : (0 : Int) ≤ w1.toInt) (q2_w1 : w1.toInt ≤ (2147483647 : Int)) (hI_405_6 : sx_I σ (b + 405) 6 = 0) : Met l yX9_isWorkflow (.code yX9_isWorkflow cX9_isWorkflow 2 (some .boolean) :: lw_g) { frames := 1, cells := 0, slots := 0, locals := 22 } (va_Pc [.ref (b + 405), .int w1] (zx_w g σ)) (va_Qi (fun r u => r = 0 ∧ u = σ) (zx_w g) (gx_Q g)) 0 0 (gx_Q g) := by
  refine z_met (by decide) (Nat.le_of_ble_eq_true rfl) (fun p e s m below meth c B hr hin => ?_)
  refine z_eqs (σ' := (ap b σ [] [] [])) rfl ?_
  show zx p l e _ s m _ below meth c g 2 0 0 _ _ 0 [(0, .ref (b + 405)), (1, .int w1)] []
  refine z_iload_n B dX9_isWorkflow_0 rfl 1 rfl ?_
  refine z_iconst (v := 0) B dX9_isWorkflow_1 (by decide) ?_
  refine z_aload_n B dX9_isWorkflow_2 rfl 0 rfl ?_
  refine gf_X9_93 (x := 0) B (lKA (hk_K hK 405 rfl rfl)) (rI_at 405 6 hI_405_6) dX9_isWorkflow_3 ?_
  refine z_iconst (v := 1) B dX9_isWorkflow_6 (by decide) ?_
  refine z_isub B dX9_isWorkflow_7 ?_
  refine z_seti (y := (-1)) (by decide) ?_
  refine z_cSi (As := [.int w1, .int 0, .int (-1)]) (rest := []) B cw_X9_96 dX9_isWorkflow_8 (ci_X9_in_874 l (σ := (ap b σ [] [] [])) (b := b) (lyA hK) w1 q1_w1 q2_w1) rfl (by decide) rfl (Nat.le_of_ble_eq_true rfl) (by decide) (fun r u hu => ?_)
  refine z_eqs (σ' := (ap b σ [] [] [])) hu.2 ?_
  show zx p l e _ s m _ below meth c g 2 0 0 _ _ 11 [(0, .ref (b + 405)), (1, .int w1)] _
  refine z_seti (y := 0) hu.1 ?_
  exact z_zret B hr (by decide) (by decide) (by decide) dX9_isWorkflow_11 ⟨rfl, rfl⟩
set_option maxRecDepth 100000 in
set_option maxHeartbeats 4000000 in
theorem ci_X9_signal_876 (l : Launch) {g : gx_T} {σ : sx_T} {b : Nat} (hK : lay b σ) (w1 : Int32) (w2 : Int32) (w3 : Int32) (q1_w1 : (0 : Int) ≤ w1.toInt) (q2_w1 : w1.toInt ≤ (2147483647 : Int)) (q1_w2 : (-2147483648 : Int) ≤ w2.toInt) (q2_w2 : w2.toInt ≤ (-1 : Int)) (hI_405_6 : sx_I σ (b + 405) 6 = 0) : Met l yX9_signal (.code yX9_signal cX9_signal 4 (some .boolean) :: lw_g) { frames := 2, cells := 0, slots := 0, locals := 43 } (va_Pc [.ref (b + 405), .int w1, .int w2, .int w3] (zx_w g σ)) (va_Qi (fun r u => r = 0 ∧ u = (ap b σ [(405, 0, 1)] [] [])) (zx_w g) (gx_Q g)) 0 0 (gx_Q g) := by
  refine z_met (by decide) (Nat.le_of_ble_eq_true rfl) (fun p e s m below meth c B hr hin => ?_)
  refine z_eqs (σ' := (ap b σ [] [] [])) rfl ?_
  show zx p l e _ s m _ below meth c g 4 0 0 _ _ 0 [(0, .ref (b + 405)), (1, .int w1), (2, .int w2), (3, .int w3)] []
  refine z_aload_n B dX9_signal_0 rfl 0 rfl ?_
  refine z_aload_n B dX9_signal_1 rfl 0 rfl ?_
  refine z_iload_n B dX9_signal_2 rfl 1 rfl ?_
  refine z_cVi (As := [.int w1]) (rest := [.ref (b + 405)]) B cw_X9_262 cx_10 dX9_signal_3 (ci_X9_isWorkflow_875 l (σ := (ap b σ [] [] [])) (b := b) (lyA hK) w1 q1_w1 q2_w1 (rI_at 405 6 hI_405_6)) (lKA (hk_K hK 405 rfl rfl)) rfl (by decide) rfl (Nat.le_of_ble_eq_true rfl) (by decide) (fun r u hu => ?_)
  refine z_eqs (σ' := (ap b σ [] [] [])) hu.2 ?_
  show zx p l e _ s m _ below meth c g 4 0 0 _ _ 6 [(0, .ref (b + 405)), (1, .int w1), (2, .int w2), (3, .int w3)] _
  refine z_seti (y := 0) hu.1 ?_
  refine z_iload_n B dX9_signal_6 rfl 2 rfl ?_
  refine z_iconst (v := 0) B dX9_signal_7 (by decide) ?_
  refine z_bipush (v := 99) B dX9_signal_8 (by decide) ?_
  refine z_cSi (As := [.int w2, .int 0, .int 99]) (rest := [.int 0, .ref (b + 405)]) B cw_X9_96 dX9_signal_10 (ci_X9_in_33 l (σ := (ap b σ [] [] [])) (b := b) (lyA hK) w2 q1_w2 q2_w2) rfl (by decide) rfl (Nat.le_of_ble_eq_true rfl) (by decide) (fun r u hu => ?_)
  refine z_eqs (σ' := (ap b σ [] [] [])) hu.2 ?_
  show zx p l e _ s m _ below meth c g 4 0 0 _ _ 13 [(0, .ref (b + 405)), (1, .int w1), (2, .int w2), (3, .int w3)] _
  refine z_seti (y := 0) hu.1 ?_
  refine z_if_eq (tgt := 30) B dX9_signal_13 (by decide) (fun _ => ?_) (fun h => absurd (by decide) h)
  refine z_iconst (v := 0) B dX9_signal_30 (by decide) ?_
  refine z_cVi (As := [.int 0, .int 0]) (rest := []) B cw_X9_245 cx_10 dX9_signal_31 (ci_X9_needs__29 l (σ := (ap b σ [] [] [])) (b := b) (lyA hK) ) (lKA (hk_K hK 405 rfl rfl)) rfl (by decide) rfl (Nat.le_of_ble_eq_true rfl) (by decide) (fun r u hu => ?_)
  refine z_eqs (σ' := (ap b σ [(405, 0, 1)] [] [])) (hu.2.trans ap_ap) ?_
  show zx p l e _ s m _ below meth c g 4 0 0 _ _ 34 [(0, .ref (b + 405)), (1, .int w1), (2, .int w2), (3, .int w3)] _
  refine z_seti (y := 0) hu.1 ?_
  refine z_if_eq (tgt := 60) B dX9_signal_34 (by decide) (fun _ => ?_) (fun h => absurd (by decide) h)
  refine z_iconst (v := 0) B dX9_signal_60 (by decide) ?_
  exact z_zret B hr (by decide) (by decide) (by decide) dX9_signal_61 ⟨rfl, rfl⟩
set_option maxRecDepth 100000 in
set_option maxHeartbeats 4000000 in
theorem ci_X9_signal_877 (l : Launch) {g : gx_T} {σ : sx_T} {b : Nat} (hK : lay b σ) (w1 : Int32) (w2 : Int32) (w3 : Int32) (q1_w1 : (0 : Int) ≤ w1.toInt) (q2_w1 : w1.toInt ≤ (2147483647 : Int)) (q1_w2 : (0 : Int) ≤ w2.toInt) (q2_w2 : w2.toInt ≤ (99 : Int)) (q1_w3 : (-2147483648 : Int) ≤ w3.toInt) (q2_w3 : w3.toInt ≤ (-1 : Int)) (hI_405_6 : sx_I σ (b + 405) 6 = 0) : Met l yX9_signal (.code yX9_signal cX9_signal 4 (some .boolean) :: lw_g) { frames := 2, cells := 0, slots := 0, locals := 43 } (va_Pc [.ref (b + 405), .int w1, .int w2, .int w3] (zx_w g σ)) (va_Qi (fun r u => r = 0 ∧ u = (ap b σ [(405, 0, 1)] [] [])) (zx_w g) (gx_Q g)) 0 0 (gx_Q g) := by
  refine z_met (by decide) (Nat.le_of_ble_eq_true rfl) (fun p e s m below meth c B hr hin => ?_)
  refine z_eqs (σ' := (ap b σ [] [] [])) rfl ?_
  show zx p l e _ s m _ below meth c g 4 0 0 _ _ 0 [(0, .ref (b + 405)), (1, .int w1), (2, .int w2), (3, .int w3)] []
  refine z_aload_n B dX9_signal_0 rfl 0 rfl ?_
  refine z_aload_n B dX9_signal_1 rfl 0 rfl ?_
  refine z_iload_n B dX9_signal_2 rfl 1 rfl ?_
  refine z_cVi (As := [.int w1]) (rest := [.ref (b + 405)]) B cw_X9_262 cx_10 dX9_signal_3 (ci_X9_isWorkflow_875 l (σ := (ap b σ [] [] [])) (b := b) (lyA hK) w1 q1_w1 q2_w1 (rI_at 405 6 hI_405_6)) (lKA (hk_K hK 405 rfl rfl)) rfl (by decide) rfl (Nat.le_of_ble_eq_true rfl) (by decide) (fun r u hu => ?_)
  refine z_eqs (σ' := (ap b σ [] [] [])) hu.2 ?_
  show zx p l e _ s m _ below meth c g 4 0 0 _ _ 6 [(0, .ref (b + 405)), (1, .int w1), (2, .int w2), (3, .int w3)] _
  refine z_seti (y := 0) hu.1 ?_
  refine z_iload_n B dX9_signal_6 rfl 2 rfl ?_
  refine z_iconst (v := 0) B dX9_signal_7 (by decide) ?_
  refine z_bipush (v := 99) B dX9_signal_8 (by decide) ?_
  refine z_cSi (As := [.int w2, .int 0, .int 99]) (rest := [.int 0, .ref (b + 405)]) B cw_X9_96 dX9_signal_10 (ci_X9_in_36 l (σ := (ap b σ [] [] [])) (b := b) (lyA hK) w2 q1_w2 q2_w2) rfl (by decide) rfl (Nat.le_of_ble_eq_true rfl) (by decide) (fun r u hu => ?_)
  refine z_eqs (σ' := (ap b σ [] [] [])) hu.2 ?_
  show zx p l e _ s m _ below meth c g 4 0 0 _ _ 13 [(0, .ref (b + 405)), (1, .int w1), (2, .int w2), (3, .int w3)] _
  refine z_seti (y := 1) hu.1 ?_
  refine z_if_eq (tgt := 30) B dX9_signal_13 (by decide) (fun h => absurd h (by decide)) (fun _ => ?_)
  refine z_iload_n B dX9_signal_16 rfl 3 rfl ?_
  refine z_iconst (v := 0) B dX9_signal_17 (by decide) ?_
  refine z_bipush (v := 99) B dX9_signal_18 (by decide) ?_
  refine z_cSi (As := [.int w3, .int 0, .int 99]) (rest := [.int 0, .ref (b + 405)]) B cw_X9_96 dX9_signal_20 (ci_X9_in_33 l (σ := (ap b σ [] [] [])) (b := b) (lyA hK) w3 q1_w3 q2_w3) rfl (by decide) rfl (Nat.le_of_ble_eq_true rfl) (by decide) (fun r u hu => ?_)
  refine z_eqs (σ' := (ap b σ [] [] [])) hu.2 ?_
  show zx p l e _ s m _ below meth c g 4 0 0 _ _ 23 [(0, .ref (b + 405)), (1, .int w1), (2, .int w2), (3, .int w3)] _
  refine z_seti (y := 0) hu.1 ?_
  refine z_if_eq (tgt := 30) B dX9_signal_23 (by decide) (fun _ => ?_) (fun h => absurd (by decide) h)
  refine z_iconst (v := 0) B dX9_signal_30 (by decide) ?_
  refine z_cVi (As := [.int 0, .int 0]) (rest := []) B cw_X9_245 cx_10 dX9_signal_31 (ci_X9_needs__29 l (σ := (ap b σ [] [] [])) (b := b) (lyA hK) ) (lKA (hk_K hK 405 rfl rfl)) rfl (by decide) rfl (Nat.le_of_ble_eq_true rfl) (by decide) (fun r u hu => ?_)
  refine z_eqs (σ' := (ap b σ [(405, 0, 1)] [] [])) (hu.2.trans ap_ap) ?_
  show zx p l e _ s m _ below meth c g 4 0 0 _ _ 34 [(0, .ref (b + 405)), (1, .int w1), (2, .int w2), (3, .int w3)] _
  refine z_seti (y := 0) hu.1 ?_
  refine z_if_eq (tgt := 60) B dX9_signal_34 (by decide) (fun _ => ?_) (fun h => absurd (by decide) h)
  refine z_iconst (v := 0) B dX9_signal_60 (by decide) ?_
  exact z_zret B hr (by decide) (by decide) (by decide) dX9_signal_61 ⟨rfl, rfl⟩
set_option maxRecDepth 100000 in
set_option maxHeartbeats 4000000 in
theorem ci_X9_signal_878 (l : Launch) {g : gx_T} {σ : sx_T} {b : Nat} (hK : lay b σ) (w1 : Int32) (w2 : Int32) (w3 : Int32) (q1_w1 : (0 : Int) ≤ w1.toInt) (q2_w1 : w1.toInt ≤ (2147483647 : Int)) (q1_w2 : (0 : Int) ≤ w2.toInt) (q2_w2 : w2.toInt ≤ (99 : Int)) (q1_w3 : (0 : Int) ≤ w3.toInt) (q2_w3 : w3.toInt ≤ (99 : Int)) (hI_405_6 : sx_I σ (b + 405) 6 = 0) : Met l yX9_signal (.code yX9_signal cX9_signal 4 (some .boolean) :: lw_g) { frames := 2, cells := 0, slots := 0, locals := 43 } (va_Pc [.ref (b + 405), .int w1, .int w2, .int w3] (zx_w g σ)) (va_Qi (fun r u => r = 0 ∧ u = (ap b σ [(405, 0, 1)] [] [])) (zx_w g) (gx_Q g)) 0 0 (gx_Q g) := by
  refine z_met (by decide) (Nat.le_of_ble_eq_true rfl) (fun p e s m below meth c B hr hin => ?_)
  refine z_eqs (σ' := (ap b σ [] [] [])) rfl ?_
  show zx p l e _ s m _ below meth c g 4 0 0 _ _ 0 [(0, .ref (b + 405)), (1, .int w1), (2, .int w2), (3, .int w3)] []
  refine z_aload_n B dX9_signal_0 rfl 0 rfl ?_
  refine z_aload_n B dX9_signal_1 rfl 0 rfl ?_
  refine z_iload_n B dX9_signal_2 rfl 1 rfl ?_
  refine z_cVi (As := [.int w1]) (rest := [.ref (b + 405)]) B cw_X9_262 cx_10 dX9_signal_3 (ci_X9_isWorkflow_875 l (σ := (ap b σ [] [] [])) (b := b) (lyA hK) w1 q1_w1 q2_w1 (rI_at 405 6 hI_405_6)) (lKA (hk_K hK 405 rfl rfl)) rfl (by decide) rfl (Nat.le_of_ble_eq_true rfl) (by decide) (fun r u hu => ?_)
  refine z_eqs (σ' := (ap b σ [] [] [])) hu.2 ?_
  show zx p l e _ s m _ below meth c g 4 0 0 _ _ 6 [(0, .ref (b + 405)), (1, .int w1), (2, .int w2), (3, .int w3)] _
  refine z_seti (y := 0) hu.1 ?_
  refine z_iload_n B dX9_signal_6 rfl 2 rfl ?_
  refine z_iconst (v := 0) B dX9_signal_7 (by decide) ?_
  refine z_bipush (v := 99) B dX9_signal_8 (by decide) ?_
  refine z_cSi (As := [.int w2, .int 0, .int 99]) (rest := [.int 0, .ref (b + 405)]) B cw_X9_96 dX9_signal_10 (ci_X9_in_36 l (σ := (ap b σ [] [] [])) (b := b) (lyA hK) w2 q1_w2 q2_w2) rfl (by decide) rfl (Nat.le_of_ble_eq_true rfl) (by decide) (fun r u hu => ?_)
  refine z_eqs (σ' := (ap b σ [] [] [])) hu.2 ?_
  show zx p l e _ s m _ below meth c g 4 0 0 _ _ 13 [(0, .ref (b + 405)), (1, .int w1), (2, .int w2), (3, .int w3)] _
  refine z_seti (y := 1) hu.1 ?_
  refine z_if_eq (tgt := 30) B dX9_signal_13 (by decide) (fun h => absurd h (by decide)) (fun _ => ?_)
  refine z_iload_n B dX9_signal_16 rfl 3 rfl ?_
  refine z_iconst (v := 0) B dX9_signal_17 (by decide) ?_
  refine z_bipush (v := 99) B dX9_signal_18 (by decide) ?_
  refine z_cSi (As := [.int w3, .int 0, .int 99]) (rest := [.int 0, .ref (b + 405)]) B cw_X9_96 dX9_signal_20 (ci_X9_in_36 l (σ := (ap b σ [] [] [])) (b := b) (lyA hK) w3 q1_w3 q2_w3) rfl (by decide) rfl (Nat.le_of_ble_eq_true rfl) (by decide) (fun r u hu => ?_)
  refine z_eqs (σ' := (ap b σ [] [] [])) hu.2 ?_
  show zx p l e _ s m _ below meth c g 4 0 0 _ _ 23 [(0, .ref (b + 405)), (1, .int w1), (2, .int w2), (3, .int w3)] _
  refine z_seti (y := 1) hu.1 ?_
  refine z_if_eq (tgt := 30) B dX9_signal_23 (by decide) (fun h => absurd h (by decide)) (fun _ => ?_)
  refine z_iconst (v := 1) B dX9_signal_26 (by decide) ?_
  refine z_goto (tgt := 31) B dX9_signal_27 (by decide) ?_
  refine z_cVi (As := [.int 0, .int 1]) (rest := []) B cw_X9_245 cx_10 dX9_signal_31 (ci_X9_needs__40 l (σ := (ap b σ [] [] [])) (b := b) (lyA hK) ) (lKA (hk_K hK 405 rfl rfl)) rfl (by decide) rfl (Nat.le_of_ble_eq_true rfl) (by decide) (fun r u hu => ?_)
  refine z_eqs (σ' := (ap b σ [(405, 0, 1)] [] [])) (hu.2.trans ap_ap) ?_
  show zx p l e _ s m _ below meth c g 4 0 0 _ _ 34 [(0, .ref (b + 405)), (1, .int w1), (2, .int w2), (3, .int w3)] _
  refine z_seti (y := 0) hu.1 ?_
  refine z_if_eq (tgt := 60) B dX9_signal_34 (by decide) (fun _ => ?_) (fun h => absurd (by decide) h)
  refine z_iconst (v := 0) B dX9_signal_60 (by decide) ?_
  exact z_zret B hr (by decide) (by decide) (by decide) dX9_signal_61 ⟨rfl, rfl⟩
set_option maxRecDepth 100000 in
set_option maxHeartbeats 4000000 in
theorem ci_X9_signal_879 (l : Launch) {g : gx_T} {σ : sx_T} {b : Nat} (hK : lay b σ) (w1 : Int32) (w2 : Int32) (w3 : Int32) (q1_w1 : (0 : Int) ≤ w1.toInt) (q2_w1 : w1.toInt ≤ (2147483647 : Int)) (q1_w2 : (0 : Int) ≤ w2.toInt) (q2_w2 : w2.toInt ≤ (99 : Int)) (q1_w3 : (100 : Int) ≤ w3.toInt) (q2_w3 : w3.toInt ≤ (2147483647 : Int)) (hI_405_6 : sx_I σ (b + 405) 6 = 0) : Met l yX9_signal (.code yX9_signal cX9_signal 4 (some .boolean) :: lw_g) { frames := 2, cells := 0, slots := 0, locals := 43 } (va_Pc [.ref (b + 405), .int w1, .int w2, .int w3] (zx_w g σ)) (va_Qi (fun r u => r = 0 ∧ u = (ap b σ [(405, 0, 1)] [] [])) (zx_w g) (gx_Q g)) 0 0 (gx_Q g) := by
  refine z_met (by decide) (Nat.le_of_ble_eq_true rfl) (fun p e s m below meth c B hr hin => ?_)
  refine z_eqs (σ' := (ap b σ [] [] [])) rfl ?_
  show zx p l e _ s m _ below meth c g 4 0 0 _ _ 0 [(0, .ref (b + 405)), (1, .int w1), (2, .int w2), (3, .int w3)] []
  refine z_aload_n B dX9_signal_0 rfl 0 rfl ?_
  refine z_aload_n B dX9_signal_1 rfl 0 rfl ?_
  refine z_iload_n B dX9_signal_2 rfl 1 rfl ?_
  refine z_cVi (As := [.int w1]) (rest := [.ref (b + 405)]) B cw_X9_262 cx_10 dX9_signal_3 (ci_X9_isWorkflow_875 l (σ := (ap b σ [] [] [])) (b := b) (lyA hK) w1 q1_w1 q2_w1 (rI_at 405 6 hI_405_6)) (lKA (hk_K hK 405 rfl rfl)) rfl (by decide) rfl (Nat.le_of_ble_eq_true rfl) (by decide) (fun r u hu => ?_)
  refine z_eqs (σ' := (ap b σ [] [] [])) hu.2 ?_
  show zx p l e _ s m _ below meth c g 4 0 0 _ _ 6 [(0, .ref (b + 405)), (1, .int w1), (2, .int w2), (3, .int w3)] _
  refine z_seti (y := 0) hu.1 ?_
  refine z_iload_n B dX9_signal_6 rfl 2 rfl ?_
  refine z_iconst (v := 0) B dX9_signal_7 (by decide) ?_
  refine z_bipush (v := 99) B dX9_signal_8 (by decide) ?_
  refine z_cSi (As := [.int w2, .int 0, .int 99]) (rest := [.int 0, .ref (b + 405)]) B cw_X9_96 dX9_signal_10 (ci_X9_in_36 l (σ := (ap b σ [] [] [])) (b := b) (lyA hK) w2 q1_w2 q2_w2) rfl (by decide) rfl (Nat.le_of_ble_eq_true rfl) (by decide) (fun r u hu => ?_)
  refine z_eqs (σ' := (ap b σ [] [] [])) hu.2 ?_
  show zx p l e _ s m _ below meth c g 4 0 0 _ _ 13 [(0, .ref (b + 405)), (1, .int w1), (2, .int w2), (3, .int w3)] _
  refine z_seti (y := 1) hu.1 ?_
  refine z_if_eq (tgt := 30) B dX9_signal_13 (by decide) (fun h => absurd h (by decide)) (fun _ => ?_)
  refine z_iload_n B dX9_signal_16 rfl 3 rfl ?_
  refine z_iconst (v := 0) B dX9_signal_17 (by decide) ?_
  refine z_bipush (v := 99) B dX9_signal_18 (by decide) ?_
  refine z_cSi (As := [.int w3, .int 0, .int 99]) (rest := [.int 0, .ref (b + 405)]) B cw_X9_96 dX9_signal_20 (ci_X9_in_42 l (σ := (ap b σ [] [] [])) (b := b) (lyA hK) w3 q1_w3 q2_w3) rfl (by decide) rfl (Nat.le_of_ble_eq_true rfl) (by decide) (fun r u hu => ?_)
  refine z_eqs (σ' := (ap b σ [] [] [])) hu.2 ?_
  show zx p l e _ s m _ below meth c g 4 0 0 _ _ 23 [(0, .ref (b + 405)), (1, .int w1), (2, .int w2), (3, .int w3)] _
  refine z_seti (y := 0) hu.1 ?_
  refine z_if_eq (tgt := 30) B dX9_signal_23 (by decide) (fun _ => ?_) (fun h => absurd (by decide) h)
  refine z_iconst (v := 0) B dX9_signal_30 (by decide) ?_
  refine z_cVi (As := [.int 0, .int 0]) (rest := []) B cw_X9_245 cx_10 dX9_signal_31 (ci_X9_needs__29 l (σ := (ap b σ [] [] [])) (b := b) (lyA hK) ) (lKA (hk_K hK 405 rfl rfl)) rfl (by decide) rfl (Nat.le_of_ble_eq_true rfl) (by decide) (fun r u hu => ?_)
  refine z_eqs (σ' := (ap b σ [(405, 0, 1)] [] [])) (hu.2.trans ap_ap) ?_
  show zx p l e _ s m _ below meth c g 4 0 0 _ _ 34 [(0, .ref (b + 405)), (1, .int w1), (2, .int w2), (3, .int w3)] _
  refine z_seti (y := 0) hu.1 ?_
  refine z_if_eq (tgt := 60) B dX9_signal_34 (by decide) (fun _ => ?_) (fun h => absurd (by decide) h)
  refine z_iconst (v := 0) B dX9_signal_60 (by decide) ?_
  exact z_zret B hr (by decide) (by decide) (by decide) dX9_signal_61 ⟨rfl, rfl⟩
set_option maxRecDepth 100000 in
set_option maxHeartbeats 4000000 in
theorem ci_X9_signal_880 (l : Launch) {g : gx_T} {σ : sx_T} {b : Nat} (hK : lay b σ) (w1 : Int32) (w2 : Int32) (w3 : Int32) (q1_w1 : (0 : Int) ≤ w1.toInt) (q2_w1 : w1.toInt ≤ (2147483647 : Int)) (q1_w2 : (100 : Int) ≤ w2.toInt) (q2_w2 : w2.toInt ≤ (2147483647 : Int)) (hI_405_6 : sx_I σ (b + 405) 6 = 0) : Met l yX9_signal (.code yX9_signal cX9_signal 4 (some .boolean) :: lw_g) { frames := 2, cells := 0, slots := 0, locals := 43 } (va_Pc [.ref (b + 405), .int w1, .int w2, .int w3] (zx_w g σ)) (va_Qi (fun r u => r = 0 ∧ u = (ap b σ [(405, 0, 1)] [] [])) (zx_w g) (gx_Q g)) 0 0 (gx_Q g) := by
  refine z_met (by decide) (Nat.le_of_ble_eq_true rfl) (fun p e s m below meth c B hr hin => ?_)
  refine z_eqs (σ' := (ap b σ [] [] [])) rfl ?_
  show zx p l e _ s m _ below meth c g 4 0 0 _ _ 0 [(0, .ref (b + 405)), (1, .int w1), (2, .int w2), (3, .int w3)] []
  refine z_aload_n B dX9_signal_0 rfl 0 rfl ?_
  refine z_aload_n B dX9_signal_1 rfl 0 rfl ?_
  refine z_iload_n B dX9_signal_2 rfl 1 rfl ?_
  refine z_cVi (As := [.int w1]) (rest := [.ref (b + 405)]) B cw_X9_262 cx_10 dX9_signal_3 (ci_X9_isWorkflow_875 l (σ := (ap b σ [] [] [])) (b := b) (lyA hK) w1 q1_w1 q2_w1 (rI_at 405 6 hI_405_6)) (lKA (hk_K hK 405 rfl rfl)) rfl (by decide) rfl (Nat.le_of_ble_eq_true rfl) (by decide) (fun r u hu => ?_)
  refine z_eqs (σ' := (ap b σ [] [] [])) hu.2 ?_
  show zx p l e _ s m _ below meth c g 4 0 0 _ _ 6 [(0, .ref (b + 405)), (1, .int w1), (2, .int w2), (3, .int w3)] _
  refine z_seti (y := 0) hu.1 ?_
  refine z_iload_n B dX9_signal_6 rfl 2 rfl ?_
  refine z_iconst (v := 0) B dX9_signal_7 (by decide) ?_
  refine z_bipush (v := 99) B dX9_signal_8 (by decide) ?_
  refine z_cSi (As := [.int w2, .int 0, .int 99]) (rest := [.int 0, .ref (b + 405)]) B cw_X9_96 dX9_signal_10 (ci_X9_in_42 l (σ := (ap b σ [] [] [])) (b := b) (lyA hK) w2 q1_w2 q2_w2) rfl (by decide) rfl (Nat.le_of_ble_eq_true rfl) (by decide) (fun r u hu => ?_)
  refine z_eqs (σ' := (ap b σ [] [] [])) hu.2 ?_
  show zx p l e _ s m _ below meth c g 4 0 0 _ _ 13 [(0, .ref (b + 405)), (1, .int w1), (2, .int w2), (3, .int w3)] _
  refine z_seti (y := 0) hu.1 ?_
  refine z_if_eq (tgt := 30) B dX9_signal_13 (by decide) (fun _ => ?_) (fun h => absurd (by decide) h)
  refine z_iconst (v := 0) B dX9_signal_30 (by decide) ?_
  refine z_cVi (As := [.int 0, .int 0]) (rest := []) B cw_X9_245 cx_10 dX9_signal_31 (ci_X9_needs__29 l (σ := (ap b σ [] [] [])) (b := b) (lyA hK) ) (lKA (hk_K hK 405 rfl rfl)) rfl (by decide) rfl (Nat.le_of_ble_eq_true rfl) (by decide) (fun r u hu => ?_)
  refine z_eqs (σ' := (ap b σ [(405, 0, 1)] [] [])) (hu.2.trans ap_ap) ?_
  show zx p l e _ s m _ below meth c g 4 0 0 _ _ 34 [(0, .ref (b + 405)), (1, .int w1), (2, .int w2), (3, .int w3)] _
  refine z_seti (y := 0) hu.1 ?_
  refine z_if_eq (tgt := 60) B dX9_signal_34 (by decide) (fun _ => ?_) (fun h => absurd (by decide) h)
  refine z_iconst (v := 0) B dX9_signal_60 (by decide) ?_
  exact z_zret B hr (by decide) (by decide) (by decide) dX9_signal_61 ⟨rfl, rfl⟩
set_option maxRecDepth 100000 in
set_option maxHeartbeats 4000000 in
theorem ci_X8_cancel_881 (l : Launch) (hlt : l.stackTraces = false) {g : gx_T} {σ : sx_T} {b : Nat} (hK : lay b σ) (w1 : Int32) (q1_w1 : (-2147483648 : Int) ≤ w1.toInt) (q2_w1 : w1.toInt ≤ (-1 : Int))  : vx_Met l yX8_cancel (.code yX8_cancel cX8_cancel 3 (some .boolean) :: lw_g) { frames := 7, cells := 1, slots := 6, locals := 136 } (va_Pc [.ref (b + 0), .int w1] (zx_w g σ)) (va_Qi (S := sx_T) (fun _ _ => False) (zx_w g) (gx_Q g)) (vx_X (fun u : sx_T => ∃ z, u = wx_Z σ z) (fun E u t => E = "java/lang/IndexOutOfBoundsException" ∧ zx_h g u t.heap) (gx_Q g)) 1 6 (gx_Q g) := by
  refine z_metX (by decide) (Nat.le_of_ble_eq_true rfl) (fun p e s m below meth c B hr hin hout => ?_)
  refine z_eqs (σ' := (ap b σ [] [] [])) rfl ?_
  show zx p l e _ s m _ below meth c g 3 0 0 _ _ 0 [(0, .ref (b + 0)), (1, .int w1)] []
  refine z_aload_n B dX8_cancel_0 rfl 0 rfl ?_
  refine z_iload_n B dX8_cancel_1 rfl 1 rfl ?_
  refine z_cVq (As := [.int w1]) (rest := []) B cw_X8_99 cx_9 dX8_cancel_2 (ci_X8_flowAt_861 l (σ := (ap b σ [] [] [])) (b := b) (lyA hK) w1 q1_w1 q2_w1) (lKA (hk_K hK 0 rfl rfl)) rfl (by decide) rfl (Nat.le_of_ble_eq_true rfl) (by decide) (fun r u hu => ?_)
  refine z_eqs (σ' := (ap b σ [] [] [])) hu.2 ?_
  show zx p l e _ s m _ below meth c g 3 0 0 _ _ 5 [(0, .ref (b + 0)), (1, .int w1)] _
  refine z_setr (y := none) hu.1 ?_
  refine z_qstore_n (r := none) (lv' := [(2, .null), (0, .ref (b + 0)), (1, .int w1)]) B dX8_cancel_5 rfl (by decide) rfl ?_
  refine z_qload_n (r := none) B dX8_cancel_6 rfl 0 rfl ?_
  refine z_ifnonnull (r := none) (tgt := 20) B dX8_cancel_7 (by decide) (fun a h => nomatch h) (fun _ => ?_)
  exact z_throw B hlt hout (cls := "java/lang/IndexOutOfBoundsException") (text := "no such workflow") tw_X8_72_153_76 dX8_cancel_10 dX8_cancel_13 dX8_cancel_14 dX8_cancel_16 dX8_cancel_19 (by decide) (by decide) (by decide) (by decide) (by decide) (by decide) (fun z => ⟨z, rfl⟩)
set_option maxRecDepth 100000 in
set_option maxHeartbeats 4000000 in
theorem ci_L_cancel_882 (l : Launch) (hlt : l.stackTraces = false) {g : gx_T} {σ : sx_T} {b : Nat} (hK : lay b σ) (w1 : Int32) (q1_w1 : (-2147483648 : Int) ≤ w1.toInt) (q2_w1 : w1.toInt ≤ (-1 : Int))  : Met l yL_cancel (.codeWith yL_cancel cL_cancel 4 (some .int) [(0, 16, 19, 13)] :: lw_g) { frames := 8, cells := 1, slots := 6, locals := 158 } (va_Pc [.ref (b + 0), .int w1, .ref (b + 431)] (zx_w g σ)) (va_Qi (fun r u => r = 1 ∧ ∃ z, u = (ap b (wx_Z σ z) [] [] [])) (zx_w g) (gx_Q g)) 1 6 (gx_Q g) := by
  refine z_metW (by decide) (Nat.le_of_ble_eq_true rfl) (fun p e s m below meth c B hr htab => ?_)
  refine z_eqs (σ' := (ap b σ [] [] [])) rfl ?_
  show zx p l e _ s m _ below meth c g 4 0 0 _ _ 0 [(0, .ref (b + 0)), (1, .int w1), (2, .ref (b + 431))] []
  refine z_aload_n B dL_cancel_0 rfl 2 rfl ?_
  refine z_iconst (v := 0) B dL_cancel_1 (by decide) ?_
  refine z_aload_n B dL_cancel_2 rfl 0 rfl ?_
  refine z_iload_n B dL_cancel_3 rfl 1 rfl ?_
  refine z_cXi (As := [.int w1]) (rest := [.int 0, .ref (b + 431)]) B htab tc_cancel_4_IndexOutOfBoundsException cw_L_30 cx_9 dL_cancel_4 (ci_X8_cancel_881 l hlt (σ := (ap b σ [] [] [])) (b := b) (lyA hK) w1 q1_w1 q2_w1) (lKA (hk_K hK 0 rfl rfl)) rfl (by decide) rfl (Nat.le_of_ble_eq_true rfl) (by decide) (fun z q => ?_)
  refine z_eqs (σ' := (ap b (wx_Z σ z) [] [] [])) rfl ?_
  show zx p l e _ s m _ below meth c g 4 _ _ _ _ 19 [(0, .ref (b + 0)), (1, .int w1), (2, .ref (b + 431))] _
  refine z_astore_n (lv' := [(3, .ref q), (0, .ref (b + 0)), (1, .int w1), (2, .ref (b + 431))]) B dL_cancel_19 rfl (by decide) rfl ?_
  refine z_iconst (v := 1) B dL_cancel_20 (by decide) ?_
  exact z_iret B hr (by decide) (by decide) dL_cancel_21 ⟨rfl, _, rfl⟩
set_option maxRecDepth 100000 in
set_option maxHeartbeats 4000000 in
theorem ci_X9_needs_883 (l : Launch) {g : gx_T} {σ : sx_T} {b : Nat} (hK : lay b σ)    : Met l yX9_needs (.code yX9_needs cX9_needs 2 (some .boolean) :: lw_g) { frames := 0, cells := 0, slots := 0, locals := 0 } (va_Pc [.ref (b + 405), .int 0] (zx_w g σ)) (va_Qi (fun r u => r = 0 ∧ u = (ap b σ [(405, 0, 1)] [] [])) (zx_w g) (gx_Q g)) 0 0 (gx_Q g) := by
  refine z_met (by decide) (Nat.le_of_ble_eq_true rfl) (fun p e s m below meth c B hr hin => ?_)
  refine z_eqs (σ' := (ap b σ [] [] [])) rfl ?_
  show zx p l e _ s m _ below meth c g 2 0 0 _ _ 0 [(0, .ref (b + 405)), (1, .int 0)] []
  refine z_aload_n B dX9_needs_0 rfl 0 rfl ?_
  refine z_iload_n B dX9_needs_1 rfl 1 rfl ?_
  refine z_if_eq (tgt := 9) B dX9_needs_2 (by decide) (fun _ => ?_) (fun h => absurd (by decide) h)
  refine z_iconst (v := 1) B dX9_needs_9 (by decide) ?_
  refine pf_X9_90 (x := 1) (σ' := (ap b σ [(405, 0, 1)] [] [])) B (lKA (hk_K hK 405 rfl rfl)) wI_ap dX9_needs_10 ?_
  refine z_iload_n B dX9_needs_13 rfl 1 rfl ?_
  exact z_zret B hr (by decide) (by decide) (by decide) dX9_needs_14 ⟨rfl, rfl⟩
set_option maxRecDepth 100000 in
set_option maxHeartbeats 4000000 in
theorem ci_X9_cancel_884 (l : Launch) {g : gx_T} {σ : sx_T} {b : Nat} (hK : lay b σ) (w1 : Int32) (q1_w1 : (-2147483648 : Int) ≤ w1.toInt) (q2_w1 : w1.toInt ≤ (-1 : Int)) (hI_405_6 : sx_I σ (b + 405) 6 = 0) : Met l yX9_cancel (.code yX9_cancel cX9_cancel 2 (some .boolean) :: lw_g) { frames := 2, cells := 0, slots := 0, locals := 43 } (va_Pc [.ref (b + 405), .int w1] (zx_w g σ)) (va_Qi (fun r u => r = 0 ∧ u = (ap b σ [(405, 0, 1)] [] [])) (zx_w g) (gx_Q g)) 0 0 (gx_Q g) := by
  refine z_met (by decide) (Nat.le_of_ble_eq_true rfl) (fun p e s m below meth c B hr hin => ?_)
  refine z_eqs (σ' := (ap b σ [] [] [])) rfl ?_
  show zx p l e _ s m _ below meth c g 2 0 0 _ _ 0 [(0, .ref (b + 405)), (1, .int w1)] []
  refine z_aload_n B dX9_cancel_0 rfl 0 rfl ?_
  refine z_aload_n B dX9_cancel_1 rfl 0 rfl ?_
  refine z_iload_n B dX9_cancel_2 rfl 1 rfl ?_
  refine z_cVi (As := [.int w1]) (rest := [.ref (b + 405)]) B cw_X9_262 cx_10 dX9_cancel_3 (ci_X9_isWorkflow_865 l (σ := (ap b σ [] [] [])) (b := b) (lyA hK) w1 q1_w1 q2_w1 (rI_at 405 6 hI_405_6)) (lKA (hk_K hK 405 rfl rfl)) rfl (by decide) rfl (Nat.le_of_ble_eq_true rfl) (by decide) (fun r u hu => ?_)
  refine z_eqs (σ' := (ap b σ [] [] [])) hu.2 ?_
  show zx p l e _ s m _ below meth c g 2 0 0 _ _ 6 [(0, .ref (b + 405)), (1, .int w1)] _
  refine z_seti (y := 0) hu.1 ?_
  refine z_cVi (As := [.int 0]) (rest := []) B cw_X9_269 cx_10 dX9_cancel_6 (ci_X9_needs_883 l (σ := (ap b σ [] [] [])) (b := b) (lyA hK) ) (lKA (hk_K hK 405 rfl rfl)) rfl (by decide) rfl (Nat.le_of_ble_eq_true rfl) (by decide) (fun r u hu => ?_)
  refine z_eqs (σ' := (ap b σ [(405, 0, 1)] [] [])) (hu.2.trans ap_ap) ?_
  show zx p l e _ s m _ below meth c g 2 0 0 _ _ 9 [(0, .ref (b + 405)), (1, .int w1)] _
  refine z_seti (y := 0) hu.1 ?_
  refine z_if_eq (tgt := 27) B dX9_cancel_9 (by decide) (fun _ => ?_) (fun h => absurd (by decide) h)
  refine z_iconst (v := 0) B dX9_cancel_27 (by decide) ?_
  exact z_zret B hr (by decide) (by decide) (by decide) dX9_cancel_28 ⟨rfl, rfl⟩
set_option maxRecDepth 100000 in
set_option maxHeartbeats 4000000 in
theorem ci_X8_cancel_885 (l : Launch) (hlt : l.stackTraces = false) {g : gx_T} {σ : sx_T} {b : Nat} (hK : lay b σ) (w1 : Int32) (q1_w1 : (0 : Int) ≤ w1.toInt) (q2_w1 : w1.toInt ≤ (2147483647 : Int)) (hI_0_7 : sx_I σ (b + 0) 7 = 0) : vx_Met l yX8_cancel (.code yX8_cancel cX8_cancel 3 (some .boolean) :: lw_g) { frames := 7, cells := 1, slots := 6, locals := 136 } (va_Pc [.ref (b + 0), .int w1] (zx_w g σ)) (va_Qi (S := sx_T) (fun _ _ => False) (zx_w g) (gx_Q g)) (vx_X (fun u : sx_T => ∃ z, u = wx_Z σ z) (fun E u t => E = "java/lang/IndexOutOfBoundsException" ∧ zx_h g u t.heap) (gx_Q g)) 1 6 (gx_Q g) := by
  refine z_metX (by decide) (Nat.le_of_ble_eq_true rfl) (fun p e s m below meth c B hr hin hout => ?_)
  refine z_eqs (σ' := (ap b σ [] [] [])) rfl ?_
  show zx p l e _ s m _ below meth c g 3 0 0 _ _ 0 [(0, .ref (b + 0)), (1, .int w1)] []
  refine z_aload_n B dX8_cancel_0 rfl 0 rfl ?_
  refine z_iload_n B dX8_cancel_1 rfl 1 rfl ?_
  refine z_cVq (As := [.int w1]) (rest := []) B cw_X8_99 cx_9 dX8_cancel_2 (ci_X8_flowAt_871 l (σ := (ap b σ [] [] [])) (b := b) (lyA hK) w1 q1_w1 q2_w1 (rI_at 0 7 hI_0_7)) (lKA (hk_K hK 0 rfl rfl)) rfl (by decide) rfl (Nat.le_of_ble_eq_true rfl) (by decide) (fun r u hu => ?_)
  refine z_eqs (σ' := (ap b σ [] [] [])) hu.2 ?_
  show zx p l e _ s m _ below meth c g 3 0 0 _ _ 5 [(0, .ref (b + 0)), (1, .int w1)] _
  refine z_setr (y := none) hu.1 ?_
  refine z_qstore_n (r := none) (lv' := [(2, .null), (0, .ref (b + 0)), (1, .int w1)]) B dX8_cancel_5 rfl (by decide) rfl ?_
  refine z_qload_n (r := none) B dX8_cancel_6 rfl 0 rfl ?_
  refine z_ifnonnull (r := none) (tgt := 20) B dX8_cancel_7 (by decide) (fun a h => nomatch h) (fun _ => ?_)
  exact z_throw B hlt hout (cls := "java/lang/IndexOutOfBoundsException") (text := "no such workflow") tw_X8_72_153_76 dX8_cancel_10 dX8_cancel_13 dX8_cancel_14 dX8_cancel_16 dX8_cancel_19 (by decide) (by decide) (by decide) (by decide) (by decide) (by decide) (fun z => ⟨z, rfl⟩)
set_option maxRecDepth 100000 in
set_option maxHeartbeats 4000000 in
theorem ci_L_cancel_886 (l : Launch) (hlt : l.stackTraces = false) {g : gx_T} {σ : sx_T} {b : Nat} (hK : lay b σ) (w1 : Int32) (q1_w1 : (0 : Int) ≤ w1.toInt) (q2_w1 : w1.toInt ≤ (2147483647 : Int)) (hI_0_7 : sx_I σ (b + 0) 7 = 0) : Met l yL_cancel (.codeWith yL_cancel cL_cancel 4 (some .int) [(0, 16, 19, 13)] :: lw_g) { frames := 8, cells := 1, slots := 6, locals := 158 } (va_Pc [.ref (b + 0), .int w1, .ref (b + 431)] (zx_w g σ)) (va_Qi (fun r u => r = 1 ∧ ∃ z, u = (ap b (wx_Z σ z) [] [] [])) (zx_w g) (gx_Q g)) 1 6 (gx_Q g) := by
  refine z_metW (by decide) (Nat.le_of_ble_eq_true rfl) (fun p e s m below meth c B hr htab => ?_)
  refine z_eqs (σ' := (ap b σ [] [] [])) rfl ?_
  show zx p l e _ s m _ below meth c g 4 0 0 _ _ 0 [(0, .ref (b + 0)), (1, .int w1), (2, .ref (b + 431))] []
  refine z_aload_n B dL_cancel_0 rfl 2 rfl ?_
  refine z_iconst (v := 0) B dL_cancel_1 (by decide) ?_
  refine z_aload_n B dL_cancel_2 rfl 0 rfl ?_
  refine z_iload_n B dL_cancel_3 rfl 1 rfl ?_
  refine z_cXi (As := [.int w1]) (rest := [.int 0, .ref (b + 431)]) B htab tc_cancel_4_IndexOutOfBoundsException cw_L_30 cx_9 dL_cancel_4 (ci_X8_cancel_885 l hlt (σ := (ap b σ [] [] [])) (b := b) (lyA hK) w1 q1_w1 q2_w1 (rI_at 0 7 hI_0_7)) (lKA (hk_K hK 0 rfl rfl)) rfl (by decide) rfl (Nat.le_of_ble_eq_true rfl) (by decide) (fun z q => ?_)
  refine z_eqs (σ' := (ap b (wx_Z σ z) [] [] [])) rfl ?_
  show zx p l e _ s m _ below meth c g 4 _ _ _ _ 19 [(0, .ref (b + 0)), (1, .int w1), (2, .ref (b + 431))] _
  refine z_astore_n (lv' := [(3, .ref q), (0, .ref (b + 0)), (1, .int w1), (2, .ref (b + 431))]) B dL_cancel_19 rfl (by decide) rfl ?_
  refine z_iconst (v := 1) B dL_cancel_20 (by decide) ?_
  exact z_iret B hr (by decide) (by decide) dL_cancel_21 ⟨rfl, _, rfl⟩
set_option maxRecDepth 100000 in
set_option maxHeartbeats 4000000 in
theorem ci_X9_cancel_887 (l : Launch) {g : gx_T} {σ : sx_T} {b : Nat} (hK : lay b σ) (w1 : Int32) (q1_w1 : (0 : Int) ≤ w1.toInt) (q2_w1 : w1.toInt ≤ (2147483647 : Int)) (hI_405_6 : sx_I σ (b + 405) 6 = 0) : Met l yX9_cancel (.code yX9_cancel cX9_cancel 2 (some .boolean) :: lw_g) { frames := 2, cells := 0, slots := 0, locals := 43 } (va_Pc [.ref (b + 405), .int w1] (zx_w g σ)) (va_Qi (fun r u => r = 0 ∧ u = (ap b σ [(405, 0, 1)] [] [])) (zx_w g) (gx_Q g)) 0 0 (gx_Q g) := by
  refine z_met (by decide) (Nat.le_of_ble_eq_true rfl) (fun p e s m below meth c B hr hin => ?_)
  refine z_eqs (σ' := (ap b σ [] [] [])) rfl ?_
  show zx p l e _ s m _ below meth c g 2 0 0 _ _ 0 [(0, .ref (b + 405)), (1, .int w1)] []
  refine z_aload_n B dX9_cancel_0 rfl 0 rfl ?_
  refine z_aload_n B dX9_cancel_1 rfl 0 rfl ?_
  refine z_iload_n B dX9_cancel_2 rfl 1 rfl ?_
  refine z_cVi (As := [.int w1]) (rest := [.ref (b + 405)]) B cw_X9_262 cx_10 dX9_cancel_3 (ci_X9_isWorkflow_875 l (σ := (ap b σ [] [] [])) (b := b) (lyA hK) w1 q1_w1 q2_w1 (rI_at 405 6 hI_405_6)) (lKA (hk_K hK 405 rfl rfl)) rfl (by decide) rfl (Nat.le_of_ble_eq_true rfl) (by decide) (fun r u hu => ?_)
  refine z_eqs (σ' := (ap b σ [] [] [])) hu.2 ?_
  show zx p l e _ s m _ below meth c g 2 0 0 _ _ 6 [(0, .ref (b + 405)), (1, .int w1)] _
  refine z_seti (y := 0) hu.1 ?_
  refine z_cVi (As := [.int 0]) (rest := []) B cw_X9_269 cx_10 dX9_cancel_6 (ci_X9_needs_883 l (σ := (ap b σ [] [] [])) (b := b) (lyA hK) ) (lKA (hk_K hK 405 rfl rfl)) rfl (by decide) rfl (Nat.le_of_ble_eq_true rfl) (by decide) (fun r u hu => ?_)
  refine z_eqs (σ' := (ap b σ [(405, 0, 1)] [] [])) (hu.2.trans ap_ap) ?_
  show zx p l e _ s m _ below meth c g 2 0 0 _ _ 9 [(0, .ref (b + 405)), (1, .int w1)] _
  refine z_seti (y := 0) hu.1 ?_
  refine z_if_eq (tgt := 27) B dX9_cancel_9 (by decide) (fun _ => ?_) (fun h => absurd (by decide) h)
  refine z_iconst (v := 0) B dX9_cancel_27 (by decide) ?_
  exact z_zret B hr (by decide) (by decide) (by decide) dX9_cancel_28 ⟨rfl, rfl⟩
set_option maxRecDepth 100000 in
set_option maxHeartbeats 4000000 in
theorem ci_X8_reset_888 (l : Launch) (hlt : l.stackTraces = false) {g : gx_T} {σ : sx_T} {b : Nat} (hK : lay b σ) (w1 : Int32) (w2 : Int32) (q1_w1 : (-2147483648 : Int) ≤ w1.toInt) (q2_w1 : w1.toInt ≤ (-1 : Int))  : vx_Met l yX8_reset (.code yX8_reset cX8_reset 6 (some .int) :: lw_g) { frames := 7, cells := 1, slots := 6, locals := 136 } (va_Pc [.ref (b + 0), .int w1, .int w2] (zx_w g σ)) (va_Qi (S := sx_T) (fun _ _ => False) (zx_w g) (gx_Q g)) (vx_X (fun u : sx_T => ∃ z, u = wx_Z σ z) (fun E u t => E = "java/lang/IndexOutOfBoundsException" ∧ zx_h g u t.heap) (gx_Q g)) 1 6 (gx_Q g) := by
  refine z_metX (by decide) (Nat.le_of_ble_eq_true rfl) (fun p e s m below meth c B hr hin hout => ?_)
  refine z_eqs (σ' := (ap b σ [] [] [])) rfl ?_
  show zx p l e _ s m _ below meth c g 6 0 0 _ _ 0 [(0, .ref (b + 0)), (1, .int w1), (2, .int w2)] []
  refine z_aload_n B dX8_reset_0 rfl 0 rfl ?_
  refine z_iload_n B dX8_reset_1 rfl 1 rfl ?_
  refine z_cVq (As := [.int w1]) (rest := []) B cw_X8_99 cx_9 dX8_reset_2 (ci_X8_flowAt_861 l (σ := (ap b σ [] [] [])) (b := b) (lyA hK) w1 q1_w1 q2_w1) (lKA (hk_K hK 0 rfl rfl)) rfl (by decide) rfl (Nat.le_of_ble_eq_true rfl) (by decide) (fun r u hu => ?_)
  refine z_eqs (σ' := (ap b σ [] [] [])) hu.2 ?_
  show zx p l e _ s m _ below meth c g 6 0 0 _ _ 5 [(0, .ref (b + 0)), (1, .int w1), (2, .int w2)] _
  refine z_setr (y := none) hu.1 ?_
  refine z_qstore_n (r := none) (lv' := [(3, .null), (0, .ref (b + 0)), (1, .int w1), (2, .int w2)]) B dX8_reset_5 rfl (by decide) rfl ?_
  refine z_qload_n (r := none) B dX8_reset_6 rfl 0 rfl ?_
  refine z_ifnonnull (r := none) (tgt := 20) B dX8_reset_7 (by decide) (fun a h => nomatch h) (fun _ => ?_)
  exact z_throw B hlt hout (cls := "java/lang/IndexOutOfBoundsException") (text := "no such workflow") tw_X8_72_153_76 dX8_reset_10 dX8_reset_13 dX8_reset_14 dX8_reset_16 dX8_reset_19 (by decide) (by decide) (by decide) (by decide) (by decide) (by decide) (fun z => ⟨z, rfl⟩)
set_option maxRecDepth 100000 in
set_option maxHeartbeats 4000000 in
theorem ci_L_reset_889 (l : Launch) (hlt : l.stackTraces = false) {g : gx_T} {σ : sx_T} {b : Nat} (hK : lay b σ) (w1 : Int32) (w2 : Int32) (q1_w1 : (-2147483648 : Int) ≤ w1.toInt) (q2_w1 : w1.toInt ≤ (-1 : Int))  : Met l yL_reset (.codeWith yL_reset cL_reset 5 (some .int) [(0, 10, 13, 13), (0, 10, 17, 15), (0, 10, 21, 24)] :: lw_g) { frames := 8, cells := 1, slots := 6, locals := 161 } (va_Pc [.ref (b + 0), .int w1, .int w2, .ref (b + 431)] (zx_w g σ)) (va_Qi (fun r u => r = 1 ∧ ∃ z, u = (ap b (wx_Z σ z) [] [] [])) (zx_w g) (gx_Q g)) 1 6 (gx_Q g) := by
  refine z_metW (by decide) (Nat.le_of_ble_eq_true rfl) (fun p e s m below meth c B hr htab => ?_)
  refine z_eqs (σ' := (ap b σ [] [] [])) rfl ?_
  show zx p l e _ s m _ below meth c g 5 0 0 _ _ 0 [(0, .ref (b + 0)), (1, .int w1), (2, .int w2), (3, .ref (b + 431))] []
  refine z_aload_n B dL_reset_0 rfl 3 rfl ?_
  refine z_iconst (v := 0) B dL_reset_1 (by decide) ?_
  refine z_aload_n B dL_reset_2 rfl 0 rfl ?_
  refine z_iload_n B dL_reset_3 rfl 1 rfl ?_
  refine z_iload_n B dL_reset_4 rfl 2 rfl ?_
  refine z_cXi (As := [.int w1, .int w2]) (rest := [.int 0, .ref (b + 431)]) B htab tc_reset_5_IndexOutOfBoundsException cw_L_34 cx_9 dL_reset_5 (ci_X8_reset_888 l hlt (σ := (ap b σ [] [] [])) (b := b) (lyA hK) w1 w2 q1_w1 q2_w1) (lKA (hk_K hK 0 rfl rfl)) rfl (by decide) rfl (Nat.le_of_ble_eq_true rfl) (by decide) (fun z q => ?_)
  refine z_eqs (σ' := (ap b (wx_Z σ z) [] [] [])) rfl ?_
  show zx p l e _ s m _ below meth c g 5 _ _ _ _ 13 [(0, .ref (b + 0)), (1, .int w1), (2, .int w2), (3, .ref (b + 431))] _
  refine z_astore (lv' := [(4, .ref q), (0, .ref (b + 0)), (1, .int w1), (2, .int w2), (3, .ref (b + 431))]) B dL_reset_13 (by decide) rfl ?_
  refine z_iconst (v := 1) B dL_reset_15 (by decide) ?_
  exact z_iret B hr (by decide) (by decide) dL_reset_16 ⟨rfl, _, rfl⟩
set_option maxRecDepth 100000 in
set_option maxHeartbeats 4000000 in
theorem ci_X9_needs___890 (l : Launch) {g : gx_T} {σ : sx_T} {b : Nat} (hK : lay b σ)    : Met l yX9_needs__ (.code yX9_needs__ cX9_needs__ 4 (some .boolean) :: lw_g) { frames := 0, cells := 0, slots := 0, locals := 0 } (va_Pc [.ref (b + 405), .int 0, .int 0, .int 0] (zx_w g σ)) (va_Qi (fun r u => r = 0 ∧ u = (ap b σ [(405, 0, 1)] [] [])) (zx_w g) (gx_Q g)) 0 0 (gx_Q g) := by
  refine z_met (by decide) (Nat.le_of_ble_eq_true rfl) (fun p e s m below meth c B hr hin => ?_)
  refine z_eqs (σ' := (ap b σ [] [] [])) rfl ?_
  show zx p l e _ s m _ below meth c g 4 0 0 _ _ 0 [(0, .ref (b + 405)), (1, .int 0), (2, .int 0), (3, .int 0)] []
  refine z_aload_n B dX9_needs___0 rfl 0 rfl ?_
  refine z_iload_n B dX9_needs___1 rfl 1 rfl ?_
  refine z_if_ne (tgt := 9) B dX9_needs___2 (by decide) (fun h => absurd (by decide) h) (fun _ => ?_)
  refine z_iconst (v := 1) B dX9_needs___5 (by decide) ?_
  refine z_goto (tgt := 26) B dX9_needs___6 (by decide) ?_
  refine pf_X9_90 (x := 1) (σ' := (ap b σ [(405, 0, 1)] [] [])) B (lKA (hk_K hK 405 rfl rfl)) wI_ap dX9_needs___26 ?_
  refine z_aload_n B dX9_needs___29 rfl 0 rfl ?_
  refine gf_X9_90 (x := 1) B (lKA (hk_K hK 405 rfl rfl)) (rI_at 405 0 rfl) dX9_needs___30 ?_
  refine z_if_ne (tgt := 40) B dX9_needs___33 (by decide) (fun _ => ?_) (fun h => absurd h (by decide))
  refine z_iconst (v := 0) B dX9_needs___40 (by decide) ?_
  exact z_zret B hr (by decide) (by decide) (by decide) dX9_needs___41 ⟨rfl, rfl⟩
set_option maxRecDepth 100000 in
set_option maxHeartbeats 4000000 in
theorem ci_X9_reset_891 (l : Launch) {g : gx_T} {σ : sx_T} {b : Nat} (hK : lay b σ) (w1 : Int32) (w2 : Int32) (q1_w1 : (-2147483648 : Int) ≤ w1.toInt) (q2_w1 : w1.toInt ≤ (-1 : Int)) (hI_405_6 : sx_I σ (b + 405) 6 = 0) : Met l yX9_reset (.code yX9_reset cX9_reset 7 (some .int) :: lw_g) { frames := 2, cells := 0, slots := 0, locals := 43 } (va_Pc [.ref (b + 405), .int w1, .int w2] (zx_w g σ)) (va_Qi (fun r u => r = 0 ∧ u = (ap b σ [(405, 0, 1)] [] [])) (zx_w g) (gx_Q g)) 0 0 (gx_Q g) := by
  refine z_met (by decide) (Nat.le_of_ble_eq_true rfl) (fun p e s m below meth c B hr hin => ?_)
  refine z_eqs (σ' := (ap b σ [] [] [])) rfl ?_
  show zx p l e _ s m _ below meth c g 7 0 0 _ _ 0 [(0, .ref (b + 405)), (1, .int w1), (2, .int w2)] []
  refine z_aload_n B dX9_reset_0 rfl 0 rfl ?_
  refine z_iload_n B dX9_reset_1 rfl 1 rfl ?_
  refine z_cVi (As := [.int w1]) (rest := []) B cw_X9_262 cx_10 dX9_reset_2 (ci_X9_isWorkflow_865 l (σ := (ap b σ [] [] [])) (b := b) (lyA hK) w1 q1_w1 q2_w1 (rI_at 405 6 hI_405_6)) (lKA (hk_K hK 405 rfl rfl)) rfl (by decide) rfl (Nat.le_of_ble_eq_true rfl) (by decide) (fun r u hu => ?_)
  refine z_eqs (σ' := (ap b σ [] [] [])) hu.2 ?_
  show zx p l e _ s m _ below meth c g 7 0 0 _ _ 5 [(0, .ref (b + 405)), (1, .int w1), (2, .int w2)] _
  refine z_seti (y := 0) hu.1 ?_
  refine z_istore_n (lv' := [(3, .int 0), (0, .ref (b + 405)), (1, .int w1), (2, .int w2)]) B dX9_reset_5 rfl (by decide) rfl ?_
  refine z_iload_n B dX9_reset_6 rfl 0 rfl ?_
  refine z_if_eq (tgt := 43) B dX9_reset_7 (by decide) (fun _ => ?_) (fun h => absurd (by decide) h)
  refine z_iconst (v := 0) B dX9_reset_43 (by decide) ?_
  refine z_istore (lv' := [(4, .int 0), (3, .int 0), (0, .ref (b + 405)), (1, .int w1), (2, .int w2)]) B dX9_reset_44 (by decide) rfl ?_
  refine z_aload_n B dX9_reset_46 rfl 2 rfl ?_
  refine z_iload_n B dX9_reset_47 rfl 1 rfl ?_
  refine z_iload B dX9_reset_48 0 rfl ?_
  refine z_iload B dX9_reset_50 0 rfl ?_
  refine z_if_eq (tgt := 68) B dX9_reset_52 (by decide) (fun _ => ?_) (fun h => absurd (by decide) h)
  refine z_iconst (v := 0) B dX9_reset_68 (by decide) ?_
  refine z_cVi (As := [.int 0, .int 0, .int 0]) (rest := []) B cw_X9_259 cx_10 dX9_reset_69 (ci_X9_needs___890 l (σ := (ap b σ [] [] [])) (b := b) (lyA hK) ) (lKA (hk_K hK 405 rfl rfl)) rfl (by decide) rfl (Nat.le_of_ble_eq_true rfl) (by decide) (fun r u hu => ?_)
  refine z_eqs (σ' := (ap b σ [(405, 0, 1)] [] [])) (hu.2.trans ap_ap) ?_
  show zx p l e _ s m _ below meth c g 7 0 0 _ _ 72 [(4, .int 0), (3, .int 0), (0, .ref (b + 405)), (1, .int w1), (2, .int w2)] _
  refine z_seti (y := 0) hu.1 ?_
  refine z_if_ne (tgt := 77) B dX9_reset_72 (by decide) (fun h => absurd (by decide) h) (fun _ => ?_)
  refine z_iconst (v := 0) B dX9_reset_75 (by decide) ?_
  exact z_iret B hr (by decide) (by decide) dX9_reset_76 ⟨rfl, rfl⟩
set_option maxRecDepth 100000 in
set_option maxHeartbeats 4000000 in
theorem ci_X8_reset_892 (l : Launch) (hlt : l.stackTraces = false) {g : gx_T} {σ : sx_T} {b : Nat} (hK : lay b σ) (w1 : Int32) (w2 : Int32) (q1_w1 : (0 : Int) ≤ w1.toInt) (q2_w1 : w1.toInt ≤ (2147483647 : Int)) (hI_0_7 : sx_I σ (b + 0) 7 = 0) : vx_Met l yX8_reset (.code yX8_reset cX8_reset 6 (some .int) :: lw_g) { frames := 7, cells := 1, slots := 6, locals := 136 } (va_Pc [.ref (b + 0), .int w1, .int w2] (zx_w g σ)) (va_Qi (S := sx_T) (fun _ _ => False) (zx_w g) (gx_Q g)) (vx_X (fun u : sx_T => ∃ z, u = wx_Z σ z) (fun E u t => E = "java/lang/IndexOutOfBoundsException" ∧ zx_h g u t.heap) (gx_Q g)) 1 6 (gx_Q g) := by
  refine z_metX (by decide) (Nat.le_of_ble_eq_true rfl) (fun p e s m below meth c B hr hin hout => ?_)
  refine z_eqs (σ' := (ap b σ [] [] [])) rfl ?_
  show zx p l e _ s m _ below meth c g 6 0 0 _ _ 0 [(0, .ref (b + 0)), (1, .int w1), (2, .int w2)] []
  refine z_aload_n B dX8_reset_0 rfl 0 rfl ?_
  refine z_iload_n B dX8_reset_1 rfl 1 rfl ?_
  refine z_cVq (As := [.int w1]) (rest := []) B cw_X8_99 cx_9 dX8_reset_2 (ci_X8_flowAt_871 l (σ := (ap b σ [] [] [])) (b := b) (lyA hK) w1 q1_w1 q2_w1 (rI_at 0 7 hI_0_7)) (lKA (hk_K hK 0 rfl rfl)) rfl (by decide) rfl (Nat.le_of_ble_eq_true rfl) (by decide) (fun r u hu => ?_)
  refine z_eqs (σ' := (ap b σ [] [] [])) hu.2 ?_
  show zx p l e _ s m _ below meth c g 6 0 0 _ _ 5 [(0, .ref (b + 0)), (1, .int w1), (2, .int w2)] _
  refine z_setr (y := none) hu.1 ?_
  refine z_qstore_n (r := none) (lv' := [(3, .null), (0, .ref (b + 0)), (1, .int w1), (2, .int w2)]) B dX8_reset_5 rfl (by decide) rfl ?_
  refine z_qload_n (r := none) B dX8_reset_6 rfl 0 rfl ?_
  refine z_ifnonnull (r := none) (tgt := 20) B dX8_reset_7 (by decide) (fun a h => nomatch h) (fun _ => ?_)
  exact z_throw B hlt hout (cls := "java/lang/IndexOutOfBoundsException") (text := "no such workflow") tw_X8_72_153_76 dX8_reset_10 dX8_reset_13 dX8_reset_14 dX8_reset_16 dX8_reset_19 (by decide) (by decide) (by decide) (by decide) (by decide) (by decide) (fun z => ⟨z, rfl⟩)
set_option maxRecDepth 100000 in
set_option maxHeartbeats 4000000 in
theorem ci_L_reset_893 (l : Launch) (hlt : l.stackTraces = false) {g : gx_T} {σ : sx_T} {b : Nat} (hK : lay b σ) (w1 : Int32) (w2 : Int32) (q1_w1 : (0 : Int) ≤ w1.toInt) (q2_w1 : w1.toInt ≤ (2147483647 : Int)) (hI_0_7 : sx_I σ (b + 0) 7 = 0) : Met l yL_reset (.codeWith yL_reset cL_reset 5 (some .int) [(0, 10, 13, 13), (0, 10, 17, 15), (0, 10, 21, 24)] :: lw_g) { frames := 8, cells := 1, slots := 6, locals := 161 } (va_Pc [.ref (b + 0), .int w1, .int w2, .ref (b + 431)] (zx_w g σ)) (va_Qi (fun r u => r = 1 ∧ ∃ z, u = (ap b (wx_Z σ z) [] [] [])) (zx_w g) (gx_Q g)) 1 6 (gx_Q g) := by
  refine z_metW (by decide) (Nat.le_of_ble_eq_true rfl) (fun p e s m below meth c B hr htab => ?_)
  refine z_eqs (σ' := (ap b σ [] [] [])) rfl ?_
  show zx p l e _ s m _ below meth c g 5 0 0 _ _ 0 [(0, .ref (b + 0)), (1, .int w1), (2, .int w2), (3, .ref (b + 431))] []
  refine z_aload_n B dL_reset_0 rfl 3 rfl ?_
  refine z_iconst (v := 0) B dL_reset_1 (by decide) ?_
  refine z_aload_n B dL_reset_2 rfl 0 rfl ?_
  refine z_iload_n B dL_reset_3 rfl 1 rfl ?_
  refine z_iload_n B dL_reset_4 rfl 2 rfl ?_
  refine z_cXi (As := [.int w1, .int w2]) (rest := [.int 0, .ref (b + 431)]) B htab tc_reset_5_IndexOutOfBoundsException cw_L_34 cx_9 dL_reset_5 (ci_X8_reset_892 l hlt (σ := (ap b σ [] [] [])) (b := b) (lyA hK) w1 w2 q1_w1 q2_w1 (rI_at 0 7 hI_0_7)) (lKA (hk_K hK 0 rfl rfl)) rfl (by decide) rfl (Nat.le_of_ble_eq_true rfl) (by decide) (fun z q => ?_)
  refine z_eqs (σ' := (ap b (wx_Z σ z) [] [] [])) rfl ?_
  show zx p l e _ s m _ below meth c g 5 _ _ _ _ 13 [(0, .ref (b + 0)), (1, .int w1), (2, .int w2), (3, .ref (b + 431))] _
  refine z_astore (lv' := [(4, .ref q), (0, .ref (b + 0)), (1, .int w1), (2, .int w2), (3, .ref (b + 431))]) B dL_reset_13 (by decide) rfl ?_
  refine z_iconst (v := 1) B dL_reset_15 (by decide) ?_
  exact z_iret B hr (by decide) (by decide) dL_reset_16 ⟨rfl, _, rfl⟩
set_option maxRecDepth 100000 in
set_option maxHeartbeats 4000000 in
theorem ci_X9_reset_894 (l : Launch) {g : gx_T} {σ : sx_T} {b : Nat} (hK : lay b σ) (w1 : Int32) (w2 : Int32) (q1_w1 : (0 : Int) ≤ w1.toInt) (q2_w1 : w1.toInt ≤ (2147483647 : Int)) (hI_405_6 : sx_I σ (b + 405) 6 = 0) : Met l yX9_reset (.code yX9_reset cX9_reset 7 (some .int) :: lw_g) { frames := 2, cells := 0, slots := 0, locals := 43 } (va_Pc [.ref (b + 405), .int w1, .int w2] (zx_w g σ)) (va_Qi (fun r u => r = 0 ∧ u = (ap b σ [(405, 0, 1)] [] [])) (zx_w g) (gx_Q g)) 0 0 (gx_Q g) := by
  refine z_met (by decide) (Nat.le_of_ble_eq_true rfl) (fun p e s m below meth c B hr hin => ?_)
  refine z_eqs (σ' := (ap b σ [] [] [])) rfl ?_
  show zx p l e _ s m _ below meth c g 7 0 0 _ _ 0 [(0, .ref (b + 405)), (1, .int w1), (2, .int w2)] []
  refine z_aload_n B dX9_reset_0 rfl 0 rfl ?_
  refine z_iload_n B dX9_reset_1 rfl 1 rfl ?_
  refine z_cVi (As := [.int w1]) (rest := []) B cw_X9_262 cx_10 dX9_reset_2 (ci_X9_isWorkflow_875 l (σ := (ap b σ [] [] [])) (b := b) (lyA hK) w1 q1_w1 q2_w1 (rI_at 405 6 hI_405_6)) (lKA (hk_K hK 405 rfl rfl)) rfl (by decide) rfl (Nat.le_of_ble_eq_true rfl) (by decide) (fun r u hu => ?_)
  refine z_eqs (σ' := (ap b σ [] [] [])) hu.2 ?_
  show zx p l e _ s m _ below meth c g 7 0 0 _ _ 5 [(0, .ref (b + 405)), (1, .int w1), (2, .int w2)] _
  refine z_seti (y := 0) hu.1 ?_
  refine z_istore_n (lv' := [(3, .int 0), (0, .ref (b + 405)), (1, .int w1), (2, .int w2)]) B dX9_reset_5 rfl (by decide) rfl ?_
  refine z_iload_n B dX9_reset_6 rfl 0 rfl ?_
  refine z_if_eq (tgt := 43) B dX9_reset_7 (by decide) (fun _ => ?_) (fun h => absurd (by decide) h)
  refine z_iconst (v := 0) B dX9_reset_43 (by decide) ?_
  refine z_istore (lv' := [(4, .int 0), (3, .int 0), (0, .ref (b + 405)), (1, .int w1), (2, .int w2)]) B dX9_reset_44 (by decide) rfl ?_
  refine z_aload_n B dX9_reset_46 rfl 2 rfl ?_
  refine z_iload_n B dX9_reset_47 rfl 1 rfl ?_
  refine z_iload B dX9_reset_48 0 rfl ?_
  refine z_iload B dX9_reset_50 0 rfl ?_
  refine z_if_eq (tgt := 68) B dX9_reset_52 (by decide) (fun _ => ?_) (fun h => absurd (by decide) h)
  refine z_iconst (v := 0) B dX9_reset_68 (by decide) ?_
  refine z_cVi (As := [.int 0, .int 0, .int 0]) (rest := []) B cw_X9_259 cx_10 dX9_reset_69 (ci_X9_needs___890 l (σ := (ap b σ [] [] [])) (b := b) (lyA hK) ) (lKA (hk_K hK 405 rfl rfl)) rfl (by decide) rfl (Nat.le_of_ble_eq_true rfl) (by decide) (fun r u hu => ?_)
  refine z_eqs (σ' := (ap b σ [(405, 0, 1)] [] [])) (hu.2.trans ap_ap) ?_
  show zx p l e _ s m _ below meth c g 7 0 0 _ _ 72 [(4, .int 0), (3, .int 0), (0, .ref (b + 405)), (1, .int w1), (2, .int w2)] _
  refine z_seti (y := 0) hu.1 ?_
  refine z_if_ne (tgt := 77) B dX9_reset_72 (by decide) (fun h => absurd (by decide) h) (fun _ => ?_)
  refine z_iconst (v := 0) B dX9_reset_75 (by decide) ?_
  exact z_iret B hr (by decide) (by decide) dX9_reset_76 ⟨rfl, rfl⟩
set_option maxRecDepth 100000 in
set_option maxHeartbeats 4000000 in
theorem ci_X8_crash_895 (l : Launch) {g : gx_T} {σ : sx_T} {b : Nat} (hK : lay b σ)   (hI_0_7 : sx_I σ (b + 0) 7 = 0) : Met l yX8_crash (.code yX8_crash cX8_crash 4 (some .int) :: lw_g) { frames := 0, cells := 0, slots := 0, locals := 0 } (va_Pc [.ref (b + 0)] (zx_w g σ)) (va_Qi (fun r u => r = 0 ∧ u = σ) (zx_w g) (gx_Q g)) 0 0 (gx_Q g) := by
  refine z_met (by decide) (Nat.le_of_ble_eq_true rfl) (fun p e s m below meth c B hr hin => ?_)
  refine z_eqs (σ' := (ap b σ [] [] [])) rfl ?_
  show zx p l e _ s m _ below meth c g 4 0 0 _ _ 0 [(0, .ref (b + 0))] []
  refine z_iconst (v := 0) B dX8_crash_0 (by decide) ?_
  refine z_istore_n (lv' := [(1, .int 0), (0, .ref (b + 0))]) B dX8_crash_1 rfl (by decide) rfl ?_
  refine z_iconst (v := 0) B dX8_crash_2 (by decide) ?_
  refine z_istore_n (lv' := [(2, .int 0), (1, .int 0), (0, .ref (b + 0))]) B dX8_crash_3 rfl (by decide) rfl ?_
  refine z_iload_n B dX8_crash_4 rfl 0 rfl ?_
  refine z_aload_n B dX8_crash_5 rfl 2 rfl ?_
  refine gf_X8_96 (x := 0) B (lKA (hk_K hK 0 rfl rfl)) (rI_at 0 7 hI_0_7) dX8_crash_6 ?_
  refine z_icmp_ge (tgt := 42) B dX8_crash_9 (by decide) (fun _ => ?_) (fun h => absurd (by decide) h)
  refine z_iload_n B dX8_crash_42 rfl 1 rfl ?_
  exact z_iret B hr (by decide) (by decide) dX8_crash_43 ⟨rfl, rfl⟩
set_option maxRecDepth 100000 in
set_option maxHeartbeats 4000000 in
theorem ci_X9_crash_896 (l : Launch) {g : gx_T} {σ : sx_T} {b : Nat} (hK : lay b σ)   (hI_405_6 : sx_I σ (b + 405) 6 = 0) : Met l yX9_crash (.code yX9_crash cX9_crash 3 (some .int) :: lw_g) { frames := 0, cells := 0, slots := 0, locals := 0 } (va_Pc [.ref (b + 405)] (zx_w g σ)) (va_Qi (fun r u => r = 0 ∧ u = (ap b σ [(405, 0, 0)] [] [])) (zx_w g) (gx_Q g)) 0 0 (gx_Q g) := by
  refine z_met (by decide) (Nat.le_of_ble_eq_true rfl) (fun p e s m below meth c B hr hin => ?_)
  refine z_eqs (σ' := (ap b σ [] [] [])) rfl ?_
  show zx p l e _ s m _ below meth c g 3 0 0 _ _ 0 [(0, .ref (b + 405))] []
  refine z_aload_n B dX9_crash_0 rfl 0 rfl ?_
  refine z_iconst (v := 0) B dX9_crash_1 (by decide) ?_
  refine pf_X9_90 (x := 0) (σ' := (ap b σ [(405, 0, 0)] [] [])) B (lKA (hk_K hK 405 rfl rfl)) wI_ap dX9_crash_2 ?_
  refine z_iconst (v := 0) B dX9_crash_5 (by decide) ?_
  refine z_istore_n (lv' := [(1, .int 0), (0, .ref (b + 405))]) B dX9_crash_6 rfl (by decide) rfl ?_
  refine z_iconst (v := 0) B dX9_crash_7 (by decide) ?_
  refine z_istore_n (lv' := [(2, .int 0), (1, .int 0), (0, .ref (b + 405))]) B dX9_crash_8 rfl (by decide) rfl ?_
  refine z_iload_n B dX9_crash_9 rfl 0 rfl ?_
  refine z_aload_n B dX9_crash_10 rfl 2 rfl ?_
  refine gf_X9_93 (x := 0) B (lKA (hk_K hK 405 rfl rfl)) (rI_at 405 6 hI_405_6) dX9_crash_11 ?_
  refine z_icmp_ge (tgt := 40) B dX9_crash_14 (by decide) (fun _ => ?_) (fun h => absurd (by decide) h)
  refine z_iload_n B dX9_crash_40 rfl 1 rfl ?_
  exact z_iret B hr (by decide) (by decide) dX9_crash_41 ⟨rfl, rfl⟩
set_option maxRecDepth 100000 in
set_option maxHeartbeats 4000000 in
theorem ci_X8_poll_897 (l : Launch) {g : gx_T} {σ : sx_T} {b : Nat} (hK : lay b σ)   (hI_0_7 : sx_I σ (b + 0) 7 = 0) : Met l yX8_poll (.code yX8_poll cX8_poll 4 (some .int) :: lw_g) { frames := 0, cells := 0, slots := 0, locals := 0 } (va_Pc [.ref (b + 0)] (zx_w g σ)) (va_Qi (fun r u => r = (-1) ∧ u = σ) (zx_w g) (gx_Q g)) 0 0 (gx_Q g) := by
  refine z_met (by decide) (Nat.le_of_ble_eq_true rfl) (fun p e s m below meth c B hr hin => ?_)
  refine z_eqs (σ' := (ap b σ [] [] [])) rfl ?_
  show zx p l e _ s m _ below meth c g 4 0 0 _ _ 0 [(0, .ref (b + 0))] []
  refine z_null B dX8_poll_0 ?_
  refine z_qstore_n (r := none) (lv' := [(1, .null), (0, .ref (b + 0))]) B dX8_poll_1 rfl (by decide) rfl ?_
  refine z_iconst (v := 0) B dX8_poll_2 (by decide) ?_
  refine z_istore_n (lv' := [(2, .int 0), (1, .null), (0, .ref (b + 0))]) B dX8_poll_3 rfl (by decide) rfl ?_
  refine z_iload_n B dX8_poll_4 rfl 0 rfl ?_
  refine z_aload_n B dX8_poll_5 rfl 2 rfl ?_
  refine gf_X8_96 (x := 0) B (lKA (hk_K hK 0 rfl rfl)) (rI_at 0 7 hI_0_7) dX8_poll_6 ?_
  refine z_icmp_ge (tgt := 44) B dX8_poll_9 (by decide) (fun _ => ?_) (fun h => absurd (by decide) h)
  refine z_qload_n (r := none) B dX8_poll_44 rfl 1 rfl ?_
  refine z_ifnonnull (r := none) (tgt := 50) B dX8_poll_45 (by decide) (fun a h => nomatch h) (fun _ => ?_)
  refine z_iconst (v := (-1)) B dX8_poll_48 (by decide) ?_
  exact z_iret B hr (by decide) (by decide) dX8_poll_49 ⟨rfl, rfl⟩
set_option maxRecDepth 100000 in
set_option maxHeartbeats 4000000 in
theorem ci_X9_poll_898 (l : Launch) {g : gx_T} {σ : sx_T} {b : Nat} (hK : lay b σ)   (hI_405_16 : sx_I σ (b + 405) 16 = 0) : Met l yX9_poll (.code yX9_poll cX9_poll 6 (some .int) :: lw_g) { frames := 0, cells := 0, slots := 0, locals := 0 } (va_Pc [.ref (b + 405)] (zx_w g σ)) (va_Qi (fun r u => r = (-1) ∧ u = (ap b σ [(405, 0, 0)] [] [])) (zx_w g) (gx_Q g)) 0 0 (gx_Q g) := by
  refine z_met (by decide) (Nat.le_of_ble_eq_true rfl) (fun p e s m below meth c B hr hin => ?_)
  refine z_eqs (σ' := (ap b σ [] [] [])) rfl ?_
  show zx p l e _ s m _ below meth c g 6 0 0 _ _ 0 [(0, .ref (b + 405))] []
  refine z_aload_n B dX9_poll_0 rfl 0 rfl ?_
  refine z_iconst (v := 0) B dX9_poll_1 (by decide) ?_
  refine pf_X9_90 (x := 0) (σ' := (ap b σ [(405, 0, 0)] [] [])) B (lKA (hk_K hK 405 rfl rfl)) wI_ap dX9_poll_2 ?_
  refine z_iconst (v := (-1)) B dX9_poll_5 (by decide) ?_
  refine z_istore_n (lv' := [(1, .int (-1)), (0, .ref (b + 405))]) B dX9_poll_6 rfl (by decide) rfl ?_
  refine z_iconst (v := 0) B dX9_poll_7 (by decide) ?_
  refine z_istore_n (lv' := [(2, .int 0), (1, .int (-1)), (0, .ref (b + 405))]) B dX9_poll_8 rfl (by decide) rfl ?_
  refine z_iload_n B dX9_poll_9 rfl 0 rfl ?_
  refine z_aload_n B dX9_poll_10 rfl 2 rfl ?_
  refine gf_X9_100 (x := 0) B (lKA (hk_K hK 405 rfl rfl)) (rI_at 405 16 hI_405_16) dX9_poll_11 ?_
  refine z_icmp_ge (tgt := 140) B dX9_poll_14 (by decide) (fun _ => ?_) (fun h => absurd (by decide) h)
  refine z_iload_n B dX9_poll_140 rfl 1 rfl ?_
  refine z_iconst (v := (-1)) B dX9_poll_141 (by decide) ?_
  refine z_icmp_ne (tgt := 147) B dX9_poll_142 (by decide) (fun h => absurd (by decide) h) (fun _ => ?_)
  refine z_iconst (v := (-1)) B dX9_poll_145 (by decide) ?_
  exact z_iret B hr (by decide) (by decide) dX9_poll_146 ⟨rfl, rfl⟩
set_option maxRecDepth 100000 in
set_option maxHeartbeats 4000000 in
theorem ci_X8_complete_899 (l : Launch) (hlt : l.stackTraces = false) {g : gx_T} {σ : sx_T} {b : Nat} (hK : lay b σ) (w1 : Int32) (w2 : Int32) (q1_w2 : (-2147483648 : Int) ≤ w2.toInt) (q2_w2 : w2.toInt ≤ (-1000 : Int))  : vx_Met l yX8_complete (.code yX8_complete cX8_complete 4 (some .boolean) :: lw_g) { frames := 7, cells := 1, slots := 6, locals := 136 } (va_Pc [.ref (b + 0), .int w1, .int w2] (zx_w g σ)) (va_Qi (S := sx_T) (fun _ _ => False) (zx_w g) (gx_Q g)) (vx_X (fun u : sx_T => ∃ z, u = wx_Z σ z) (fun E u t => E = "java/lang/IllegalArgumentException" ∧ zx_h g u t.heap) (gx_Q g)) 1 6 (gx_Q g) := by
  refine z_metX (by decide) (Nat.le_of_ble_eq_true rfl) (fun p e s m below meth c B hr hin hout => ?_)
  refine z_eqs (σ' := (ap b σ [] [] [])) rfl ?_
  show zx p l e _ s m _ below meth c g 4 0 0 _ _ 0 [(0, .ref (b + 0)), (1, .int w1), (2, .int w2)] []
  refine z_iload_n B dX8_complete_0 rfl 2 rfl ?_
  refine z_sipush (v := (-999)) B dX8_complete_1 (by decide) ?_
  refine z_icmp_lt (tgt := 14) B dX8_complete_4 (by decide) (fun _ => ?_) (fun h => absurd (iv_lt q2_w2 (by decide)) h)
  exact z_throw B hlt hout (cls := "java/lang/IllegalArgumentException") (text := "result is out of range") tw_X8_83_223_87 dX8_complete_14 dX8_complete_17 dX8_complete_18 dX8_complete_20 dX8_complete_23 (by decide) (by decide) (by decide) (by decide) (by decide) (by decide) (fun z => ⟨z, rfl⟩)
set_option maxRecDepth 100000 in
set_option maxHeartbeats 4000000 in
theorem ci_L_complete_900 (l : Launch) (hlt : l.stackTraces = false) {g : gx_T} {σ : sx_T} {b : Nat} (hK : lay b σ) (w1 : Int32) (w2 : Int32) (q1_w2 : (-2147483648 : Int) ≤ w2.toInt) (q2_w2 : w2.toInt ≤ (-1000 : Int))  : Met l yL_complete (.codeWith yL_complete cL_complete 5 (some .int) [(0, 17, 20, 15)] :: lw_g) { frames := 8, cells := 1, slots := 6, locals := 159 } (va_Pc [.ref (b + 0), .int w1, .int w2, .ref (b + 431)] (zx_w g σ)) (va_Qi (fun r u => r = 1 ∧ ∃ z, u = (ap b (wx_Z σ z) [] [] [])) (zx_w g) (gx_Q g)) 1 6 (gx_Q g) := by
  refine z_metW (by decide) (Nat.le_of_ble_eq_true rfl) (fun p e s m below meth c B hr htab => ?_)
  refine z_eqs (σ' := (ap b σ [] [] [])) rfl ?_
  show zx p l e _ s m _ below meth c g 5 0 0 _ _ 0 [(0, .ref (b + 0)), (1, .int w1), (2, .int w2), (3, .ref (b + 431))] []
  refine z_aload_n B dL_complete_0 rfl 3 rfl ?_
  refine z_iconst (v := 0) B dL_complete_1 (by decide) ?_
  refine z_aload_n B dL_complete_2 rfl 0 rfl ?_
  refine z_iload_n B dL_complete_3 rfl 1 rfl ?_
  refine z_iload_n B dL_complete_4 rfl 2 rfl ?_
  refine z_cXi (As := [.int w1, .int w2]) (rest := [.int 0, .ref (b + 431)]) B htab tc_complete_5_IllegalArgumentException cw_L_37 cx_9 dL_complete_5 (ci_X8_complete_899 l hlt (σ := (ap b σ [] [] [])) (b := b) (lyA hK) w1 w2 q1_w2 q2_w2) (lKA (hk_K hK 0 rfl rfl)) rfl (by decide) rfl (Nat.le_of_ble_eq_true rfl) (by decide) (fun z q => ?_)
  refine z_eqs (σ' := (ap b (wx_Z σ z) [] [] [])) rfl ?_
  show zx p l e _ s m _ below meth c g 5 _ _ _ _ 20 [(0, .ref (b + 0)), (1, .int w1), (2, .int w2), (3, .ref (b + 431))] _
  refine z_astore (lv' := [(4, .ref q), (0, .ref (b + 0)), (1, .int w1), (2, .int w2), (3, .ref (b + 431))]) B dL_complete_20 (by decide) rfl ?_
  refine z_iconst (v := 1) B dL_complete_22 (by decide) ?_
  exact z_iret B hr (by decide) (by decide) dL_complete_23 ⟨rfl, _, rfl⟩
set_option maxRecDepth 100000 in
set_option maxHeartbeats 4000000 in
theorem ci_X9_complete_901 (l : Launch) {g : gx_T} {σ : sx_T} {b : Nat} (hK : lay b σ) (w1 : Int32) (w2 : Int32) (q1_w2 : (-2147483648 : Int) ≤ w2.toInt) (q2_w2 : w2.toInt ≤ (-1000 : Int))  : Met l yX9_complete (.code yX9_complete cX9_complete 4 (some .boolean) :: lw_g) { frames := 1, cells := 0, slots := 0, locals := 22 } (va_Pc [.ref (b + 405), .int w1, .int w2] (zx_w g σ)) (va_Qi (fun r u => r = 0 ∧ u = (ap b σ [(405, 0, 1)] [] [])) (zx_w g) (gx_Q g)) 0 0 (gx_Q g) := by
  refine z_met (by decide) (Nat.le_of_ble_eq_true rfl) (fun p e s m below meth c B hr hin => ?_)
  refine z_eqs (σ' := (ap b σ [] [] [])) rfl ?_
  show zx p l e _ s m _ below meth c g 4 0 0 _ _ 0 [(0, .ref (b + 405)), (1, .int w1), (2, .int w2)] []
  refine z_aload_n B dX9_complete_0 rfl 0 rfl ?_
  refine z_iload_n B dX9_complete_1 rfl 2 rfl ?_
  refine z_sipush (v := (-999)) B dX9_complete_2 (by decide) ?_
  refine z_sipush (v := 999) B dX9_complete_5 (by decide) ?_
  refine z_cSi (As := [.int w2, .int (-999), .int 999]) (rest := [.ref (b + 405)]) B cw_X9_96 dX9_complete_8 (ci_X9_in_651 l (σ := (ap b σ [] [] [])) (b := b) (lyA hK) w2 q1_w2 q2_w2) rfl (by decide) rfl (Nat.le_of_ble_eq_true rfl) (by decide) (fun r u hu => ?_)
  refine z_eqs (σ' := (ap b σ [] [] [])) hu.2 ?_
  show zx p l e _ s m _ below meth c g 4 0 0 _ _ 11 [(0, .ref (b + 405)), (1, .int w1), (2, .int w2)] _
  refine z_seti (y := 0) hu.1 ?_
  refine z_cVi (As := [.int 0]) (rest := []) B cw_X9_269 cx_10 dX9_complete_11 (ci_X9_needs_883 l (σ := (ap b σ [] [] [])) (b := b) (lyA hK) ) (lKA (hk_K hK 405 rfl rfl)) rfl (by decide) rfl (Nat.le_of_ble_eq_true rfl) (by decide) (fun r u hu => ?_)
  refine z_eqs (σ' := (ap b σ [(405, 0, 1)] [] [])) (hu.2.trans ap_ap) ?_
  show zx p l e _ s m _ below meth c g 4 0 0 _ _ 14 [(0, .ref (b + 405)), (1, .int w1), (2, .int w2)] _
  refine z_seti (y := 0) hu.1 ?_
  refine z_if_ne (tgt := 19) B dX9_complete_14 (by decide) (fun h => absurd (by decide) h) (fun _ => ?_)
  refine z_iconst (v := 0) B dX9_complete_17 (by decide) ?_
  exact z_zret B hr (by decide) (by decide) (by decide) dX9_complete_18 ⟨rfl, rfl⟩
set_option maxRecDepth 100000 in
set_option maxHeartbeats 4000000 in
theorem ci_X8_runningTask_902 (l : Launch) {g : gx_T} {σ : sx_T} {b : Nat} (hK : lay b σ) (w1 : Int32)  (hI_0_7 : sx_I σ (b + 0) 7 = 0) : Met l yX8_runningTask (.code yX8_runningTask cX8_runningTask 4 (some (.object "Loomkeeper$Task")) :: lw_g) { frames := 0, cells := 0, slots := 0, locals := 0 } (va_Pc [.ref (b + 0), .int w1] (zx_w g σ)) (va_Qq (fun r u => r = none ∧ u = σ) (zx_w g) (gx_Q g)) 0 0 (gx_Q g) := by
  refine z_met (by decide) (Nat.le_of_ble_eq_true rfl) (fun p e s m below meth c B hr hin => ?_)
  refine z_eqs (σ' := (ap b σ [] [] [])) rfl ?_
  show zx p l e _ s m _ below meth c g 4 0 0 _ _ 0 [(0, .ref (b + 0)), (1, .int w1)] []
  refine z_iconst (v := 0) B dX8_runningTask_0 (by decide) ?_
  refine z_istore_n (lv' := [(2, .int 0), (0, .ref (b + 0)), (1, .int w1)]) B dX8_runningTask_1 rfl (by decide) rfl ?_
  refine z_iload_n B dX8_runningTask_2 rfl 0 rfl ?_
  refine z_aload_n B dX8_runningTask_3 rfl 1 rfl ?_
  refine gf_X8_96 (x := 0) B (lKA (hk_K hK 0 rfl rfl)) (rI_at 0 7 hI_0_7) dX8_runningTask_4 ?_
  refine z_icmp_ge (tgt := 37) B dX8_runningTask_7 (by decide) (fun _ => ?_) (fun h => absurd (by decide) h)
  refine z_null B dX8_runningTask_37 ?_
  exact z_qret (r := none) B hr (by decide) (by decide) dX8_runningTask_38 ⟨rfl, rfl⟩
set_option maxRecDepth 100000 in
set_option maxHeartbeats 4000000 in
theorem ci_X8_complete_903 (l : Launch) {g : gx_T} {σ : sx_T} {b : Nat} (hK : lay b σ) (w1 : Int32) (w2 : Int32) (q1_w2 : (-999 : Int) ≤ w2.toInt) (q2_w2 : w2.toInt ≤ (999 : Int)) (hI_0_7 : sx_I σ (b + 0) 7 = 0) : Met l yX8_complete (.code yX8_complete cX8_complete 4 (some .boolean) :: lw_g) { frames := 1, cells := 0, slots := 0, locals := 23 } (va_Pc [.ref (b + 0), .int w1, .int w2] (zx_w g σ)) (va_Qi (fun r u => r = 0 ∧ u = σ) (zx_w g) (gx_Q g)) 0 0 (gx_Q g) := by
  refine z_met (by decide) (Nat.le_of_ble_eq_true rfl) (fun p e s m below meth c B hr hin => ?_)
  refine z_eqs (σ' := (ap b σ [] [] [])) rfl ?_
  show zx p l e _ s m _ below meth c g 4 0 0 _ _ 0 [(0, .ref (b + 0)), (1, .int w1), (2, .int w2)] []
  refine z_iload_n B dX8_complete_0 rfl 2 rfl ?_
  refine z_sipush (v := (-999)) B dX8_complete_1 (by decide) ?_
  refine z_icmp_lt (tgt := 14) B dX8_complete_4 (by decide) (fun h => absurd h (iv_nlt q1_w2 (by decide))) (fun _ => ?_)
  refine z_iload_n B dX8_complete_7 rfl 2 rfl ?_
  refine z_sipush (v := 999) B dX8_complete_8 (by decide) ?_
  refine z_icmp_le (tgt := 24) B dX8_complete_11 (by decide) (fun _ => ?_) (fun h => absurd (iv_le q2_w2 (by decide)) h)
  refine z_aload_n B dX8_complete_24 rfl 0 rfl ?_
  refine z_iload_n B dX8_complete_25 rfl 1 rfl ?_
  refine z_cVq (As := [.int w1]) (rest := []) B cw_X8_225 cx_9 dX8_complete_26 (ci_X8_runningTask_902 l (σ := (ap b σ [] [] [])) (b := b) (lyA hK) w1 (rI_at 0 7 hI_0_7)) (lKA (hk_K hK 0 rfl rfl)) rfl (by decide) rfl (Nat.le_of_ble_eq_true rfl) (by decide) (fun r u hu => ?_)
  refine z_eqs (σ' := (ap b σ [] [] [])) hu.2 ?_
  show zx p l e _ s m _ below meth c g 4 0 0 _ _ 29 [(0, .ref (b + 0)), (1, .int w1), (2, .int w2)] _
  refine z_setr (y := none) hu.1 ?_
  refine z_qstore_n (r := none) (lv' := [(3, .null), (0, .ref (b + 0)), (1, .int w1), (2, .int w2)]) B dX8_complete_29 rfl (by decide) rfl ?_
  refine z_qload_n (r := none) B dX8_complete_30 rfl 0 rfl ?_
  refine z_ifnonnull (r := none) (tgt := 36) B dX8_complete_31 (by decide) (fun a h => nomatch h) (fun _ => ?_)
  refine z_iconst (v := 0) B dX8_complete_34 (by decide) ?_
  exact z_zret B hr (by decide) (by decide) (by decide) dX8_complete_35 ⟨rfl, rfl⟩
set_option maxRecDepth 100000 in
set_option maxHeartbeats 4000000 in
theorem ci_L_complete_904 (l : Launch) {g : gx_T} {σ : sx_T} {b : Nat} (hK : lay b σ) (w1 : Int32) (w2 : Int32) (q1_w2 : (-999 : Int) ≤ w2.toInt) (q2_w2 : w2.toInt ≤ (999 : Int)) (hI_0_7 : sx_I σ (b + 0) 7 = 0) : Met l yL_complete (.codeWith yL_complete cL_complete 5 (some .int) [(0, 17, 20, 15)] :: lw_g) { frames := 2, cells := 0, slots := 0, locals := 46 } (va_Pc [.ref (b + 0), .int w1, .int w2, .ref (b + 431)] (zx_w g σ)) (va_Qi (fun r u => r = 0 ∧ u = (ap b σ [] [(431, 0, 0)] [])) (zx_w g) (gx_Q g)) 0 0 (gx_Q g) := by
  refine z_metW (by decide) (Nat.le_of_ble_eq_true rfl) (fun p e s m below meth c B hr htab => ?_)
  refine z_eqs (σ' := (ap b σ [] [] [])) rfl ?_
  show zx p l e _ s m _ below meth c g 5 0 0 _ _ 0 [(0, .ref (b + 0)), (1, .int w1), (2, .int w2), (3, .ref (b + 431))] []
  refine z_aload_n B dL_complete_0 rfl 3 rfl ?_
  refine z_iconst (v := 0) B dL_complete_1 (by decide) ?_
  refine z_aload_n B dL_complete_2 rfl 0 rfl ?_
  refine z_iload_n B dL_complete_3 rfl 1 rfl ?_
  refine z_iload_n B dL_complete_4 rfl 2 rfl ?_
  refine z_cVi (As := [.int w1, .int w2]) (rest := [.int 0, .ref (b + 431)]) B cw_L_37 cx_9 dL_complete_5 (ci_X8_complete_903 l (σ := (ap b σ [] [] [])) (b := b) (lyA hK) w1 w2 q1_w2 q2_w2 (rI_at 0 7 hI_0_7)) (lKA (hk_K hK 0 rfl rfl)) rfl (by decide) rfl (Nat.le_of_ble_eq_true rfl) (by decide) (fun r u hu => ?_)
  refine z_eqs (σ' := (ap b σ [] [] [])) hu.2 ?_
  show zx p l e _ s m _ below meth c g 5 0 0 _ _ 8 [(0, .ref (b + 0)), (1, .int w1), (2, .int w2), (3, .ref (b + 431))] _
  refine z_seti (y := 0) hu.1 ?_
  refine z_if_eq (tgt := 15) B dL_complete_8 (by decide) (fun _ => ?_) (fun h => absurd (by decide) h)
  refine z_lconst (v := 0) B dL_complete_15 (by decide) ?_
  refine z_last (j := 0) (σ' := (ap b σ [] [(431, 0, 0)] [])) B (lKA (hk_K hK 431 rfl rfl)) (by decide) (in_of (lNA (hk_N hK 431 rfl rfl)) (show ¬ ((0 : Int32) < 0 ∨ 1 ≤ (0 : Int32).toNatClampNeg) by decide)) wJ_ap dL_complete_16 ?_
  refine z_goto (tgt := 24) B dL_complete_17 (by decide) ?_
  refine z_iconst (v := 0) B dL_complete_24 (by decide) ?_
  exact z_iret B hr (by decide) (by decide) dL_complete_25 ⟨rfl, rfl⟩
set_option maxRecDepth 100000 in
set_option maxHeartbeats 4000000 in
theorem ci_X9_needs_905 (l : Launch) {g : gx_T} {σ : sx_T} {b : Nat} (hK : lay b σ)    : Met l yX9_needs (.code yX9_needs cX9_needs 2 (some .boolean) :: lw_g) { frames := 0, cells := 0, slots := 0, locals := 0 } (va_Pc [.ref (b + 405), .int 1] (zx_w g σ)) (va_Qi (fun r u => r = 1 ∧ u = (ap b σ [(405, 0, 0)] [] [])) (zx_w g) (gx_Q g)) 0 0 (gx_Q g) := by
  refine z_met (by decide) (Nat.le_of_ble_eq_true rfl) (fun p e s m below meth c B hr hin => ?_)
  refine z_eqs (σ' := (ap b σ [] [] [])) rfl ?_
  show zx p l e _ s m _ below meth c g 2 0 0 _ _ 0 [(0, .ref (b + 405)), (1, .int 1)] []
  refine z_aload_n B dX9_needs_0 rfl 0 rfl ?_
  refine z_iload_n B dX9_needs_1 rfl 1 rfl ?_
  refine z_if_eq (tgt := 9) B dX9_needs_2 (by decide) (fun h => absurd h (by decide)) (fun _ => ?_)
  refine z_iconst (v := 0) B dX9_needs_5 (by decide) ?_
  refine z_goto (tgt := 10) B dX9_needs_6 (by decide) ?_
  refine pf_X9_90 (x := 0) (σ' := (ap b σ [(405, 0, 0)] [] [])) B (lKA (hk_K hK 405 rfl rfl)) wI_ap dX9_needs_10 ?_
  refine z_iload_n B dX9_needs_13 rfl 1 rfl ?_
  exact z_zret B hr (by decide) (by decide) (by decide) dX9_needs_14 ⟨rfl, rfl⟩
set_option maxRecDepth 100000 in
set_option maxHeartbeats 4000000 in
theorem ci_X9_taskOf_906 (l : Launch) {g : gx_T} {σ : sx_T} {b : Nat} (hK : lay b σ) (w1 : Int32)  (hI_405_16 : sx_I σ (b + 405) 16 = 0) : Met l yX9_taskOf (.code yX9_taskOf cX9_taskOf 3 (some .int) :: lw_g) { frames := 0, cells := 0, slots := 0, locals := 0 } (va_Pc [.ref (b + 405), .int w1] (zx_w g σ)) (va_Qi (fun r u => r = (-1) ∧ u = σ) (zx_w g) (gx_Q g)) 0 0 (gx_Q g) := by
  refine z_met (by decide) (Nat.le_of_ble_eq_true rfl) (fun p e s m below meth c B hr hin => ?_)
  refine z_eqs (σ' := (ap b σ [] [] [])) rfl ?_
  show zx p l e _ s m _ below meth c g 3 0 0 _ _ 0 [(0, .ref (b + 405)), (1, .int w1)] []
  refine z_iconst (v := 0) B dX9_taskOf_0 (by decide) ?_
  refine z_istore_n (lv' := [(2, .int 0), (0, .ref (b + 405)), (1, .int w1)]) B dX9_taskOf_1 rfl (by decide) rfl ?_
  refine z_iload_n B dX9_taskOf_2 rfl 0 rfl ?_
  refine z_aload_n B dX9_taskOf_3 rfl 1 rfl ?_
  refine gf_X9_100 (x := 0) B (lKA (hk_K hK 405 rfl rfl)) (rI_at 405 16 hI_405_16) dX9_taskOf_4 ?_
  refine z_icmp_ge (tgt := 55) B dX9_taskOf_7 (by decide) (fun _ => ?_) (fun h => absurd (by decide) h)
  refine z_iconst (v := (-1)) B dX9_taskOf_55 (by decide) ?_
  exact z_iret B hr (by decide) (by decide) dX9_taskOf_56 ⟨rfl, rfl⟩
set_option maxRecDepth 100000 in
set_option maxHeartbeats 4000000 in
theorem ci_X9_complete_907 (l : Launch) {g : gx_T} {σ : sx_T} {b : Nat} (hK : lay b σ) (w1 : Int32) (w2 : Int32) (q1_w2 : (-999 : Int) ≤ w2.toInt) (q2_w2 : w2.toInt ≤ (999 : Int)) (hI_405_16 : sx_I σ (b + 405) 16 = 0) : Met l yX9_complete (.code yX9_complete cX9_complete 4 (some .boolean) :: lw_g) { frames := 1, cells := 0, slots := 0, locals := 22 } (va_Pc [.ref (b + 405), .int w1, .int w2] (zx_w g σ)) (va_Qi (fun r u => r = 0 ∧ u = (ap b σ [(405, 0, 0)] [] [])) (zx_w g) (gx_Q g)) 0 0 (gx_Q g) := by
  refine z_met (by decide) (Nat.le_of_ble_eq_true rfl) (fun p e s m below meth c B hr hin => ?_)
  refine z_eqs (σ' := (ap b σ [] [] [])) rfl ?_
  show zx p l e _ s m _ below meth c g 4 0 0 _ _ 0 [(0, .ref (b + 405)), (1, .int w1), (2, .int w2)] []
  refine z_aload_n B dX9_complete_0 rfl 0 rfl ?_
  refine z_iload_n B dX9_complete_1 rfl 2 rfl ?_
  refine z_sipush (v := (-999)) B dX9_complete_2 (by decide) ?_
  refine z_sipush (v := 999) B dX9_complete_5 (by decide) ?_
  refine z_cSi (As := [.int w2, .int (-999), .int 999]) (rest := [.ref (b + 405)]) B cw_X9_96 dX9_complete_8 (ci_X9_in_654 l (σ := (ap b σ [] [] [])) (b := b) (lyA hK) w2 q1_w2 q2_w2) rfl (by decide) rfl (Nat.le_of_ble_eq_true rfl) (by decide) (fun r u hu => ?_)
  refine z_eqs (σ' := (ap b σ [] [] [])) hu.2 ?_
  show zx p l e _ s m _ below meth c g 4 0 0 _ _ 11 [(0, .ref (b + 405)), (1, .int w1), (2, .int w2)] _
  refine z_seti (y := 1) hu.1 ?_
  refine z_cVi (As := [.int 1]) (rest := []) B cw_X9_269 cx_10 dX9_complete_11 (ci_X9_needs_905 l (σ := (ap b σ [] [] [])) (b := b) (lyA hK) ) (lKA (hk_K hK 405 rfl rfl)) rfl (by decide) rfl (Nat.le_of_ble_eq_true rfl) (by decide) (fun r u hu => ?_)
  refine z_eqs (σ' := (ap b σ [(405, 0, 0)] [] [])) (hu.2.trans ap_ap) ?_
  show zx p l e _ s m _ below meth c g 4 0 0 _ _ 14 [(0, .ref (b + 405)), (1, .int w1), (2, .int w2)] _
  refine z_seti (y := 1) hu.1 ?_
  refine z_if_ne (tgt := 19) B dX9_complete_14 (by decide) (fun _ => ?_) (fun h => absurd h (by decide))
  refine z_aload_n B dX9_complete_19 rfl 0 rfl ?_
  refine z_iload_n B dX9_complete_20 rfl 1 rfl ?_
  refine z_cVi (As := [.int w1]) (rest := []) B cw_X9_285 cx_10 dX9_complete_21 (ci_X9_taskOf_906 l (σ := (ap b σ [(405, 0, 0)] [] [])) (b := b) (lyA hK) w1 (rI_at 405 16 hI_405_16)) (lKA (hk_K hK 405 rfl rfl)) rfl (by decide) rfl (Nat.le_of_ble_eq_true rfl) (by decide) (fun r u hu => ?_)
  refine z_eqs (σ' := (ap b σ [(405, 0, 0)] [] [])) hu.2 ?_
  show zx p l e _ s m _ below meth c g 4 0 0 _ _ 24 [(0, .ref (b + 405)), (1, .int w1), (2, .int w2)] _
  refine z_seti (y := (-1)) hu.1 ?_
  refine z_istore_n (lv' := [(3, .int (-1)), (0, .ref (b + 405)), (1, .int w1), (2, .int w2)]) B dX9_complete_24 rfl (by decide) rfl ?_
  refine z_iload_n B dX9_complete_25 rfl 0 rfl ?_
  refine z_iconst (v := (-1)) B dX9_complete_26 (by decide) ?_
  refine z_icmp_eq (tgt := 38) B dX9_complete_27 (by decide) (fun _ => ?_) (fun h => absurd (by decide) h)
  refine z_iload_n B dX9_complete_38 rfl 0 rfl ?_
  refine z_iconst (v := (-1)) B dX9_complete_39 (by decide) ?_
  refine z_icmp_eq (tgt := 47) B dX9_complete_40 (by decide) (fun _ => ?_) (fun h => absurd (by decide) h)
  refine z_iconst (v := 0) B dX9_complete_47 (by decide) ?_
  exact z_zret B hr (by decide) (by decide) (by decide) dX9_complete_48 ⟨rfl, rfl⟩
set_option maxRecDepth 100000 in
set_option maxHeartbeats 4000000 in
theorem ci_X8_complete_908 (l : Launch) (hlt : l.stackTraces = false) {g : gx_T} {σ : sx_T} {b : Nat} (hK : lay b σ) (w1 : Int32) (w2 : Int32) (q1_w2 : (1000 : Int) ≤ w2.toInt) (q2_w2 : w2.toInt ≤ (2147483647 : Int))  : vx_Met l yX8_complete (.code yX8_complete cX8_complete 4 (some .boolean) :: lw_g) { frames := 7, cells := 1, slots := 6, locals := 136 } (va_Pc [.ref (b + 0), .int w1, .int w2] (zx_w g σ)) (va_Qi (S := sx_T) (fun _ _ => False) (zx_w g) (gx_Q g)) (vx_X (fun u : sx_T => ∃ z, u = wx_Z σ z) (fun E u t => E = "java/lang/IllegalArgumentException" ∧ zx_h g u t.heap) (gx_Q g)) 1 6 (gx_Q g) := by
  refine z_metX (by decide) (Nat.le_of_ble_eq_true rfl) (fun p e s m below meth c B hr hin hout => ?_)
  refine z_eqs (σ' := (ap b σ [] [] [])) rfl ?_
  show zx p l e _ s m _ below meth c g 4 0 0 _ _ 0 [(0, .ref (b + 0)), (1, .int w1), (2, .int w2)] []
  refine z_iload_n B dX8_complete_0 rfl 2 rfl ?_
  refine z_sipush (v := (-999)) B dX8_complete_1 (by decide) ?_
  refine z_icmp_lt (tgt := 14) B dX8_complete_4 (by decide) (fun h => absurd h (iv_nlt q1_w2 (by decide))) (fun _ => ?_)
  refine z_iload_n B dX8_complete_7 rfl 2 rfl ?_
  refine z_sipush (v := 999) B dX8_complete_8 (by decide) ?_
  refine z_icmp_le (tgt := 24) B dX8_complete_11 (by decide) (fun h => absurd h (iv_nle q1_w2 (by decide))) (fun _ => ?_)
  exact z_throw B hlt hout (cls := "java/lang/IllegalArgumentException") (text := "result is out of range") tw_X8_83_223_87 dX8_complete_14 dX8_complete_17 dX8_complete_18 dX8_complete_20 dX8_complete_23 (by decide) (by decide) (by decide) (by decide) (by decide) (by decide) (fun z => ⟨z, rfl⟩)
set_option maxRecDepth 100000 in
set_option maxHeartbeats 4000000 in
theorem ci_L_complete_909 (l : Launch) (hlt : l.stackTraces = false) {g : gx_T} {σ : sx_T} {b : Nat} (hK : lay b σ) (w1 : Int32) (w2 : Int32) (q1_w2 : (1000 : Int) ≤ w2.toInt) (q2_w2 : w2.toInt ≤ (2147483647 : Int))  : Met l yL_complete (.codeWith yL_complete cL_complete 5 (some .int) [(0, 17, 20, 15)] :: lw_g) { frames := 8, cells := 1, slots := 6, locals := 159 } (va_Pc [.ref (b + 0), .int w1, .int w2, .ref (b + 431)] (zx_w g σ)) (va_Qi (fun r u => r = 1 ∧ ∃ z, u = (ap b (wx_Z σ z) [] [] [])) (zx_w g) (gx_Q g)) 1 6 (gx_Q g) := by
  refine z_metW (by decide) (Nat.le_of_ble_eq_true rfl) (fun p e s m below meth c B hr htab => ?_)
  refine z_eqs (σ' := (ap b σ [] [] [])) rfl ?_
  show zx p l e _ s m _ below meth c g 5 0 0 _ _ 0 [(0, .ref (b + 0)), (1, .int w1), (2, .int w2), (3, .ref (b + 431))] []
  refine z_aload_n B dL_complete_0 rfl 3 rfl ?_
  refine z_iconst (v := 0) B dL_complete_1 (by decide) ?_
  refine z_aload_n B dL_complete_2 rfl 0 rfl ?_
  refine z_iload_n B dL_complete_3 rfl 1 rfl ?_
  refine z_iload_n B dL_complete_4 rfl 2 rfl ?_
  refine z_cXi (As := [.int w1, .int w2]) (rest := [.int 0, .ref (b + 431)]) B htab tc_complete_5_IllegalArgumentException cw_L_37 cx_9 dL_complete_5 (ci_X8_complete_908 l hlt (σ := (ap b σ [] [] [])) (b := b) (lyA hK) w1 w2 q1_w2 q2_w2) (lKA (hk_K hK 0 rfl rfl)) rfl (by decide) rfl (Nat.le_of_ble_eq_true rfl) (by decide) (fun z q => ?_)
  refine z_eqs (σ' := (ap b (wx_Z σ z) [] [] [])) rfl ?_
  show zx p l e _ s m _ below meth c g 5 _ _ _ _ 20 [(0, .ref (b + 0)), (1, .int w1), (2, .int w2), (3, .ref (b + 431))] _
  refine z_astore (lv' := [(4, .ref q), (0, .ref (b + 0)), (1, .int w1), (2, .int w2), (3, .ref (b + 431))]) B dL_complete_20 (by decide) rfl ?_
  refine z_iconst (v := 1) B dL_complete_22 (by decide) ?_
  exact z_iret B hr (by decide) (by decide) dL_complete_23 ⟨rfl, _, rfl⟩
set_option maxRecDepth 100000 in
set_option maxHeartbeats 4000000 in
theorem ci_X9_complete_910 (l : Launch) {g : gx_T} {σ : sx_T} {b : Nat} (hK : lay b σ) (w1 : Int32) (w2 : Int32) (q1_w2 : (1000 : Int) ≤ w2.toInt) (q2_w2 : w2.toInt ≤ (2147483647 : Int))  : Met l yX9_complete (.code yX9_complete cX9_complete 4 (some .boolean) :: lw_g) { frames := 1, cells := 0, slots := 0, locals := 22 } (va_Pc [.ref (b + 405), .int w1, .int w2] (zx_w g σ)) (va_Qi (fun r u => r = 0 ∧ u = (ap b σ [(405, 0, 1)] [] [])) (zx_w g) (gx_Q g)) 0 0 (gx_Q g) := by
  refine z_met (by decide) (Nat.le_of_ble_eq_true rfl) (fun p e s m below meth c B hr hin => ?_)
  refine z_eqs (σ' := (ap b σ [] [] [])) rfl ?_
  show zx p l e _ s m _ below meth c g 4 0 0 _ _ 0 [(0, .ref (b + 405)), (1, .int w1), (2, .int w2)] []
  refine z_aload_n B dX9_complete_0 rfl 0 rfl ?_
  refine z_iload_n B dX9_complete_1 rfl 2 rfl ?_
  refine z_sipush (v := (-999)) B dX9_complete_2 (by decide) ?_
  refine z_sipush (v := 999) B dX9_complete_5 (by decide) ?_
  refine z_cSi (As := [.int w2, .int (-999), .int 999]) (rest := [.ref (b + 405)]) B cw_X9_96 dX9_complete_8 (ci_X9_in_657 l (σ := (ap b σ [] [] [])) (b := b) (lyA hK) w2 q1_w2 q2_w2) rfl (by decide) rfl (Nat.le_of_ble_eq_true rfl) (by decide) (fun r u hu => ?_)
  refine z_eqs (σ' := (ap b σ [] [] [])) hu.2 ?_
  show zx p l e _ s m _ below meth c g 4 0 0 _ _ 11 [(0, .ref (b + 405)), (1, .int w1), (2, .int w2)] _
  refine z_seti (y := 0) hu.1 ?_
  refine z_cVi (As := [.int 0]) (rest := []) B cw_X9_269 cx_10 dX9_complete_11 (ci_X9_needs_883 l (σ := (ap b σ [] [] [])) (b := b) (lyA hK) ) (lKA (hk_K hK 405 rfl rfl)) rfl (by decide) rfl (Nat.le_of_ble_eq_true rfl) (by decide) (fun r u hu => ?_)
  refine z_eqs (σ' := (ap b σ [(405, 0, 1)] [] [])) (hu.2.trans ap_ap) ?_
  show zx p l e _ s m _ below meth c g 4 0 0 _ _ 14 [(0, .ref (b + 405)), (1, .int w1), (2, .int w2)] _
  refine z_seti (y := 0) hu.1 ?_
  refine z_if_ne (tgt := 19) B dX9_complete_14 (by decide) (fun h => absurd (by decide) h) (fun _ => ?_)
  refine z_iconst (v := 0) B dX9_complete_17 (by decide) ?_
  exact z_zret B hr (by decide) (by decide) (by decide) dX9_complete_18 ⟨rfl, rfl⟩
set_option maxRecDepth 100000 in
set_option maxHeartbeats 4000000 in
theorem ci_X8_fail_911 (l : Launch) {g : gx_T} {σ : sx_T} {b : Nat} (hK : lay b σ) (w1 : Int32)  (hI_0_7 : sx_I σ (b + 0) 7 = 0) : Met l yX8_fail (.code yX8_fail cX8_fail 3 (some .boolean) :: lw_g) { frames := 1, cells := 0, slots := 0, locals := 23 } (va_Pc [.ref (b + 0), .int w1] (zx_w g σ)) (va_Qi (fun r u => r = 0 ∧ u = σ) (zx_w g) (gx_Q g)) 0 0 (gx_Q g) := by
  refine z_met (by decide) (Nat.le_of_ble_eq_true rfl) (fun p e s m below meth c B hr hin => ?_)
  refine z_eqs (σ' := (ap b σ [] [] [])) rfl ?_
  show zx p l e _ s m _ below meth c g 3 0 0 _ _ 0 [(0, .ref (b + 0)), (1, .int w1)] []
  refine z_aload_n B dX8_fail_0 rfl 0 rfl ?_
  refine z_iload_n B dX8_fail_1 rfl 1 rfl ?_
  refine z_cVq (As := [.int w1]) (rest := []) B cw_X8_225 cx_9 dX8_fail_2 (ci_X8_runningTask_902 l (σ := (ap b σ [] [] [])) (b := b) (lyA hK) w1 (rI_at 0 7 hI_0_7)) (lKA (hk_K hK 0 rfl rfl)) rfl (by decide) rfl (Nat.le_of_ble_eq_true rfl) (by decide) (fun r u hu => ?_)
  refine z_eqs (σ' := (ap b σ [] [] [])) hu.2 ?_
  show zx p l e _ s m _ below meth c g 3 0 0 _ _ 5 [(0, .ref (b + 0)), (1, .int w1)] _
  refine z_setr (y := none) hu.1 ?_
  refine z_qstore_n (r := none) (lv' := [(2, .null), (0, .ref (b + 0)), (1, .int w1)]) B dX8_fail_5 rfl (by decide) rfl ?_
  refine z_qload_n (r := none) B dX8_fail_6 rfl 0 rfl ?_
  refine z_ifnonnull (r := none) (tgt := 12) B dX8_fail_7 (by decide) (fun a h => nomatch h) (fun _ => ?_)
  refine z_iconst (v := 0) B dX8_fail_10 (by decide) ?_
  exact z_zret B hr (by decide) (by decide) (by decide) dX8_fail_11 ⟨rfl, rfl⟩
set_option maxRecDepth 100000 in
set_option maxHeartbeats 4000000 in
theorem ci_X9_fail_912 (l : Launch) {g : gx_T} {σ : sx_T} {b : Nat} (hK : lay b σ) (w1 : Int32)  (hI_405_16 : sx_I σ (b + 405) 16 = 0) : Met l yX9_fail (.code yX9_fail cX9_fail 3 (some .boolean) :: lw_g) { frames := 1, cells := 0, slots := 0, locals := 22 } (va_Pc [.ref (b + 405), .int w1] (zx_w g σ)) (va_Qi (fun r u => r = 0 ∧ u = (ap b σ [(405, 0, 0)] [] [])) (zx_w g) (gx_Q g)) 0 0 (gx_Q g) := by
  refine z_met (by decide) (Nat.le_of_ble_eq_true rfl) (fun p e s m below meth c B hr hin => ?_)
  refine z_eqs (σ' := (ap b σ [] [] [])) rfl ?_
  show zx p l e _ s m _ below meth c g 3 0 0 _ _ 0 [(0, .ref (b + 405)), (1, .int w1)] []
  refine z_aload_n B dX9_fail_0 rfl 0 rfl ?_
  refine z_iconst (v := 0) B dX9_fail_1 (by decide) ?_
  refine pf_X9_90 (x := 0) (σ' := (ap b σ [(405, 0, 0)] [] [])) B (lKA (hk_K hK 405 rfl rfl)) wI_ap dX9_fail_2 ?_
  refine z_aload_n B dX9_fail_5 rfl 0 rfl ?_
  refine z_iload_n B dX9_fail_6 rfl 1 rfl ?_
  refine z_cVi (As := [.int w1]) (rest := []) B cw_X9_285 cx_10 dX9_fail_7 (ci_X9_taskOf_906 l (σ := (ap b σ [(405, 0, 0)] [] [])) (b := b) (lyA hK) w1 (rI_at 405 16 hI_405_16)) (lKA (hk_K hK 405 rfl rfl)) rfl (by decide) rfl (Nat.le_of_ble_eq_true rfl) (by decide) (fun r u hu => ?_)
  refine z_eqs (σ' := (ap b σ [(405, 0, 0)] [] [])) hu.2 ?_
  show zx p l e _ s m _ below meth c g 3 0 0 _ _ 10 [(0, .ref (b + 405)), (1, .int w1)] _
  refine z_seti (y := (-1)) hu.1 ?_
  refine z_istore_n (lv' := [(2, .int (-1)), (0, .ref (b + 405)), (1, .int w1)]) B dX9_fail_10 rfl (by decide) rfl ?_
  refine z_iload_n B dX9_fail_11 rfl 0 rfl ?_
  refine z_iconst (v := (-1)) B dX9_fail_12 (by decide) ?_
  refine z_icmp_eq (tgt := 21) B dX9_fail_13 (by decide) (fun _ => ?_) (fun h => absurd (by decide) h)
  refine z_iload_n B dX9_fail_21 rfl 0 rfl ?_
  refine z_iconst (v := (-1)) B dX9_fail_22 (by decide) ?_
  refine z_icmp_eq (tgt := 30) B dX9_fail_23 (by decide) (fun _ => ?_) (fun h => absurd (by decide) h)
  refine z_iconst (v := 0) B dX9_fail_30 (by decide) ?_
  exact z_zret B hr (by decide) (by decide) (by decide) dX9_fail_31 ⟨rfl, rfl⟩
set_option maxRecDepth 100000 in
set_option maxHeartbeats 4000000 in
theorem ci_X8_beat_913 (l : Launch) {g : gx_T} {σ : sx_T} {b : Nat} (hK : lay b σ) (w1 : Int32)  (hI_0_7 : sx_I σ (b + 0) 7 = 0) : Met l yX8_beat (.code yX8_beat cX8_beat 3 (some .boolean) :: lw_g) { frames := 1, cells := 0, slots := 0, locals := 23 } (va_Pc [.ref (b + 0), .int w1] (zx_w g σ)) (va_Qi (fun r u => r = 0 ∧ u = σ) (zx_w g) (gx_Q g)) 0 0 (gx_Q g) := by
  refine z_met (by decide) (Nat.le_of_ble_eq_true rfl) (fun p e s m below meth c B hr hin => ?_)
  refine z_eqs (σ' := (ap b σ [] [] [])) rfl ?_
  show zx p l e _ s m _ below meth c g 3 0 0 _ _ 0 [(0, .ref (b + 0)), (1, .int w1)] []
  refine z_aload_n B dX8_beat_0 rfl 0 rfl ?_
  refine z_iload_n B dX8_beat_1 rfl 1 rfl ?_
  refine z_cVq (As := [.int w1]) (rest := []) B cw_X8_225 cx_9 dX8_beat_2 (ci_X8_runningTask_902 l (σ := (ap b σ [] [] [])) (b := b) (lyA hK) w1 (rI_at 0 7 hI_0_7)) (lKA (hk_K hK 0 rfl rfl)) rfl (by decide) rfl (Nat.le_of_ble_eq_true rfl) (by decide) (fun r u hu => ?_)
  refine z_eqs (σ' := (ap b σ [] [] [])) hu.2 ?_
  show zx p l e _ s m _ below meth c g 3 0 0 _ _ 5 [(0, .ref (b + 0)), (1, .int w1)] _
  refine z_setr (y := none) hu.1 ?_
  refine z_qstore_n (r := none) (lv' := [(2, .null), (0, .ref (b + 0)), (1, .int w1)]) B dX8_beat_5 rfl (by decide) rfl ?_
  refine z_qload_n (r := none) B dX8_beat_6 rfl 0 rfl ?_
  refine z_ifnonnull (r := none) (tgt := 12) B dX8_beat_7 (by decide) (fun a h => nomatch h) (fun _ => ?_)
  refine z_iconst (v := 0) B dX8_beat_10 (by decide) ?_
  exact z_zret B hr (by decide) (by decide) (by decide) dX8_beat_11 ⟨rfl, rfl⟩
set_option maxRecDepth 100000 in
set_option maxHeartbeats 4000000 in
theorem ci_X9_beat_914 (l : Launch) {g : gx_T} {σ : sx_T} {b : Nat} (hK : lay b σ) (w1 : Int32)  (hI_405_16 : sx_I σ (b + 405) 16 = 0) : Met l yX9_beat (.code yX9_beat cX9_beat 3 (some .boolean) :: lw_g) { frames := 1, cells := 0, slots := 0, locals := 22 } (va_Pc [.ref (b + 405), .int w1] (zx_w g σ)) (va_Qi (fun r u => r = 0 ∧ u = (ap b σ [(405, 0, 0)] [] [])) (zx_w g) (gx_Q g)) 0 0 (gx_Q g) := by
  refine z_met (by decide) (Nat.le_of_ble_eq_true rfl) (fun p e s m below meth c B hr hin => ?_)
  refine z_eqs (σ' := (ap b σ [] [] [])) rfl ?_
  show zx p l e _ s m _ below meth c g 3 0 0 _ _ 0 [(0, .ref (b + 405)), (1, .int w1)] []
  refine z_aload_n B dX9_beat_0 rfl 0 rfl ?_
  refine z_iconst (v := 0) B dX9_beat_1 (by decide) ?_
  refine pf_X9_90 (x := 0) (σ' := (ap b σ [(405, 0, 0)] [] [])) B (lKA (hk_K hK 405 rfl rfl)) wI_ap dX9_beat_2 ?_
  refine z_aload_n B dX9_beat_5 rfl 0 rfl ?_
  refine z_iload_n B dX9_beat_6 rfl 1 rfl ?_
  refine z_cVi (As := [.int w1]) (rest := []) B cw_X9_285 cx_10 dX9_beat_7 (ci_X9_taskOf_906 l (σ := (ap b σ [(405, 0, 0)] [] [])) (b := b) (lyA hK) w1 (rI_at 405 16 hI_405_16)) (lKA (hk_K hK 405 rfl rfl)) rfl (by decide) rfl (Nat.le_of_ble_eq_true rfl) (by decide) (fun r u hu => ?_)
  refine z_eqs (σ' := (ap b σ [(405, 0, 0)] [] [])) hu.2 ?_
  show zx p l e _ s m _ below meth c g 3 0 0 _ _ 10 [(0, .ref (b + 405)), (1, .int w1)] _
  refine z_seti (y := (-1)) hu.1 ?_
  refine z_istore_n (lv' := [(2, .int (-1)), (0, .ref (b + 405)), (1, .int w1)]) B dX9_beat_10 rfl (by decide) rfl ?_
  refine z_iload_n B dX9_beat_11 rfl 0 rfl ?_
  refine z_iconst (v := (-1)) B dX9_beat_12 (by decide) ?_
  refine z_icmp_eq (tgt := 29) B dX9_beat_13 (by decide) (fun _ => ?_) (fun h => absurd (by decide) h)
  refine z_iload_n B dX9_beat_29 rfl 0 rfl ?_
  refine z_iconst (v := (-1)) B dX9_beat_30 (by decide) ?_
  refine z_icmp_eq (tgt := 38) B dX9_beat_31 (by decide) (fun _ => ?_) (fun h => absurd (by decide) h)
  refine z_iconst (v := 0) B dX9_beat_38 (by decide) ?_
  exact z_zret B hr (by decide) (by decide) (by decide) dX9_beat_39 ⟨rfl, rfl⟩
set_option maxRecDepth 100000 in
set_option maxHeartbeats 4000000 in
theorem ci_X8_tick_915 (l : Launch) (hlt : l.stackTraces = false) {g : gx_T} {σ : sx_T} {b : Nat} (hK : lay b σ) (w1 : Int32) (q1_w1 : (-2147483648 : Int) ≤ w1.toInt) (q2_w1 : w1.toInt ≤ (0 : Int))  : vx_Met l yX8_tick (.code yX8_tick cX8_tick 3 (some .int) :: lw_g) { frames := 7, cells := 1, slots := 6, locals := 136 } (va_Pc [.ref (b + 0), .int w1] (zx_w g σ)) (va_Qi (S := sx_T) (fun _ _ => False) (zx_w g) (gx_Q g)) (vx_X (fun u : sx_T => ∃ z, u = wx_Z σ z) (fun E u t => E = "java/lang/IllegalArgumentException" ∧ zx_h g u t.heap) (gx_Q g)) 1 6 (gx_Q g) := by
  refine z_metX (by decide) (Nat.le_of_ble_eq_true rfl) (fun p e s m below meth c B hr hin hout => ?_)
  refine z_eqs (σ' := (ap b σ [] [] [])) rfl ?_
  show zx p l e _ s m _ below meth c g 3 0 0 _ _ 0 [(0, .ref (b + 0)), (1, .int w1)] []
  refine z_iload_n B dX8_tick_0 rfl 1 rfl ?_
  refine z_iconst (v := 1) B dX8_tick_1 (by decide) ?_
  refine z_icmp_lt (tgt := 11) B dX8_tick_2 (by decide) (fun _ => ?_) (fun h => absurd (iv_lt q2_w1 (by decide)) h)
  exact z_throw B hlt hout (cls := "java/lang/IllegalArgumentException") (text := "ticks are out of range") tw_X8_83_238_87 dX8_tick_11 dX8_tick_14 dX8_tick_15 dX8_tick_17 dX8_tick_20 (by decide) (by decide) (by decide) (by decide) (by decide) (by decide) (fun z => ⟨z, rfl⟩)
set_option maxRecDepth 100000 in
set_option maxHeartbeats 4000000 in
theorem ci_L_tick_916 (l : Launch) (hlt : l.stackTraces = false) {g : gx_T} {σ : sx_T} {b : Nat} (hK : lay b σ) (w1 : Int32) (q1_w1 : (-2147483648 : Int) ≤ w1.toInt) (q2_w1 : w1.toInt ≤ (0 : Int))  : Met l yL_tick (.codeWith yL_tick cL_tick 4 (some .int) [(0, 9, 12, 15)] :: lw_g) { frames := 8, cells := 1, slots := 6, locals := 158 } (va_Pc [.ref (b + 0), .int w1, .ref (b + 431)] (zx_w g σ)) (va_Qi (fun r u => r = 1 ∧ ∃ z, u = (ap b (wx_Z σ z) [] [] [])) (zx_w g) (gx_Q g)) 1 6 (gx_Q g) := by
  refine z_metW (by decide) (Nat.le_of_ble_eq_true rfl) (fun p e s m below meth c B hr htab => ?_)
  refine z_eqs (σ' := (ap b σ [] [] [])) rfl ?_
  show zx p l e _ s m _ below meth c g 4 0 0 _ _ 0 [(0, .ref (b + 0)), (1, .int w1), (2, .ref (b + 431))] []
  refine z_aload_n B dL_tick_0 rfl 2 rfl ?_
  refine z_iconst (v := 0) B dL_tick_1 (by decide) ?_
  refine z_aload_n B dL_tick_2 rfl 0 rfl ?_
  refine z_iload_n B dL_tick_3 rfl 1 rfl ?_
  refine z_cXi (As := [.int w1]) (rest := [.int 0, .ref (b + 431)]) B htab tc_tick_4_IllegalArgumentException cw_L_41 cx_9 dL_tick_4 (ci_X8_tick_915 l hlt (σ := (ap b σ [] [] [])) (b := b) (lyA hK) w1 q1_w1 q2_w1) (lKA (hk_K hK 0 rfl rfl)) rfl (by decide) rfl (Nat.le_of_ble_eq_true rfl) (by decide) (fun z q => ?_)
  refine z_eqs (σ' := (ap b (wx_Z σ z) [] [] [])) rfl ?_
  show zx p l e _ s m _ below meth c g 4 _ _ _ _ 12 [(0, .ref (b + 0)), (1, .int w1), (2, .ref (b + 431))] _
  refine z_astore_n (lv' := [(3, .ref q), (0, .ref (b + 0)), (1, .int w1), (2, .ref (b + 431))]) B dL_tick_12 rfl (by decide) rfl ?_
  refine z_iconst (v := 1) B dL_tick_13 (by decide) ?_
  exact z_iret B hr (by decide) (by decide) dL_tick_14 ⟨rfl, _, rfl⟩
set_option maxRecDepth 100000 in
set_option maxHeartbeats 4000000 in
theorem ci_X9_in_917 (l : Launch) {g : gx_T} {σ : sx_T} {b : Nat} (hK : lay b σ) (w1 : Int32) (q1_w1 : (-2147483648 : Int) ≤ w1.toInt) (q2_w1 : w1.toInt ≤ (0 : Int))  : Met l yX9_in (.code yX9_in cX9_in 3 (some .boolean) :: lw_g) { frames := 0, cells := 0, slots := 0, locals := 0 } (va_Pc [.int w1, .int 1, .int 50] (zx_w g σ)) (va_Qi (fun r u => r = 0 ∧ u = σ) (zx_w g) (gx_Q g)) 0 0 (gx_Q g) := by
  refine z_met (by decide) (Nat.le_of_ble_eq_true rfl) (fun p e s m below meth c B hr hin => ?_)
  refine z_eqs (σ' := (ap b σ [] [] [])) rfl ?_
  show zx p l e _ s m _ below meth c g 3 0 0 _ _ 0 [(0, .int w1), (1, .int 1), (2, .int 50)] []
  refine z_iload_n B dX9_in_0 rfl 0 rfl ?_
  refine z_iload_n B dX9_in_1 rfl 1 rfl ?_
  refine z_icmp_lt (tgt := 14) B dX9_in_2 (by decide) (fun _ => ?_) (fun h => absurd (iv_lt q2_w1 (by decide)) h)
  refine z_iconst (v := 0) B dX9_in_14 (by decide) ?_
  exact z_zret B hr (by decide) (by decide) (by decide) dX9_in_15 ⟨rfl, rfl⟩
set_option maxRecDepth 100000 in
set_option maxHeartbeats 4000000 in
theorem ci_X9_tick_918 (l : Launch) {g : gx_T} {σ : sx_T} {b : Nat} (hK : lay b σ) (w1 : Int32) (q1_w1 : (-2147483648 : Int) ≤ w1.toInt) (q2_w1 : w1.toInt ≤ (0 : Int))  : Met l yX9_tick (.code yX9_tick cX9_tick 3 (some .int) :: lw_g) { frames := 1, cells := 0, slots := 0, locals := 22 } (va_Pc [.ref (b + 405), .int w1] (zx_w g σ)) (va_Qi (fun r u => r = 0 ∧ u = (ap b σ [(405, 0, 1)] [] [])) (zx_w g) (gx_Q g)) 0 0 (gx_Q g) := by
  refine z_met (by decide) (Nat.le_of_ble_eq_true rfl) (fun p e s m below meth c B hr hin => ?_)
  refine z_eqs (σ' := (ap b σ [] [] [])) rfl ?_
  show zx p l e _ s m _ below meth c g 3 0 0 _ _ 0 [(0, .ref (b + 405)), (1, .int w1)] []
  refine z_aload_n B dX9_tick_0 rfl 0 rfl ?_
  refine z_iload_n B dX9_tick_1 rfl 1 rfl ?_
  refine z_iconst (v := 1) B dX9_tick_2 (by decide) ?_
  refine z_bipush (v := 50) B dX9_tick_3 (by decide) ?_
  refine z_cSi (As := [.int w1, .int 1, .int 50]) (rest := [.ref (b + 405)]) B cw_X9_96 dX9_tick_5 (ci_X9_in_917 l (σ := (ap b σ [] [] [])) (b := b) (lyA hK) w1 q1_w1 q2_w1) rfl (by decide) rfl (Nat.le_of_ble_eq_true rfl) (by decide) (fun r u hu => ?_)
  refine z_eqs (σ' := (ap b σ [] [] [])) hu.2 ?_
  show zx p l e _ s m _ below meth c g 3 0 0 _ _ 8 [(0, .ref (b + 405)), (1, .int w1)] _
  refine z_seti (y := 0) hu.1 ?_
  refine z_cVi (As := [.int 0]) (rest := []) B cw_X9_269 cx_10 dX9_tick_8 (ci_X9_needs_883 l (σ := (ap b σ [] [] [])) (b := b) (lyA hK) ) (lKA (hk_K hK 405 rfl rfl)) rfl (by decide) rfl (Nat.le_of_ble_eq_true rfl) (by decide) (fun r u hu => ?_)
  refine z_eqs (σ' := (ap b σ [(405, 0, 1)] [] [])) (hu.2.trans ap_ap) ?_
  show zx p l e _ s m _ below meth c g 3 0 0 _ _ 11 [(0, .ref (b + 405)), (1, .int w1)] _
  refine z_seti (y := 0) hu.1 ?_
  refine z_if_ne (tgt := 16) B dX9_tick_11 (by decide) (fun h => absurd (by decide) h) (fun _ => ?_)
  refine z_iconst (v := 0) B dX9_tick_14 (by decide) ?_
  exact z_iret B hr (by decide) (by decide) dX9_tick_15 ⟨rfl, rfl⟩
set_option maxRecDepth 100000 in
set_option maxHeartbeats 4000000 in
theorem ci_Jx4a65c_size_8abf5_919 (l : Launch) {g : gx_T} {σ : sx_T} {b : Nat} (hK : lay b σ)   (hI_4_2 : sx_I σ (b + 4) 2 = 0) : Met l yJx4a65c_size_8abf5 (.code yJx4a65c_size_8abf5 cJx4a65c_size_8abf5 1 (some .int) :: lw_g) { frames := 0, cells := 0, slots := 0, locals := 0 } (va_Pc [.ref (b + 4)] (zx_w g σ)) (va_Qi (fun r u => r = 0 ∧ u = σ) (zx_w g) (gx_Q g)) 0 0 (gx_Q g) := by
  refine z_met (by decide) (Nat.le_of_ble_eq_true rfl) (fun p e s m below meth c B hr hin => ?_)
  refine z_eqs (σ' := (ap b σ [] [] [])) rfl ?_
  show zx p l e _ s m _ below meth c g 1 0 0 _ _ 0 [(0, .ref (b + 4))] []
  refine z_aload_n B dJx4a65c_size_8abf5_0 rfl 0 rfl ?_
  refine gf_Jx4a65c_48 (x := 0) B (lKA (hk_K hK 4 rfl rfl)) (rI_at 4 2 hI_4_2) dJx4a65c_size_8abf5_1 ?_
  exact z_iret B hr (by decide) (by decide) dJx4a65c_size_8abf5_4 ⟨rfl, rfl⟩
set_option maxRecDepth 100000 in
set_option maxHeartbeats 4000000 in
theorem ci_X8_passTasks_920 (l : Launch) {g : gx_T} {σ : sx_T} {b : Nat} (hK : lay b σ)   (hI_4_2 : sx_I σ (b + 4) 2 = 0) (hR_0_3 : sx_R σ (b + 0) 3 = (some (b + 4))) : Met l yX8_passTasks (.code yX8_passTasks cX8_passTasks 3 none :: lw_g) { frames := 1, cells := 0, slots := 0, locals := 20 } (va_Pc [.ref (b + 0)] (zx_w g σ)) (va_Qv (fun u => u = σ) (zx_w g) (gx_Q g)) 0 0 (gx_Q g) := by
  refine z_met (by decide) (Nat.le_of_ble_eq_true rfl) (fun p e s m below meth c B hr hin => ?_)
  refine z_eqs (σ' := (ap b σ [] [] [])) rfl ?_
  show zx p l e _ s m _ below meth c g 3 0 0 _ _ 0 [(0, .ref (b + 0))] []
  refine z_iconst (v := 0) B dX8_passTasks_0 (by decide) ?_
  refine z_istore_n (lv' := [(1, .int 0), (0, .ref (b + 0))]) B dX8_passTasks_1 rfl (by decide) rfl ?_
  refine z_iload_n B dX8_passTasks_2 rfl 0 rfl ?_
  refine z_aload_n B dX8_passTasks_3 rfl 1 rfl ?_
  refine gf_X8_28 (x := (some (b + 4))) B (lKA (hk_K hK 0 rfl rfl)) (rR_at 0 3 hR_0_3) dX8_passTasks_4 ?_
  refine z_cVi (As := []) (rest := [.int 0]) B cw_X8_264 cx_0 dX8_passTasks_7 (ci_Jx4a65c_size_8abf5_919 l (σ := (ap b σ [] [] [])) (b := b) (lyA hK) (rI_at 4 2 hI_4_2)) (lKA (hk_K hK 4 rfl rfl)) rfl (by decide) rfl (Nat.le_of_ble_eq_true rfl) (by decide) (fun r u hu => ?_)
  refine z_eqs (σ' := (ap b σ [] [] [])) hu.2 ?_
  show zx p l e _ s m _ below meth c g 3 0 0 _ _ 10 [(1, .int 0), (0, .ref (b + 0))] _
  refine z_seti (y := 0) hu.1 ?_
  refine z_icmp_ge (tgt := 56) B dX8_passTasks_10 (by decide) (fun _ => ?_) (fun h => absurd (by decide) h)
  exact z_vret B hr (by decide) (by decide) dX8_passTasks_56 rfl
set_option maxRecDepth 100000 in
set_option maxHeartbeats 4000000 in
theorem ci_X8_passTimers_921 (l : Launch) {g : gx_T} {σ : sx_T} {b : Nat} (hK : lay b σ)   (hI_0_7 : sx_I σ (b + 0) 7 = 0) : Met l yX8_passTimers (.code yX8_passTimers cX8_passTimers 3 none :: lw_g) { frames := 0, cells := 0, slots := 0, locals := 0 } (va_Pc [.ref (b + 0)] (zx_w g σ)) (va_Qv (fun u => u = σ) (zx_w g) (gx_Q g)) 0 0 (gx_Q g) := by
  refine z_met (by decide) (Nat.le_of_ble_eq_true rfl) (fun p e s m below meth c B hr hin => ?_)
  refine z_eqs (σ' := (ap b σ [] [] [])) rfl ?_
  show zx p l e _ s m _ below meth c g 3 0 0 _ _ 0 [(0, .ref (b + 0))] []
  refine z_iconst (v := 0) B dX8_passTimers_0 (by decide) ?_
  refine z_istore_n (lv' := [(1, .int 0), (0, .ref (b + 0))]) B dX8_passTimers_1 rfl (by decide) rfl ?_
  refine z_iload_n B dX8_passTimers_2 rfl 0 rfl ?_
  refine z_aload_n B dX8_passTimers_3 rfl 1 rfl ?_
  refine gf_X8_96 (x := 0) B (lKA (hk_K hK 0 rfl rfl)) (rI_at 0 7 hI_0_7) dX8_passTimers_4 ?_
  refine z_icmp_ge (tgt := 54) B dX8_passTimers_7 (by decide) (fun _ => ?_) (fun h => absurd (by decide) h)
  exact z_vret B hr (by decide) (by decide) dX8_passTimers_54 rfl
set_option maxRecDepth 100000 in
set_option maxHeartbeats 4000000 in
theorem ci_X8_tick_922 (l : Launch) {g : gx_T} {σ : sx_T} {b : Nat} (hK : lay b σ)   (hI_0_7 : sx_I σ (b + 0) 7 = 0) (hI_0_8 : sx_I σ (b + 0) 8 = 0) (hI_4_2 : sx_I σ (b + 4) 2 = 0) (hR_0_3 : sx_R σ (b + 0) 3 = (some (b + 4))) : Met l yX8_tick (.code yX8_tick cX8_tick 3 (some .int) :: lw_g) { frames := 2, cells := 0, slots := 0, locals := 42 } (va_Pc [.ref (b + 0), .int 1] (zx_w g σ)) (va_Qi (fun r u => r = 1 ∧ u = (ap b σ [(0, 8, 1)] [] [])) (zx_w g) (gx_Q g)) 0 0 (gx_Q g) := by
  refine z_met (by decide) (Nat.le_of_ble_eq_true rfl) (fun p e s m below meth c B hr hin => ?_)
  refine z_eqs (σ' := (ap b σ [] [] [])) rfl ?_
  show zx p l e _ s m _ below meth c g 3 0 0 _ _ 0 [(0, .ref (b + 0)), (1, .int 1)] []
  refine z_iload_n B dX8_tick_0 rfl 1 rfl ?_
  refine z_iconst (v := 1) B dX8_tick_1 (by decide) ?_
  refine z_icmp_lt (tgt := 11) B dX8_tick_2 (by decide) (fun h => absurd h (by decide)) (fun _ => ?_)
  refine z_iload_n B dX8_tick_5 rfl 1 rfl ?_
  refine z_bipush (v := 50) B dX8_tick_6 (by decide) ?_
  refine z_icmp_le (tgt := 21) B dX8_tick_8 (by decide) (fun _ => ?_) (fun h => absurd (by decide) h)
  refine z_iconst (v := 0) B dX8_tick_21 (by decide) ?_
  refine z_istore_n (lv' := [(2, .int 0), (0, .ref (b + 0)), (1, .int 1)]) B dX8_tick_22 rfl (by decide) rfl ?_
  refine z_iload_n B dX8_tick_23 rfl 0 rfl ?_
  refine z_iload_n B dX8_tick_24 rfl 2 rfl ?_
  refine z_icmp_ge (tgt := 52) B dX8_tick_25 (by decide) (fun h => absurd h (by decide)) (fun _ => ?_)
  refine z_aload_n B dX8_tick_28 rfl 1 rfl ?_
  refine z_dup B dX8_tick_29 rfl ?_
  refine gf_X8_206 (x := 0) B (lKA (hk_K hK 0 rfl rfl)) (rI_at 0 8 hI_0_8) dX8_tick_30 ?_
  refine z_iconst (v := 1) B dX8_tick_33 (by decide) ?_
  refine z_iadd B dX8_tick_34 ?_
  refine z_seti (y := 1) (by decide) ?_
  refine pf_X8_206 (x := 1) (σ' := (ap b σ [(0, 8, 1)] [] [])) B (lKA (hk_K hK 0 rfl rfl)) wI_ap dX8_tick_35 ?_
  refine z_aload_n B dX8_tick_38 rfl 1 rfl ?_
  refine z_cVv (As := []) (rest := []) B cw_X8_240 cx_9 dX8_tick_39 (ci_X8_passTasks_920 l (σ := (ap b σ [(0, 8, 1)] [] [])) (b := b) (lyA hK) (rI_at 4 2 hI_4_2) (rR_at 0 3 hR_0_3)) (lKA (hk_K hK 0 rfl rfl)) rfl (by decide) rfl (Nat.le_of_ble_eq_true rfl) (by decide) (fun u hu => ?_)
  refine z_eqs (σ' := (ap b σ [(0, 8, 1)] [] [])) hu ?_
  show zx p l e _ s m _ below meth c g 3 0 0 _ _ 42 [(2, .int 0), (0, .ref (b + 0)), (1, .int 1)] _
  refine z_aload_n B dX8_tick_42 rfl 1 rfl ?_
  refine z_cVv (As := []) (rest := []) B cw_X8_243 cx_9 dX8_tick_43 (ci_X8_passTimers_921 l (σ := (ap b σ [(0, 8, 1)] [] [])) (b := b) (lyA hK) (rI_at 0 7 hI_0_7)) (lKA (hk_K hK 0 rfl rfl)) rfl (by decide) rfl (Nat.le_of_ble_eq_true rfl) (by decide) (fun u hu => ?_)
  refine z_eqs (σ' := (ap b σ [(0, 8, 1)] [] [])) hu ?_
  show zx p l e _ s m _ below meth c g 3 0 0 _ _ 46 [(2, .int 0), (0, .ref (b + 0)), (1, .int 1)] _
  refine z_iinc (v := 1) (lv' := [(2, .int 1), (0, .ref (b + 0)), (1, .int 1)]) B dX8_tick_46 0 rfl (by decide) (by decide) rfl ?_
  refine z_goto (tgt := 23) B dX8_tick_49 (by decide) ?_
  refine z_iload_n B dX8_tick_23 rfl 0 rfl ?_
  refine z_iload_n B dX8_tick_24 rfl 2 rfl ?_
  refine z_icmp_ge (tgt := 52) B dX8_tick_25 (by decide) (fun _ => ?_) (fun h => absurd (by decide) h)
  refine z_aload_n B dX8_tick_52 rfl 1 rfl ?_
  refine gf_X8_206 (x := 1) B (lKA (hk_K hK 0 rfl rfl)) (rI_at 0 8 rfl) dX8_tick_53 ?_
  exact z_iret B hr (by decide) (by decide) dX8_tick_56 ⟨rfl, rfl⟩
set_option maxRecDepth 100000 in
set_option maxHeartbeats 4000000 in
theorem ci_L_tick_923 (l : Launch) {g : gx_T} {σ : sx_T} {b : Nat} (hK : lay b σ)   (hI_0_7 : sx_I σ (b + 0) 7 = 0) (hI_0_8 : sx_I σ (b + 0) 8 = 0) (hI_4_2 : sx_I σ (b + 4) 2 = 0) (hR_0_3 : sx_R σ (b + 0) 3 = (some (b + 4))) : Met l yL_tick (.codeWith yL_tick cL_tick 4 (some .int) [(0, 9, 12, 15)] :: lw_g) { frames := 3, cells := 0, slots := 0, locals := 64 } (va_Pc [.ref (b + 0), .int 1, .ref (b + 431)] (zx_w g σ)) (va_Qi (fun r u => r = 0 ∧ u = (ap b σ [(0, 8, 1)] [(431, 0, 1)] [])) (zx_w g) (gx_Q g)) 0 0 (gx_Q g) := by
  refine z_metW (by decide) (Nat.le_of_ble_eq_true rfl) (fun p e s m below meth c B hr htab => ?_)
  refine z_eqs (σ' := (ap b σ [] [] [])) rfl ?_
  show zx p l e _ s m _ below meth c g 4 0 0 _ _ 0 [(0, .ref (b + 0)), (1, .int 1), (2, .ref (b + 431))] []
  refine z_aload_n B dL_tick_0 rfl 2 rfl ?_
  refine z_iconst (v := 0) B dL_tick_1 (by decide) ?_
  refine z_aload_n B dL_tick_2 rfl 0 rfl ?_
  refine z_iload_n B dL_tick_3 rfl 1 rfl ?_
  refine z_cVi (As := [.int 1]) (rest := [.int 0, .ref (b + 431)]) B cw_L_41 cx_9 dL_tick_4 (ci_X8_tick_922 l (σ := (ap b σ [] [] [])) (b := b) (lyA hK) (rI_at 0 7 hI_0_7) (rI_at 0 8 hI_0_8) (rI_at 4 2 hI_4_2) (rR_at 0 3 hR_0_3)) (lKA (hk_K hK 0 rfl rfl)) rfl (by decide) rfl (Nat.le_of_ble_eq_true rfl) (by decide) (fun r u hu => ?_)
  refine z_eqs (σ' := (ap b σ [(0, 8, 1)] [] [])) (hu.2.trans ap_ap) ?_
  show zx p l e _ s m _ below meth c g 4 0 0 _ _ 7 [(0, .ref (b + 0)), (1, .int 1), (2, .ref (b + 431))] _
  refine z_seti (y := 1) hu.1 ?_
  refine z_i2l (v := 1) B dL_tick_7 (by decide) ?_
  refine z_last (j := 0) (σ' := (ap b σ [(0, 8, 1)] [(431, 0, 1)] [])) B (lKA (hk_K hK 431 rfl rfl)) (by decide) (in_of (lNA (hk_N hK 431 rfl rfl)) (show ¬ ((0 : Int32) < 0 ∨ 1 ≤ (0 : Int32).toNatClampNeg) by decide)) wJ_ap dL_tick_8 ?_
  refine z_goto (tgt := 15) B dL_tick_9 (by decide) ?_
  refine z_iconst (v := 0) B dL_tick_15 (by decide) ?_
  exact z_iret B hr (by decide) (by decide) dL_tick_16 ⟨rfl, rfl⟩
set_option maxRecDepth 100000 in
set_option maxHeartbeats 4000000 in
theorem ci_X9_in_924 (l : Launch) {g : gx_T} {σ : sx_T} {b : Nat} (hK : lay b σ)    : Met l yX9_in (.code yX9_in cX9_in 3 (some .boolean) :: lw_g) { frames := 0, cells := 0, slots := 0, locals := 0 } (va_Pc [.int 1, .int 1, .int 50] (zx_w g σ)) (va_Qi (fun r u => r = 1 ∧ u = σ) (zx_w g) (gx_Q g)) 0 0 (gx_Q g) := by
  refine z_met (by decide) (Nat.le_of_ble_eq_true rfl) (fun p e s m below meth c B hr hin => ?_)
  refine z_eqs (σ' := (ap b σ [] [] [])) rfl ?_
  show zx p l e _ s m _ below meth c g 3 0 0 _ _ 0 [(0, .int 1), (1, .int 1), (2, .int 50)] []
  refine z_iload_n B dX9_in_0 rfl 0 rfl ?_
  refine z_iload_n B dX9_in_1 rfl 1 rfl ?_
  refine z_icmp_lt (tgt := 14) B dX9_in_2 (by decide) (fun h => absurd h (by decide)) (fun _ => ?_)
  refine z_iload_n B dX9_in_5 rfl 0 rfl ?_
  refine z_iload_n B dX9_in_6 rfl 2 rfl ?_
  refine z_icmp_gt (tgt := 14) B dX9_in_7 (by decide) (fun h => absurd h (by decide)) (fun _ => ?_)
  refine z_iconst (v := 1) B dX9_in_10 (by decide) ?_
  refine z_goto (tgt := 15) B dX9_in_11 (by decide) ?_
  exact z_zret B hr (by decide) (by decide) (by decide) dX9_in_15 ⟨rfl, rfl⟩
set_option maxRecDepth 100000 in
set_option maxHeartbeats 4000000 in
theorem ci_X9_ticks_925 (l : Launch) {g : gx_T} {σ : sx_T} {b : Nat} (hK : lay b σ)   (hI_405_1 : sx_I σ (b + 405) 1 = 0) (hI_405_6 : sx_I σ (b + 405) 6 = 0) (hI_405_16 : sx_I σ (b + 405) 16 = 0) : Met l yX9_ticks (.code yX9_ticks cX9_ticks 2 none :: lw_g) { frames := 0, cells := 0, slots := 0, locals := 0 } (va_Pc [.ref (b + 405)] (zx_w g σ)) (va_Qv (fun u => u = (ap b σ [(405, 1, 1)] [] [])) (zx_w g) (gx_Q g)) 0 0 (gx_Q g) := by
  refine z_met (by decide) (Nat.le_of_ble_eq_true rfl) (fun p e s m below meth c B hr hin => ?_)
  refine z_eqs (σ' := (ap b σ [] [] [])) rfl ?_
  show zx p l e _ s m _ below meth c g 2 0 0 _ _ 0 [(0, .ref (b + 405))] []
  refine z_aload_n B dX9_ticks_0 rfl 0 rfl ?_
  refine z_dup B dX9_ticks_1 rfl ?_
  refine gf_X9_197 (x := 0) B (lKA (hk_K hK 405 rfl rfl)) (rI_at 405 1 hI_405_1) dX9_ticks_2 ?_
  refine z_iconst (v := 1) B dX9_ticks_5 (by decide) ?_
  refine z_iadd B dX9_ticks_6 ?_
  refine z_seti (y := 1) (by decide) ?_
  refine pf_X9_197 (x := 1) (σ' := (ap b σ [(405, 1, 1)] [] [])) B (lKA (hk_K hK 405 rfl rfl)) wI_ap dX9_ticks_7 ?_
  refine z_iconst (v := 0) B dX9_ticks_10 (by decide) ?_
  refine z_istore_n (lv' := [(1, .int 0), (0, .ref (b + 405))]) B dX9_ticks_11 rfl (by decide) rfl ?_
  refine z_iload_n B dX9_ticks_12 rfl 0 rfl ?_
  refine z_aload_n B dX9_ticks_13 rfl 1 rfl ?_
  refine gf_X9_100 (x := 0) B (lKA (hk_K hK 405 rfl rfl)) (rI_at 405 16 hI_405_16) dX9_ticks_14 ?_
  refine z_icmp_ge (tgt := 104) B dX9_ticks_17 (by decide) (fun _ => ?_) (fun h => absurd (by decide) h)
  refine z_iconst (v := 0) B dX9_ticks_104 (by decide) ?_
  refine z_istore_n (lv' := [(1, .int 0), (0, .ref (b + 405))]) B dX9_ticks_105 rfl (by decide) rfl ?_
  refine z_iload_n B dX9_ticks_106 rfl 0 rfl ?_
  refine z_aload_n B dX9_ticks_107 rfl 1 rfl ?_
  refine gf_X9_93 (x := 0) B (lKA (hk_K hK 405 rfl rfl)) (rI_at 405 6 hI_405_6) dX9_ticks_108 ?_
  refine z_icmp_ge (tgt := 176) B dX9_ticks_111 (by decide) (fun _ => ?_) (fun h => absurd (by decide) h)
  exact z_vret B hr (by decide) (by decide) dX9_ticks_176 rfl
set_option maxRecDepth 100000 in
set_option maxHeartbeats 4000000 in
theorem ci_X9_tick_926 (l : Launch) {g : gx_T} {σ : sx_T} {b : Nat} (hK : lay b σ)   (hI_405_1 : sx_I σ (b + 405) 1 = 0) (hI_405_6 : sx_I σ (b + 405) 6 = 0) (hI_405_16 : sx_I σ (b + 405) 16 = 0) : Met l yX9_tick (.code yX9_tick cX9_tick 3 (some .int) :: lw_g) { frames := 1, cells := 0, slots := 0, locals := 22 } (va_Pc [.ref (b + 405), .int 1] (zx_w g σ)) (va_Qi (fun r u => r = 1 ∧ u = (ap b σ [(405, 1, 1), (405, 0, 0)] [] [])) (zx_w g) (gx_Q g)) 0 0 (gx_Q g) := by
  refine z_met (by decide) (Nat.le_of_ble_eq_true rfl) (fun p e s m below meth c B hr hin => ?_)
  refine z_eqs (σ' := (ap b σ [] [] [])) rfl ?_
  show zx p l e _ s m _ below meth c g 3 0 0 _ _ 0 [(0, .ref (b + 405)), (1, .int 1)] []
  refine z_aload_n B dX9_tick_0 rfl 0 rfl ?_
  refine z_iload_n B dX9_tick_1 rfl 1 rfl ?_
  refine z_iconst (v := 1) B dX9_tick_2 (by decide) ?_
  refine z_bipush (v := 50) B dX9_tick_3 (by decide) ?_
  refine z_cSi (As := [.int 1, .int 1, .int 50]) (rest := [.ref (b + 405)]) B cw_X9_96 dX9_tick_5 (ci_X9_in_924 l (σ := (ap b σ [] [] [])) (b := b) (lyA hK) ) rfl (by decide) rfl (Nat.le_of_ble_eq_true rfl) (by decide) (fun r u hu => ?_)
  refine z_eqs (σ' := (ap b σ [] [] [])) hu.2 ?_
  show zx p l e _ s m _ below meth c g 3 0 0 _ _ 8 [(0, .ref (b + 405)), (1, .int 1)] _
  refine z_seti (y := 1) hu.1 ?_
  refine z_cVi (As := [.int 1]) (rest := []) B cw_X9_269 cx_10 dX9_tick_8 (ci_X9_needs_905 l (σ := (ap b σ [] [] [])) (b := b) (lyA hK) ) (lKA (hk_K hK 405 rfl rfl)) rfl (by decide) rfl (Nat.le_of_ble_eq_true rfl) (by decide) (fun r u hu => ?_)
  refine z_eqs (σ' := (ap b σ [(405, 0, 0)] [] [])) (hu.2.trans ap_ap) ?_
  show zx p l e _ s m _ below meth c g 3 0 0 _ _ 11 [(0, .ref (b + 405)), (1, .int 1)] _
  refine z_seti (y := 1) hu.1 ?_
  refine z_if_ne (tgt := 16) B dX9_tick_11 (by decide) (fun _ => ?_) (fun h => absurd h (by decide))
  refine z_iconst (v := 0) B dX9_tick_16 (by decide) ?_
  refine z_istore_n (lv' := [(2, .int 0), (0, .ref (b + 405)), (1, .int 1)]) B dX9_tick_17 rfl (by decide) rfl ?_
  refine z_iload_n B dX9_tick_18 rfl 0 rfl ?_
  refine z_iload_n B dX9_tick_19 rfl 2 rfl ?_
  refine z_icmp_ge (tgt := 33) B dX9_tick_20 (by decide) (fun h => absurd h (by decide)) (fun _ => ?_)
  refine z_aload_n B dX9_tick_23 rfl 1 rfl ?_
  refine z_cVv (As := []) (rest := []) B cw_X9_294 cx_10 dX9_tick_24 (ci_X9_ticks_925 l (σ := (ap b σ [(405, 0, 0)] [] [])) (b := b) (lyA hK) (rI_at 405 1 hI_405_1) (rI_at 405 6 hI_405_6) (rI_at 405 16 hI_405_16)) (lKA (hk_K hK 405 rfl rfl)) rfl (by decide) rfl (Nat.le_of_ble_eq_true rfl) (by decide) (fun u hu => ?_)
  refine z_eqs (σ' := (ap b σ [(405, 1, 1), (405, 0, 0)] [] [])) (hu.trans ap_ap) ?_
  show zx p l e _ s m _ below meth c g 3 0 0 _ _ 27 [(2, .int 0), (0, .ref (b + 405)), (1, .int 1)] _
  refine z_iinc (v := 1) (lv' := [(2, .int 1), (0, .ref (b + 405)), (1, .int 1)]) B dX9_tick_27 0 rfl (by decide) (by decide) rfl ?_
  refine z_goto (tgt := 18) B dX9_tick_30 (by decide) ?_
  refine z_iload_n B dX9_tick_18 rfl 0 rfl ?_
  refine z_iload_n B dX9_tick_19 rfl 2 rfl ?_
  refine z_icmp_ge (tgt := 33) B dX9_tick_20 (by decide) (fun _ => ?_) (fun h => absurd (by decide) h)
  refine z_aload_n B dX9_tick_33 rfl 1 rfl ?_
  refine gf_X9_197 (x := 1) B (lKA (hk_K hK 405 rfl rfl)) (rI_at 405 1 rfl) dX9_tick_34 ?_
  exact z_iret B hr (by decide) (by decide) dX9_tick_37 ⟨rfl, rfl⟩
set_option maxRecDepth 100000 in
set_option maxHeartbeats 4000000 in
theorem ci_X8_tick_927 (l : Launch) {g : gx_T} {σ : sx_T} {b : Nat} (hK : lay b σ)   (hI_0_7 : sx_I σ (b + 0) 7 = 0) (hI_0_8 : sx_I σ (b + 0) 8 = 0) (hI_4_2 : sx_I σ (b + 4) 2 = 0) (hR_0_3 : sx_R σ (b + 0) 3 = (some (b + 4))) : Met l yX8_tick (.code yX8_tick cX8_tick 3 (some .int) :: lw_g) { frames := 2, cells := 0, slots := 0, locals := 42 } (va_Pc [.ref (b + 0), .int 2] (zx_w g σ)) (va_Qi (fun r u => r = 2 ∧ u = (ap b σ [(0, 8, 2), (0, 8, 1)] [] [])) (zx_w g) (gx_Q g)) 0 0 (gx_Q g) := by
  refine z_met (by decide) (Nat.le_of_ble_eq_true rfl) (fun p e s m below meth c B hr hin => ?_)
  refine z_eqs (σ' := (ap b σ [] [] [])) rfl ?_
  show zx p l e _ s m _ below meth c g 3 0 0 _ _ 0 [(0, .ref (b + 0)), (1, .int 2)] []
  refine z_iload_n B dX8_tick_0 rfl 1 rfl ?_
  refine z_iconst (v := 1) B dX8_tick_1 (by decide) ?_
  refine z_icmp_lt (tgt := 11) B dX8_tick_2 (by decide) (fun h => absurd h (by decide)) (fun _ => ?_)
  refine z_iload_n B dX8_tick_5 rfl 1 rfl ?_
  refine z_bipush (v := 50) B dX8_tick_6 (by decide) ?_
  refine z_icmp_le (tgt := 21) B dX8_tick_8 (by decide) (fun _ => ?_) (fun h => absurd (by decide) h)
  refine z_iconst (v := 0) B dX8_tick_21 (by decide) ?_
  refine z_istore_n (lv' := [(2, .int 0), (0, .ref (b + 0)), (1, .int 2)]) B dX8_tick_22 rfl (by decide) rfl ?_
  refine z_iload_n B dX8_tick_23 rfl 0 rfl ?_
  refine z_iload_n B dX8_tick_24 rfl 2 rfl ?_
  refine z_icmp_ge (tgt := 52) B dX8_tick_25 (by decide) (fun h => absurd h (by decide)) (fun _ => ?_)
  refine z_aload_n B dX8_tick_28 rfl 1 rfl ?_
  refine z_dup B dX8_tick_29 rfl ?_
  refine gf_X8_206 (x := 0) B (lKA (hk_K hK 0 rfl rfl)) (rI_at 0 8 hI_0_8) dX8_tick_30 ?_
  refine z_iconst (v := 1) B dX8_tick_33 (by decide) ?_
  refine z_iadd B dX8_tick_34 ?_
  refine z_seti (y := 1) (by decide) ?_
  refine pf_X8_206 (x := 1) (σ' := (ap b σ [(0, 8, 1)] [] [])) B (lKA (hk_K hK 0 rfl rfl)) wI_ap dX8_tick_35 ?_
  refine z_aload_n B dX8_tick_38 rfl 1 rfl ?_
  refine z_cVv (As := []) (rest := []) B cw_X8_240 cx_9 dX8_tick_39 (ci_X8_passTasks_920 l (σ := (ap b σ [(0, 8, 1)] [] [])) (b := b) (lyA hK) (rI_at 4 2 hI_4_2) (rR_at 0 3 hR_0_3)) (lKA (hk_K hK 0 rfl rfl)) rfl (by decide) rfl (Nat.le_of_ble_eq_true rfl) (by decide) (fun u hu => ?_)
  refine z_eqs (σ' := (ap b σ [(0, 8, 1)] [] [])) hu ?_
  show zx p l e _ s m _ below meth c g 3 0 0 _ _ 42 [(2, .int 0), (0, .ref (b + 0)), (1, .int 2)] _
  refine z_aload_n B dX8_tick_42 rfl 1 rfl ?_
  refine z_cVv (As := []) (rest := []) B cw_X8_243 cx_9 dX8_tick_43 (ci_X8_passTimers_921 l (σ := (ap b σ [(0, 8, 1)] [] [])) (b := b) (lyA hK) (rI_at 0 7 hI_0_7)) (lKA (hk_K hK 0 rfl rfl)) rfl (by decide) rfl (Nat.le_of_ble_eq_true rfl) (by decide) (fun u hu => ?_)
  refine z_eqs (σ' := (ap b σ [(0, 8, 1)] [] [])) hu ?_
  show zx p l e _ s m _ below meth c g 3 0 0 _ _ 46 [(2, .int 0), (0, .ref (b + 0)), (1, .int 2)] _
  refine z_iinc (v := 1) (lv' := [(2, .int 1), (0, .ref (b + 0)), (1, .int 2)]) B dX8_tick_46 0 rfl (by decide) (by decide) rfl ?_
  refine z_goto (tgt := 23) B dX8_tick_49 (by decide) ?_
  refine z_iload_n B dX8_tick_23 rfl 0 rfl ?_
  refine z_iload_n B dX8_tick_24 rfl 2 rfl ?_
  refine z_icmp_ge (tgt := 52) B dX8_tick_25 (by decide) (fun h => absurd h (by decide)) (fun _ => ?_)
  refine z_aload_n B dX8_tick_28 rfl 1 rfl ?_
  refine z_dup B dX8_tick_29 rfl ?_
  refine gf_X8_206 (x := 1) B (lKA (hk_K hK 0 rfl rfl)) (rI_at 0 8 rfl) dX8_tick_30 ?_
  refine z_iconst (v := 1) B dX8_tick_33 (by decide) ?_
  refine z_iadd B dX8_tick_34 ?_
  refine z_seti (y := 2) (by decide) ?_
  refine pf_X8_206 (x := 2) (σ' := (ap b σ [(0, 8, 2), (0, 8, 1)] [] [])) B (lKA (hk_K hK 0 rfl rfl)) wI_ap dX8_tick_35 ?_
  refine z_aload_n B dX8_tick_38 rfl 1 rfl ?_
  refine z_cVv (As := []) (rest := []) B cw_X8_240 cx_9 dX8_tick_39 (ci_X8_passTasks_920 l (σ := (ap b σ [(0, 8, 2), (0, 8, 1)] [] [])) (b := b) (lyA hK) (rI_at 4 2 hI_4_2) (rR_at 0 3 hR_0_3)) (lKA (hk_K hK 0 rfl rfl)) rfl (by decide) rfl (Nat.le_of_ble_eq_true rfl) (by decide) (fun u hu => ?_)
  refine z_eqs (σ' := (ap b σ [(0, 8, 2), (0, 8, 1)] [] [])) hu ?_
  show zx p l e _ s m _ below meth c g 3 0 0 _ _ 42 [(2, .int 1), (0, .ref (b + 0)), (1, .int 2)] _
  refine z_aload_n B dX8_tick_42 rfl 1 rfl ?_
  refine z_cVv (As := []) (rest := []) B cw_X8_243 cx_9 dX8_tick_43 (ci_X8_passTimers_921 l (σ := (ap b σ [(0, 8, 2), (0, 8, 1)] [] [])) (b := b) (lyA hK) (rI_at 0 7 hI_0_7)) (lKA (hk_K hK 0 rfl rfl)) rfl (by decide) rfl (Nat.le_of_ble_eq_true rfl) (by decide) (fun u hu => ?_)
  refine z_eqs (σ' := (ap b σ [(0, 8, 2), (0, 8, 1)] [] [])) hu ?_
  show zx p l e _ s m _ below meth c g 3 0 0 _ _ 46 [(2, .int 1), (0, .ref (b + 0)), (1, .int 2)] _
  refine z_iinc (v := 2) (lv' := [(2, .int 2), (0, .ref (b + 0)), (1, .int 2)]) B dX8_tick_46 0 rfl (by decide) (by decide) rfl ?_
  refine z_goto (tgt := 23) B dX8_tick_49 (by decide) ?_
  refine z_iload_n B dX8_tick_23 rfl 0 rfl ?_
  refine z_iload_n B dX8_tick_24 rfl 2 rfl ?_
  refine z_icmp_ge (tgt := 52) B dX8_tick_25 (by decide) (fun _ => ?_) (fun h => absurd (by decide) h)
  refine z_aload_n B dX8_tick_52 rfl 1 rfl ?_
  refine gf_X8_206 (x := 2) B (lKA (hk_K hK 0 rfl rfl)) (rI_at 0 8 rfl) dX8_tick_53 ?_
  exact z_iret B hr (by decide) (by decide) dX8_tick_56 ⟨rfl, rfl⟩
set_option maxRecDepth 100000 in
set_option maxHeartbeats 4000000 in
theorem ci_L_tick_928 (l : Launch) {g : gx_T} {σ : sx_T} {b : Nat} (hK : lay b σ)   (hI_0_7 : sx_I σ (b + 0) 7 = 0) (hI_0_8 : sx_I σ (b + 0) 8 = 0) (hI_4_2 : sx_I σ (b + 4) 2 = 0) (hR_0_3 : sx_R σ (b + 0) 3 = (some (b + 4))) : Met l yL_tick (.codeWith yL_tick cL_tick 4 (some .int) [(0, 9, 12, 15)] :: lw_g) { frames := 3, cells := 0, slots := 0, locals := 64 } (va_Pc [.ref (b + 0), .int 2, .ref (b + 431)] (zx_w g σ)) (va_Qi (fun r u => r = 0 ∧ u = (ap b σ [(0, 8, 2), (0, 8, 1)] [(431, 0, 2)] [])) (zx_w g) (gx_Q g)) 0 0 (gx_Q g) := by
  refine z_metW (by decide) (Nat.le_of_ble_eq_true rfl) (fun p e s m below meth c B hr htab => ?_)
  refine z_eqs (σ' := (ap b σ [] [] [])) rfl ?_
  show zx p l e _ s m _ below meth c g 4 0 0 _ _ 0 [(0, .ref (b + 0)), (1, .int 2), (2, .ref (b + 431))] []
  refine z_aload_n B dL_tick_0 rfl 2 rfl ?_
  refine z_iconst (v := 0) B dL_tick_1 (by decide) ?_
  refine z_aload_n B dL_tick_2 rfl 0 rfl ?_
  refine z_iload_n B dL_tick_3 rfl 1 rfl ?_
  refine z_cVi (As := [.int 2]) (rest := [.int 0, .ref (b + 431)]) B cw_L_41 cx_9 dL_tick_4 (ci_X8_tick_927 l (σ := (ap b σ [] [] [])) (b := b) (lyA hK) (rI_at 0 7 hI_0_7) (rI_at 0 8 hI_0_8) (rI_at 4 2 hI_4_2) (rR_at 0 3 hR_0_3)) (lKA (hk_K hK 0 rfl rfl)) rfl (by decide) rfl (Nat.le_of_ble_eq_true rfl) (by decide) (fun r u hu => ?_)
  refine z_eqs (σ' := (ap b σ [(0, 8, 2), (0, 8, 1)] [] [])) (hu.2.trans ap_ap) ?_
  show zx p l e _ s m _ below meth c g 4 0 0 _ _ 7 [(0, .ref (b + 0)), (1, .int 2), (2, .ref (b + 431))] _
  refine z_seti (y := 2) hu.1 ?_
  refine z_i2l (v := 2) B dL_tick_7 (by decide) ?_
  refine z_last (j := 0) (σ' := (ap b σ [(0, 8, 2), (0, 8, 1)] [(431, 0, 2)] [])) B (lKA (hk_K hK 431 rfl rfl)) (by decide) (in_of (lNA (hk_N hK 431 rfl rfl)) (show ¬ ((0 : Int32) < 0 ∨ 1 ≤ (0 : Int32).toNatClampNeg) by decide)) wJ_ap dL_tick_8 ?_
  refine z_goto (tgt := 15) B dL_tick_9 (by decide) ?_
  refine z_iconst (v := 0) B dL_tick_15 (by decide) ?_
  exact z_iret B hr (by decide) (by decide) dL_tick_16 ⟨rfl, rfl⟩
set_option maxRecDepth 100000 in
set_option maxHeartbeats 4000000 in
theorem ci_X9_in_929 (l : Launch) {g : gx_T} {σ : sx_T} {b : Nat} (hK : lay b σ)    : Met l yX9_in (.code yX9_in cX9_in 3 (some .boolean) :: lw_g) { frames := 0, cells := 0, slots := 0, locals := 0 } (va_Pc [.int 2, .int 1, .int 50] (zx_w g σ)) (va_Qi (fun r u => r = 1 ∧ u = σ) (zx_w g) (gx_Q g)) 0 0 (gx_Q g) := by
  refine z_met (by decide) (Nat.le_of_ble_eq_true rfl) (fun p e s m below meth c B hr hin => ?_)
  refine z_eqs (σ' := (ap b σ [] [] [])) rfl ?_
  show zx p l e _ s m _ below meth c g 3 0 0 _ _ 0 [(0, .int 2), (1, .int 1), (2, .int 50)] []
  refine z_iload_n B dX9_in_0 rfl 0 rfl ?_
  refine z_iload_n B dX9_in_1 rfl 1 rfl ?_
  refine z_icmp_lt (tgt := 14) B dX9_in_2 (by decide) (fun h => absurd h (by decide)) (fun _ => ?_)
  refine z_iload_n B dX9_in_5 rfl 0 rfl ?_
  refine z_iload_n B dX9_in_6 rfl 2 rfl ?_
  refine z_icmp_gt (tgt := 14) B dX9_in_7 (by decide) (fun h => absurd h (by decide)) (fun _ => ?_)
  refine z_iconst (v := 1) B dX9_in_10 (by decide) ?_
  refine z_goto (tgt := 15) B dX9_in_11 (by decide) ?_
  exact z_zret B hr (by decide) (by decide) (by decide) dX9_in_15 ⟨rfl, rfl⟩
set_option maxRecDepth 100000 in
set_option maxHeartbeats 4000000 in
theorem ci_X9_ticks_930 (l : Launch) {g : gx_T} {σ : sx_T} {b : Nat} (hK : lay b σ)   (hI_405_1 : sx_I σ (b + 405) 1 = 1) (hI_405_6 : sx_I σ (b + 405) 6 = 0) (hI_405_16 : sx_I σ (b + 405) 16 = 0) : Met l yX9_ticks (.code yX9_ticks cX9_ticks 2 none :: lw_g) { frames := 0, cells := 0, slots := 0, locals := 0 } (va_Pc [.ref (b + 405)] (zx_w g σ)) (va_Qv (fun u => u = (ap b σ [(405, 1, 2)] [] [])) (zx_w g) (gx_Q g)) 0 0 (gx_Q g) := by
  refine z_met (by decide) (Nat.le_of_ble_eq_true rfl) (fun p e s m below meth c B hr hin => ?_)
  refine z_eqs (σ' := (ap b σ [] [] [])) rfl ?_
  show zx p l e _ s m _ below meth c g 2 0 0 _ _ 0 [(0, .ref (b + 405))] []
  refine z_aload_n B dX9_ticks_0 rfl 0 rfl ?_
  refine z_dup B dX9_ticks_1 rfl ?_
  refine gf_X9_197 (x := 1) B (lKA (hk_K hK 405 rfl rfl)) (rI_at 405 1 hI_405_1) dX9_ticks_2 ?_
  refine z_iconst (v := 1) B dX9_ticks_5 (by decide) ?_
  refine z_iadd B dX9_ticks_6 ?_
  refine z_seti (y := 2) (by decide) ?_
  refine pf_X9_197 (x := 2) (σ' := (ap b σ [(405, 1, 2)] [] [])) B (lKA (hk_K hK 405 rfl rfl)) wI_ap dX9_ticks_7 ?_
  refine z_iconst (v := 0) B dX9_ticks_10 (by decide) ?_
  refine z_istore_n (lv' := [(1, .int 0), (0, .ref (b + 405))]) B dX9_ticks_11 rfl (by decide) rfl ?_
  refine z_iload_n B dX9_ticks_12 rfl 0 rfl ?_
  refine z_aload_n B dX9_ticks_13 rfl 1 rfl ?_
  refine gf_X9_100 (x := 0) B (lKA (hk_K hK 405 rfl rfl)) (rI_at 405 16 hI_405_16) dX9_ticks_14 ?_
  refine z_icmp_ge (tgt := 104) B dX9_ticks_17 (by decide) (fun _ => ?_) (fun h => absurd (by decide) h)
  refine z_iconst (v := 0) B dX9_ticks_104 (by decide) ?_
  refine z_istore_n (lv' := [(1, .int 0), (0, .ref (b + 405))]) B dX9_ticks_105 rfl (by decide) rfl ?_
  refine z_iload_n B dX9_ticks_106 rfl 0 rfl ?_
  refine z_aload_n B dX9_ticks_107 rfl 1 rfl ?_
  refine gf_X9_93 (x := 0) B (lKA (hk_K hK 405 rfl rfl)) (rI_at 405 6 hI_405_6) dX9_ticks_108 ?_
  refine z_icmp_ge (tgt := 176) B dX9_ticks_111 (by decide) (fun _ => ?_) (fun h => absurd (by decide) h)
  exact z_vret B hr (by decide) (by decide) dX9_ticks_176 rfl
set_option maxRecDepth 100000 in
set_option maxHeartbeats 4000000 in
theorem ci_X9_tick_931 (l : Launch) {g : gx_T} {σ : sx_T} {b : Nat} (hK : lay b σ)   (hI_405_1 : sx_I σ (b + 405) 1 = 0) (hI_405_6 : sx_I σ (b + 405) 6 = 0) (hI_405_16 : sx_I σ (b + 405) 16 = 0) : Met l yX9_tick (.code yX9_tick cX9_tick 3 (some .int) :: lw_g) { frames := 1, cells := 0, slots := 0, locals := 22 } (va_Pc [.ref (b + 405), .int 2] (zx_w g σ)) (va_Qi (fun r u => r = 2 ∧ u = (ap b σ [(405, 1, 2), (405, 1, 1), (405, 0, 0)] [] [])) (zx_w g) (gx_Q g)) 0 0 (gx_Q g) := by
  refine z_met (by decide) (Nat.le_of_ble_eq_true rfl) (fun p e s m below meth c B hr hin => ?_)
  refine z_eqs (σ' := (ap b σ [] [] [])) rfl ?_
  show zx p l e _ s m _ below meth c g 3 0 0 _ _ 0 [(0, .ref (b + 405)), (1, .int 2)] []
  refine z_aload_n B dX9_tick_0 rfl 0 rfl ?_
  refine z_iload_n B dX9_tick_1 rfl 1 rfl ?_
  refine z_iconst (v := 1) B dX9_tick_2 (by decide) ?_
  refine z_bipush (v := 50) B dX9_tick_3 (by decide) ?_
  refine z_cSi (As := [.int 2, .int 1, .int 50]) (rest := [.ref (b + 405)]) B cw_X9_96 dX9_tick_5 (ci_X9_in_929 l (σ := (ap b σ [] [] [])) (b := b) (lyA hK) ) rfl (by decide) rfl (Nat.le_of_ble_eq_true rfl) (by decide) (fun r u hu => ?_)
  refine z_eqs (σ' := (ap b σ [] [] [])) hu.2 ?_
  show zx p l e _ s m _ below meth c g 3 0 0 _ _ 8 [(0, .ref (b + 405)), (1, .int 2)] _
  refine z_seti (y := 1) hu.1 ?_
  refine z_cVi (As := [.int 1]) (rest := []) B cw_X9_269 cx_10 dX9_tick_8 (ci_X9_needs_905 l (σ := (ap b σ [] [] [])) (b := b) (lyA hK) ) (lKA (hk_K hK 405 rfl rfl)) rfl (by decide) rfl (Nat.le_of_ble_eq_true rfl) (by decide) (fun r u hu => ?_)
  refine z_eqs (σ' := (ap b σ [(405, 0, 0)] [] [])) (hu.2.trans ap_ap) ?_
  show zx p l e _ s m _ below meth c g 3 0 0 _ _ 11 [(0, .ref (b + 405)), (1, .int 2)] _
  refine z_seti (y := 1) hu.1 ?_
  refine z_if_ne (tgt := 16) B dX9_tick_11 (by decide) (fun _ => ?_) (fun h => absurd h (by decide))
  refine z_iconst (v := 0) B dX9_tick_16 (by decide) ?_
  refine z_istore_n (lv' := [(2, .int 0), (0, .ref (b + 405)), (1, .int 2)]) B dX9_tick_17 rfl (by decide) rfl ?_
  refine z_iload_n B dX9_tick_18 rfl 0 rfl ?_
  refine z_iload_n B dX9_tick_19 rfl 2 rfl ?_
  refine z_icmp_ge (tgt := 33) B dX9_tick_20 (by decide) (fun h => absurd h (by decide)) (fun _ => ?_)
  refine z_aload_n B dX9_tick_23 rfl 1 rfl ?_
  refine z_cVv (As := []) (rest := []) B cw_X9_294 cx_10 dX9_tick_24 (ci_X9_ticks_925 l (σ := (ap b σ [(405, 0, 0)] [] [])) (b := b) (lyA hK) (rI_at 405 1 hI_405_1) (rI_at 405 6 hI_405_6) (rI_at 405 16 hI_405_16)) (lKA (hk_K hK 405 rfl rfl)) rfl (by decide) rfl (Nat.le_of_ble_eq_true rfl) (by decide) (fun u hu => ?_)
  refine z_eqs (σ' := (ap b σ [(405, 1, 1), (405, 0, 0)] [] [])) (hu.trans ap_ap) ?_
  show zx p l e _ s m _ below meth c g 3 0 0 _ _ 27 [(2, .int 0), (0, .ref (b + 405)), (1, .int 2)] _
  refine z_iinc (v := 1) (lv' := [(2, .int 1), (0, .ref (b + 405)), (1, .int 2)]) B dX9_tick_27 0 rfl (by decide) (by decide) rfl ?_
  refine z_goto (tgt := 18) B dX9_tick_30 (by decide) ?_
  refine z_iload_n B dX9_tick_18 rfl 0 rfl ?_
  refine z_iload_n B dX9_tick_19 rfl 2 rfl ?_
  refine z_icmp_ge (tgt := 33) B dX9_tick_20 (by decide) (fun h => absurd h (by decide)) (fun _ => ?_)
  refine z_aload_n B dX9_tick_23 rfl 1 rfl ?_
  refine z_cVv (As := []) (rest := []) B cw_X9_294 cx_10 dX9_tick_24 (ci_X9_ticks_930 l (σ := (ap b σ [(405, 1, 1), (405, 0, 0)] [] [])) (b := b) (lyA hK) (rI_at 405 1 rfl) (rI_at 405 6 hI_405_6) (rI_at 405 16 hI_405_16)) (lKA (hk_K hK 405 rfl rfl)) rfl (by decide) rfl (Nat.le_of_ble_eq_true rfl) (by decide) (fun u hu => ?_)
  refine z_eqs (σ' := (ap b σ [(405, 1, 2), (405, 1, 1), (405, 0, 0)] [] [])) (hu.trans ap_ap) ?_
  show zx p l e _ s m _ below meth c g 3 0 0 _ _ 27 [(2, .int 1), (0, .ref (b + 405)), (1, .int 2)] _
  refine z_iinc (v := 2) (lv' := [(2, .int 2), (0, .ref (b + 405)), (1, .int 2)]) B dX9_tick_27 0 rfl (by decide) (by decide) rfl ?_
  refine z_goto (tgt := 18) B dX9_tick_30 (by decide) ?_
  refine z_iload_n B dX9_tick_18 rfl 0 rfl ?_
  refine z_iload_n B dX9_tick_19 rfl 2 rfl ?_
  refine z_icmp_ge (tgt := 33) B dX9_tick_20 (by decide) (fun _ => ?_) (fun h => absurd (by decide) h)
  refine z_aload_n B dX9_tick_33 rfl 1 rfl ?_
  refine gf_X9_197 (x := 2) B (lKA (hk_K hK 405 rfl rfl)) (rI_at 405 1 rfl) dX9_tick_34 ?_
  exact z_iret B hr (by decide) (by decide) dX9_tick_37 ⟨rfl, rfl⟩
set_option maxRecDepth 100000 in
set_option maxHeartbeats 4000000 in
theorem ci_X8_tick_932 (l : Launch) {g : gx_T} {σ : sx_T} {b : Nat} (hK : lay b σ)   (hI_0_7 : sx_I σ (b + 0) 7 = 0) (hI_0_8 : sx_I σ (b + 0) 8 = 0) (hI_4_2 : sx_I σ (b + 4) 2 = 0) (hR_0_3 : sx_R σ (b + 0) 3 = (some (b + 4))) : Met l yX8_tick (.code yX8_tick cX8_tick 3 (some .int) :: lw_g) { frames := 2, cells := 0, slots := 0, locals := 42 } (va_Pc [.ref (b + 0), .int 3] (zx_w g σ)) (va_Qi (fun r u => r = 3 ∧ u = (ap b σ [(0, 8, 3), (0, 8, 2), (0, 8, 1)] [] [])) (zx_w g) (gx_Q g)) 0 0 (gx_Q g) := by
  refine z_met (by decide) (Nat.le_of_ble_eq_true rfl) (fun p e s m below meth c B hr hin => ?_)
  refine z_eqs (σ' := (ap b σ [] [] [])) rfl ?_
  show zx p l e _ s m _ below meth c g 3 0 0 _ _ 0 [(0, .ref (b + 0)), (1, .int 3)] []
  refine z_iload_n B dX8_tick_0 rfl 1 rfl ?_
  refine z_iconst (v := 1) B dX8_tick_1 (by decide) ?_
  refine z_icmp_lt (tgt := 11) B dX8_tick_2 (by decide) (fun h => absurd h (by decide)) (fun _ => ?_)
  refine z_iload_n B dX8_tick_5 rfl 1 rfl ?_
  refine z_bipush (v := 50) B dX8_tick_6 (by decide) ?_
  refine z_icmp_le (tgt := 21) B dX8_tick_8 (by decide) (fun _ => ?_) (fun h => absurd (by decide) h)
  refine z_iconst (v := 0) B dX8_tick_21 (by decide) ?_
  refine z_istore_n (lv' := [(2, .int 0), (0, .ref (b + 0)), (1, .int 3)]) B dX8_tick_22 rfl (by decide) rfl ?_
  refine z_iload_n B dX8_tick_23 rfl 0 rfl ?_
  refine z_iload_n B dX8_tick_24 rfl 2 rfl ?_
  refine z_icmp_ge (tgt := 52) B dX8_tick_25 (by decide) (fun h => absurd h (by decide)) (fun _ => ?_)
  refine z_aload_n B dX8_tick_28 rfl 1 rfl ?_
  refine z_dup B dX8_tick_29 rfl ?_
  refine gf_X8_206 (x := 0) B (lKA (hk_K hK 0 rfl rfl)) (rI_at 0 8 hI_0_8) dX8_tick_30 ?_
  refine z_iconst (v := 1) B dX8_tick_33 (by decide) ?_
  refine z_iadd B dX8_tick_34 ?_
  refine z_seti (y := 1) (by decide) ?_
  refine pf_X8_206 (x := 1) (σ' := (ap b σ [(0, 8, 1)] [] [])) B (lKA (hk_K hK 0 rfl rfl)) wI_ap dX8_tick_35 ?_
  refine z_aload_n B dX8_tick_38 rfl 1 rfl ?_
  refine z_cVv (As := []) (rest := []) B cw_X8_240 cx_9 dX8_tick_39 (ci_X8_passTasks_920 l (σ := (ap b σ [(0, 8, 1)] [] [])) (b := b) (lyA hK) (rI_at 4 2 hI_4_2) (rR_at 0 3 hR_0_3)) (lKA (hk_K hK 0 rfl rfl)) rfl (by decide) rfl (Nat.le_of_ble_eq_true rfl) (by decide) (fun u hu => ?_)
  refine z_eqs (σ' := (ap b σ [(0, 8, 1)] [] [])) hu ?_
  show zx p l e _ s m _ below meth c g 3 0 0 _ _ 42 [(2, .int 0), (0, .ref (b + 0)), (1, .int 3)] _
  refine z_aload_n B dX8_tick_42 rfl 1 rfl ?_
  refine z_cVv (As := []) (rest := []) B cw_X8_243 cx_9 dX8_tick_43 (ci_X8_passTimers_921 l (σ := (ap b σ [(0, 8, 1)] [] [])) (b := b) (lyA hK) (rI_at 0 7 hI_0_7)) (lKA (hk_K hK 0 rfl rfl)) rfl (by decide) rfl (Nat.le_of_ble_eq_true rfl) (by decide) (fun u hu => ?_)
  refine z_eqs (σ' := (ap b σ [(0, 8, 1)] [] [])) hu ?_
  show zx p l e _ s m _ below meth c g 3 0 0 _ _ 46 [(2, .int 0), (0, .ref (b + 0)), (1, .int 3)] _
  refine z_iinc (v := 1) (lv' := [(2, .int 1), (0, .ref (b + 0)), (1, .int 3)]) B dX8_tick_46 0 rfl (by decide) (by decide) rfl ?_
  refine z_goto (tgt := 23) B dX8_tick_49 (by decide) ?_
  refine z_iload_n B dX8_tick_23 rfl 0 rfl ?_
  refine z_iload_n B dX8_tick_24 rfl 2 rfl ?_
  refine z_icmp_ge (tgt := 52) B dX8_tick_25 (by decide) (fun h => absurd h (by decide)) (fun _ => ?_)
  refine z_aload_n B dX8_tick_28 rfl 1 rfl ?_
  refine z_dup B dX8_tick_29 rfl ?_
  refine gf_X8_206 (x := 1) B (lKA (hk_K hK 0 rfl rfl)) (rI_at 0 8 rfl) dX8_tick_30 ?_
  refine z_iconst (v := 1) B dX8_tick_33 (by decide) ?_
  refine z_iadd B dX8_tick_34 ?_
  refine z_seti (y := 2) (by decide) ?_
  refine pf_X8_206 (x := 2) (σ' := (ap b σ [(0, 8, 2), (0, 8, 1)] [] [])) B (lKA (hk_K hK 0 rfl rfl)) wI_ap dX8_tick_35 ?_
  refine z_aload_n B dX8_tick_38 rfl 1 rfl ?_
  refine z_cVv (As := []) (rest := []) B cw_X8_240 cx_9 dX8_tick_39 (ci_X8_passTasks_920 l (σ := (ap b σ [(0, 8, 2), (0, 8, 1)] [] [])) (b := b) (lyA hK) (rI_at 4 2 hI_4_2) (rR_at 0 3 hR_0_3)) (lKA (hk_K hK 0 rfl rfl)) rfl (by decide) rfl (Nat.le_of_ble_eq_true rfl) (by decide) (fun u hu => ?_)
  refine z_eqs (σ' := (ap b σ [(0, 8, 2), (0, 8, 1)] [] [])) hu ?_
  show zx p l e _ s m _ below meth c g 3 0 0 _ _ 42 [(2, .int 1), (0, .ref (b + 0)), (1, .int 3)] _
  refine z_aload_n B dX8_tick_42 rfl 1 rfl ?_
  refine z_cVv (As := []) (rest := []) B cw_X8_243 cx_9 dX8_tick_43 (ci_X8_passTimers_921 l (σ := (ap b σ [(0, 8, 2), (0, 8, 1)] [] [])) (b := b) (lyA hK) (rI_at 0 7 hI_0_7)) (lKA (hk_K hK 0 rfl rfl)) rfl (by decide) rfl (Nat.le_of_ble_eq_true rfl) (by decide) (fun u hu => ?_)
  refine z_eqs (σ' := (ap b σ [(0, 8, 2), (0, 8, 1)] [] [])) hu ?_
  show zx p l e _ s m _ below meth c g 3 0 0 _ _ 46 [(2, .int 1), (0, .ref (b + 0)), (1, .int 3)] _
  refine z_iinc (v := 2) (lv' := [(2, .int 2), (0, .ref (b + 0)), (1, .int 3)]) B dX8_tick_46 0 rfl (by decide) (by decide) rfl ?_
  refine z_goto (tgt := 23) B dX8_tick_49 (by decide) ?_
  refine z_iload_n B dX8_tick_23 rfl 0 rfl ?_
  refine z_iload_n B dX8_tick_24 rfl 2 rfl ?_
  refine z_icmp_ge (tgt := 52) B dX8_tick_25 (by decide) (fun h => absurd h (by decide)) (fun _ => ?_)
  refine z_aload_n B dX8_tick_28 rfl 1 rfl ?_
  refine z_dup B dX8_tick_29 rfl ?_
  refine gf_X8_206 (x := 2) B (lKA (hk_K hK 0 rfl rfl)) (rI_at 0 8 rfl) dX8_tick_30 ?_
  refine z_iconst (v := 1) B dX8_tick_33 (by decide) ?_
  refine z_iadd B dX8_tick_34 ?_
  refine z_seti (y := 3) (by decide) ?_
  refine pf_X8_206 (x := 3) (σ' := (ap b σ [(0, 8, 3), (0, 8, 2), (0, 8, 1)] [] [])) B (lKA (hk_K hK 0 rfl rfl)) wI_ap dX8_tick_35 ?_
  refine z_aload_n B dX8_tick_38 rfl 1 rfl ?_
  refine z_cVv (As := []) (rest := []) B cw_X8_240 cx_9 dX8_tick_39 (ci_X8_passTasks_920 l (σ := (ap b σ [(0, 8, 3), (0, 8, 2), (0, 8, 1)] [] [])) (b := b) (lyA hK) (rI_at 4 2 hI_4_2) (rR_at 0 3 hR_0_3)) (lKA (hk_K hK 0 rfl rfl)) rfl (by decide) rfl (Nat.le_of_ble_eq_true rfl) (by decide) (fun u hu => ?_)
  refine z_eqs (σ' := (ap b σ [(0, 8, 3), (0, 8, 2), (0, 8, 1)] [] [])) hu ?_
  show zx p l e _ s m _ below meth c g 3 0 0 _ _ 42 [(2, .int 2), (0, .ref (b + 0)), (1, .int 3)] _
  refine z_aload_n B dX8_tick_42 rfl 1 rfl ?_
  refine z_cVv (As := []) (rest := []) B cw_X8_243 cx_9 dX8_tick_43 (ci_X8_passTimers_921 l (σ := (ap b σ [(0, 8, 3), (0, 8, 2), (0, 8, 1)] [] [])) (b := b) (lyA hK) (rI_at 0 7 hI_0_7)) (lKA (hk_K hK 0 rfl rfl)) rfl (by decide) rfl (Nat.le_of_ble_eq_true rfl) (by decide) (fun u hu => ?_)
  refine z_eqs (σ' := (ap b σ [(0, 8, 3), (0, 8, 2), (0, 8, 1)] [] [])) hu ?_
  show zx p l e _ s m _ below meth c g 3 0 0 _ _ 46 [(2, .int 2), (0, .ref (b + 0)), (1, .int 3)] _
  refine z_iinc (v := 3) (lv' := [(2, .int 3), (0, .ref (b + 0)), (1, .int 3)]) B dX8_tick_46 0 rfl (by decide) (by decide) rfl ?_
  refine z_goto (tgt := 23) B dX8_tick_49 (by decide) ?_
  refine z_iload_n B dX8_tick_23 rfl 0 rfl ?_
  refine z_iload_n B dX8_tick_24 rfl 2 rfl ?_
  refine z_icmp_ge (tgt := 52) B dX8_tick_25 (by decide) (fun _ => ?_) (fun h => absurd (by decide) h)
  refine z_aload_n B dX8_tick_52 rfl 1 rfl ?_
  refine gf_X8_206 (x := 3) B (lKA (hk_K hK 0 rfl rfl)) (rI_at 0 8 rfl) dX8_tick_53 ?_
  exact z_iret B hr (by decide) (by decide) dX8_tick_56 ⟨rfl, rfl⟩
set_option maxRecDepth 100000 in
set_option maxHeartbeats 4000000 in
theorem ci_L_tick_933 (l : Launch) {g : gx_T} {σ : sx_T} {b : Nat} (hK : lay b σ)   (hI_0_7 : sx_I σ (b + 0) 7 = 0) (hI_0_8 : sx_I σ (b + 0) 8 = 0) (hI_4_2 : sx_I σ (b + 4) 2 = 0) (hR_0_3 : sx_R σ (b + 0) 3 = (some (b + 4))) : Met l yL_tick (.codeWith yL_tick cL_tick 4 (some .int) [(0, 9, 12, 15)] :: lw_g) { frames := 3, cells := 0, slots := 0, locals := 64 } (va_Pc [.ref (b + 0), .int 3, .ref (b + 431)] (zx_w g σ)) (va_Qi (fun r u => r = 0 ∧ u = (ap b σ [(0, 8, 3), (0, 8, 2), (0, 8, 1)] [(431, 0, 3)] [])) (zx_w g) (gx_Q g)) 0 0 (gx_Q g) := by
  refine z_metW (by decide) (Nat.le_of_ble_eq_true rfl) (fun p e s m below meth c B hr htab => ?_)
  refine z_eqs (σ' := (ap b σ [] [] [])) rfl ?_
  show zx p l e _ s m _ below meth c g 4 0 0 _ _ 0 [(0, .ref (b + 0)), (1, .int 3), (2, .ref (b + 431))] []
  refine z_aload_n B dL_tick_0 rfl 2 rfl ?_
  refine z_iconst (v := 0) B dL_tick_1 (by decide) ?_
  refine z_aload_n B dL_tick_2 rfl 0 rfl ?_
  refine z_iload_n B dL_tick_3 rfl 1 rfl ?_
  refine z_cVi (As := [.int 3]) (rest := [.int 0, .ref (b + 431)]) B cw_L_41 cx_9 dL_tick_4 (ci_X8_tick_932 l (σ := (ap b σ [] [] [])) (b := b) (lyA hK) (rI_at 0 7 hI_0_7) (rI_at 0 8 hI_0_8) (rI_at 4 2 hI_4_2) (rR_at 0 3 hR_0_3)) (lKA (hk_K hK 0 rfl rfl)) rfl (by decide) rfl (Nat.le_of_ble_eq_true rfl) (by decide) (fun r u hu => ?_)
  refine z_eqs (σ' := (ap b σ [(0, 8, 3), (0, 8, 2), (0, 8, 1)] [] [])) (hu.2.trans ap_ap) ?_
  show zx p l e _ s m _ below meth c g 4 0 0 _ _ 7 [(0, .ref (b + 0)), (1, .int 3), (2, .ref (b + 431))] _
  refine z_seti (y := 3) hu.1 ?_
  refine z_i2l (v := 3) B dL_tick_7 (by decide) ?_
  refine z_last (j := 0) (σ' := (ap b σ [(0, 8, 3), (0, 8, 2), (0, 8, 1)] [(431, 0, 3)] [])) B (lKA (hk_K hK 431 rfl rfl)) (by decide) (in_of (lNA (hk_N hK 431 rfl rfl)) (show ¬ ((0 : Int32) < 0 ∨ 1 ≤ (0 : Int32).toNatClampNeg) by decide)) wJ_ap dL_tick_8 ?_
  refine z_goto (tgt := 15) B dL_tick_9 (by decide) ?_
  refine z_iconst (v := 0) B dL_tick_15 (by decide) ?_
  exact z_iret B hr (by decide) (by decide) dL_tick_16 ⟨rfl, rfl⟩
set_option maxRecDepth 100000 in
set_option maxHeartbeats 4000000 in
theorem ci_X9_in_934 (l : Launch) {g : gx_T} {σ : sx_T} {b : Nat} (hK : lay b σ)    : Met l yX9_in (.code yX9_in cX9_in 3 (some .boolean) :: lw_g) { frames := 0, cells := 0, slots := 0, locals := 0 } (va_Pc [.int 3, .int 1, .int 50] (zx_w g σ)) (va_Qi (fun r u => r = 1 ∧ u = σ) (zx_w g) (gx_Q g)) 0 0 (gx_Q g) := by
  refine z_met (by decide) (Nat.le_of_ble_eq_true rfl) (fun p e s m below meth c B hr hin => ?_)
  refine z_eqs (σ' := (ap b σ [] [] [])) rfl ?_
  show zx p l e _ s m _ below meth c g 3 0 0 _ _ 0 [(0, .int 3), (1, .int 1), (2, .int 50)] []
  refine z_iload_n B dX9_in_0 rfl 0 rfl ?_
  refine z_iload_n B dX9_in_1 rfl 1 rfl ?_
  refine z_icmp_lt (tgt := 14) B dX9_in_2 (by decide) (fun h => absurd h (by decide)) (fun _ => ?_)
  refine z_iload_n B dX9_in_5 rfl 0 rfl ?_
  refine z_iload_n B dX9_in_6 rfl 2 rfl ?_
  refine z_icmp_gt (tgt := 14) B dX9_in_7 (by decide) (fun h => absurd h (by decide)) (fun _ => ?_)
  refine z_iconst (v := 1) B dX9_in_10 (by decide) ?_
  refine z_goto (tgt := 15) B dX9_in_11 (by decide) ?_
  exact z_zret B hr (by decide) (by decide) (by decide) dX9_in_15 ⟨rfl, rfl⟩
set_option maxRecDepth 100000 in
set_option maxHeartbeats 4000000 in
theorem ci_X9_ticks_935 (l : Launch) {g : gx_T} {σ : sx_T} {b : Nat} (hK : lay b σ)   (hI_405_1 : sx_I σ (b + 405) 1 = 2) (hI_405_6 : sx_I σ (b + 405) 6 = 0) (hI_405_16 : sx_I σ (b + 405) 16 = 0) : Met l yX9_ticks (.code yX9_ticks cX9_ticks 2 none :: lw_g) { frames := 0, cells := 0, slots := 0, locals := 0 } (va_Pc [.ref (b + 405)] (zx_w g σ)) (va_Qv (fun u => u = (ap b σ [(405, 1, 3)] [] [])) (zx_w g) (gx_Q g)) 0 0 (gx_Q g) := by
  refine z_met (by decide) (Nat.le_of_ble_eq_true rfl) (fun p e s m below meth c B hr hin => ?_)
  refine z_eqs (σ' := (ap b σ [] [] [])) rfl ?_
  show zx p l e _ s m _ below meth c g 2 0 0 _ _ 0 [(0, .ref (b + 405))] []
  refine z_aload_n B dX9_ticks_0 rfl 0 rfl ?_
  refine z_dup B dX9_ticks_1 rfl ?_
  refine gf_X9_197 (x := 2) B (lKA (hk_K hK 405 rfl rfl)) (rI_at 405 1 hI_405_1) dX9_ticks_2 ?_
  refine z_iconst (v := 1) B dX9_ticks_5 (by decide) ?_
  refine z_iadd B dX9_ticks_6 ?_
  refine z_seti (y := 3) (by decide) ?_
  refine pf_X9_197 (x := 3) (σ' := (ap b σ [(405, 1, 3)] [] [])) B (lKA (hk_K hK 405 rfl rfl)) wI_ap dX9_ticks_7 ?_
  refine z_iconst (v := 0) B dX9_ticks_10 (by decide) ?_
  refine z_istore_n (lv' := [(1, .int 0), (0, .ref (b + 405))]) B dX9_ticks_11 rfl (by decide) rfl ?_
  refine z_iload_n B dX9_ticks_12 rfl 0 rfl ?_
  refine z_aload_n B dX9_ticks_13 rfl 1 rfl ?_
  refine gf_X9_100 (x := 0) B (lKA (hk_K hK 405 rfl rfl)) (rI_at 405 16 hI_405_16) dX9_ticks_14 ?_
  refine z_icmp_ge (tgt := 104) B dX9_ticks_17 (by decide) (fun _ => ?_) (fun h => absurd (by decide) h)
  refine z_iconst (v := 0) B dX9_ticks_104 (by decide) ?_
  refine z_istore_n (lv' := [(1, .int 0), (0, .ref (b + 405))]) B dX9_ticks_105 rfl (by decide) rfl ?_
  refine z_iload_n B dX9_ticks_106 rfl 0 rfl ?_
  refine z_aload_n B dX9_ticks_107 rfl 1 rfl ?_
  refine gf_X9_93 (x := 0) B (lKA (hk_K hK 405 rfl rfl)) (rI_at 405 6 hI_405_6) dX9_ticks_108 ?_
  refine z_icmp_ge (tgt := 176) B dX9_ticks_111 (by decide) (fun _ => ?_) (fun h => absurd (by decide) h)
  exact z_vret B hr (by decide) (by decide) dX9_ticks_176 rfl
set_option maxRecDepth 100000 in
set_option maxHeartbeats 4000000 in
theorem ci_X9_tick_936 (l : Launch) {g : gx_T} {σ : sx_T} {b : Nat} (hK : lay b σ)   (hI_405_1 : sx_I σ (b + 405) 1 = 0) (hI_405_6 : sx_I σ (b + 405) 6 = 0) (hI_405_16 : sx_I σ (b + 405) 16 = 0) : Met l yX9_tick (.code yX9_tick cX9_tick 3 (some .int) :: lw_g) { frames := 1, cells := 0, slots := 0, locals := 22 } (va_Pc [.ref (b + 405), .int 3] (zx_w g σ)) (va_Qi (fun r u => r = 3 ∧ u = (ap b σ [(405, 1, 3), (405, 1, 2), (405, 1, 1), (405, 0, 0)] [] [])) (zx_w g) (gx_Q g)) 0 0 (gx_Q g) := by
  refine z_met (by decide) (Nat.le_of_ble_eq_true rfl) (fun p e s m below meth c B hr hin => ?_)
  refine z_eqs (σ' := (ap b σ [] [] [])) rfl ?_
  show zx p l e _ s m _ below meth c g 3 0 0 _ _ 0 [(0, .ref (b + 405)), (1, .int 3)] []
  refine z_aload_n B dX9_tick_0 rfl 0 rfl ?_
  refine z_iload_n B dX9_tick_1 rfl 1 rfl ?_
  refine z_iconst (v := 1) B dX9_tick_2 (by decide) ?_
  refine z_bipush (v := 50) B dX9_tick_3 (by decide) ?_
  refine z_cSi (As := [.int 3, .int 1, .int 50]) (rest := [.ref (b + 405)]) B cw_X9_96 dX9_tick_5 (ci_X9_in_934 l (σ := (ap b σ [] [] [])) (b := b) (lyA hK) ) rfl (by decide) rfl (Nat.le_of_ble_eq_true rfl) (by decide) (fun r u hu => ?_)
  refine z_eqs (σ' := (ap b σ [] [] [])) hu.2 ?_
  show zx p l e _ s m _ below meth c g 3 0 0 _ _ 8 [(0, .ref (b + 405)), (1, .int 3)] _
  refine z_seti (y := 1) hu.1 ?_
  refine z_cVi (As := [.int 1]) (rest := []) B cw_X9_269 cx_10 dX9_tick_8 (ci_X9_needs_905 l (σ := (ap b σ [] [] [])) (b := b) (lyA hK) ) (lKA (hk_K hK 405 rfl rfl)) rfl (by decide) rfl (Nat.le_of_ble_eq_true rfl) (by decide) (fun r u hu => ?_)
  refine z_eqs (σ' := (ap b σ [(405, 0, 0)] [] [])) (hu.2.trans ap_ap) ?_
  show zx p l e _ s m _ below meth c g 3 0 0 _ _ 11 [(0, .ref (b + 405)), (1, .int 3)] _
  refine z_seti (y := 1) hu.1 ?_
  refine z_if_ne (tgt := 16) B dX9_tick_11 (by decide) (fun _ => ?_) (fun h => absurd h (by decide))
  refine z_iconst (v := 0) B dX9_tick_16 (by decide) ?_
  refine z_istore_n (lv' := [(2, .int 0), (0, .ref (b + 405)), (1, .int 3)]) B dX9_tick_17 rfl (by decide) rfl ?_
  refine z_iload_n B dX9_tick_18 rfl 0 rfl ?_
  refine z_iload_n B dX9_tick_19 rfl 2 rfl ?_
  refine z_icmp_ge (tgt := 33) B dX9_tick_20 (by decide) (fun h => absurd h (by decide)) (fun _ => ?_)
  refine z_aload_n B dX9_tick_23 rfl 1 rfl ?_
  refine z_cVv (As := []) (rest := []) B cw_X9_294 cx_10 dX9_tick_24 (ci_X9_ticks_925 l (σ := (ap b σ [(405, 0, 0)] [] [])) (b := b) (lyA hK) (rI_at 405 1 hI_405_1) (rI_at 405 6 hI_405_6) (rI_at 405 16 hI_405_16)) (lKA (hk_K hK 405 rfl rfl)) rfl (by decide) rfl (Nat.le_of_ble_eq_true rfl) (by decide) (fun u hu => ?_)
  refine z_eqs (σ' := (ap b σ [(405, 1, 1), (405, 0, 0)] [] [])) (hu.trans ap_ap) ?_
  show zx p l e _ s m _ below meth c g 3 0 0 _ _ 27 [(2, .int 0), (0, .ref (b + 405)), (1, .int 3)] _
  refine z_iinc (v := 1) (lv' := [(2, .int 1), (0, .ref (b + 405)), (1, .int 3)]) B dX9_tick_27 0 rfl (by decide) (by decide) rfl ?_
  refine z_goto (tgt := 18) B dX9_tick_30 (by decide) ?_
  refine z_iload_n B dX9_tick_18 rfl 0 rfl ?_
  refine z_iload_n B dX9_tick_19 rfl 2 rfl ?_
  refine z_icmp_ge (tgt := 33) B dX9_tick_20 (by decide) (fun h => absurd h (by decide)) (fun _ => ?_)
  refine z_aload_n B dX9_tick_23 rfl 1 rfl ?_
  refine z_cVv (As := []) (rest := []) B cw_X9_294 cx_10 dX9_tick_24 (ci_X9_ticks_930 l (σ := (ap b σ [(405, 1, 1), (405, 0, 0)] [] [])) (b := b) (lyA hK) (rI_at 405 1 rfl) (rI_at 405 6 hI_405_6) (rI_at 405 16 hI_405_16)) (lKA (hk_K hK 405 rfl rfl)) rfl (by decide) rfl (Nat.le_of_ble_eq_true rfl) (by decide) (fun u hu => ?_)
  refine z_eqs (σ' := (ap b σ [(405, 1, 2), (405, 1, 1), (405, 0, 0)] [] [])) (hu.trans ap_ap) ?_
  show zx p l e _ s m _ below meth c g 3 0 0 _ _ 27 [(2, .int 1), (0, .ref (b + 405)), (1, .int 3)] _
  refine z_iinc (v := 2) (lv' := [(2, .int 2), (0, .ref (b + 405)), (1, .int 3)]) B dX9_tick_27 0 rfl (by decide) (by decide) rfl ?_
  refine z_goto (tgt := 18) B dX9_tick_30 (by decide) ?_
  refine z_iload_n B dX9_tick_18 rfl 0 rfl ?_
  refine z_iload_n B dX9_tick_19 rfl 2 rfl ?_
  refine z_icmp_ge (tgt := 33) B dX9_tick_20 (by decide) (fun h => absurd h (by decide)) (fun _ => ?_)
  refine z_aload_n B dX9_tick_23 rfl 1 rfl ?_
  refine z_cVv (As := []) (rest := []) B cw_X9_294 cx_10 dX9_tick_24 (ci_X9_ticks_935 l (σ := (ap b σ [(405, 1, 2), (405, 1, 1), (405, 0, 0)] [] [])) (b := b) (lyA hK) (rI_at 405 1 rfl) (rI_at 405 6 hI_405_6) (rI_at 405 16 hI_405_16)) (lKA (hk_K hK 405 rfl rfl)) rfl (by decide) rfl (Nat.le_of_ble_eq_true rfl) (by decide) (fun u hu => ?_)
  refine z_eqs (σ' := (ap b σ [(405, 1, 3), (405, 1, 2), (405, 1, 1), (405, 0, 0)] [] [])) (hu.trans ap_ap) ?_
  show zx p l e _ s m _ below meth c g 3 0 0 _ _ 27 [(2, .int 2), (0, .ref (b + 405)), (1, .int 3)] _
  refine z_iinc (v := 3) (lv' := [(2, .int 3), (0, .ref (b + 405)), (1, .int 3)]) B dX9_tick_27 0 rfl (by decide) (by decide) rfl ?_
  refine z_goto (tgt := 18) B dX9_tick_30 (by decide) ?_
  refine z_iload_n B dX9_tick_18 rfl 0 rfl ?_
  refine z_iload_n B dX9_tick_19 rfl 2 rfl ?_
  refine z_icmp_ge (tgt := 33) B dX9_tick_20 (by decide) (fun _ => ?_) (fun h => absurd (by decide) h)
  refine z_aload_n B dX9_tick_33 rfl 1 rfl ?_
  refine gf_X9_197 (x := 3) B (lKA (hk_K hK 405 rfl rfl)) (rI_at 405 1 rfl) dX9_tick_34 ?_
  exact z_iret B hr (by decide) (by decide) dX9_tick_37 ⟨rfl, rfl⟩
set_option maxRecDepth 100000 in
set_option maxHeartbeats 4000000 in
theorem ci_X8_tick_937 (l : Launch) {g : gx_T} {σ : sx_T} {b : Nat} (hK : lay b σ)   (hI_0_7 : sx_I σ (b + 0) 7 = 0) (hI_0_8 : sx_I σ (b + 0) 8 = 0) (hI_4_2 : sx_I σ (b + 4) 2 = 0) (hR_0_3 : sx_R σ (b + 0) 3 = (some (b + 4))) : Met l yX8_tick (.code yX8_tick cX8_tick 3 (some .int) :: lw_g) { frames := 2, cells := 0, slots := 0, locals := 42 } (va_Pc [.ref (b + 0), .int 4] (zx_w g σ)) (va_Qi (fun r u => r = 4 ∧ u = (ap b σ [(0, 8, 4), (0, 8, 3), (0, 8, 2), (0, 8, 1)] [] [])) (zx_w g) (gx_Q g)) 0 0 (gx_Q g) := by
  refine z_met (by decide) (Nat.le_of_ble_eq_true rfl) (fun p e s m below meth c B hr hin => ?_)
  refine z_eqs (σ' := (ap b σ [] [] [])) rfl ?_
  show zx p l e _ s m _ below meth c g 3 0 0 _ _ 0 [(0, .ref (b + 0)), (1, .int 4)] []
  refine z_iload_n B dX8_tick_0 rfl 1 rfl ?_
  refine z_iconst (v := 1) B dX8_tick_1 (by decide) ?_
  refine z_icmp_lt (tgt := 11) B dX8_tick_2 (by decide) (fun h => absurd h (by decide)) (fun _ => ?_)
  refine z_iload_n B dX8_tick_5 rfl 1 rfl ?_
  refine z_bipush (v := 50) B dX8_tick_6 (by decide) ?_
  refine z_icmp_le (tgt := 21) B dX8_tick_8 (by decide) (fun _ => ?_) (fun h => absurd (by decide) h)
  refine z_iconst (v := 0) B dX8_tick_21 (by decide) ?_
  refine z_istore_n (lv' := [(2, .int 0), (0, .ref (b + 0)), (1, .int 4)]) B dX8_tick_22 rfl (by decide) rfl ?_
  refine z_iload_n B dX8_tick_23 rfl 0 rfl ?_
  refine z_iload_n B dX8_tick_24 rfl 2 rfl ?_
  refine z_icmp_ge (tgt := 52) B dX8_tick_25 (by decide) (fun h => absurd h (by decide)) (fun _ => ?_)
  refine z_aload_n B dX8_tick_28 rfl 1 rfl ?_
  refine z_dup B dX8_tick_29 rfl ?_
  refine gf_X8_206 (x := 0) B (lKA (hk_K hK 0 rfl rfl)) (rI_at 0 8 hI_0_8) dX8_tick_30 ?_
  refine z_iconst (v := 1) B dX8_tick_33 (by decide) ?_
  refine z_iadd B dX8_tick_34 ?_
  refine z_seti (y := 1) (by decide) ?_
  refine pf_X8_206 (x := 1) (σ' := (ap b σ [(0, 8, 1)] [] [])) B (lKA (hk_K hK 0 rfl rfl)) wI_ap dX8_tick_35 ?_
  refine z_aload_n B dX8_tick_38 rfl 1 rfl ?_
  refine z_cVv (As := []) (rest := []) B cw_X8_240 cx_9 dX8_tick_39 (ci_X8_passTasks_920 l (σ := (ap b σ [(0, 8, 1)] [] [])) (b := b) (lyA hK) (rI_at 4 2 hI_4_2) (rR_at 0 3 hR_0_3)) (lKA (hk_K hK 0 rfl rfl)) rfl (by decide) rfl (Nat.le_of_ble_eq_true rfl) (by decide) (fun u hu => ?_)
  refine z_eqs (σ' := (ap b σ [(0, 8, 1)] [] [])) hu ?_
  show zx p l e _ s m _ below meth c g 3 0 0 _ _ 42 [(2, .int 0), (0, .ref (b + 0)), (1, .int 4)] _
  refine z_aload_n B dX8_tick_42 rfl 1 rfl ?_
  refine z_cVv (As := []) (rest := []) B cw_X8_243 cx_9 dX8_tick_43 (ci_X8_passTimers_921 l (σ := (ap b σ [(0, 8, 1)] [] [])) (b := b) (lyA hK) (rI_at 0 7 hI_0_7)) (lKA (hk_K hK 0 rfl rfl)) rfl (by decide) rfl (Nat.le_of_ble_eq_true rfl) (by decide) (fun u hu => ?_)
  refine z_eqs (σ' := (ap b σ [(0, 8, 1)] [] [])) hu ?_
  show zx p l e _ s m _ below meth c g 3 0 0 _ _ 46 [(2, .int 0), (0, .ref (b + 0)), (1, .int 4)] _
  refine z_iinc (v := 1) (lv' := [(2, .int 1), (0, .ref (b + 0)), (1, .int 4)]) B dX8_tick_46 0 rfl (by decide) (by decide) rfl ?_
  refine z_goto (tgt := 23) B dX8_tick_49 (by decide) ?_
  refine z_iload_n B dX8_tick_23 rfl 0 rfl ?_
  refine z_iload_n B dX8_tick_24 rfl 2 rfl ?_
  refine z_icmp_ge (tgt := 52) B dX8_tick_25 (by decide) (fun h => absurd h (by decide)) (fun _ => ?_)
  refine z_aload_n B dX8_tick_28 rfl 1 rfl ?_
  refine z_dup B dX8_tick_29 rfl ?_
  refine gf_X8_206 (x := 1) B (lKA (hk_K hK 0 rfl rfl)) (rI_at 0 8 rfl) dX8_tick_30 ?_
  refine z_iconst (v := 1) B dX8_tick_33 (by decide) ?_
  refine z_iadd B dX8_tick_34 ?_
  refine z_seti (y := 2) (by decide) ?_
  refine pf_X8_206 (x := 2) (σ' := (ap b σ [(0, 8, 2), (0, 8, 1)] [] [])) B (lKA (hk_K hK 0 rfl rfl)) wI_ap dX8_tick_35 ?_
  refine z_aload_n B dX8_tick_38 rfl 1 rfl ?_
  refine z_cVv (As := []) (rest := []) B cw_X8_240 cx_9 dX8_tick_39 (ci_X8_passTasks_920 l (σ := (ap b σ [(0, 8, 2), (0, 8, 1)] [] [])) (b := b) (lyA hK) (rI_at 4 2 hI_4_2) (rR_at 0 3 hR_0_3)) (lKA (hk_K hK 0 rfl rfl)) rfl (by decide) rfl (Nat.le_of_ble_eq_true rfl) (by decide) (fun u hu => ?_)
  refine z_eqs (σ' := (ap b σ [(0, 8, 2), (0, 8, 1)] [] [])) hu ?_
  show zx p l e _ s m _ below meth c g 3 0 0 _ _ 42 [(2, .int 1), (0, .ref (b + 0)), (1, .int 4)] _
  refine z_aload_n B dX8_tick_42 rfl 1 rfl ?_
  refine z_cVv (As := []) (rest := []) B cw_X8_243 cx_9 dX8_tick_43 (ci_X8_passTimers_921 l (σ := (ap b σ [(0, 8, 2), (0, 8, 1)] [] [])) (b := b) (lyA hK) (rI_at 0 7 hI_0_7)) (lKA (hk_K hK 0 rfl rfl)) rfl (by decide) rfl (Nat.le_of_ble_eq_true rfl) (by decide) (fun u hu => ?_)
  refine z_eqs (σ' := (ap b σ [(0, 8, 2), (0, 8, 1)] [] [])) hu ?_
  show zx p l e _ s m _ below meth c g 3 0 0 _ _ 46 [(2, .int 1), (0, .ref (b + 0)), (1, .int 4)] _
  refine z_iinc (v := 2) (lv' := [(2, .int 2), (0, .ref (b + 0)), (1, .int 4)]) B dX8_tick_46 0 rfl (by decide) (by decide) rfl ?_
  refine z_goto (tgt := 23) B dX8_tick_49 (by decide) ?_
  refine z_iload_n B dX8_tick_23 rfl 0 rfl ?_
  refine z_iload_n B dX8_tick_24 rfl 2 rfl ?_
  refine z_icmp_ge (tgt := 52) B dX8_tick_25 (by decide) (fun h => absurd h (by decide)) (fun _ => ?_)
  refine z_aload_n B dX8_tick_28 rfl 1 rfl ?_
  refine z_dup B dX8_tick_29 rfl ?_
  refine gf_X8_206 (x := 2) B (lKA (hk_K hK 0 rfl rfl)) (rI_at 0 8 rfl) dX8_tick_30 ?_
  refine z_iconst (v := 1) B dX8_tick_33 (by decide) ?_
  refine z_iadd B dX8_tick_34 ?_
  refine z_seti (y := 3) (by decide) ?_
  refine pf_X8_206 (x := 3) (σ' := (ap b σ [(0, 8, 3), (0, 8, 2), (0, 8, 1)] [] [])) B (lKA (hk_K hK 0 rfl rfl)) wI_ap dX8_tick_35 ?_
  refine z_aload_n B dX8_tick_38 rfl 1 rfl ?_
  refine z_cVv (As := []) (rest := []) B cw_X8_240 cx_9 dX8_tick_39 (ci_X8_passTasks_920 l (σ := (ap b σ [(0, 8, 3), (0, 8, 2), (0, 8, 1)] [] [])) (b := b) (lyA hK) (rI_at 4 2 hI_4_2) (rR_at 0 3 hR_0_3)) (lKA (hk_K hK 0 rfl rfl)) rfl (by decide) rfl (Nat.le_of_ble_eq_true rfl) (by decide) (fun u hu => ?_)
  refine z_eqs (σ' := (ap b σ [(0, 8, 3), (0, 8, 2), (0, 8, 1)] [] [])) hu ?_
  show zx p l e _ s m _ below meth c g 3 0 0 _ _ 42 [(2, .int 2), (0, .ref (b + 0)), (1, .int 4)] _
  refine z_aload_n B dX8_tick_42 rfl 1 rfl ?_
  refine z_cVv (As := []) (rest := []) B cw_X8_243 cx_9 dX8_tick_43 (ci_X8_passTimers_921 l (σ := (ap b σ [(0, 8, 3), (0, 8, 2), (0, 8, 1)] [] [])) (b := b) (lyA hK) (rI_at 0 7 hI_0_7)) (lKA (hk_K hK 0 rfl rfl)) rfl (by decide) rfl (Nat.le_of_ble_eq_true rfl) (by decide) (fun u hu => ?_)
  refine z_eqs (σ' := (ap b σ [(0, 8, 3), (0, 8, 2), (0, 8, 1)] [] [])) hu ?_
  show zx p l e _ s m _ below meth c g 3 0 0 _ _ 46 [(2, .int 2), (0, .ref (b + 0)), (1, .int 4)] _
  refine z_iinc (v := 3) (lv' := [(2, .int 3), (0, .ref (b + 0)), (1, .int 4)]) B dX8_tick_46 0 rfl (by decide) (by decide) rfl ?_
  refine z_goto (tgt := 23) B dX8_tick_49 (by decide) ?_
  refine z_iload_n B dX8_tick_23 rfl 0 rfl ?_
  refine z_iload_n B dX8_tick_24 rfl 2 rfl ?_
  refine z_icmp_ge (tgt := 52) B dX8_tick_25 (by decide) (fun h => absurd h (by decide)) (fun _ => ?_)
  refine z_aload_n B dX8_tick_28 rfl 1 rfl ?_
  refine z_dup B dX8_tick_29 rfl ?_
  refine gf_X8_206 (x := 3) B (lKA (hk_K hK 0 rfl rfl)) (rI_at 0 8 rfl) dX8_tick_30 ?_
  refine z_iconst (v := 1) B dX8_tick_33 (by decide) ?_
  refine z_iadd B dX8_tick_34 ?_
  refine z_seti (y := 4) (by decide) ?_
  refine pf_X8_206 (x := 4) (σ' := (ap b σ [(0, 8, 4), (0, 8, 3), (0, 8, 2), (0, 8, 1)] [] [])) B (lKA (hk_K hK 0 rfl rfl)) wI_ap dX8_tick_35 ?_
  refine z_aload_n B dX8_tick_38 rfl 1 rfl ?_
  refine z_cVv (As := []) (rest := []) B cw_X8_240 cx_9 dX8_tick_39 (ci_X8_passTasks_920 l (σ := (ap b σ [(0, 8, 4), (0, 8, 3), (0, 8, 2), (0, 8, 1)] [] [])) (b := b) (lyA hK) (rI_at 4 2 hI_4_2) (rR_at 0 3 hR_0_3)) (lKA (hk_K hK 0 rfl rfl)) rfl (by decide) rfl (Nat.le_of_ble_eq_true rfl) (by decide) (fun u hu => ?_)
  refine z_eqs (σ' := (ap b σ [(0, 8, 4), (0, 8, 3), (0, 8, 2), (0, 8, 1)] [] [])) hu ?_
  show zx p l e _ s m _ below meth c g 3 0 0 _ _ 42 [(2, .int 3), (0, .ref (b + 0)), (1, .int 4)] _
  refine z_aload_n B dX8_tick_42 rfl 1 rfl ?_
  refine z_cVv (As := []) (rest := []) B cw_X8_243 cx_9 dX8_tick_43 (ci_X8_passTimers_921 l (σ := (ap b σ [(0, 8, 4), (0, 8, 3), (0, 8, 2), (0, 8, 1)] [] [])) (b := b) (lyA hK) (rI_at 0 7 hI_0_7)) (lKA (hk_K hK 0 rfl rfl)) rfl (by decide) rfl (Nat.le_of_ble_eq_true rfl) (by decide) (fun u hu => ?_)
  refine z_eqs (σ' := (ap b σ [(0, 8, 4), (0, 8, 3), (0, 8, 2), (0, 8, 1)] [] [])) hu ?_
  show zx p l e _ s m _ below meth c g 3 0 0 _ _ 46 [(2, .int 3), (0, .ref (b + 0)), (1, .int 4)] _
  refine z_iinc (v := 4) (lv' := [(2, .int 4), (0, .ref (b + 0)), (1, .int 4)]) B dX8_tick_46 0 rfl (by decide) (by decide) rfl ?_
  refine z_goto (tgt := 23) B dX8_tick_49 (by decide) ?_
  refine z_iload_n B dX8_tick_23 rfl 0 rfl ?_
  refine z_iload_n B dX8_tick_24 rfl 2 rfl ?_
  refine z_icmp_ge (tgt := 52) B dX8_tick_25 (by decide) (fun _ => ?_) (fun h => absurd (by decide) h)
  refine z_aload_n B dX8_tick_52 rfl 1 rfl ?_
  refine gf_X8_206 (x := 4) B (lKA (hk_K hK 0 rfl rfl)) (rI_at 0 8 rfl) dX8_tick_53 ?_
  exact z_iret B hr (by decide) (by decide) dX8_tick_56 ⟨rfl, rfl⟩
set_option maxRecDepth 100000 in
set_option maxHeartbeats 4000000 in
theorem ci_L_tick_938 (l : Launch) {g : gx_T} {σ : sx_T} {b : Nat} (hK : lay b σ)   (hI_0_7 : sx_I σ (b + 0) 7 = 0) (hI_0_8 : sx_I σ (b + 0) 8 = 0) (hI_4_2 : sx_I σ (b + 4) 2 = 0) (hR_0_3 : sx_R σ (b + 0) 3 = (some (b + 4))) : Met l yL_tick (.codeWith yL_tick cL_tick 4 (some .int) [(0, 9, 12, 15)] :: lw_g) { frames := 3, cells := 0, slots := 0, locals := 64 } (va_Pc [.ref (b + 0), .int 4, .ref (b + 431)] (zx_w g σ)) (va_Qi (fun r u => r = 0 ∧ u = (ap b σ [(0, 8, 4), (0, 8, 3), (0, 8, 2), (0, 8, 1)] [(431, 0, 4)] [])) (zx_w g) (gx_Q g)) 0 0 (gx_Q g) := by
  refine z_metW (by decide) (Nat.le_of_ble_eq_true rfl) (fun p e s m below meth c B hr htab => ?_)
  refine z_eqs (σ' := (ap b σ [] [] [])) rfl ?_
  show zx p l e _ s m _ below meth c g 4 0 0 _ _ 0 [(0, .ref (b + 0)), (1, .int 4), (2, .ref (b + 431))] []
  refine z_aload_n B dL_tick_0 rfl 2 rfl ?_
  refine z_iconst (v := 0) B dL_tick_1 (by decide) ?_
  refine z_aload_n B dL_tick_2 rfl 0 rfl ?_
  refine z_iload_n B dL_tick_3 rfl 1 rfl ?_
  refine z_cVi (As := [.int 4]) (rest := [.int 0, .ref (b + 431)]) B cw_L_41 cx_9 dL_tick_4 (ci_X8_tick_937 l (σ := (ap b σ [] [] [])) (b := b) (lyA hK) (rI_at 0 7 hI_0_7) (rI_at 0 8 hI_0_8) (rI_at 4 2 hI_4_2) (rR_at 0 3 hR_0_3)) (lKA (hk_K hK 0 rfl rfl)) rfl (by decide) rfl (Nat.le_of_ble_eq_true rfl) (by decide) (fun r u hu => ?_)
  refine z_eqs (σ' := (ap b σ [(0, 8, 4), (0, 8, 3), (0, 8, 2), (0, 8, 1)] [] [])) (hu.2.trans ap_ap) ?_
  show zx p l e _ s m _ below meth c g 4 0 0 _ _ 7 [(0, .ref (b + 0)), (1, .int 4), (2, .ref (b + 431))] _
  refine z_seti (y := 4) hu.1 ?_
  refine z_i2l (v := 4) B dL_tick_7 (by decide) ?_
  refine z_last (j := 0) (σ' := (ap b σ [(0, 8, 4), (0, 8, 3), (0, 8, 2), (0, 8, 1)] [(431, 0, 4)] [])) B (lKA (hk_K hK 431 rfl rfl)) (by decide) (in_of (lNA (hk_N hK 431 rfl rfl)) (show ¬ ((0 : Int32) < 0 ∨ 1 ≤ (0 : Int32).toNatClampNeg) by decide)) wJ_ap dL_tick_8 ?_
  refine z_goto (tgt := 15) B dL_tick_9 (by decide) ?_
  refine z_iconst (v := 0) B dL_tick_15 (by decide) ?_
  exact z_iret B hr (by decide) (by decide) dL_tick_16 ⟨rfl, rfl⟩
set_option maxRecDepth 100000 in
set_option maxHeartbeats 4000000 in
theorem ci_X9_in_939 (l : Launch) {g : gx_T} {σ : sx_T} {b : Nat} (hK : lay b σ)    : Met l yX9_in (.code yX9_in cX9_in 3 (some .boolean) :: lw_g) { frames := 0, cells := 0, slots := 0, locals := 0 } (va_Pc [.int 4, .int 1, .int 50] (zx_w g σ)) (va_Qi (fun r u => r = 1 ∧ u = σ) (zx_w g) (gx_Q g)) 0 0 (gx_Q g) := by
  refine z_met (by decide) (Nat.le_of_ble_eq_true rfl) (fun p e s m below meth c B hr hin => ?_)
  refine z_eqs (σ' := (ap b σ [] [] [])) rfl ?_
  show zx p l e _ s m _ below meth c g 3 0 0 _ _ 0 [(0, .int 4), (1, .int 1), (2, .int 50)] []
  refine z_iload_n B dX9_in_0 rfl 0 rfl ?_
  refine z_iload_n B dX9_in_1 rfl 1 rfl ?_
  refine z_icmp_lt (tgt := 14) B dX9_in_2 (by decide) (fun h => absurd h (by decide)) (fun _ => ?_)
  refine z_iload_n B dX9_in_5 rfl 0 rfl ?_
  refine z_iload_n B dX9_in_6 rfl 2 rfl ?_
  refine z_icmp_gt (tgt := 14) B dX9_in_7 (by decide) (fun h => absurd h (by decide)) (fun _ => ?_)
  refine z_iconst (v := 1) B dX9_in_10 (by decide) ?_
  refine z_goto (tgt := 15) B dX9_in_11 (by decide) ?_
  exact z_zret B hr (by decide) (by decide) (by decide) dX9_in_15 ⟨rfl, rfl⟩
set_option maxRecDepth 100000 in
set_option maxHeartbeats 4000000 in
theorem ci_X9_ticks_940 (l : Launch) {g : gx_T} {σ : sx_T} {b : Nat} (hK : lay b σ)   (hI_405_1 : sx_I σ (b + 405) 1 = 3) (hI_405_6 : sx_I σ (b + 405) 6 = 0) (hI_405_16 : sx_I σ (b + 405) 16 = 0) : Met l yX9_ticks (.code yX9_ticks cX9_ticks 2 none :: lw_g) { frames := 0, cells := 0, slots := 0, locals := 0 } (va_Pc [.ref (b + 405)] (zx_w g σ)) (va_Qv (fun u => u = (ap b σ [(405, 1, 4)] [] [])) (zx_w g) (gx_Q g)) 0 0 (gx_Q g) := by
  refine z_met (by decide) (Nat.le_of_ble_eq_true rfl) (fun p e s m below meth c B hr hin => ?_)
  refine z_eqs (σ' := (ap b σ [] [] [])) rfl ?_
  show zx p l e _ s m _ below meth c g 2 0 0 _ _ 0 [(0, .ref (b + 405))] []
  refine z_aload_n B dX9_ticks_0 rfl 0 rfl ?_
  refine z_dup B dX9_ticks_1 rfl ?_
  refine gf_X9_197 (x := 3) B (lKA (hk_K hK 405 rfl rfl)) (rI_at 405 1 hI_405_1) dX9_ticks_2 ?_
  refine z_iconst (v := 1) B dX9_ticks_5 (by decide) ?_
  refine z_iadd B dX9_ticks_6 ?_
  refine z_seti (y := 4) (by decide) ?_
  refine pf_X9_197 (x := 4) (σ' := (ap b σ [(405, 1, 4)] [] [])) B (lKA (hk_K hK 405 rfl rfl)) wI_ap dX9_ticks_7 ?_
  refine z_iconst (v := 0) B dX9_ticks_10 (by decide) ?_
  refine z_istore_n (lv' := [(1, .int 0), (0, .ref (b + 405))]) B dX9_ticks_11 rfl (by decide) rfl ?_
  refine z_iload_n B dX9_ticks_12 rfl 0 rfl ?_
  refine z_aload_n B dX9_ticks_13 rfl 1 rfl ?_
  refine gf_X9_100 (x := 0) B (lKA (hk_K hK 405 rfl rfl)) (rI_at 405 16 hI_405_16) dX9_ticks_14 ?_
  refine z_icmp_ge (tgt := 104) B dX9_ticks_17 (by decide) (fun _ => ?_) (fun h => absurd (by decide) h)
  refine z_iconst (v := 0) B dX9_ticks_104 (by decide) ?_
  refine z_istore_n (lv' := [(1, .int 0), (0, .ref (b + 405))]) B dX9_ticks_105 rfl (by decide) rfl ?_
  refine z_iload_n B dX9_ticks_106 rfl 0 rfl ?_
  refine z_aload_n B dX9_ticks_107 rfl 1 rfl ?_
  refine gf_X9_93 (x := 0) B (lKA (hk_K hK 405 rfl rfl)) (rI_at 405 6 hI_405_6) dX9_ticks_108 ?_
  refine z_icmp_ge (tgt := 176) B dX9_ticks_111 (by decide) (fun _ => ?_) (fun h => absurd (by decide) h)
  exact z_vret B hr (by decide) (by decide) dX9_ticks_176 rfl
set_option maxRecDepth 100000 in
set_option maxHeartbeats 4000000 in
theorem ci_X9_tick_941 (l : Launch) {g : gx_T} {σ : sx_T} {b : Nat} (hK : lay b σ)   (hI_405_1 : sx_I σ (b + 405) 1 = 0) (hI_405_6 : sx_I σ (b + 405) 6 = 0) (hI_405_16 : sx_I σ (b + 405) 16 = 0) : Met l yX9_tick (.code yX9_tick cX9_tick 3 (some .int) :: lw_g) { frames := 1, cells := 0, slots := 0, locals := 22 } (va_Pc [.ref (b + 405), .int 4] (zx_w g σ)) (va_Qi (fun r u => r = 4 ∧ u = (ap b σ [(405, 1, 4), (405, 1, 3), (405, 1, 2), (405, 1, 1), (405, 0, 0)] [] [])) (zx_w g) (gx_Q g)) 0 0 (gx_Q g) := by
  refine z_met (by decide) (Nat.le_of_ble_eq_true rfl) (fun p e s m below meth c B hr hin => ?_)
  refine z_eqs (σ' := (ap b σ [] [] [])) rfl ?_
  show zx p l e _ s m _ below meth c g 3 0 0 _ _ 0 [(0, .ref (b + 405)), (1, .int 4)] []
  refine z_aload_n B dX9_tick_0 rfl 0 rfl ?_
  refine z_iload_n B dX9_tick_1 rfl 1 rfl ?_
  refine z_iconst (v := 1) B dX9_tick_2 (by decide) ?_
  refine z_bipush (v := 50) B dX9_tick_3 (by decide) ?_
  refine z_cSi (As := [.int 4, .int 1, .int 50]) (rest := [.ref (b + 405)]) B cw_X9_96 dX9_tick_5 (ci_X9_in_939 l (σ := (ap b σ [] [] [])) (b := b) (lyA hK) ) rfl (by decide) rfl (Nat.le_of_ble_eq_true rfl) (by decide) (fun r u hu => ?_)
  refine z_eqs (σ' := (ap b σ [] [] [])) hu.2 ?_
  show zx p l e _ s m _ below meth c g 3 0 0 _ _ 8 [(0, .ref (b + 405)), (1, .int 4)] _
  refine z_seti (y := 1) hu.1 ?_
  refine z_cVi (As := [.int 1]) (rest := []) B cw_X9_269 cx_10 dX9_tick_8 (ci_X9_needs_905 l (σ := (ap b σ [] [] [])) (b := b) (lyA hK) ) (lKA (hk_K hK 405 rfl rfl)) rfl (by decide) rfl (Nat.le_of_ble_eq_true rfl) (by decide) (fun r u hu => ?_)
  refine z_eqs (σ' := (ap b σ [(405, 0, 0)] [] [])) (hu.2.trans ap_ap) ?_
  show zx p l e _ s m _ below meth c g 3 0 0 _ _ 11 [(0, .ref (b + 405)), (1, .int 4)] _
  refine z_seti (y := 1) hu.1 ?_
  refine z_if_ne (tgt := 16) B dX9_tick_11 (by decide) (fun _ => ?_) (fun h => absurd h (by decide))
  refine z_iconst (v := 0) B dX9_tick_16 (by decide) ?_
  refine z_istore_n (lv' := [(2, .int 0), (0, .ref (b + 405)), (1, .int 4)]) B dX9_tick_17 rfl (by decide) rfl ?_
  refine z_iload_n B dX9_tick_18 rfl 0 rfl ?_
  refine z_iload_n B dX9_tick_19 rfl 2 rfl ?_
  refine z_icmp_ge (tgt := 33) B dX9_tick_20 (by decide) (fun h => absurd h (by decide)) (fun _ => ?_)
  refine z_aload_n B dX9_tick_23 rfl 1 rfl ?_
  refine z_cVv (As := []) (rest := []) B cw_X9_294 cx_10 dX9_tick_24 (ci_X9_ticks_925 l (σ := (ap b σ [(405, 0, 0)] [] [])) (b := b) (lyA hK) (rI_at 405 1 hI_405_1) (rI_at 405 6 hI_405_6) (rI_at 405 16 hI_405_16)) (lKA (hk_K hK 405 rfl rfl)) rfl (by decide) rfl (Nat.le_of_ble_eq_true rfl) (by decide) (fun u hu => ?_)
  refine z_eqs (σ' := (ap b σ [(405, 1, 1), (405, 0, 0)] [] [])) (hu.trans ap_ap) ?_
  show zx p l e _ s m _ below meth c g 3 0 0 _ _ 27 [(2, .int 0), (0, .ref (b + 405)), (1, .int 4)] _
  refine z_iinc (v := 1) (lv' := [(2, .int 1), (0, .ref (b + 405)), (1, .int 4)]) B dX9_tick_27 0 rfl (by decide) (by decide) rfl ?_
  refine z_goto (tgt := 18) B dX9_tick_30 (by decide) ?_
  refine z_iload_n B dX9_tick_18 rfl 0 rfl ?_
  refine z_iload_n B dX9_tick_19 rfl 2 rfl ?_
  refine z_icmp_ge (tgt := 33) B dX9_tick_20 (by decide) (fun h => absurd h (by decide)) (fun _ => ?_)
  refine z_aload_n B dX9_tick_23 rfl 1 rfl ?_
  refine z_cVv (As := []) (rest := []) B cw_X9_294 cx_10 dX9_tick_24 (ci_X9_ticks_930 l (σ := (ap b σ [(405, 1, 1), (405, 0, 0)] [] [])) (b := b) (lyA hK) (rI_at 405 1 rfl) (rI_at 405 6 hI_405_6) (rI_at 405 16 hI_405_16)) (lKA (hk_K hK 405 rfl rfl)) rfl (by decide) rfl (Nat.le_of_ble_eq_true rfl) (by decide) (fun u hu => ?_)
  refine z_eqs (σ' := (ap b σ [(405, 1, 2), (405, 1, 1), (405, 0, 0)] [] [])) (hu.trans ap_ap) ?_
  show zx p l e _ s m _ below meth c g 3 0 0 _ _ 27 [(2, .int 1), (0, .ref (b + 405)), (1, .int 4)] _
  refine z_iinc (v := 2) (lv' := [(2, .int 2), (0, .ref (b + 405)), (1, .int 4)]) B dX9_tick_27 0 rfl (by decide) (by decide) rfl ?_
  refine z_goto (tgt := 18) B dX9_tick_30 (by decide) ?_
  refine z_iload_n B dX9_tick_18 rfl 0 rfl ?_
  refine z_iload_n B dX9_tick_19 rfl 2 rfl ?_
  refine z_icmp_ge (tgt := 33) B dX9_tick_20 (by decide) (fun h => absurd h (by decide)) (fun _ => ?_)
  refine z_aload_n B dX9_tick_23 rfl 1 rfl ?_
  refine z_cVv (As := []) (rest := []) B cw_X9_294 cx_10 dX9_tick_24 (ci_X9_ticks_935 l (σ := (ap b σ [(405, 1, 2), (405, 1, 1), (405, 0, 0)] [] [])) (b := b) (lyA hK) (rI_at 405 1 rfl) (rI_at 405 6 hI_405_6) (rI_at 405 16 hI_405_16)) (lKA (hk_K hK 405 rfl rfl)) rfl (by decide) rfl (Nat.le_of_ble_eq_true rfl) (by decide) (fun u hu => ?_)
  refine z_eqs (σ' := (ap b σ [(405, 1, 3), (405, 1, 2), (405, 1, 1), (405, 0, 0)] [] [])) (hu.trans ap_ap) ?_
  show zx p l e _ s m _ below meth c g 3 0 0 _ _ 27 [(2, .int 2), (0, .ref (b + 405)), (1, .int 4)] _
  refine z_iinc (v := 3) (lv' := [(2, .int 3), (0, .ref (b + 405)), (1, .int 4)]) B dX9_tick_27 0 rfl (by decide) (by decide) rfl ?_
  refine z_goto (tgt := 18) B dX9_tick_30 (by decide) ?_
  refine z_iload_n B dX9_tick_18 rfl 0 rfl ?_
  refine z_iload_n B dX9_tick_19 rfl 2 rfl ?_
  refine z_icmp_ge (tgt := 33) B dX9_tick_20 (by decide) (fun h => absurd h (by decide)) (fun _ => ?_)
  refine z_aload_n B dX9_tick_23 rfl 1 rfl ?_
  refine z_cVv (As := []) (rest := []) B cw_X9_294 cx_10 dX9_tick_24 (ci_X9_ticks_940 l (σ := (ap b σ [(405, 1, 3), (405, 1, 2), (405, 1, 1), (405, 0, 0)] [] [])) (b := b) (lyA hK) (rI_at 405 1 rfl) (rI_at 405 6 hI_405_6) (rI_at 405 16 hI_405_16)) (lKA (hk_K hK 405 rfl rfl)) rfl (by decide) rfl (Nat.le_of_ble_eq_true rfl) (by decide) (fun u hu => ?_)
  refine z_eqs (σ' := (ap b σ [(405, 1, 4), (405, 1, 3), (405, 1, 2), (405, 1, 1), (405, 0, 0)] [] [])) (hu.trans ap_ap) ?_
  show zx p l e _ s m _ below meth c g 3 0 0 _ _ 27 [(2, .int 3), (0, .ref (b + 405)), (1, .int 4)] _
  refine z_iinc (v := 4) (lv' := [(2, .int 4), (0, .ref (b + 405)), (1, .int 4)]) B dX9_tick_27 0 rfl (by decide) (by decide) rfl ?_
  refine z_goto (tgt := 18) B dX9_tick_30 (by decide) ?_
  refine z_iload_n B dX9_tick_18 rfl 0 rfl ?_
  refine z_iload_n B dX9_tick_19 rfl 2 rfl ?_
  refine z_icmp_ge (tgt := 33) B dX9_tick_20 (by decide) (fun _ => ?_) (fun h => absurd (by decide) h)
  refine z_aload_n B dX9_tick_33 rfl 1 rfl ?_
  refine gf_X9_197 (x := 4) B (lKA (hk_K hK 405 rfl rfl)) (rI_at 405 1 rfl) dX9_tick_34 ?_
  exact z_iret B hr (by decide) (by decide) dX9_tick_37 ⟨rfl, rfl⟩
set_option maxRecDepth 100000 in
set_option maxHeartbeats 4000000 in
theorem ci_X8_tick_942 (l : Launch) {g : gx_T} {σ : sx_T} {b : Nat} (hK : lay b σ)   (hI_0_7 : sx_I σ (b + 0) 7 = 0) (hI_0_8 : sx_I σ (b + 0) 8 = 0) (hI_4_2 : sx_I σ (b + 4) 2 = 0) (hR_0_3 : sx_R σ (b + 0) 3 = (some (b + 4))) : Met l yX8_tick (.code yX8_tick cX8_tick 3 (some .int) :: lw_g) { frames := 2, cells := 0, slots := 0, locals := 42 } (va_Pc [.ref (b + 0), .int 5] (zx_w g σ)) (va_Qi (fun r u => r = 5 ∧ u = (ap b σ [(0, 8, 5), (0, 8, 4), (0, 8, 3), (0, 8, 2), (0, 8, 1)] [] [])) (zx_w g) (gx_Q g)) 0 0 (gx_Q g) := by
  refine z_met (by decide) (Nat.le_of_ble_eq_true rfl) (fun p e s m below meth c B hr hin => ?_)
  refine z_eqs (σ' := (ap b σ [] [] [])) rfl ?_
  show zx p l e _ s m _ below meth c g 3 0 0 _ _ 0 [(0, .ref (b + 0)), (1, .int 5)] []
  refine z_iload_n B dX8_tick_0 rfl 1 rfl ?_
  refine z_iconst (v := 1) B dX8_tick_1 (by decide) ?_
  refine z_icmp_lt (tgt := 11) B dX8_tick_2 (by decide) (fun h => absurd h (by decide)) (fun _ => ?_)
  refine z_iload_n B dX8_tick_5 rfl 1 rfl ?_
  refine z_bipush (v := 50) B dX8_tick_6 (by decide) ?_
  refine z_icmp_le (tgt := 21) B dX8_tick_8 (by decide) (fun _ => ?_) (fun h => absurd (by decide) h)
  refine z_iconst (v := 0) B dX8_tick_21 (by decide) ?_
  refine z_istore_n (lv' := [(2, .int 0), (0, .ref (b + 0)), (1, .int 5)]) B dX8_tick_22 rfl (by decide) rfl ?_
  refine z_iload_n B dX8_tick_23 rfl 0 rfl ?_
  refine z_iload_n B dX8_tick_24 rfl 2 rfl ?_
  refine z_icmp_ge (tgt := 52) B dX8_tick_25 (by decide) (fun h => absurd h (by decide)) (fun _ => ?_)
  refine z_aload_n B dX8_tick_28 rfl 1 rfl ?_
  refine z_dup B dX8_tick_29 rfl ?_
  refine gf_X8_206 (x := 0) B (lKA (hk_K hK 0 rfl rfl)) (rI_at 0 8 hI_0_8) dX8_tick_30 ?_
  refine z_iconst (v := 1) B dX8_tick_33 (by decide) ?_
  refine z_iadd B dX8_tick_34 ?_
  refine z_seti (y := 1) (by decide) ?_
  refine pf_X8_206 (x := 1) (σ' := (ap b σ [(0, 8, 1)] [] [])) B (lKA (hk_K hK 0 rfl rfl)) wI_ap dX8_tick_35 ?_
  refine z_aload_n B dX8_tick_38 rfl 1 rfl ?_
  refine z_cVv (As := []) (rest := []) B cw_X8_240 cx_9 dX8_tick_39 (ci_X8_passTasks_920 l (σ := (ap b σ [(0, 8, 1)] [] [])) (b := b) (lyA hK) (rI_at 4 2 hI_4_2) (rR_at 0 3 hR_0_3)) (lKA (hk_K hK 0 rfl rfl)) rfl (by decide) rfl (Nat.le_of_ble_eq_true rfl) (by decide) (fun u hu => ?_)
  refine z_eqs (σ' := (ap b σ [(0, 8, 1)] [] [])) hu ?_
  show zx p l e _ s m _ below meth c g 3 0 0 _ _ 42 [(2, .int 0), (0, .ref (b + 0)), (1, .int 5)] _
  refine z_aload_n B dX8_tick_42 rfl 1 rfl ?_
  refine z_cVv (As := []) (rest := []) B cw_X8_243 cx_9 dX8_tick_43 (ci_X8_passTimers_921 l (σ := (ap b σ [(0, 8, 1)] [] [])) (b := b) (lyA hK) (rI_at 0 7 hI_0_7)) (lKA (hk_K hK 0 rfl rfl)) rfl (by decide) rfl (Nat.le_of_ble_eq_true rfl) (by decide) (fun u hu => ?_)
  refine z_eqs (σ' := (ap b σ [(0, 8, 1)] [] [])) hu ?_
  show zx p l e _ s m _ below meth c g 3 0 0 _ _ 46 [(2, .int 0), (0, .ref (b + 0)), (1, .int 5)] _
  refine z_iinc (v := 1) (lv' := [(2, .int 1), (0, .ref (b + 0)), (1, .int 5)]) B dX8_tick_46 0 rfl (by decide) (by decide) rfl ?_
  refine z_goto (tgt := 23) B dX8_tick_49 (by decide) ?_
  refine z_iload_n B dX8_tick_23 rfl 0 rfl ?_
  refine z_iload_n B dX8_tick_24 rfl 2 rfl ?_
  refine z_icmp_ge (tgt := 52) B dX8_tick_25 (by decide) (fun h => absurd h (by decide)) (fun _ => ?_)
  refine z_aload_n B dX8_tick_28 rfl 1 rfl ?_
  refine z_dup B dX8_tick_29 rfl ?_
  refine gf_X8_206 (x := 1) B (lKA (hk_K hK 0 rfl rfl)) (rI_at 0 8 rfl) dX8_tick_30 ?_
  refine z_iconst (v := 1) B dX8_tick_33 (by decide) ?_
  refine z_iadd B dX8_tick_34 ?_
  refine z_seti (y := 2) (by decide) ?_
  refine pf_X8_206 (x := 2) (σ' := (ap b σ [(0, 8, 2), (0, 8, 1)] [] [])) B (lKA (hk_K hK 0 rfl rfl)) wI_ap dX8_tick_35 ?_
  refine z_aload_n B dX8_tick_38 rfl 1 rfl ?_
  refine z_cVv (As := []) (rest := []) B cw_X8_240 cx_9 dX8_tick_39 (ci_X8_passTasks_920 l (σ := (ap b σ [(0, 8, 2), (0, 8, 1)] [] [])) (b := b) (lyA hK) (rI_at 4 2 hI_4_2) (rR_at 0 3 hR_0_3)) (lKA (hk_K hK 0 rfl rfl)) rfl (by decide) rfl (Nat.le_of_ble_eq_true rfl) (by decide) (fun u hu => ?_)
  refine z_eqs (σ' := (ap b σ [(0, 8, 2), (0, 8, 1)] [] [])) hu ?_
  show zx p l e _ s m _ below meth c g 3 0 0 _ _ 42 [(2, .int 1), (0, .ref (b + 0)), (1, .int 5)] _
  refine z_aload_n B dX8_tick_42 rfl 1 rfl ?_
  refine z_cVv (As := []) (rest := []) B cw_X8_243 cx_9 dX8_tick_43 (ci_X8_passTimers_921 l (σ := (ap b σ [(0, 8, 2), (0, 8, 1)] [] [])) (b := b) (lyA hK) (rI_at 0 7 hI_0_7)) (lKA (hk_K hK 0 rfl rfl)) rfl (by decide) rfl (Nat.le_of_ble_eq_true rfl) (by decide) (fun u hu => ?_)
  refine z_eqs (σ' := (ap b σ [(0, 8, 2), (0, 8, 1)] [] [])) hu ?_
  show zx p l e _ s m _ below meth c g 3 0 0 _ _ 46 [(2, .int 1), (0, .ref (b + 0)), (1, .int 5)] _
  refine z_iinc (v := 2) (lv' := [(2, .int 2), (0, .ref (b + 0)), (1, .int 5)]) B dX8_tick_46 0 rfl (by decide) (by decide) rfl ?_
  refine z_goto (tgt := 23) B dX8_tick_49 (by decide) ?_
  refine z_iload_n B dX8_tick_23 rfl 0 rfl ?_
  refine z_iload_n B dX8_tick_24 rfl 2 rfl ?_
  refine z_icmp_ge (tgt := 52) B dX8_tick_25 (by decide) (fun h => absurd h (by decide)) (fun _ => ?_)
  refine z_aload_n B dX8_tick_28 rfl 1 rfl ?_
  refine z_dup B dX8_tick_29 rfl ?_
  refine gf_X8_206 (x := 2) B (lKA (hk_K hK 0 rfl rfl)) (rI_at 0 8 rfl) dX8_tick_30 ?_
  refine z_iconst (v := 1) B dX8_tick_33 (by decide) ?_
  refine z_iadd B dX8_tick_34 ?_
  refine z_seti (y := 3) (by decide) ?_
  refine pf_X8_206 (x := 3) (σ' := (ap b σ [(0, 8, 3), (0, 8, 2), (0, 8, 1)] [] [])) B (lKA (hk_K hK 0 rfl rfl)) wI_ap dX8_tick_35 ?_
  refine z_aload_n B dX8_tick_38 rfl 1 rfl ?_
  refine z_cVv (As := []) (rest := []) B cw_X8_240 cx_9 dX8_tick_39 (ci_X8_passTasks_920 l (σ := (ap b σ [(0, 8, 3), (0, 8, 2), (0, 8, 1)] [] [])) (b := b) (lyA hK) (rI_at 4 2 hI_4_2) (rR_at 0 3 hR_0_3)) (lKA (hk_K hK 0 rfl rfl)) rfl (by decide) rfl (Nat.le_of_ble_eq_true rfl) (by decide) (fun u hu => ?_)
  refine z_eqs (σ' := (ap b σ [(0, 8, 3), (0, 8, 2), (0, 8, 1)] [] [])) hu ?_
  show zx p l e _ s m _ below meth c g 3 0 0 _ _ 42 [(2, .int 2), (0, .ref (b + 0)), (1, .int 5)] _
  refine z_aload_n B dX8_tick_42 rfl 1 rfl ?_
  refine z_cVv (As := []) (rest := []) B cw_X8_243 cx_9 dX8_tick_43 (ci_X8_passTimers_921 l (σ := (ap b σ [(0, 8, 3), (0, 8, 2), (0, 8, 1)] [] [])) (b := b) (lyA hK) (rI_at 0 7 hI_0_7)) (lKA (hk_K hK 0 rfl rfl)) rfl (by decide) rfl (Nat.le_of_ble_eq_true rfl) (by decide) (fun u hu => ?_)
  refine z_eqs (σ' := (ap b σ [(0, 8, 3), (0, 8, 2), (0, 8, 1)] [] [])) hu ?_
  show zx p l e _ s m _ below meth c g 3 0 0 _ _ 46 [(2, .int 2), (0, .ref (b + 0)), (1, .int 5)] _
  refine z_iinc (v := 3) (lv' := [(2, .int 3), (0, .ref (b + 0)), (1, .int 5)]) B dX8_tick_46 0 rfl (by decide) (by decide) rfl ?_
  refine z_goto (tgt := 23) B dX8_tick_49 (by decide) ?_
  refine z_iload_n B dX8_tick_23 rfl 0 rfl ?_
  refine z_iload_n B dX8_tick_24 rfl 2 rfl ?_
  refine z_icmp_ge (tgt := 52) B dX8_tick_25 (by decide) (fun h => absurd h (by decide)) (fun _ => ?_)
  refine z_aload_n B dX8_tick_28 rfl 1 rfl ?_
  refine z_dup B dX8_tick_29 rfl ?_
  refine gf_X8_206 (x := 3) B (lKA (hk_K hK 0 rfl rfl)) (rI_at 0 8 rfl) dX8_tick_30 ?_
  refine z_iconst (v := 1) B dX8_tick_33 (by decide) ?_
  refine z_iadd B dX8_tick_34 ?_
  refine z_seti (y := 4) (by decide) ?_
  refine pf_X8_206 (x := 4) (σ' := (ap b σ [(0, 8, 4), (0, 8, 3), (0, 8, 2), (0, 8, 1)] [] [])) B (lKA (hk_K hK 0 rfl rfl)) wI_ap dX8_tick_35 ?_
  refine z_aload_n B dX8_tick_38 rfl 1 rfl ?_
  refine z_cVv (As := []) (rest := []) B cw_X8_240 cx_9 dX8_tick_39 (ci_X8_passTasks_920 l (σ := (ap b σ [(0, 8, 4), (0, 8, 3), (0, 8, 2), (0, 8, 1)] [] [])) (b := b) (lyA hK) (rI_at 4 2 hI_4_2) (rR_at 0 3 hR_0_3)) (lKA (hk_K hK 0 rfl rfl)) rfl (by decide) rfl (Nat.le_of_ble_eq_true rfl) (by decide) (fun u hu => ?_)
  refine z_eqs (σ' := (ap b σ [(0, 8, 4), (0, 8, 3), (0, 8, 2), (0, 8, 1)] [] [])) hu ?_
  show zx p l e _ s m _ below meth c g 3 0 0 _ _ 42 [(2, .int 3), (0, .ref (b + 0)), (1, .int 5)] _
  refine z_aload_n B dX8_tick_42 rfl 1 rfl ?_
  refine z_cVv (As := []) (rest := []) B cw_X8_243 cx_9 dX8_tick_43 (ci_X8_passTimers_921 l (σ := (ap b σ [(0, 8, 4), (0, 8, 3), (0, 8, 2), (0, 8, 1)] [] [])) (b := b) (lyA hK) (rI_at 0 7 hI_0_7)) (lKA (hk_K hK 0 rfl rfl)) rfl (by decide) rfl (Nat.le_of_ble_eq_true rfl) (by decide) (fun u hu => ?_)
  refine z_eqs (σ' := (ap b σ [(0, 8, 4), (0, 8, 3), (0, 8, 2), (0, 8, 1)] [] [])) hu ?_
  show zx p l e _ s m _ below meth c g 3 0 0 _ _ 46 [(2, .int 3), (0, .ref (b + 0)), (1, .int 5)] _
  refine z_iinc (v := 4) (lv' := [(2, .int 4), (0, .ref (b + 0)), (1, .int 5)]) B dX8_tick_46 0 rfl (by decide) (by decide) rfl ?_
  refine z_goto (tgt := 23) B dX8_tick_49 (by decide) ?_
  refine z_iload_n B dX8_tick_23 rfl 0 rfl ?_
  refine z_iload_n B dX8_tick_24 rfl 2 rfl ?_
  refine z_icmp_ge (tgt := 52) B dX8_tick_25 (by decide) (fun h => absurd h (by decide)) (fun _ => ?_)
  refine z_aload_n B dX8_tick_28 rfl 1 rfl ?_
  refine z_dup B dX8_tick_29 rfl ?_
  refine gf_X8_206 (x := 4) B (lKA (hk_K hK 0 rfl rfl)) (rI_at 0 8 rfl) dX8_tick_30 ?_
  refine z_iconst (v := 1) B dX8_tick_33 (by decide) ?_
  refine z_iadd B dX8_tick_34 ?_
  refine z_seti (y := 5) (by decide) ?_
  refine pf_X8_206 (x := 5) (σ' := (ap b σ [(0, 8, 5), (0, 8, 4), (0, 8, 3), (0, 8, 2), (0, 8, 1)] [] [])) B (lKA (hk_K hK 0 rfl rfl)) wI_ap dX8_tick_35 ?_
  refine z_aload_n B dX8_tick_38 rfl 1 rfl ?_
  refine z_cVv (As := []) (rest := []) B cw_X8_240 cx_9 dX8_tick_39 (ci_X8_passTasks_920 l (σ := (ap b σ [(0, 8, 5), (0, 8, 4), (0, 8, 3), (0, 8, 2), (0, 8, 1)] [] [])) (b := b) (lyA hK) (rI_at 4 2 hI_4_2) (rR_at 0 3 hR_0_3)) (lKA (hk_K hK 0 rfl rfl)) rfl (by decide) rfl (Nat.le_of_ble_eq_true rfl) (by decide) (fun u hu => ?_)
  refine z_eqs (σ' := (ap b σ [(0, 8, 5), (0, 8, 4), (0, 8, 3), (0, 8, 2), (0, 8, 1)] [] [])) hu ?_
  show zx p l e _ s m _ below meth c g 3 0 0 _ _ 42 [(2, .int 4), (0, .ref (b + 0)), (1, .int 5)] _
  refine z_aload_n B dX8_tick_42 rfl 1 rfl ?_
  refine z_cVv (As := []) (rest := []) B cw_X8_243 cx_9 dX8_tick_43 (ci_X8_passTimers_921 l (σ := (ap b σ [(0, 8, 5), (0, 8, 4), (0, 8, 3), (0, 8, 2), (0, 8, 1)] [] [])) (b := b) (lyA hK) (rI_at 0 7 hI_0_7)) (lKA (hk_K hK 0 rfl rfl)) rfl (by decide) rfl (Nat.le_of_ble_eq_true rfl) (by decide) (fun u hu => ?_)
  refine z_eqs (σ' := (ap b σ [(0, 8, 5), (0, 8, 4), (0, 8, 3), (0, 8, 2), (0, 8, 1)] [] [])) hu ?_
  show zx p l e _ s m _ below meth c g 3 0 0 _ _ 46 [(2, .int 4), (0, .ref (b + 0)), (1, .int 5)] _
  refine z_iinc (v := 5) (lv' := [(2, .int 5), (0, .ref (b + 0)), (1, .int 5)]) B dX8_tick_46 0 rfl (by decide) (by decide) rfl ?_
  refine z_goto (tgt := 23) B dX8_tick_49 (by decide) ?_
  refine z_iload_n B dX8_tick_23 rfl 0 rfl ?_
  refine z_iload_n B dX8_tick_24 rfl 2 rfl ?_
  refine z_icmp_ge (tgt := 52) B dX8_tick_25 (by decide) (fun _ => ?_) (fun h => absurd (by decide) h)
  refine z_aload_n B dX8_tick_52 rfl 1 rfl ?_
  refine gf_X8_206 (x := 5) B (lKA (hk_K hK 0 rfl rfl)) (rI_at 0 8 rfl) dX8_tick_53 ?_
  exact z_iret B hr (by decide) (by decide) dX8_tick_56 ⟨rfl, rfl⟩
set_option maxRecDepth 100000 in
set_option maxHeartbeats 4000000 in
theorem ci_L_tick_943 (l : Launch) {g : gx_T} {σ : sx_T} {b : Nat} (hK : lay b σ)   (hI_0_7 : sx_I σ (b + 0) 7 = 0) (hI_0_8 : sx_I σ (b + 0) 8 = 0) (hI_4_2 : sx_I σ (b + 4) 2 = 0) (hR_0_3 : sx_R σ (b + 0) 3 = (some (b + 4))) : Met l yL_tick (.codeWith yL_tick cL_tick 4 (some .int) [(0, 9, 12, 15)] :: lw_g) { frames := 3, cells := 0, slots := 0, locals := 64 } (va_Pc [.ref (b + 0), .int 5, .ref (b + 431)] (zx_w g σ)) (va_Qi (fun r u => r = 0 ∧ u = (ap b σ [(0, 8, 5), (0, 8, 4), (0, 8, 3), (0, 8, 2), (0, 8, 1)] [(431, 0, 5)] [])) (zx_w g) (gx_Q g)) 0 0 (gx_Q g) := by
  refine z_metW (by decide) (Nat.le_of_ble_eq_true rfl) (fun p e s m below meth c B hr htab => ?_)
  refine z_eqs (σ' := (ap b σ [] [] [])) rfl ?_
  show zx p l e _ s m _ below meth c g 4 0 0 _ _ 0 [(0, .ref (b + 0)), (1, .int 5), (2, .ref (b + 431))] []
  refine z_aload_n B dL_tick_0 rfl 2 rfl ?_
  refine z_iconst (v := 0) B dL_tick_1 (by decide) ?_
  refine z_aload_n B dL_tick_2 rfl 0 rfl ?_
  refine z_iload_n B dL_tick_3 rfl 1 rfl ?_
  refine z_cVi (As := [.int 5]) (rest := [.int 0, .ref (b + 431)]) B cw_L_41 cx_9 dL_tick_4 (ci_X8_tick_942 l (σ := (ap b σ [] [] [])) (b := b) (lyA hK) (rI_at 0 7 hI_0_7) (rI_at 0 8 hI_0_8) (rI_at 4 2 hI_4_2) (rR_at 0 3 hR_0_3)) (lKA (hk_K hK 0 rfl rfl)) rfl (by decide) rfl (Nat.le_of_ble_eq_true rfl) (by decide) (fun r u hu => ?_)
  refine z_eqs (σ' := (ap b σ [(0, 8, 5), (0, 8, 4), (0, 8, 3), (0, 8, 2), (0, 8, 1)] [] [])) (hu.2.trans ap_ap) ?_
  show zx p l e _ s m _ below meth c g 4 0 0 _ _ 7 [(0, .ref (b + 0)), (1, .int 5), (2, .ref (b + 431))] _
  refine z_seti (y := 5) hu.1 ?_
  refine z_i2l (v := 5) B dL_tick_7 (by decide) ?_
  refine z_last (j := 0) (σ' := (ap b σ [(0, 8, 5), (0, 8, 4), (0, 8, 3), (0, 8, 2), (0, 8, 1)] [(431, 0, 5)] [])) B (lKA (hk_K hK 431 rfl rfl)) (by decide) (in_of (lNA (hk_N hK 431 rfl rfl)) (show ¬ ((0 : Int32) < 0 ∨ 1 ≤ (0 : Int32).toNatClampNeg) by decide)) wJ_ap dL_tick_8 ?_
  refine z_goto (tgt := 15) B dL_tick_9 (by decide) ?_
  refine z_iconst (v := 0) B dL_tick_15 (by decide) ?_
  exact z_iret B hr (by decide) (by decide) dL_tick_16 ⟨rfl, rfl⟩
set_option maxRecDepth 100000 in
set_option maxHeartbeats 4000000 in
theorem ci_X9_in_944 (l : Launch) {g : gx_T} {σ : sx_T} {b : Nat} (hK : lay b σ)    : Met l yX9_in (.code yX9_in cX9_in 3 (some .boolean) :: lw_g) { frames := 0, cells := 0, slots := 0, locals := 0 } (va_Pc [.int 5, .int 1, .int 50] (zx_w g σ)) (va_Qi (fun r u => r = 1 ∧ u = σ) (zx_w g) (gx_Q g)) 0 0 (gx_Q g) := by
  refine z_met (by decide) (Nat.le_of_ble_eq_true rfl) (fun p e s m below meth c B hr hin => ?_)
  refine z_eqs (σ' := (ap b σ [] [] [])) rfl ?_
  show zx p l e _ s m _ below meth c g 3 0 0 _ _ 0 [(0, .int 5), (1, .int 1), (2, .int 50)] []
  refine z_iload_n B dX9_in_0 rfl 0 rfl ?_
  refine z_iload_n B dX9_in_1 rfl 1 rfl ?_
  refine z_icmp_lt (tgt := 14) B dX9_in_2 (by decide) (fun h => absurd h (by decide)) (fun _ => ?_)
  refine z_iload_n B dX9_in_5 rfl 0 rfl ?_
  refine z_iload_n B dX9_in_6 rfl 2 rfl ?_
  refine z_icmp_gt (tgt := 14) B dX9_in_7 (by decide) (fun h => absurd h (by decide)) (fun _ => ?_)
  refine z_iconst (v := 1) B dX9_in_10 (by decide) ?_
  refine z_goto (tgt := 15) B dX9_in_11 (by decide) ?_
  exact z_zret B hr (by decide) (by decide) (by decide) dX9_in_15 ⟨rfl, rfl⟩
set_option maxRecDepth 100000 in
set_option maxHeartbeats 4000000 in
theorem ci_X9_ticks_945 (l : Launch) {g : gx_T} {σ : sx_T} {b : Nat} (hK : lay b σ)   (hI_405_1 : sx_I σ (b + 405) 1 = 4) (hI_405_6 : sx_I σ (b + 405) 6 = 0) (hI_405_16 : sx_I σ (b + 405) 16 = 0) : Met l yX9_ticks (.code yX9_ticks cX9_ticks 2 none :: lw_g) { frames := 0, cells := 0, slots := 0, locals := 0 } (va_Pc [.ref (b + 405)] (zx_w g σ)) (va_Qv (fun u => u = (ap b σ [(405, 1, 5)] [] [])) (zx_w g) (gx_Q g)) 0 0 (gx_Q g) := by
  refine z_met (by decide) (Nat.le_of_ble_eq_true rfl) (fun p e s m below meth c B hr hin => ?_)
  refine z_eqs (σ' := (ap b σ [] [] [])) rfl ?_
  show zx p l e _ s m _ below meth c g 2 0 0 _ _ 0 [(0, .ref (b + 405))] []
  refine z_aload_n B dX9_ticks_0 rfl 0 rfl ?_
  refine z_dup B dX9_ticks_1 rfl ?_
  refine gf_X9_197 (x := 4) B (lKA (hk_K hK 405 rfl rfl)) (rI_at 405 1 hI_405_1) dX9_ticks_2 ?_
  refine z_iconst (v := 1) B dX9_ticks_5 (by decide) ?_
  refine z_iadd B dX9_ticks_6 ?_
  refine z_seti (y := 5) (by decide) ?_
  refine pf_X9_197 (x := 5) (σ' := (ap b σ [(405, 1, 5)] [] [])) B (lKA (hk_K hK 405 rfl rfl)) wI_ap dX9_ticks_7 ?_
  refine z_iconst (v := 0) B dX9_ticks_10 (by decide) ?_
  refine z_istore_n (lv' := [(1, .int 0), (0, .ref (b + 405))]) B dX9_ticks_11 rfl (by decide) rfl ?_
  refine z_iload_n B dX9_ticks_12 rfl 0 rfl ?_
  refine z_aload_n B dX9_ticks_13 rfl 1 rfl ?_
  refine gf_X9_100 (x := 0) B (lKA (hk_K hK 405 rfl rfl)) (rI_at 405 16 hI_405_16) dX9_ticks_14 ?_
  refine z_icmp_ge (tgt := 104) B dX9_ticks_17 (by decide) (fun _ => ?_) (fun h => absurd (by decide) h)
  refine z_iconst (v := 0) B dX9_ticks_104 (by decide) ?_
  refine z_istore_n (lv' := [(1, .int 0), (0, .ref (b + 405))]) B dX9_ticks_105 rfl (by decide) rfl ?_
  refine z_iload_n B dX9_ticks_106 rfl 0 rfl ?_
  refine z_aload_n B dX9_ticks_107 rfl 1 rfl ?_
  refine gf_X9_93 (x := 0) B (lKA (hk_K hK 405 rfl rfl)) (rI_at 405 6 hI_405_6) dX9_ticks_108 ?_
  refine z_icmp_ge (tgt := 176) B dX9_ticks_111 (by decide) (fun _ => ?_) (fun h => absurd (by decide) h)
  exact z_vret B hr (by decide) (by decide) dX9_ticks_176 rfl
set_option maxRecDepth 100000 in
set_option maxHeartbeats 4000000 in
theorem ci_X9_tick_946 (l : Launch) {g : gx_T} {σ : sx_T} {b : Nat} (hK : lay b σ)   (hI_405_1 : sx_I σ (b + 405) 1 = 0) (hI_405_6 : sx_I σ (b + 405) 6 = 0) (hI_405_16 : sx_I σ (b + 405) 16 = 0) : Met l yX9_tick (.code yX9_tick cX9_tick 3 (some .int) :: lw_g) { frames := 1, cells := 0, slots := 0, locals := 22 } (va_Pc [.ref (b + 405), .int 5] (zx_w g σ)) (va_Qi (fun r u => r = 5 ∧ u = (ap b σ [(405, 1, 5), (405, 1, 4), (405, 1, 3), (405, 1, 2), (405, 1, 1), (405, 0, 0)] [] [])) (zx_w g) (gx_Q g)) 0 0 (gx_Q g) := by
  refine z_met (by decide) (Nat.le_of_ble_eq_true rfl) (fun p e s m below meth c B hr hin => ?_)
  refine z_eqs (σ' := (ap b σ [] [] [])) rfl ?_
  show zx p l e _ s m _ below meth c g 3 0 0 _ _ 0 [(0, .ref (b + 405)), (1, .int 5)] []
  refine z_aload_n B dX9_tick_0 rfl 0 rfl ?_
  refine z_iload_n B dX9_tick_1 rfl 1 rfl ?_
  refine z_iconst (v := 1) B dX9_tick_2 (by decide) ?_
  refine z_bipush (v := 50) B dX9_tick_3 (by decide) ?_
  refine z_cSi (As := [.int 5, .int 1, .int 50]) (rest := [.ref (b + 405)]) B cw_X9_96 dX9_tick_5 (ci_X9_in_944 l (σ := (ap b σ [] [] [])) (b := b) (lyA hK) ) rfl (by decide) rfl (Nat.le_of_ble_eq_true rfl) (by decide) (fun r u hu => ?_)
  refine z_eqs (σ' := (ap b σ [] [] [])) hu.2 ?_
  show zx p l e _ s m _ below meth c g 3 0 0 _ _ 8 [(0, .ref (b + 405)), (1, .int 5)] _
  refine z_seti (y := 1) hu.1 ?_
  refine z_cVi (As := [.int 1]) (rest := []) B cw_X9_269 cx_10 dX9_tick_8 (ci_X9_needs_905 l (σ := (ap b σ [] [] [])) (b := b) (lyA hK) ) (lKA (hk_K hK 405 rfl rfl)) rfl (by decide) rfl (Nat.le_of_ble_eq_true rfl) (by decide) (fun r u hu => ?_)
  refine z_eqs (σ' := (ap b σ [(405, 0, 0)] [] [])) (hu.2.trans ap_ap) ?_
  show zx p l e _ s m _ below meth c g 3 0 0 _ _ 11 [(0, .ref (b + 405)), (1, .int 5)] _
  refine z_seti (y := 1) hu.1 ?_
  refine z_if_ne (tgt := 16) B dX9_tick_11 (by decide) (fun _ => ?_) (fun h => absurd h (by decide))
  refine z_iconst (v := 0) B dX9_tick_16 (by decide) ?_
  refine z_istore_n (lv' := [(2, .int 0), (0, .ref (b + 405)), (1, .int 5)]) B dX9_tick_17 rfl (by decide) rfl ?_
  refine z_iload_n B dX9_tick_18 rfl 0 rfl ?_
  refine z_iload_n B dX9_tick_19 rfl 2 rfl ?_
  refine z_icmp_ge (tgt := 33) B dX9_tick_20 (by decide) (fun h => absurd h (by decide)) (fun _ => ?_)
  refine z_aload_n B dX9_tick_23 rfl 1 rfl ?_
  refine z_cVv (As := []) (rest := []) B cw_X9_294 cx_10 dX9_tick_24 (ci_X9_ticks_925 l (σ := (ap b σ [(405, 0, 0)] [] [])) (b := b) (lyA hK) (rI_at 405 1 hI_405_1) (rI_at 405 6 hI_405_6) (rI_at 405 16 hI_405_16)) (lKA (hk_K hK 405 rfl rfl)) rfl (by decide) rfl (Nat.le_of_ble_eq_true rfl) (by decide) (fun u hu => ?_)
  refine z_eqs (σ' := (ap b σ [(405, 1, 1), (405, 0, 0)] [] [])) (hu.trans ap_ap) ?_
  show zx p l e _ s m _ below meth c g 3 0 0 _ _ 27 [(2, .int 0), (0, .ref (b + 405)), (1, .int 5)] _
  refine z_iinc (v := 1) (lv' := [(2, .int 1), (0, .ref (b + 405)), (1, .int 5)]) B dX9_tick_27 0 rfl (by decide) (by decide) rfl ?_
  refine z_goto (tgt := 18) B dX9_tick_30 (by decide) ?_
  refine z_iload_n B dX9_tick_18 rfl 0 rfl ?_
  refine z_iload_n B dX9_tick_19 rfl 2 rfl ?_
  refine z_icmp_ge (tgt := 33) B dX9_tick_20 (by decide) (fun h => absurd h (by decide)) (fun _ => ?_)
  refine z_aload_n B dX9_tick_23 rfl 1 rfl ?_
  refine z_cVv (As := []) (rest := []) B cw_X9_294 cx_10 dX9_tick_24 (ci_X9_ticks_930 l (σ := (ap b σ [(405, 1, 1), (405, 0, 0)] [] [])) (b := b) (lyA hK) (rI_at 405 1 rfl) (rI_at 405 6 hI_405_6) (rI_at 405 16 hI_405_16)) (lKA (hk_K hK 405 rfl rfl)) rfl (by decide) rfl (Nat.le_of_ble_eq_true rfl) (by decide) (fun u hu => ?_)
  refine z_eqs (σ' := (ap b σ [(405, 1, 2), (405, 1, 1), (405, 0, 0)] [] [])) (hu.trans ap_ap) ?_
  show zx p l e _ s m _ below meth c g 3 0 0 _ _ 27 [(2, .int 1), (0, .ref (b + 405)), (1, .int 5)] _
  refine z_iinc (v := 2) (lv' := [(2, .int 2), (0, .ref (b + 405)), (1, .int 5)]) B dX9_tick_27 0 rfl (by decide) (by decide) rfl ?_
  refine z_goto (tgt := 18) B dX9_tick_30 (by decide) ?_
  refine z_iload_n B dX9_tick_18 rfl 0 rfl ?_
  refine z_iload_n B dX9_tick_19 rfl 2 rfl ?_
  refine z_icmp_ge (tgt := 33) B dX9_tick_20 (by decide) (fun h => absurd h (by decide)) (fun _ => ?_)
  refine z_aload_n B dX9_tick_23 rfl 1 rfl ?_
  refine z_cVv (As := []) (rest := []) B cw_X9_294 cx_10 dX9_tick_24 (ci_X9_ticks_935 l (σ := (ap b σ [(405, 1, 2), (405, 1, 1), (405, 0, 0)] [] [])) (b := b) (lyA hK) (rI_at 405 1 rfl) (rI_at 405 6 hI_405_6) (rI_at 405 16 hI_405_16)) (lKA (hk_K hK 405 rfl rfl)) rfl (by decide) rfl (Nat.le_of_ble_eq_true rfl) (by decide) (fun u hu => ?_)
  refine z_eqs (σ' := (ap b σ [(405, 1, 3), (405, 1, 2), (405, 1, 1), (405, 0, 0)] [] [])) (hu.trans ap_ap) ?_
  show zx p l e _ s m _ below meth c g 3 0 0 _ _ 27 [(2, .int 2), (0, .ref (b + 405)), (1, .int 5)] _
  refine z_iinc (v := 3) (lv' := [(2, .int 3), (0, .ref (b + 405)), (1, .int 5)]) B dX9_tick_27 0 rfl (by decide) (by decide) rfl ?_
  refine z_goto (tgt := 18) B dX9_tick_30 (by decide) ?_
  refine z_iload_n B dX9_tick_18 rfl 0 rfl ?_
  refine z_iload_n B dX9_tick_19 rfl 2 rfl ?_
  refine z_icmp_ge (tgt := 33) B dX9_tick_20 (by decide) (fun h => absurd h (by decide)) (fun _ => ?_)
  refine z_aload_n B dX9_tick_23 rfl 1 rfl ?_
  refine z_cVv (As := []) (rest := []) B cw_X9_294 cx_10 dX9_tick_24 (ci_X9_ticks_940 l (σ := (ap b σ [(405, 1, 3), (405, 1, 2), (405, 1, 1), (405, 0, 0)] [] [])) (b := b) (lyA hK) (rI_at 405 1 rfl) (rI_at 405 6 hI_405_6) (rI_at 405 16 hI_405_16)) (lKA (hk_K hK 405 rfl rfl)) rfl (by decide) rfl (Nat.le_of_ble_eq_true rfl) (by decide) (fun u hu => ?_)
  refine z_eqs (σ' := (ap b σ [(405, 1, 4), (405, 1, 3), (405, 1, 2), (405, 1, 1), (405, 0, 0)] [] [])) (hu.trans ap_ap) ?_
  show zx p l e _ s m _ below meth c g 3 0 0 _ _ 27 [(2, .int 3), (0, .ref (b + 405)), (1, .int 5)] _
  refine z_iinc (v := 4) (lv' := [(2, .int 4), (0, .ref (b + 405)), (1, .int 5)]) B dX9_tick_27 0 rfl (by decide) (by decide) rfl ?_
  refine z_goto (tgt := 18) B dX9_tick_30 (by decide) ?_
  refine z_iload_n B dX9_tick_18 rfl 0 rfl ?_
  refine z_iload_n B dX9_tick_19 rfl 2 rfl ?_
  refine z_icmp_ge (tgt := 33) B dX9_tick_20 (by decide) (fun h => absurd h (by decide)) (fun _ => ?_)
  refine z_aload_n B dX9_tick_23 rfl 1 rfl ?_
  refine z_cVv (As := []) (rest := []) B cw_X9_294 cx_10 dX9_tick_24 (ci_X9_ticks_945 l (σ := (ap b σ [(405, 1, 4), (405, 1, 3), (405, 1, 2), (405, 1, 1), (405, 0, 0)] [] [])) (b := b) (lyA hK) (rI_at 405 1 rfl) (rI_at 405 6 hI_405_6) (rI_at 405 16 hI_405_16)) (lKA (hk_K hK 405 rfl rfl)) rfl (by decide) rfl (Nat.le_of_ble_eq_true rfl) (by decide) (fun u hu => ?_)
  refine z_eqs (σ' := (ap b σ [(405, 1, 5), (405, 1, 4), (405, 1, 3), (405, 1, 2), (405, 1, 1), (405, 0, 0)] [] [])) (hu.trans ap_ap) ?_
  show zx p l e _ s m _ below meth c g 3 0 0 _ _ 27 [(2, .int 4), (0, .ref (b + 405)), (1, .int 5)] _
  refine z_iinc (v := 5) (lv' := [(2, .int 5), (0, .ref (b + 405)), (1, .int 5)]) B dX9_tick_27 0 rfl (by decide) (by decide) rfl ?_
  refine z_goto (tgt := 18) B dX9_tick_30 (by decide) ?_
  refine z_iload_n B dX9_tick_18 rfl 0 rfl ?_
  refine z_iload_n B dX9_tick_19 rfl 2 rfl ?_
  refine z_icmp_ge (tgt := 33) B dX9_tick_20 (by decide) (fun _ => ?_) (fun h => absurd (by decide) h)
  refine z_aload_n B dX9_tick_33 rfl 1 rfl ?_
  refine gf_X9_197 (x := 5) B (lKA (hk_K hK 405 rfl rfl)) (rI_at 405 1 rfl) dX9_tick_34 ?_
  exact z_iret B hr (by decide) (by decide) dX9_tick_37 ⟨rfl, rfl⟩
set_option maxRecDepth 100000 in
set_option maxHeartbeats 4000000 in
theorem ci_X8_tick_947 (l : Launch) {g : gx_T} {σ : sx_T} {b : Nat} (hK : lay b σ)   (hI_0_7 : sx_I σ (b + 0) 7 = 0) (hI_0_8 : sx_I σ (b + 0) 8 = 0) (hI_4_2 : sx_I σ (b + 4) 2 = 0) (hR_0_3 : sx_R σ (b + 0) 3 = (some (b + 4))) : Met l yX8_tick (.code yX8_tick cX8_tick 3 (some .int) :: lw_g) { frames := 2, cells := 0, slots := 0, locals := 42 } (va_Pc [.ref (b + 0), .int 6] (zx_w g σ)) (va_Qi (fun r u => r = 6 ∧ u = (ap b σ [(0, 8, 6), (0, 8, 5), (0, 8, 4), (0, 8, 3), (0, 8, 2), (0, 8, 1)] [] [])) (zx_w g) (gx_Q g)) 0 0 (gx_Q g) := by
  refine z_met (by decide) (Nat.le_of_ble_eq_true rfl) (fun p e s m below meth c B hr hin => ?_)
  refine z_eqs (σ' := (ap b σ [] [] [])) rfl ?_
  show zx p l e _ s m _ below meth c g 3 0 0 _ _ 0 [(0, .ref (b + 0)), (1, .int 6)] []
  refine z_iload_n B dX8_tick_0 rfl 1 rfl ?_
  refine z_iconst (v := 1) B dX8_tick_1 (by decide) ?_
  refine z_icmp_lt (tgt := 11) B dX8_tick_2 (by decide) (fun h => absurd h (by decide)) (fun _ => ?_)
  refine z_iload_n B dX8_tick_5 rfl 1 rfl ?_
  refine z_bipush (v := 50) B dX8_tick_6 (by decide) ?_
  refine z_icmp_le (tgt := 21) B dX8_tick_8 (by decide) (fun _ => ?_) (fun h => absurd (by decide) h)
  refine z_iconst (v := 0) B dX8_tick_21 (by decide) ?_
  refine z_istore_n (lv' := [(2, .int 0), (0, .ref (b + 0)), (1, .int 6)]) B dX8_tick_22 rfl (by decide) rfl ?_
  refine z_iload_n B dX8_tick_23 rfl 0 rfl ?_
  refine z_iload_n B dX8_tick_24 rfl 2 rfl ?_
  refine z_icmp_ge (tgt := 52) B dX8_tick_25 (by decide) (fun h => absurd h (by decide)) (fun _ => ?_)
  refine z_aload_n B dX8_tick_28 rfl 1 rfl ?_
  refine z_dup B dX8_tick_29 rfl ?_
  refine gf_X8_206 (x := 0) B (lKA (hk_K hK 0 rfl rfl)) (rI_at 0 8 hI_0_8) dX8_tick_30 ?_
  refine z_iconst (v := 1) B dX8_tick_33 (by decide) ?_
  refine z_iadd B dX8_tick_34 ?_
  refine z_seti (y := 1) (by decide) ?_
  refine pf_X8_206 (x := 1) (σ' := (ap b σ [(0, 8, 1)] [] [])) B (lKA (hk_K hK 0 rfl rfl)) wI_ap dX8_tick_35 ?_
  refine z_aload_n B dX8_tick_38 rfl 1 rfl ?_
  refine z_cVv (As := []) (rest := []) B cw_X8_240 cx_9 dX8_tick_39 (ci_X8_passTasks_920 l (σ := (ap b σ [(0, 8, 1)] [] [])) (b := b) (lyA hK) (rI_at 4 2 hI_4_2) (rR_at 0 3 hR_0_3)) (lKA (hk_K hK 0 rfl rfl)) rfl (by decide) rfl (Nat.le_of_ble_eq_true rfl) (by decide) (fun u hu => ?_)
  refine z_eqs (σ' := (ap b σ [(0, 8, 1)] [] [])) hu ?_
  show zx p l e _ s m _ below meth c g 3 0 0 _ _ 42 [(2, .int 0), (0, .ref (b + 0)), (1, .int 6)] _
  refine z_aload_n B dX8_tick_42 rfl 1 rfl ?_
  refine z_cVv (As := []) (rest := []) B cw_X8_243 cx_9 dX8_tick_43 (ci_X8_passTimers_921 l (σ := (ap b σ [(0, 8, 1)] [] [])) (b := b) (lyA hK) (rI_at 0 7 hI_0_7)) (lKA (hk_K hK 0 rfl rfl)) rfl (by decide) rfl (Nat.le_of_ble_eq_true rfl) (by decide) (fun u hu => ?_)
  refine z_eqs (σ' := (ap b σ [(0, 8, 1)] [] [])) hu ?_
  show zx p l e _ s m _ below meth c g 3 0 0 _ _ 46 [(2, .int 0), (0, .ref (b + 0)), (1, .int 6)] _
  refine z_iinc (v := 1) (lv' := [(2, .int 1), (0, .ref (b + 0)), (1, .int 6)]) B dX8_tick_46 0 rfl (by decide) (by decide) rfl ?_
  refine z_goto (tgt := 23) B dX8_tick_49 (by decide) ?_
  refine z_iload_n B dX8_tick_23 rfl 0 rfl ?_
  refine z_iload_n B dX8_tick_24 rfl 2 rfl ?_
  refine z_icmp_ge (tgt := 52) B dX8_tick_25 (by decide) (fun h => absurd h (by decide)) (fun _ => ?_)
  refine z_aload_n B dX8_tick_28 rfl 1 rfl ?_
  refine z_dup B dX8_tick_29 rfl ?_
  refine gf_X8_206 (x := 1) B (lKA (hk_K hK 0 rfl rfl)) (rI_at 0 8 rfl) dX8_tick_30 ?_
  refine z_iconst (v := 1) B dX8_tick_33 (by decide) ?_
  refine z_iadd B dX8_tick_34 ?_
  refine z_seti (y := 2) (by decide) ?_
  refine pf_X8_206 (x := 2) (σ' := (ap b σ [(0, 8, 2), (0, 8, 1)] [] [])) B (lKA (hk_K hK 0 rfl rfl)) wI_ap dX8_tick_35 ?_
  refine z_aload_n B dX8_tick_38 rfl 1 rfl ?_
  refine z_cVv (As := []) (rest := []) B cw_X8_240 cx_9 dX8_tick_39 (ci_X8_passTasks_920 l (σ := (ap b σ [(0, 8, 2), (0, 8, 1)] [] [])) (b := b) (lyA hK) (rI_at 4 2 hI_4_2) (rR_at 0 3 hR_0_3)) (lKA (hk_K hK 0 rfl rfl)) rfl (by decide) rfl (Nat.le_of_ble_eq_true rfl) (by decide) (fun u hu => ?_)
  refine z_eqs (σ' := (ap b σ [(0, 8, 2), (0, 8, 1)] [] [])) hu ?_
  show zx p l e _ s m _ below meth c g 3 0 0 _ _ 42 [(2, .int 1), (0, .ref (b + 0)), (1, .int 6)] _
  refine z_aload_n B dX8_tick_42 rfl 1 rfl ?_
  refine z_cVv (As := []) (rest := []) B cw_X8_243 cx_9 dX8_tick_43 (ci_X8_passTimers_921 l (σ := (ap b σ [(0, 8, 2), (0, 8, 1)] [] [])) (b := b) (lyA hK) (rI_at 0 7 hI_0_7)) (lKA (hk_K hK 0 rfl rfl)) rfl (by decide) rfl (Nat.le_of_ble_eq_true rfl) (by decide) (fun u hu => ?_)
  refine z_eqs (σ' := (ap b σ [(0, 8, 2), (0, 8, 1)] [] [])) hu ?_
  show zx p l e _ s m _ below meth c g 3 0 0 _ _ 46 [(2, .int 1), (0, .ref (b + 0)), (1, .int 6)] _
  refine z_iinc (v := 2) (lv' := [(2, .int 2), (0, .ref (b + 0)), (1, .int 6)]) B dX8_tick_46 0 rfl (by decide) (by decide) rfl ?_
  refine z_goto (tgt := 23) B dX8_tick_49 (by decide) ?_
  refine z_iload_n B dX8_tick_23 rfl 0 rfl ?_
  refine z_iload_n B dX8_tick_24 rfl 2 rfl ?_
  refine z_icmp_ge (tgt := 52) B dX8_tick_25 (by decide) (fun h => absurd h (by decide)) (fun _ => ?_)
  refine z_aload_n B dX8_tick_28 rfl 1 rfl ?_
  refine z_dup B dX8_tick_29 rfl ?_
  refine gf_X8_206 (x := 2) B (lKA (hk_K hK 0 rfl rfl)) (rI_at 0 8 rfl) dX8_tick_30 ?_
  refine z_iconst (v := 1) B dX8_tick_33 (by decide) ?_
  refine z_iadd B dX8_tick_34 ?_
  refine z_seti (y := 3) (by decide) ?_
  refine pf_X8_206 (x := 3) (σ' := (ap b σ [(0, 8, 3), (0, 8, 2), (0, 8, 1)] [] [])) B (lKA (hk_K hK 0 rfl rfl)) wI_ap dX8_tick_35 ?_
  refine z_aload_n B dX8_tick_38 rfl 1 rfl ?_
  refine z_cVv (As := []) (rest := []) B cw_X8_240 cx_9 dX8_tick_39 (ci_X8_passTasks_920 l (σ := (ap b σ [(0, 8, 3), (0, 8, 2), (0, 8, 1)] [] [])) (b := b) (lyA hK) (rI_at 4 2 hI_4_2) (rR_at 0 3 hR_0_3)) (lKA (hk_K hK 0 rfl rfl)) rfl (by decide) rfl (Nat.le_of_ble_eq_true rfl) (by decide) (fun u hu => ?_)
  refine z_eqs (σ' := (ap b σ [(0, 8, 3), (0, 8, 2), (0, 8, 1)] [] [])) hu ?_
  show zx p l e _ s m _ below meth c g 3 0 0 _ _ 42 [(2, .int 2), (0, .ref (b + 0)), (1, .int 6)] _
  refine z_aload_n B dX8_tick_42 rfl 1 rfl ?_
  refine z_cVv (As := []) (rest := []) B cw_X8_243 cx_9 dX8_tick_43 (ci_X8_passTimers_921 l (σ := (ap b σ [(0, 8, 3), (0, 8, 2), (0, 8, 1)] [] [])) (b := b) (lyA hK) (rI_at 0 7 hI_0_7)) (lKA (hk_K hK 0 rfl rfl)) rfl (by decide) rfl (Nat.le_of_ble_eq_true rfl) (by decide) (fun u hu => ?_)
  refine z_eqs (σ' := (ap b σ [(0, 8, 3), (0, 8, 2), (0, 8, 1)] [] [])) hu ?_
  show zx p l e _ s m _ below meth c g 3 0 0 _ _ 46 [(2, .int 2), (0, .ref (b + 0)), (1, .int 6)] _
  refine z_iinc (v := 3) (lv' := [(2, .int 3), (0, .ref (b + 0)), (1, .int 6)]) B dX8_tick_46 0 rfl (by decide) (by decide) rfl ?_
  refine z_goto (tgt := 23) B dX8_tick_49 (by decide) ?_
  refine z_iload_n B dX8_tick_23 rfl 0 rfl ?_
  refine z_iload_n B dX8_tick_24 rfl 2 rfl ?_
  refine z_icmp_ge (tgt := 52) B dX8_tick_25 (by decide) (fun h => absurd h (by decide)) (fun _ => ?_)
  refine z_aload_n B dX8_tick_28 rfl 1 rfl ?_
  refine z_dup B dX8_tick_29 rfl ?_
  refine gf_X8_206 (x := 3) B (lKA (hk_K hK 0 rfl rfl)) (rI_at 0 8 rfl) dX8_tick_30 ?_
  refine z_iconst (v := 1) B dX8_tick_33 (by decide) ?_
  refine z_iadd B dX8_tick_34 ?_
  refine z_seti (y := 4) (by decide) ?_
  refine pf_X8_206 (x := 4) (σ' := (ap b σ [(0, 8, 4), (0, 8, 3), (0, 8, 2), (0, 8, 1)] [] [])) B (lKA (hk_K hK 0 rfl rfl)) wI_ap dX8_tick_35 ?_
  refine z_aload_n B dX8_tick_38 rfl 1 rfl ?_
  refine z_cVv (As := []) (rest := []) B cw_X8_240 cx_9 dX8_tick_39 (ci_X8_passTasks_920 l (σ := (ap b σ [(0, 8, 4), (0, 8, 3), (0, 8, 2), (0, 8, 1)] [] [])) (b := b) (lyA hK) (rI_at 4 2 hI_4_2) (rR_at 0 3 hR_0_3)) (lKA (hk_K hK 0 rfl rfl)) rfl (by decide) rfl (Nat.le_of_ble_eq_true rfl) (by decide) (fun u hu => ?_)
  refine z_eqs (σ' := (ap b σ [(0, 8, 4), (0, 8, 3), (0, 8, 2), (0, 8, 1)] [] [])) hu ?_
  show zx p l e _ s m _ below meth c g 3 0 0 _ _ 42 [(2, .int 3), (0, .ref (b + 0)), (1, .int 6)] _
  refine z_aload_n B dX8_tick_42 rfl 1 rfl ?_
  refine z_cVv (As := []) (rest := []) B cw_X8_243 cx_9 dX8_tick_43 (ci_X8_passTimers_921 l (σ := (ap b σ [(0, 8, 4), (0, 8, 3), (0, 8, 2), (0, 8, 1)] [] [])) (b := b) (lyA hK) (rI_at 0 7 hI_0_7)) (lKA (hk_K hK 0 rfl rfl)) rfl (by decide) rfl (Nat.le_of_ble_eq_true rfl) (by decide) (fun u hu => ?_)
  refine z_eqs (σ' := (ap b σ [(0, 8, 4), (0, 8, 3), (0, 8, 2), (0, 8, 1)] [] [])) hu ?_
  show zx p l e _ s m _ below meth c g 3 0 0 _ _ 46 [(2, .int 3), (0, .ref (b + 0)), (1, .int 6)] _
  refine z_iinc (v := 4) (lv' := [(2, .int 4), (0, .ref (b + 0)), (1, .int 6)]) B dX8_tick_46 0 rfl (by decide) (by decide) rfl ?_
  refine z_goto (tgt := 23) B dX8_tick_49 (by decide) ?_
  refine z_iload_n B dX8_tick_23 rfl 0 rfl ?_
  refine z_iload_n B dX8_tick_24 rfl 2 rfl ?_
  refine z_icmp_ge (tgt := 52) B dX8_tick_25 (by decide) (fun h => absurd h (by decide)) (fun _ => ?_)
  refine z_aload_n B dX8_tick_28 rfl 1 rfl ?_
  refine z_dup B dX8_tick_29 rfl ?_
  refine gf_X8_206 (x := 4) B (lKA (hk_K hK 0 rfl rfl)) (rI_at 0 8 rfl) dX8_tick_30 ?_
  refine z_iconst (v := 1) B dX8_tick_33 (by decide) ?_
  refine z_iadd B dX8_tick_34 ?_
  refine z_seti (y := 5) (by decide) ?_
  refine pf_X8_206 (x := 5) (σ' := (ap b σ [(0, 8, 5), (0, 8, 4), (0, 8, 3), (0, 8, 2), (0, 8, 1)] [] [])) B (lKA (hk_K hK 0 rfl rfl)) wI_ap dX8_tick_35 ?_
  refine z_aload_n B dX8_tick_38 rfl 1 rfl ?_
  refine z_cVv (As := []) (rest := []) B cw_X8_240 cx_9 dX8_tick_39 (ci_X8_passTasks_920 l (σ := (ap b σ [(0, 8, 5), (0, 8, 4), (0, 8, 3), (0, 8, 2), (0, 8, 1)] [] [])) (b := b) (lyA hK) (rI_at 4 2 hI_4_2) (rR_at 0 3 hR_0_3)) (lKA (hk_K hK 0 rfl rfl)) rfl (by decide) rfl (Nat.le_of_ble_eq_true rfl) (by decide) (fun u hu => ?_)
  refine z_eqs (σ' := (ap b σ [(0, 8, 5), (0, 8, 4), (0, 8, 3), (0, 8, 2), (0, 8, 1)] [] [])) hu ?_
  show zx p l e _ s m _ below meth c g 3 0 0 _ _ 42 [(2, .int 4), (0, .ref (b + 0)), (1, .int 6)] _
  refine z_aload_n B dX8_tick_42 rfl 1 rfl ?_
  refine z_cVv (As := []) (rest := []) B cw_X8_243 cx_9 dX8_tick_43 (ci_X8_passTimers_921 l (σ := (ap b σ [(0, 8, 5), (0, 8, 4), (0, 8, 3), (0, 8, 2), (0, 8, 1)] [] [])) (b := b) (lyA hK) (rI_at 0 7 hI_0_7)) (lKA (hk_K hK 0 rfl rfl)) rfl (by decide) rfl (Nat.le_of_ble_eq_true rfl) (by decide) (fun u hu => ?_)
  refine z_eqs (σ' := (ap b σ [(0, 8, 5), (0, 8, 4), (0, 8, 3), (0, 8, 2), (0, 8, 1)] [] [])) hu ?_
  show zx p l e _ s m _ below meth c g 3 0 0 _ _ 46 [(2, .int 4), (0, .ref (b + 0)), (1, .int 6)] _
  refine z_iinc (v := 5) (lv' := [(2, .int 5), (0, .ref (b + 0)), (1, .int 6)]) B dX8_tick_46 0 rfl (by decide) (by decide) rfl ?_
  refine z_goto (tgt := 23) B dX8_tick_49 (by decide) ?_
  refine z_iload_n B dX8_tick_23 rfl 0 rfl ?_
  refine z_iload_n B dX8_tick_24 rfl 2 rfl ?_
  refine z_icmp_ge (tgt := 52) B dX8_tick_25 (by decide) (fun h => absurd h (by decide)) (fun _ => ?_)
  refine z_aload_n B dX8_tick_28 rfl 1 rfl ?_
  refine z_dup B dX8_tick_29 rfl ?_
  refine gf_X8_206 (x := 5) B (lKA (hk_K hK 0 rfl rfl)) (rI_at 0 8 rfl) dX8_tick_30 ?_
  refine z_iconst (v := 1) B dX8_tick_33 (by decide) ?_
  refine z_iadd B dX8_tick_34 ?_
  refine z_seti (y := 6) (by decide) ?_
  refine pf_X8_206 (x := 6) (σ' := (ap b σ [(0, 8, 6), (0, 8, 5), (0, 8, 4), (0, 8, 3), (0, 8, 2), (0, 8, 1)] [] [])) B (lKA (hk_K hK 0 rfl rfl)) wI_ap dX8_tick_35 ?_
  refine z_aload_n B dX8_tick_38 rfl 1 rfl ?_
  refine z_cVv (As := []) (rest := []) B cw_X8_240 cx_9 dX8_tick_39 (ci_X8_passTasks_920 l (σ := (ap b σ [(0, 8, 6), (0, 8, 5), (0, 8, 4), (0, 8, 3), (0, 8, 2), (0, 8, 1)] [] [])) (b := b) (lyA hK) (rI_at 4 2 hI_4_2) (rR_at 0 3 hR_0_3)) (lKA (hk_K hK 0 rfl rfl)) rfl (by decide) rfl (Nat.le_of_ble_eq_true rfl) (by decide) (fun u hu => ?_)
  refine z_eqs (σ' := (ap b σ [(0, 8, 6), (0, 8, 5), (0, 8, 4), (0, 8, 3), (0, 8, 2), (0, 8, 1)] [] [])) hu ?_
  show zx p l e _ s m _ below meth c g 3 0 0 _ _ 42 [(2, .int 5), (0, .ref (b + 0)), (1, .int 6)] _
  refine z_aload_n B dX8_tick_42 rfl 1 rfl ?_
  refine z_cVv (As := []) (rest := []) B cw_X8_243 cx_9 dX8_tick_43 (ci_X8_passTimers_921 l (σ := (ap b σ [(0, 8, 6), (0, 8, 5), (0, 8, 4), (0, 8, 3), (0, 8, 2), (0, 8, 1)] [] [])) (b := b) (lyA hK) (rI_at 0 7 hI_0_7)) (lKA (hk_K hK 0 rfl rfl)) rfl (by decide) rfl (Nat.le_of_ble_eq_true rfl) (by decide) (fun u hu => ?_)
  refine z_eqs (σ' := (ap b σ [(0, 8, 6), (0, 8, 5), (0, 8, 4), (0, 8, 3), (0, 8, 2), (0, 8, 1)] [] [])) hu ?_
  show zx p l e _ s m _ below meth c g 3 0 0 _ _ 46 [(2, .int 5), (0, .ref (b + 0)), (1, .int 6)] _
  refine z_iinc (v := 6) (lv' := [(2, .int 6), (0, .ref (b + 0)), (1, .int 6)]) B dX8_tick_46 0 rfl (by decide) (by decide) rfl ?_
  refine z_goto (tgt := 23) B dX8_tick_49 (by decide) ?_
  refine z_iload_n B dX8_tick_23 rfl 0 rfl ?_
  refine z_iload_n B dX8_tick_24 rfl 2 rfl ?_
  refine z_icmp_ge (tgt := 52) B dX8_tick_25 (by decide) (fun _ => ?_) (fun h => absurd (by decide) h)
  refine z_aload_n B dX8_tick_52 rfl 1 rfl ?_
  refine gf_X8_206 (x := 6) B (lKA (hk_K hK 0 rfl rfl)) (rI_at 0 8 rfl) dX8_tick_53 ?_
  exact z_iret B hr (by decide) (by decide) dX8_tick_56 ⟨rfl, rfl⟩
set_option maxRecDepth 100000 in
set_option maxHeartbeats 4000000 in
theorem ci_L_tick_948 (l : Launch) {g : gx_T} {σ : sx_T} {b : Nat} (hK : lay b σ)   (hI_0_7 : sx_I σ (b + 0) 7 = 0) (hI_0_8 : sx_I σ (b + 0) 8 = 0) (hI_4_2 : sx_I σ (b + 4) 2 = 0) (hR_0_3 : sx_R σ (b + 0) 3 = (some (b + 4))) : Met l yL_tick (.codeWith yL_tick cL_tick 4 (some .int) [(0, 9, 12, 15)] :: lw_g) { frames := 3, cells := 0, slots := 0, locals := 64 } (va_Pc [.ref (b + 0), .int 6, .ref (b + 431)] (zx_w g σ)) (va_Qi (fun r u => r = 0 ∧ u = (ap b σ [(0, 8, 6), (0, 8, 5), (0, 8, 4), (0, 8, 3), (0, 8, 2), (0, 8, 1)] [(431, 0, 6)] [])) (zx_w g) (gx_Q g)) 0 0 (gx_Q g) := by
  refine z_metW (by decide) (Nat.le_of_ble_eq_true rfl) (fun p e s m below meth c B hr htab => ?_)
  refine z_eqs (σ' := (ap b σ [] [] [])) rfl ?_
  show zx p l e _ s m _ below meth c g 4 0 0 _ _ 0 [(0, .ref (b + 0)), (1, .int 6), (2, .ref (b + 431))] []
  refine z_aload_n B dL_tick_0 rfl 2 rfl ?_
  refine z_iconst (v := 0) B dL_tick_1 (by decide) ?_
  refine z_aload_n B dL_tick_2 rfl 0 rfl ?_
  refine z_iload_n B dL_tick_3 rfl 1 rfl ?_
  refine z_cVi (As := [.int 6]) (rest := [.int 0, .ref (b + 431)]) B cw_L_41 cx_9 dL_tick_4 (ci_X8_tick_947 l (σ := (ap b σ [] [] [])) (b := b) (lyA hK) (rI_at 0 7 hI_0_7) (rI_at 0 8 hI_0_8) (rI_at 4 2 hI_4_2) (rR_at 0 3 hR_0_3)) (lKA (hk_K hK 0 rfl rfl)) rfl (by decide) rfl (Nat.le_of_ble_eq_true rfl) (by decide) (fun r u hu => ?_)
  refine z_eqs (σ' := (ap b σ [(0, 8, 6), (0, 8, 5), (0, 8, 4), (0, 8, 3), (0, 8, 2), (0, 8, 1)] [] [])) (hu.2.trans ap_ap) ?_
  show zx p l e _ s m _ below meth c g 4 0 0 _ _ 7 [(0, .ref (b + 0)), (1, .int 6), (2, .ref (b + 431))] _
  refine z_seti (y := 6) hu.1 ?_
  refine z_i2l (v := 6) B dL_tick_7 (by decide) ?_
  refine z_last (j := 0) (σ' := (ap b σ [(0, 8, 6), (0, 8, 5), (0, 8, 4), (0, 8, 3), (0, 8, 2), (0, 8, 1)] [(431, 0, 6)] [])) B (lKA (hk_K hK 431 rfl rfl)) (by decide) (in_of (lNA (hk_N hK 431 rfl rfl)) (show ¬ ((0 : Int32) < 0 ∨ 1 ≤ (0 : Int32).toNatClampNeg) by decide)) wJ_ap dL_tick_8 ?_
  refine z_goto (tgt := 15) B dL_tick_9 (by decide) ?_
  refine z_iconst (v := 0) B dL_tick_15 (by decide) ?_
  exact z_iret B hr (by decide) (by decide) dL_tick_16 ⟨rfl, rfl⟩
set_option maxRecDepth 100000 in
set_option maxHeartbeats 4000000 in
theorem ci_X9_in_949 (l : Launch) {g : gx_T} {σ : sx_T} {b : Nat} (hK : lay b σ)    : Met l yX9_in (.code yX9_in cX9_in 3 (some .boolean) :: lw_g) { frames := 0, cells := 0, slots := 0, locals := 0 } (va_Pc [.int 6, .int 1, .int 50] (zx_w g σ)) (va_Qi (fun r u => r = 1 ∧ u = σ) (zx_w g) (gx_Q g)) 0 0 (gx_Q g) := by
  refine z_met (by decide) (Nat.le_of_ble_eq_true rfl) (fun p e s m below meth c B hr hin => ?_)
  refine z_eqs (σ' := (ap b σ [] [] [])) rfl ?_
  show zx p l e _ s m _ below meth c g 3 0 0 _ _ 0 [(0, .int 6), (1, .int 1), (2, .int 50)] []
  refine z_iload_n B dX9_in_0 rfl 0 rfl ?_
  refine z_iload_n B dX9_in_1 rfl 1 rfl ?_
  refine z_icmp_lt (tgt := 14) B dX9_in_2 (by decide) (fun h => absurd h (by decide)) (fun _ => ?_)
  refine z_iload_n B dX9_in_5 rfl 0 rfl ?_
  refine z_iload_n B dX9_in_6 rfl 2 rfl ?_
  refine z_icmp_gt (tgt := 14) B dX9_in_7 (by decide) (fun h => absurd h (by decide)) (fun _ => ?_)
  refine z_iconst (v := 1) B dX9_in_10 (by decide) ?_
  refine z_goto (tgt := 15) B dX9_in_11 (by decide) ?_
  exact z_zret B hr (by decide) (by decide) (by decide) dX9_in_15 ⟨rfl, rfl⟩
set_option maxRecDepth 100000 in
set_option maxHeartbeats 4000000 in
theorem ci_X9_ticks_950 (l : Launch) {g : gx_T} {σ : sx_T} {b : Nat} (hK : lay b σ)   (hI_405_1 : sx_I σ (b + 405) 1 = 5) (hI_405_6 : sx_I σ (b + 405) 6 = 0) (hI_405_16 : sx_I σ (b + 405) 16 = 0) : Met l yX9_ticks (.code yX9_ticks cX9_ticks 2 none :: lw_g) { frames := 0, cells := 0, slots := 0, locals := 0 } (va_Pc [.ref (b + 405)] (zx_w g σ)) (va_Qv (fun u => u = (ap b σ [(405, 1, 6)] [] [])) (zx_w g) (gx_Q g)) 0 0 (gx_Q g) := by
  refine z_met (by decide) (Nat.le_of_ble_eq_true rfl) (fun p e s m below meth c B hr hin => ?_)
  refine z_eqs (σ' := (ap b σ [] [] [])) rfl ?_
  show zx p l e _ s m _ below meth c g 2 0 0 _ _ 0 [(0, .ref (b + 405))] []
  refine z_aload_n B dX9_ticks_0 rfl 0 rfl ?_
  refine z_dup B dX9_ticks_1 rfl ?_
  refine gf_X9_197 (x := 5) B (lKA (hk_K hK 405 rfl rfl)) (rI_at 405 1 hI_405_1) dX9_ticks_2 ?_
  refine z_iconst (v := 1) B dX9_ticks_5 (by decide) ?_
  refine z_iadd B dX9_ticks_6 ?_
  refine z_seti (y := 6) (by decide) ?_
  refine pf_X9_197 (x := 6) (σ' := (ap b σ [(405, 1, 6)] [] [])) B (lKA (hk_K hK 405 rfl rfl)) wI_ap dX9_ticks_7 ?_
  refine z_iconst (v := 0) B dX9_ticks_10 (by decide) ?_
  refine z_istore_n (lv' := [(1, .int 0), (0, .ref (b + 405))]) B dX9_ticks_11 rfl (by decide) rfl ?_
  refine z_iload_n B dX9_ticks_12 rfl 0 rfl ?_
  refine z_aload_n B dX9_ticks_13 rfl 1 rfl ?_
  refine gf_X9_100 (x := 0) B (lKA (hk_K hK 405 rfl rfl)) (rI_at 405 16 hI_405_16) dX9_ticks_14 ?_
  refine z_icmp_ge (tgt := 104) B dX9_ticks_17 (by decide) (fun _ => ?_) (fun h => absurd (by decide) h)
  refine z_iconst (v := 0) B dX9_ticks_104 (by decide) ?_
  refine z_istore_n (lv' := [(1, .int 0), (0, .ref (b + 405))]) B dX9_ticks_105 rfl (by decide) rfl ?_
  refine z_iload_n B dX9_ticks_106 rfl 0 rfl ?_
  refine z_aload_n B dX9_ticks_107 rfl 1 rfl ?_
  refine gf_X9_93 (x := 0) B (lKA (hk_K hK 405 rfl rfl)) (rI_at 405 6 hI_405_6) dX9_ticks_108 ?_
  refine z_icmp_ge (tgt := 176) B dX9_ticks_111 (by decide) (fun _ => ?_) (fun h => absurd (by decide) h)
  exact z_vret B hr (by decide) (by decide) dX9_ticks_176 rfl
set_option maxRecDepth 100000 in
set_option maxHeartbeats 4000000 in
theorem ci_X9_tick_951 (l : Launch) {g : gx_T} {σ : sx_T} {b : Nat} (hK : lay b σ)   (hI_405_1 : sx_I σ (b + 405) 1 = 0) (hI_405_6 : sx_I σ (b + 405) 6 = 0) (hI_405_16 : sx_I σ (b + 405) 16 = 0) : Met l yX9_tick (.code yX9_tick cX9_tick 3 (some .int) :: lw_g) { frames := 1, cells := 0, slots := 0, locals := 22 } (va_Pc [.ref (b + 405), .int 6] (zx_w g σ)) (va_Qi (fun r u => r = 6 ∧ u = (ap b σ [(405, 1, 6), (405, 1, 5), (405, 1, 4), (405, 1, 3), (405, 1, 2), (405, 1, 1), (405, 0, 0)] [] [])) (zx_w g) (gx_Q g)) 0 0 (gx_Q g) := by
  refine z_met (by decide) (Nat.le_of_ble_eq_true rfl) (fun p e s m below meth c B hr hin => ?_)
  refine z_eqs (σ' := (ap b σ [] [] [])) rfl ?_
  show zx p l e _ s m _ below meth c g 3 0 0 _ _ 0 [(0, .ref (b + 405)), (1, .int 6)] []
  refine z_aload_n B dX9_tick_0 rfl 0 rfl ?_
  refine z_iload_n B dX9_tick_1 rfl 1 rfl ?_
  refine z_iconst (v := 1) B dX9_tick_2 (by decide) ?_
  refine z_bipush (v := 50) B dX9_tick_3 (by decide) ?_
  refine z_cSi (As := [.int 6, .int 1, .int 50]) (rest := [.ref (b + 405)]) B cw_X9_96 dX9_tick_5 (ci_X9_in_949 l (σ := (ap b σ [] [] [])) (b := b) (lyA hK) ) rfl (by decide) rfl (Nat.le_of_ble_eq_true rfl) (by decide) (fun r u hu => ?_)
  refine z_eqs (σ' := (ap b σ [] [] [])) hu.2 ?_
  show zx p l e _ s m _ below meth c g 3 0 0 _ _ 8 [(0, .ref (b + 405)), (1, .int 6)] _
  refine z_seti (y := 1) hu.1 ?_
  refine z_cVi (As := [.int 1]) (rest := []) B cw_X9_269 cx_10 dX9_tick_8 (ci_X9_needs_905 l (σ := (ap b σ [] [] [])) (b := b) (lyA hK) ) (lKA (hk_K hK 405 rfl rfl)) rfl (by decide) rfl (Nat.le_of_ble_eq_true rfl) (by decide) (fun r u hu => ?_)
  refine z_eqs (σ' := (ap b σ [(405, 0, 0)] [] [])) (hu.2.trans ap_ap) ?_
  show zx p l e _ s m _ below meth c g 3 0 0 _ _ 11 [(0, .ref (b + 405)), (1, .int 6)] _
  refine z_seti (y := 1) hu.1 ?_
  refine z_if_ne (tgt := 16) B dX9_tick_11 (by decide) (fun _ => ?_) (fun h => absurd h (by decide))
  refine z_iconst (v := 0) B dX9_tick_16 (by decide) ?_
  refine z_istore_n (lv' := [(2, .int 0), (0, .ref (b + 405)), (1, .int 6)]) B dX9_tick_17 rfl (by decide) rfl ?_
  refine z_iload_n B dX9_tick_18 rfl 0 rfl ?_
  refine z_iload_n B dX9_tick_19 rfl 2 rfl ?_
  refine z_icmp_ge (tgt := 33) B dX9_tick_20 (by decide) (fun h => absurd h (by decide)) (fun _ => ?_)
  refine z_aload_n B dX9_tick_23 rfl 1 rfl ?_
  refine z_cVv (As := []) (rest := []) B cw_X9_294 cx_10 dX9_tick_24 (ci_X9_ticks_925 l (σ := (ap b σ [(405, 0, 0)] [] [])) (b := b) (lyA hK) (rI_at 405 1 hI_405_1) (rI_at 405 6 hI_405_6) (rI_at 405 16 hI_405_16)) (lKA (hk_K hK 405 rfl rfl)) rfl (by decide) rfl (Nat.le_of_ble_eq_true rfl) (by decide) (fun u hu => ?_)
  refine z_eqs (σ' := (ap b σ [(405, 1, 1), (405, 0, 0)] [] [])) (hu.trans ap_ap) ?_
  show zx p l e _ s m _ below meth c g 3 0 0 _ _ 27 [(2, .int 0), (0, .ref (b + 405)), (1, .int 6)] _
  refine z_iinc (v := 1) (lv' := [(2, .int 1), (0, .ref (b + 405)), (1, .int 6)]) B dX9_tick_27 0 rfl (by decide) (by decide) rfl ?_
  refine z_goto (tgt := 18) B dX9_tick_30 (by decide) ?_
  refine z_iload_n B dX9_tick_18 rfl 0 rfl ?_
  refine z_iload_n B dX9_tick_19 rfl 2 rfl ?_
  refine z_icmp_ge (tgt := 33) B dX9_tick_20 (by decide) (fun h => absurd h (by decide)) (fun _ => ?_)
  refine z_aload_n B dX9_tick_23 rfl 1 rfl ?_
  refine z_cVv (As := []) (rest := []) B cw_X9_294 cx_10 dX9_tick_24 (ci_X9_ticks_930 l (σ := (ap b σ [(405, 1, 1), (405, 0, 0)] [] [])) (b := b) (lyA hK) (rI_at 405 1 rfl) (rI_at 405 6 hI_405_6) (rI_at 405 16 hI_405_16)) (lKA (hk_K hK 405 rfl rfl)) rfl (by decide) rfl (Nat.le_of_ble_eq_true rfl) (by decide) (fun u hu => ?_)
  refine z_eqs (σ' := (ap b σ [(405, 1, 2), (405, 1, 1), (405, 0, 0)] [] [])) (hu.trans ap_ap) ?_
  show zx p l e _ s m _ below meth c g 3 0 0 _ _ 27 [(2, .int 1), (0, .ref (b + 405)), (1, .int 6)] _
  refine z_iinc (v := 2) (lv' := [(2, .int 2), (0, .ref (b + 405)), (1, .int 6)]) B dX9_tick_27 0 rfl (by decide) (by decide) rfl ?_
  refine z_goto (tgt := 18) B dX9_tick_30 (by decide) ?_
  refine z_iload_n B dX9_tick_18 rfl 0 rfl ?_
  refine z_iload_n B dX9_tick_19 rfl 2 rfl ?_
  refine z_icmp_ge (tgt := 33) B dX9_tick_20 (by decide) (fun h => absurd h (by decide)) (fun _ => ?_)
  refine z_aload_n B dX9_tick_23 rfl 1 rfl ?_
  refine z_cVv (As := []) (rest := []) B cw_X9_294 cx_10 dX9_tick_24 (ci_X9_ticks_935 l (σ := (ap b σ [(405, 1, 2), (405, 1, 1), (405, 0, 0)] [] [])) (b := b) (lyA hK) (rI_at 405 1 rfl) (rI_at 405 6 hI_405_6) (rI_at 405 16 hI_405_16)) (lKA (hk_K hK 405 rfl rfl)) rfl (by decide) rfl (Nat.le_of_ble_eq_true rfl) (by decide) (fun u hu => ?_)
  refine z_eqs (σ' := (ap b σ [(405, 1, 3), (405, 1, 2), (405, 1, 1), (405, 0, 0)] [] [])) (hu.trans ap_ap) ?_
  show zx p l e _ s m _ below meth c g 3 0 0 _ _ 27 [(2, .int 2), (0, .ref (b + 405)), (1, .int 6)] _
  refine z_iinc (v := 3) (lv' := [(2, .int 3), (0, .ref (b + 405)), (1, .int 6)]) B dX9_tick_27 0 rfl (by decide) (by decide) rfl ?_
  refine z_goto (tgt := 18) B dX9_tick_30 (by decide) ?_
  refine z_iload_n B dX9_tick_18 rfl 0 rfl ?_
  refine z_iload_n B dX9_tick_19 rfl 2 rfl ?_
  refine z_icmp_ge (tgt := 33) B dX9_tick_20 (by decide) (fun h => absurd h (by decide)) (fun _ => ?_)
  refine z_aload_n B dX9_tick_23 rfl 1 rfl ?_
  refine z_cVv (As := []) (rest := []) B cw_X9_294 cx_10 dX9_tick_24 (ci_X9_ticks_940 l (σ := (ap b σ [(405, 1, 3), (405, 1, 2), (405, 1, 1), (405, 0, 0)] [] [])) (b := b) (lyA hK) (rI_at 405 1 rfl) (rI_at 405 6 hI_405_6) (rI_at 405 16 hI_405_16)) (lKA (hk_K hK 405 rfl rfl)) rfl (by decide) rfl (Nat.le_of_ble_eq_true rfl) (by decide) (fun u hu => ?_)
  refine z_eqs (σ' := (ap b σ [(405, 1, 4), (405, 1, 3), (405, 1, 2), (405, 1, 1), (405, 0, 0)] [] [])) (hu.trans ap_ap) ?_
  show zx p l e _ s m _ below meth c g 3 0 0 _ _ 27 [(2, .int 3), (0, .ref (b + 405)), (1, .int 6)] _
  refine z_iinc (v := 4) (lv' := [(2, .int 4), (0, .ref (b + 405)), (1, .int 6)]) B dX9_tick_27 0 rfl (by decide) (by decide) rfl ?_
  refine z_goto (tgt := 18) B dX9_tick_30 (by decide) ?_
  refine z_iload_n B dX9_tick_18 rfl 0 rfl ?_
  refine z_iload_n B dX9_tick_19 rfl 2 rfl ?_
  refine z_icmp_ge (tgt := 33) B dX9_tick_20 (by decide) (fun h => absurd h (by decide)) (fun _ => ?_)
  refine z_aload_n B dX9_tick_23 rfl 1 rfl ?_
  refine z_cVv (As := []) (rest := []) B cw_X9_294 cx_10 dX9_tick_24 (ci_X9_ticks_945 l (σ := (ap b σ [(405, 1, 4), (405, 1, 3), (405, 1, 2), (405, 1, 1), (405, 0, 0)] [] [])) (b := b) (lyA hK) (rI_at 405 1 rfl) (rI_at 405 6 hI_405_6) (rI_at 405 16 hI_405_16)) (lKA (hk_K hK 405 rfl rfl)) rfl (by decide) rfl (Nat.le_of_ble_eq_true rfl) (by decide) (fun u hu => ?_)
  refine z_eqs (σ' := (ap b σ [(405, 1, 5), (405, 1, 4), (405, 1, 3), (405, 1, 2), (405, 1, 1), (405, 0, 0)] [] [])) (hu.trans ap_ap) ?_
  show zx p l e _ s m _ below meth c g 3 0 0 _ _ 27 [(2, .int 4), (0, .ref (b + 405)), (1, .int 6)] _
  refine z_iinc (v := 5) (lv' := [(2, .int 5), (0, .ref (b + 405)), (1, .int 6)]) B dX9_tick_27 0 rfl (by decide) (by decide) rfl ?_
  refine z_goto (tgt := 18) B dX9_tick_30 (by decide) ?_
  refine z_iload_n B dX9_tick_18 rfl 0 rfl ?_
  refine z_iload_n B dX9_tick_19 rfl 2 rfl ?_
  refine z_icmp_ge (tgt := 33) B dX9_tick_20 (by decide) (fun h => absurd h (by decide)) (fun _ => ?_)
  refine z_aload_n B dX9_tick_23 rfl 1 rfl ?_
  refine z_cVv (As := []) (rest := []) B cw_X9_294 cx_10 dX9_tick_24 (ci_X9_ticks_950 l (σ := (ap b σ [(405, 1, 5), (405, 1, 4), (405, 1, 3), (405, 1, 2), (405, 1, 1), (405, 0, 0)] [] [])) (b := b) (lyA hK) (rI_at 405 1 rfl) (rI_at 405 6 hI_405_6) (rI_at 405 16 hI_405_16)) (lKA (hk_K hK 405 rfl rfl)) rfl (by decide) rfl (Nat.le_of_ble_eq_true rfl) (by decide) (fun u hu => ?_)
  refine z_eqs (σ' := (ap b σ [(405, 1, 6), (405, 1, 5), (405, 1, 4), (405, 1, 3), (405, 1, 2), (405, 1, 1), (405, 0, 0)] [] [])) (hu.trans ap_ap) ?_
  show zx p l e _ s m _ below meth c g 3 0 0 _ _ 27 [(2, .int 5), (0, .ref (b + 405)), (1, .int 6)] _
  refine z_iinc (v := 6) (lv' := [(2, .int 6), (0, .ref (b + 405)), (1, .int 6)]) B dX9_tick_27 0 rfl (by decide) (by decide) rfl ?_
  refine z_goto (tgt := 18) B dX9_tick_30 (by decide) ?_
  refine z_iload_n B dX9_tick_18 rfl 0 rfl ?_
  refine z_iload_n B dX9_tick_19 rfl 2 rfl ?_
  refine z_icmp_ge (tgt := 33) B dX9_tick_20 (by decide) (fun _ => ?_) (fun h => absurd (by decide) h)
  refine z_aload_n B dX9_tick_33 rfl 1 rfl ?_
  refine gf_X9_197 (x := 6) B (lKA (hk_K hK 405 rfl rfl)) (rI_at 405 1 rfl) dX9_tick_34 ?_
  exact z_iret B hr (by decide) (by decide) dX9_tick_37 ⟨rfl, rfl⟩
set_option maxRecDepth 100000 in
set_option maxHeartbeats 4000000 in
theorem ci_X8_tick_952 (l : Launch) {g : gx_T} {σ : sx_T} {b : Nat} (hK : lay b σ)   (hI_0_7 : sx_I σ (b + 0) 7 = 0) (hI_0_8 : sx_I σ (b + 0) 8 = 0) (hI_4_2 : sx_I σ (b + 4) 2 = 0) (hR_0_3 : sx_R σ (b + 0) 3 = (some (b + 4))) : Met l yX8_tick (.code yX8_tick cX8_tick 3 (some .int) :: lw_g) { frames := 2, cells := 0, slots := 0, locals := 42 } (va_Pc [.ref (b + 0), .int 7] (zx_w g σ)) (va_Qi (fun r u => r = 7 ∧ u = (ap b σ [(0, 8, 7), (0, 8, 6), (0, 8, 5), (0, 8, 4), (0, 8, 3), (0, 8, 2), (0, 8, 1)] [] [])) (zx_w g) (gx_Q g)) 0 0 (gx_Q g) := by
  refine z_met (by decide) (Nat.le_of_ble_eq_true rfl) (fun p e s m below meth c B hr hin => ?_)
  refine z_eqs (σ' := (ap b σ [] [] [])) rfl ?_
  show zx p l e _ s m _ below meth c g 3 0 0 _ _ 0 [(0, .ref (b + 0)), (1, .int 7)] []
  refine z_iload_n B dX8_tick_0 rfl 1 rfl ?_
  refine z_iconst (v := 1) B dX8_tick_1 (by decide) ?_
  refine z_icmp_lt (tgt := 11) B dX8_tick_2 (by decide) (fun h => absurd h (by decide)) (fun _ => ?_)
  refine z_iload_n B dX8_tick_5 rfl 1 rfl ?_
  refine z_bipush (v := 50) B dX8_tick_6 (by decide) ?_
  refine z_icmp_le (tgt := 21) B dX8_tick_8 (by decide) (fun _ => ?_) (fun h => absurd (by decide) h)
  refine z_iconst (v := 0) B dX8_tick_21 (by decide) ?_
  refine z_istore_n (lv' := [(2, .int 0), (0, .ref (b + 0)), (1, .int 7)]) B dX8_tick_22 rfl (by decide) rfl ?_
  refine z_iload_n B dX8_tick_23 rfl 0 rfl ?_
  refine z_iload_n B dX8_tick_24 rfl 2 rfl ?_
  refine z_icmp_ge (tgt := 52) B dX8_tick_25 (by decide) (fun h => absurd h (by decide)) (fun _ => ?_)
  refine z_aload_n B dX8_tick_28 rfl 1 rfl ?_
  refine z_dup B dX8_tick_29 rfl ?_
  refine gf_X8_206 (x := 0) B (lKA (hk_K hK 0 rfl rfl)) (rI_at 0 8 hI_0_8) dX8_tick_30 ?_
  refine z_iconst (v := 1) B dX8_tick_33 (by decide) ?_
  refine z_iadd B dX8_tick_34 ?_
  refine z_seti (y := 1) (by decide) ?_
  refine pf_X8_206 (x := 1) (σ' := (ap b σ [(0, 8, 1)] [] [])) B (lKA (hk_K hK 0 rfl rfl)) wI_ap dX8_tick_35 ?_
  refine z_aload_n B dX8_tick_38 rfl 1 rfl ?_
  refine z_cVv (As := []) (rest := []) B cw_X8_240 cx_9 dX8_tick_39 (ci_X8_passTasks_920 l (σ := (ap b σ [(0, 8, 1)] [] [])) (b := b) (lyA hK) (rI_at 4 2 hI_4_2) (rR_at 0 3 hR_0_3)) (lKA (hk_K hK 0 rfl rfl)) rfl (by decide) rfl (Nat.le_of_ble_eq_true rfl) (by decide) (fun u hu => ?_)
  refine z_eqs (σ' := (ap b σ [(0, 8, 1)] [] [])) hu ?_
  show zx p l e _ s m _ below meth c g 3 0 0 _ _ 42 [(2, .int 0), (0, .ref (b + 0)), (1, .int 7)] _
  refine z_aload_n B dX8_tick_42 rfl 1 rfl ?_
  refine z_cVv (As := []) (rest := []) B cw_X8_243 cx_9 dX8_tick_43 (ci_X8_passTimers_921 l (σ := (ap b σ [(0, 8, 1)] [] [])) (b := b) (lyA hK) (rI_at 0 7 hI_0_7)) (lKA (hk_K hK 0 rfl rfl)) rfl (by decide) rfl (Nat.le_of_ble_eq_true rfl) (by decide) (fun u hu => ?_)
  refine z_eqs (σ' := (ap b σ [(0, 8, 1)] [] [])) hu ?_
  show zx p l e _ s m _ below meth c g 3 0 0 _ _ 46 [(2, .int 0), (0, .ref (b + 0)), (1, .int 7)] _
  refine z_iinc (v := 1) (lv' := [(2, .int 1), (0, .ref (b + 0)), (1, .int 7)]) B dX8_tick_46 0 rfl (by decide) (by decide) rfl ?_
  refine z_goto (tgt := 23) B dX8_tick_49 (by decide) ?_
  refine z_iload_n B dX8_tick_23 rfl 0 rfl ?_
  refine z_iload_n B dX8_tick_24 rfl 2 rfl ?_
  refine z_icmp_ge (tgt := 52) B dX8_tick_25 (by decide) (fun h => absurd h (by decide)) (fun _ => ?_)
  refine z_aload_n B dX8_tick_28 rfl 1 rfl ?_
  refine z_dup B dX8_tick_29 rfl ?_
  refine gf_X8_206 (x := 1) B (lKA (hk_K hK 0 rfl rfl)) (rI_at 0 8 rfl) dX8_tick_30 ?_
  refine z_iconst (v := 1) B dX8_tick_33 (by decide) ?_
  refine z_iadd B dX8_tick_34 ?_
  refine z_seti (y := 2) (by decide) ?_
  refine pf_X8_206 (x := 2) (σ' := (ap b σ [(0, 8, 2), (0, 8, 1)] [] [])) B (lKA (hk_K hK 0 rfl rfl)) wI_ap dX8_tick_35 ?_
  refine z_aload_n B dX8_tick_38 rfl 1 rfl ?_
  refine z_cVv (As := []) (rest := []) B cw_X8_240 cx_9 dX8_tick_39 (ci_X8_passTasks_920 l (σ := (ap b σ [(0, 8, 2), (0, 8, 1)] [] [])) (b := b) (lyA hK) (rI_at 4 2 hI_4_2) (rR_at 0 3 hR_0_3)) (lKA (hk_K hK 0 rfl rfl)) rfl (by decide) rfl (Nat.le_of_ble_eq_true rfl) (by decide) (fun u hu => ?_)
  refine z_eqs (σ' := (ap b σ [(0, 8, 2), (0, 8, 1)] [] [])) hu ?_
  show zx p l e _ s m _ below meth c g 3 0 0 _ _ 42 [(2, .int 1), (0, .ref (b + 0)), (1, .int 7)] _
  refine z_aload_n B dX8_tick_42 rfl 1 rfl ?_
  refine z_cVv (As := []) (rest := []) B cw_X8_243 cx_9 dX8_tick_43 (ci_X8_passTimers_921 l (σ := (ap b σ [(0, 8, 2), (0, 8, 1)] [] [])) (b := b) (lyA hK) (rI_at 0 7 hI_0_7)) (lKA (hk_K hK 0 rfl rfl)) rfl (by decide) rfl (Nat.le_of_ble_eq_true rfl) (by decide) (fun u hu => ?_)
  refine z_eqs (σ' := (ap b σ [(0, 8, 2), (0, 8, 1)] [] [])) hu ?_
  show zx p l e _ s m _ below meth c g 3 0 0 _ _ 46 [(2, .int 1), (0, .ref (b + 0)), (1, .int 7)] _
  refine z_iinc (v := 2) (lv' := [(2, .int 2), (0, .ref (b + 0)), (1, .int 7)]) B dX8_tick_46 0 rfl (by decide) (by decide) rfl ?_
  refine z_goto (tgt := 23) B dX8_tick_49 (by decide) ?_
  refine z_iload_n B dX8_tick_23 rfl 0 rfl ?_
  refine z_iload_n B dX8_tick_24 rfl 2 rfl ?_
  refine z_icmp_ge (tgt := 52) B dX8_tick_25 (by decide) (fun h => absurd h (by decide)) (fun _ => ?_)
  refine z_aload_n B dX8_tick_28 rfl 1 rfl ?_
  refine z_dup B dX8_tick_29 rfl ?_
  refine gf_X8_206 (x := 2) B (lKA (hk_K hK 0 rfl rfl)) (rI_at 0 8 rfl) dX8_tick_30 ?_
  refine z_iconst (v := 1) B dX8_tick_33 (by decide) ?_
  refine z_iadd B dX8_tick_34 ?_
  refine z_seti (y := 3) (by decide) ?_
  refine pf_X8_206 (x := 3) (σ' := (ap b σ [(0, 8, 3), (0, 8, 2), (0, 8, 1)] [] [])) B (lKA (hk_K hK 0 rfl rfl)) wI_ap dX8_tick_35 ?_
  refine z_aload_n B dX8_tick_38 rfl 1 rfl ?_
  refine z_cVv (As := []) (rest := []) B cw_X8_240 cx_9 dX8_tick_39 (ci_X8_passTasks_920 l (σ := (ap b σ [(0, 8, 3), (0, 8, 2), (0, 8, 1)] [] [])) (b := b) (lyA hK) (rI_at 4 2 hI_4_2) (rR_at 0 3 hR_0_3)) (lKA (hk_K hK 0 rfl rfl)) rfl (by decide) rfl (Nat.le_of_ble_eq_true rfl) (by decide) (fun u hu => ?_)
  refine z_eqs (σ' := (ap b σ [(0, 8, 3), (0, 8, 2), (0, 8, 1)] [] [])) hu ?_
  show zx p l e _ s m _ below meth c g 3 0 0 _ _ 42 [(2, .int 2), (0, .ref (b + 0)), (1, .int 7)] _
  refine z_aload_n B dX8_tick_42 rfl 1 rfl ?_
  refine z_cVv (As := []) (rest := []) B cw_X8_243 cx_9 dX8_tick_43 (ci_X8_passTimers_921 l (σ := (ap b σ [(0, 8, 3), (0, 8, 2), (0, 8, 1)] [] [])) (b := b) (lyA hK) (rI_at 0 7 hI_0_7)) (lKA (hk_K hK 0 rfl rfl)) rfl (by decide) rfl (Nat.le_of_ble_eq_true rfl) (by decide) (fun u hu => ?_)
  refine z_eqs (σ' := (ap b σ [(0, 8, 3), (0, 8, 2), (0, 8, 1)] [] [])) hu ?_
  show zx p l e _ s m _ below meth c g 3 0 0 _ _ 46 [(2, .int 2), (0, .ref (b + 0)), (1, .int 7)] _
  refine z_iinc (v := 3) (lv' := [(2, .int 3), (0, .ref (b + 0)), (1, .int 7)]) B dX8_tick_46 0 rfl (by decide) (by decide) rfl ?_
  refine z_goto (tgt := 23) B dX8_tick_49 (by decide) ?_
  refine z_iload_n B dX8_tick_23 rfl 0 rfl ?_
  refine z_iload_n B dX8_tick_24 rfl 2 rfl ?_
  refine z_icmp_ge (tgt := 52) B dX8_tick_25 (by decide) (fun h => absurd h (by decide)) (fun _ => ?_)
  refine z_aload_n B dX8_tick_28 rfl 1 rfl ?_
  refine z_dup B dX8_tick_29 rfl ?_
  refine gf_X8_206 (x := 3) B (lKA (hk_K hK 0 rfl rfl)) (rI_at 0 8 rfl) dX8_tick_30 ?_
  refine z_iconst (v := 1) B dX8_tick_33 (by decide) ?_
  refine z_iadd B dX8_tick_34 ?_
  refine z_seti (y := 4) (by decide) ?_
  refine pf_X8_206 (x := 4) (σ' := (ap b σ [(0, 8, 4), (0, 8, 3), (0, 8, 2), (0, 8, 1)] [] [])) B (lKA (hk_K hK 0 rfl rfl)) wI_ap dX8_tick_35 ?_
  refine z_aload_n B dX8_tick_38 rfl 1 rfl ?_
  refine z_cVv (As := []) (rest := []) B cw_X8_240 cx_9 dX8_tick_39 (ci_X8_passTasks_920 l (σ := (ap b σ [(0, 8, 4), (0, 8, 3), (0, 8, 2), (0, 8, 1)] [] [])) (b := b) (lyA hK) (rI_at 4 2 hI_4_2) (rR_at 0 3 hR_0_3)) (lKA (hk_K hK 0 rfl rfl)) rfl (by decide) rfl (Nat.le_of_ble_eq_true rfl) (by decide) (fun u hu => ?_)
  refine z_eqs (σ' := (ap b σ [(0, 8, 4), (0, 8, 3), (0, 8, 2), (0, 8, 1)] [] [])) hu ?_
  show zx p l e _ s m _ below meth c g 3 0 0 _ _ 42 [(2, .int 3), (0, .ref (b + 0)), (1, .int 7)] _
  refine z_aload_n B dX8_tick_42 rfl 1 rfl ?_
  refine z_cVv (As := []) (rest := []) B cw_X8_243 cx_9 dX8_tick_43 (ci_X8_passTimers_921 l (σ := (ap b σ [(0, 8, 4), (0, 8, 3), (0, 8, 2), (0, 8, 1)] [] [])) (b := b) (lyA hK) (rI_at 0 7 hI_0_7)) (lKA (hk_K hK 0 rfl rfl)) rfl (by decide) rfl (Nat.le_of_ble_eq_true rfl) (by decide) (fun u hu => ?_)
  refine z_eqs (σ' := (ap b σ [(0, 8, 4), (0, 8, 3), (0, 8, 2), (0, 8, 1)] [] [])) hu ?_
  show zx p l e _ s m _ below meth c g 3 0 0 _ _ 46 [(2, .int 3), (0, .ref (b + 0)), (1, .int 7)] _
  refine z_iinc (v := 4) (lv' := [(2, .int 4), (0, .ref (b + 0)), (1, .int 7)]) B dX8_tick_46 0 rfl (by decide) (by decide) rfl ?_
  refine z_goto (tgt := 23) B dX8_tick_49 (by decide) ?_
  refine z_iload_n B dX8_tick_23 rfl 0 rfl ?_
  refine z_iload_n B dX8_tick_24 rfl 2 rfl ?_
  refine z_icmp_ge (tgt := 52) B dX8_tick_25 (by decide) (fun h => absurd h (by decide)) (fun _ => ?_)
  refine z_aload_n B dX8_tick_28 rfl 1 rfl ?_
  refine z_dup B dX8_tick_29 rfl ?_
  refine gf_X8_206 (x := 4) B (lKA (hk_K hK 0 rfl rfl)) (rI_at 0 8 rfl) dX8_tick_30 ?_
  refine z_iconst (v := 1) B dX8_tick_33 (by decide) ?_
  refine z_iadd B dX8_tick_34 ?_
  refine z_seti (y := 5) (by decide) ?_
  refine pf_X8_206 (x := 5) (σ' := (ap b σ [(0, 8, 5), (0, 8, 4), (0, 8, 3), (0, 8, 2), (0, 8, 1)] [] [])) B (lKA (hk_K hK 0 rfl rfl)) wI_ap dX8_tick_35 ?_
  refine z_aload_n B dX8_tick_38 rfl 1 rfl ?_
  refine z_cVv (As := []) (rest := []) B cw_X8_240 cx_9 dX8_tick_39 (ci_X8_passTasks_920 l (σ := (ap b σ [(0, 8, 5), (0, 8, 4), (0, 8, 3), (0, 8, 2), (0, 8, 1)] [] [])) (b := b) (lyA hK) (rI_at 4 2 hI_4_2) (rR_at 0 3 hR_0_3)) (lKA (hk_K hK 0 rfl rfl)) rfl (by decide) rfl (Nat.le_of_ble_eq_true rfl) (by decide) (fun u hu => ?_)
  refine z_eqs (σ' := (ap b σ [(0, 8, 5), (0, 8, 4), (0, 8, 3), (0, 8, 2), (0, 8, 1)] [] [])) hu ?_
  show zx p l e _ s m _ below meth c g 3 0 0 _ _ 42 [(2, .int 4), (0, .ref (b + 0)), (1, .int 7)] _
  refine z_aload_n B dX8_tick_42 rfl 1 rfl ?_
  refine z_cVv (As := []) (rest := []) B cw_X8_243 cx_9 dX8_tick_43 (ci_X8_passTimers_921 l (σ := (ap b σ [(0, 8, 5), (0, 8, 4), (0, 8, 3), (0, 8, 2), (0, 8, 1)] [] [])) (b := b) (lyA hK) (rI_at 0 7 hI_0_7)) (lKA (hk_K hK 0 rfl rfl)) rfl (by decide) rfl (Nat.le_of_ble_eq_true rfl) (by decide) (fun u hu => ?_)
  refine z_eqs (σ' := (ap b σ [(0, 8, 5), (0, 8, 4), (0, 8, 3), (0, 8, 2), (0, 8, 1)] [] [])) hu ?_
  show zx p l e _ s m _ below meth c g 3 0 0 _ _ 46 [(2, .int 4), (0, .ref (b + 0)), (1, .int 7)] _
  refine z_iinc (v := 5) (lv' := [(2, .int 5), (0, .ref (b + 0)), (1, .int 7)]) B dX8_tick_46 0 rfl (by decide) (by decide) rfl ?_
  refine z_goto (tgt := 23) B dX8_tick_49 (by decide) ?_
  refine z_iload_n B dX8_tick_23 rfl 0 rfl ?_
  refine z_iload_n B dX8_tick_24 rfl 2 rfl ?_
  refine z_icmp_ge (tgt := 52) B dX8_tick_25 (by decide) (fun h => absurd h (by decide)) (fun _ => ?_)
  refine z_aload_n B dX8_tick_28 rfl 1 rfl ?_
  refine z_dup B dX8_tick_29 rfl ?_
  refine gf_X8_206 (x := 5) B (lKA (hk_K hK 0 rfl rfl)) (rI_at 0 8 rfl) dX8_tick_30 ?_
  refine z_iconst (v := 1) B dX8_tick_33 (by decide) ?_
  refine z_iadd B dX8_tick_34 ?_
  refine z_seti (y := 6) (by decide) ?_
  refine pf_X8_206 (x := 6) (σ' := (ap b σ [(0, 8, 6), (0, 8, 5), (0, 8, 4), (0, 8, 3), (0, 8, 2), (0, 8, 1)] [] [])) B (lKA (hk_K hK 0 rfl rfl)) wI_ap dX8_tick_35 ?_
  refine z_aload_n B dX8_tick_38 rfl 1 rfl ?_
  refine z_cVv (As := []) (rest := []) B cw_X8_240 cx_9 dX8_tick_39 (ci_X8_passTasks_920 l (σ := (ap b σ [(0, 8, 6), (0, 8, 5), (0, 8, 4), (0, 8, 3), (0, 8, 2), (0, 8, 1)] [] [])) (b := b) (lyA hK) (rI_at 4 2 hI_4_2) (rR_at 0 3 hR_0_3)) (lKA (hk_K hK 0 rfl rfl)) rfl (by decide) rfl (Nat.le_of_ble_eq_true rfl) (by decide) (fun u hu => ?_)
  refine z_eqs (σ' := (ap b σ [(0, 8, 6), (0, 8, 5), (0, 8, 4), (0, 8, 3), (0, 8, 2), (0, 8, 1)] [] [])) hu ?_
  show zx p l e _ s m _ below meth c g 3 0 0 _ _ 42 [(2, .int 5), (0, .ref (b + 0)), (1, .int 7)] _
  refine z_aload_n B dX8_tick_42 rfl 1 rfl ?_
  refine z_cVv (As := []) (rest := []) B cw_X8_243 cx_9 dX8_tick_43 (ci_X8_passTimers_921 l (σ := (ap b σ [(0, 8, 6), (0, 8, 5), (0, 8, 4), (0, 8, 3), (0, 8, 2), (0, 8, 1)] [] [])) (b := b) (lyA hK) (rI_at 0 7 hI_0_7)) (lKA (hk_K hK 0 rfl rfl)) rfl (by decide) rfl (Nat.le_of_ble_eq_true rfl) (by decide) (fun u hu => ?_)
  refine z_eqs (σ' := (ap b σ [(0, 8, 6), (0, 8, 5), (0, 8, 4), (0, 8, 3), (0, 8, 2), (0, 8, 1)] [] [])) hu ?_
  show zx p l e _ s m _ below meth c g 3 0 0 _ _ 46 [(2, .int 5), (0, .ref (b + 0)), (1, .int 7)] _
  refine z_iinc (v := 6) (lv' := [(2, .int 6), (0, .ref (b + 0)), (1, .int 7)]) B dX8_tick_46 0 rfl (by decide) (by decide) rfl ?_
  refine z_goto (tgt := 23) B dX8_tick_49 (by decide) ?_
  refine z_iload_n B dX8_tick_23 rfl 0 rfl ?_
  refine z_iload_n B dX8_tick_24 rfl 2 rfl ?_
  refine z_icmp_ge (tgt := 52) B dX8_tick_25 (by decide) (fun h => absurd h (by decide)) (fun _ => ?_)
  refine z_aload_n B dX8_tick_28 rfl 1 rfl ?_
  refine z_dup B dX8_tick_29 rfl ?_
  refine gf_X8_206 (x := 6) B (lKA (hk_K hK 0 rfl rfl)) (rI_at 0 8 rfl) dX8_tick_30 ?_
  refine z_iconst (v := 1) B dX8_tick_33 (by decide) ?_
  refine z_iadd B dX8_tick_34 ?_
  refine z_seti (y := 7) (by decide) ?_
  refine pf_X8_206 (x := 7) (σ' := (ap b σ [(0, 8, 7), (0, 8, 6), (0, 8, 5), (0, 8, 4), (0, 8, 3), (0, 8, 2), (0, 8, 1)] [] [])) B (lKA (hk_K hK 0 rfl rfl)) wI_ap dX8_tick_35 ?_
  refine z_aload_n B dX8_tick_38 rfl 1 rfl ?_
  refine z_cVv (As := []) (rest := []) B cw_X8_240 cx_9 dX8_tick_39 (ci_X8_passTasks_920 l (σ := (ap b σ [(0, 8, 7), (0, 8, 6), (0, 8, 5), (0, 8, 4), (0, 8, 3), (0, 8, 2), (0, 8, 1)] [] [])) (b := b) (lyA hK) (rI_at 4 2 hI_4_2) (rR_at 0 3 hR_0_3)) (lKA (hk_K hK 0 rfl rfl)) rfl (by decide) rfl (Nat.le_of_ble_eq_true rfl) (by decide) (fun u hu => ?_)
  refine z_eqs (σ' := (ap b σ [(0, 8, 7), (0, 8, 6), (0, 8, 5), (0, 8, 4), (0, 8, 3), (0, 8, 2), (0, 8, 1)] [] [])) hu ?_
  show zx p l e _ s m _ below meth c g 3 0 0 _ _ 42 [(2, .int 6), (0, .ref (b + 0)), (1, .int 7)] _
  refine z_aload_n B dX8_tick_42 rfl 1 rfl ?_
  refine z_cVv (As := []) (rest := []) B cw_X8_243 cx_9 dX8_tick_43 (ci_X8_passTimers_921 l (σ := (ap b σ [(0, 8, 7), (0, 8, 6), (0, 8, 5), (0, 8, 4), (0, 8, 3), (0, 8, 2), (0, 8, 1)] [] [])) (b := b) (lyA hK) (rI_at 0 7 hI_0_7)) (lKA (hk_K hK 0 rfl rfl)) rfl (by decide) rfl (Nat.le_of_ble_eq_true rfl) (by decide) (fun u hu => ?_)
  refine z_eqs (σ' := (ap b σ [(0, 8, 7), (0, 8, 6), (0, 8, 5), (0, 8, 4), (0, 8, 3), (0, 8, 2), (0, 8, 1)] [] [])) hu ?_
  show zx p l e _ s m _ below meth c g 3 0 0 _ _ 46 [(2, .int 6), (0, .ref (b + 0)), (1, .int 7)] _
  refine z_iinc (v := 7) (lv' := [(2, .int 7), (0, .ref (b + 0)), (1, .int 7)]) B dX8_tick_46 0 rfl (by decide) (by decide) rfl ?_
  refine z_goto (tgt := 23) B dX8_tick_49 (by decide) ?_
  refine z_iload_n B dX8_tick_23 rfl 0 rfl ?_
  refine z_iload_n B dX8_tick_24 rfl 2 rfl ?_
  refine z_icmp_ge (tgt := 52) B dX8_tick_25 (by decide) (fun _ => ?_) (fun h => absurd (by decide) h)
  refine z_aload_n B dX8_tick_52 rfl 1 rfl ?_
  refine gf_X8_206 (x := 7) B (lKA (hk_K hK 0 rfl rfl)) (rI_at 0 8 rfl) dX8_tick_53 ?_
  exact z_iret B hr (by decide) (by decide) dX8_tick_56 ⟨rfl, rfl⟩
set_option maxRecDepth 100000 in
set_option maxHeartbeats 4000000 in
theorem ci_L_tick_953 (l : Launch) {g : gx_T} {σ : sx_T} {b : Nat} (hK : lay b σ)   (hI_0_7 : sx_I σ (b + 0) 7 = 0) (hI_0_8 : sx_I σ (b + 0) 8 = 0) (hI_4_2 : sx_I σ (b + 4) 2 = 0) (hR_0_3 : sx_R σ (b + 0) 3 = (some (b + 4))) : Met l yL_tick (.codeWith yL_tick cL_tick 4 (some .int) [(0, 9, 12, 15)] :: lw_g) { frames := 3, cells := 0, slots := 0, locals := 64 } (va_Pc [.ref (b + 0), .int 7, .ref (b + 431)] (zx_w g σ)) (va_Qi (fun r u => r = 0 ∧ u = (ap b σ [(0, 8, 7), (0, 8, 6), (0, 8, 5), (0, 8, 4), (0, 8, 3), (0, 8, 2), (0, 8, 1)] [(431, 0, 7)] [])) (zx_w g) (gx_Q g)) 0 0 (gx_Q g) := by
  refine z_metW (by decide) (Nat.le_of_ble_eq_true rfl) (fun p e s m below meth c B hr htab => ?_)
  refine z_eqs (σ' := (ap b σ [] [] [])) rfl ?_
  show zx p l e _ s m _ below meth c g 4 0 0 _ _ 0 [(0, .ref (b + 0)), (1, .int 7), (2, .ref (b + 431))] []
  refine z_aload_n B dL_tick_0 rfl 2 rfl ?_
  refine z_iconst (v := 0) B dL_tick_1 (by decide) ?_
  refine z_aload_n B dL_tick_2 rfl 0 rfl ?_
  refine z_iload_n B dL_tick_3 rfl 1 rfl ?_
  refine z_cVi (As := [.int 7]) (rest := [.int 0, .ref (b + 431)]) B cw_L_41 cx_9 dL_tick_4 (ci_X8_tick_952 l (σ := (ap b σ [] [] [])) (b := b) (lyA hK) (rI_at 0 7 hI_0_7) (rI_at 0 8 hI_0_8) (rI_at 4 2 hI_4_2) (rR_at 0 3 hR_0_3)) (lKA (hk_K hK 0 rfl rfl)) rfl (by decide) rfl (Nat.le_of_ble_eq_true rfl) (by decide) (fun r u hu => ?_)
  refine z_eqs (σ' := (ap b σ [(0, 8, 7), (0, 8, 6), (0, 8, 5), (0, 8, 4), (0, 8, 3), (0, 8, 2), (0, 8, 1)] [] [])) (hu.2.trans ap_ap) ?_
  show zx p l e _ s m _ below meth c g 4 0 0 _ _ 7 [(0, .ref (b + 0)), (1, .int 7), (2, .ref (b + 431))] _
  refine z_seti (y := 7) hu.1 ?_
  refine z_i2l (v := 7) B dL_tick_7 (by decide) ?_
  refine z_last (j := 0) (σ' := (ap b σ [(0, 8, 7), (0, 8, 6), (0, 8, 5), (0, 8, 4), (0, 8, 3), (0, 8, 2), (0, 8, 1)] [(431, 0, 7)] [])) B (lKA (hk_K hK 431 rfl rfl)) (by decide) (in_of (lNA (hk_N hK 431 rfl rfl)) (show ¬ ((0 : Int32) < 0 ∨ 1 ≤ (0 : Int32).toNatClampNeg) by decide)) wJ_ap dL_tick_8 ?_
  refine z_goto (tgt := 15) B dL_tick_9 (by decide) ?_
  refine z_iconst (v := 0) B dL_tick_15 (by decide) ?_
  exact z_iret B hr (by decide) (by decide) dL_tick_16 ⟨rfl, rfl⟩
set_option maxRecDepth 100000 in
set_option maxHeartbeats 4000000 in
theorem ci_X9_in_954 (l : Launch) {g : gx_T} {σ : sx_T} {b : Nat} (hK : lay b σ)    : Met l yX9_in (.code yX9_in cX9_in 3 (some .boolean) :: lw_g) { frames := 0, cells := 0, slots := 0, locals := 0 } (va_Pc [.int 7, .int 1, .int 50] (zx_w g σ)) (va_Qi (fun r u => r = 1 ∧ u = σ) (zx_w g) (gx_Q g)) 0 0 (gx_Q g) := by
  refine z_met (by decide) (Nat.le_of_ble_eq_true rfl) (fun p e s m below meth c B hr hin => ?_)
  refine z_eqs (σ' := (ap b σ [] [] [])) rfl ?_
  show zx p l e _ s m _ below meth c g 3 0 0 _ _ 0 [(0, .int 7), (1, .int 1), (2, .int 50)] []
  refine z_iload_n B dX9_in_0 rfl 0 rfl ?_
  refine z_iload_n B dX9_in_1 rfl 1 rfl ?_
  refine z_icmp_lt (tgt := 14) B dX9_in_2 (by decide) (fun h => absurd h (by decide)) (fun _ => ?_)
  refine z_iload_n B dX9_in_5 rfl 0 rfl ?_
  refine z_iload_n B dX9_in_6 rfl 2 rfl ?_
  refine z_icmp_gt (tgt := 14) B dX9_in_7 (by decide) (fun h => absurd h (by decide)) (fun _ => ?_)
  refine z_iconst (v := 1) B dX9_in_10 (by decide) ?_
  refine z_goto (tgt := 15) B dX9_in_11 (by decide) ?_
  exact z_zret B hr (by decide) (by decide) (by decide) dX9_in_15 ⟨rfl, rfl⟩
set_option maxRecDepth 100000 in
set_option maxHeartbeats 4000000 in
theorem ci_X9_ticks_955 (l : Launch) {g : gx_T} {σ : sx_T} {b : Nat} (hK : lay b σ)   (hI_405_1 : sx_I σ (b + 405) 1 = 6) (hI_405_6 : sx_I σ (b + 405) 6 = 0) (hI_405_16 : sx_I σ (b + 405) 16 = 0) : Met l yX9_ticks (.code yX9_ticks cX9_ticks 2 none :: lw_g) { frames := 0, cells := 0, slots := 0, locals := 0 } (va_Pc [.ref (b + 405)] (zx_w g σ)) (va_Qv (fun u => u = (ap b σ [(405, 1, 7)] [] [])) (zx_w g) (gx_Q g)) 0 0 (gx_Q g) := by
  refine z_met (by decide) (Nat.le_of_ble_eq_true rfl) (fun p e s m below meth c B hr hin => ?_)
  refine z_eqs (σ' := (ap b σ [] [] [])) rfl ?_
  show zx p l e _ s m _ below meth c g 2 0 0 _ _ 0 [(0, .ref (b + 405))] []
  refine z_aload_n B dX9_ticks_0 rfl 0 rfl ?_
  refine z_dup B dX9_ticks_1 rfl ?_
  refine gf_X9_197 (x := 6) B (lKA (hk_K hK 405 rfl rfl)) (rI_at 405 1 hI_405_1) dX9_ticks_2 ?_
  refine z_iconst (v := 1) B dX9_ticks_5 (by decide) ?_
  refine z_iadd B dX9_ticks_6 ?_
  refine z_seti (y := 7) (by decide) ?_
  refine pf_X9_197 (x := 7) (σ' := (ap b σ [(405, 1, 7)] [] [])) B (lKA (hk_K hK 405 rfl rfl)) wI_ap dX9_ticks_7 ?_
  refine z_iconst (v := 0) B dX9_ticks_10 (by decide) ?_
  refine z_istore_n (lv' := [(1, .int 0), (0, .ref (b + 405))]) B dX9_ticks_11 rfl (by decide) rfl ?_
  refine z_iload_n B dX9_ticks_12 rfl 0 rfl ?_
  refine z_aload_n B dX9_ticks_13 rfl 1 rfl ?_
  refine gf_X9_100 (x := 0) B (lKA (hk_K hK 405 rfl rfl)) (rI_at 405 16 hI_405_16) dX9_ticks_14 ?_
  refine z_icmp_ge (tgt := 104) B dX9_ticks_17 (by decide) (fun _ => ?_) (fun h => absurd (by decide) h)
  refine z_iconst (v := 0) B dX9_ticks_104 (by decide) ?_
  refine z_istore_n (lv' := [(1, .int 0), (0, .ref (b + 405))]) B dX9_ticks_105 rfl (by decide) rfl ?_
  refine z_iload_n B dX9_ticks_106 rfl 0 rfl ?_
  refine z_aload_n B dX9_ticks_107 rfl 1 rfl ?_
  refine gf_X9_93 (x := 0) B (lKA (hk_K hK 405 rfl rfl)) (rI_at 405 6 hI_405_6) dX9_ticks_108 ?_
  refine z_icmp_ge (tgt := 176) B dX9_ticks_111 (by decide) (fun _ => ?_) (fun h => absurd (by decide) h)
  exact z_vret B hr (by decide) (by decide) dX9_ticks_176 rfl
set_option maxRecDepth 100000 in
set_option maxHeartbeats 4000000 in
theorem ci_X9_tick_956 (l : Launch) {g : gx_T} {σ : sx_T} {b : Nat} (hK : lay b σ)   (hI_405_1 : sx_I σ (b + 405) 1 = 0) (hI_405_6 : sx_I σ (b + 405) 6 = 0) (hI_405_16 : sx_I σ (b + 405) 16 = 0) : Met l yX9_tick (.code yX9_tick cX9_tick 3 (some .int) :: lw_g) { frames := 1, cells := 0, slots := 0, locals := 22 } (va_Pc [.ref (b + 405), .int 7] (zx_w g σ)) (va_Qi (fun r u => r = 7 ∧ u = (ap b σ [(405, 1, 7), (405, 1, 6), (405, 1, 5), (405, 1, 4), (405, 1, 3), (405, 1, 2), (405, 1, 1), (405, 0, 0)] [] [])) (zx_w g) (gx_Q g)) 0 0 (gx_Q g) := by
  refine z_met (by decide) (Nat.le_of_ble_eq_true rfl) (fun p e s m below meth c B hr hin => ?_)
  refine z_eqs (σ' := (ap b σ [] [] [])) rfl ?_
  show zx p l e _ s m _ below meth c g 3 0 0 _ _ 0 [(0, .ref (b + 405)), (1, .int 7)] []
  refine z_aload_n B dX9_tick_0 rfl 0 rfl ?_
  refine z_iload_n B dX9_tick_1 rfl 1 rfl ?_
  refine z_iconst (v := 1) B dX9_tick_2 (by decide) ?_
  refine z_bipush (v := 50) B dX9_tick_3 (by decide) ?_
  refine z_cSi (As := [.int 7, .int 1, .int 50]) (rest := [.ref (b + 405)]) B cw_X9_96 dX9_tick_5 (ci_X9_in_954 l (σ := (ap b σ [] [] [])) (b := b) (lyA hK) ) rfl (by decide) rfl (Nat.le_of_ble_eq_true rfl) (by decide) (fun r u hu => ?_)
  refine z_eqs (σ' := (ap b σ [] [] [])) hu.2 ?_
  show zx p l e _ s m _ below meth c g 3 0 0 _ _ 8 [(0, .ref (b + 405)), (1, .int 7)] _
  refine z_seti (y := 1) hu.1 ?_
  refine z_cVi (As := [.int 1]) (rest := []) B cw_X9_269 cx_10 dX9_tick_8 (ci_X9_needs_905 l (σ := (ap b σ [] [] [])) (b := b) (lyA hK) ) (lKA (hk_K hK 405 rfl rfl)) rfl (by decide) rfl (Nat.le_of_ble_eq_true rfl) (by decide) (fun r u hu => ?_)
  refine z_eqs (σ' := (ap b σ [(405, 0, 0)] [] [])) (hu.2.trans ap_ap) ?_
  show zx p l e _ s m _ below meth c g 3 0 0 _ _ 11 [(0, .ref (b + 405)), (1, .int 7)] _
  refine z_seti (y := 1) hu.1 ?_
  refine z_if_ne (tgt := 16) B dX9_tick_11 (by decide) (fun _ => ?_) (fun h => absurd h (by decide))
  refine z_iconst (v := 0) B dX9_tick_16 (by decide) ?_
  refine z_istore_n (lv' := [(2, .int 0), (0, .ref (b + 405)), (1, .int 7)]) B dX9_tick_17 rfl (by decide) rfl ?_
  refine z_iload_n B dX9_tick_18 rfl 0 rfl ?_
  refine z_iload_n B dX9_tick_19 rfl 2 rfl ?_
  refine z_icmp_ge (tgt := 33) B dX9_tick_20 (by decide) (fun h => absurd h (by decide)) (fun _ => ?_)
  refine z_aload_n B dX9_tick_23 rfl 1 rfl ?_
  refine z_cVv (As := []) (rest := []) B cw_X9_294 cx_10 dX9_tick_24 (ci_X9_ticks_925 l (σ := (ap b σ [(405, 0, 0)] [] [])) (b := b) (lyA hK) (rI_at 405 1 hI_405_1) (rI_at 405 6 hI_405_6) (rI_at 405 16 hI_405_16)) (lKA (hk_K hK 405 rfl rfl)) rfl (by decide) rfl (Nat.le_of_ble_eq_true rfl) (by decide) (fun u hu => ?_)
  refine z_eqs (σ' := (ap b σ [(405, 1, 1), (405, 0, 0)] [] [])) (hu.trans ap_ap) ?_
  show zx p l e _ s m _ below meth c g 3 0 0 _ _ 27 [(2, .int 0), (0, .ref (b + 405)), (1, .int 7)] _
  refine z_iinc (v := 1) (lv' := [(2, .int 1), (0, .ref (b + 405)), (1, .int 7)]) B dX9_tick_27 0 rfl (by decide) (by decide) rfl ?_
  refine z_goto (tgt := 18) B dX9_tick_30 (by decide) ?_
  refine z_iload_n B dX9_tick_18 rfl 0 rfl ?_
  refine z_iload_n B dX9_tick_19 rfl 2 rfl ?_
  refine z_icmp_ge (tgt := 33) B dX9_tick_20 (by decide) (fun h => absurd h (by decide)) (fun _ => ?_)
  refine z_aload_n B dX9_tick_23 rfl 1 rfl ?_
  refine z_cVv (As := []) (rest := []) B cw_X9_294 cx_10 dX9_tick_24 (ci_X9_ticks_930 l (σ := (ap b σ [(405, 1, 1), (405, 0, 0)] [] [])) (b := b) (lyA hK) (rI_at 405 1 rfl) (rI_at 405 6 hI_405_6) (rI_at 405 16 hI_405_16)) (lKA (hk_K hK 405 rfl rfl)) rfl (by decide) rfl (Nat.le_of_ble_eq_true rfl) (by decide) (fun u hu => ?_)
  refine z_eqs (σ' := (ap b σ [(405, 1, 2), (405, 1, 1), (405, 0, 0)] [] [])) (hu.trans ap_ap) ?_
  show zx p l e _ s m _ below meth c g 3 0 0 _ _ 27 [(2, .int 1), (0, .ref (b + 405)), (1, .int 7)] _
  refine z_iinc (v := 2) (lv' := [(2, .int 2), (0, .ref (b + 405)), (1, .int 7)]) B dX9_tick_27 0 rfl (by decide) (by decide) rfl ?_
  refine z_goto (tgt := 18) B dX9_tick_30 (by decide) ?_
  refine z_iload_n B dX9_tick_18 rfl 0 rfl ?_
  refine z_iload_n B dX9_tick_19 rfl 2 rfl ?_
  refine z_icmp_ge (tgt := 33) B dX9_tick_20 (by decide) (fun h => absurd h (by decide)) (fun _ => ?_)
  refine z_aload_n B dX9_tick_23 rfl 1 rfl ?_
  refine z_cVv (As := []) (rest := []) B cw_X9_294 cx_10 dX9_tick_24 (ci_X9_ticks_935 l (σ := (ap b σ [(405, 1, 2), (405, 1, 1), (405, 0, 0)] [] [])) (b := b) (lyA hK) (rI_at 405 1 rfl) (rI_at 405 6 hI_405_6) (rI_at 405 16 hI_405_16)) (lKA (hk_K hK 405 rfl rfl)) rfl (by decide) rfl (Nat.le_of_ble_eq_true rfl) (by decide) (fun u hu => ?_)
  refine z_eqs (σ' := (ap b σ [(405, 1, 3), (405, 1, 2), (405, 1, 1), (405, 0, 0)] [] [])) (hu.trans ap_ap) ?_
  show zx p l e _ s m _ below meth c g 3 0 0 _ _ 27 [(2, .int 2), (0, .ref (b + 405)), (1, .int 7)] _
  refine z_iinc (v := 3) (lv' := [(2, .int 3), (0, .ref (b + 405)), (1, .int 7)]) B dX9_tick_27 0 rfl (by decide) (by decide) rfl ?_
  refine z_goto (tgt := 18) B dX9_tick_30 (by decide) ?_
  refine z_iload_n B dX9_tick_18 rfl 0 rfl ?_
  refine z_iload_n B dX9_tick_19 rfl 2 rfl ?_
  refine z_icmp_ge (tgt := 33) B dX9_tick_20 (by decide) (fun h => absurd h (by decide)) (fun _ => ?_)
  refine z_aload_n B dX9_tick_23 rfl 1 rfl ?_
  refine z_cVv (As := []) (rest := []) B cw_X9_294 cx_10 dX9_tick_24 (ci_X9_ticks_940 l (σ := (ap b σ [(405, 1, 3), (405, 1, 2), (405, 1, 1), (405, 0, 0)] [] [])) (b := b) (lyA hK) (rI_at 405 1 rfl) (rI_at 405 6 hI_405_6) (rI_at 405 16 hI_405_16)) (lKA (hk_K hK 405 rfl rfl)) rfl (by decide) rfl (Nat.le_of_ble_eq_true rfl) (by decide) (fun u hu => ?_)
  refine z_eqs (σ' := (ap b σ [(405, 1, 4), (405, 1, 3), (405, 1, 2), (405, 1, 1), (405, 0, 0)] [] [])) (hu.trans ap_ap) ?_
  show zx p l e _ s m _ below meth c g 3 0 0 _ _ 27 [(2, .int 3), (0, .ref (b + 405)), (1, .int 7)] _
  refine z_iinc (v := 4) (lv' := [(2, .int 4), (0, .ref (b + 405)), (1, .int 7)]) B dX9_tick_27 0 rfl (by decide) (by decide) rfl ?_
  refine z_goto (tgt := 18) B dX9_tick_30 (by decide) ?_
  refine z_iload_n B dX9_tick_18 rfl 0 rfl ?_
  refine z_iload_n B dX9_tick_19 rfl 2 rfl ?_
  refine z_icmp_ge (tgt := 33) B dX9_tick_20 (by decide) (fun h => absurd h (by decide)) (fun _ => ?_)
  refine z_aload_n B dX9_tick_23 rfl 1 rfl ?_
  refine z_cVv (As := []) (rest := []) B cw_X9_294 cx_10 dX9_tick_24 (ci_X9_ticks_945 l (σ := (ap b σ [(405, 1, 4), (405, 1, 3), (405, 1, 2), (405, 1, 1), (405, 0, 0)] [] [])) (b := b) (lyA hK) (rI_at 405 1 rfl) (rI_at 405 6 hI_405_6) (rI_at 405 16 hI_405_16)) (lKA (hk_K hK 405 rfl rfl)) rfl (by decide) rfl (Nat.le_of_ble_eq_true rfl) (by decide) (fun u hu => ?_)
  refine z_eqs (σ' := (ap b σ [(405, 1, 5), (405, 1, 4), (405, 1, 3), (405, 1, 2), (405, 1, 1), (405, 0, 0)] [] [])) (hu.trans ap_ap) ?_
  show zx p l e _ s m _ below meth c g 3 0 0 _ _ 27 [(2, .int 4), (0, .ref (b + 405)), (1, .int 7)] _
  refine z_iinc (v := 5) (lv' := [(2, .int 5), (0, .ref (b + 405)), (1, .int 7)]) B dX9_tick_27 0 rfl (by decide) (by decide) rfl ?_
  refine z_goto (tgt := 18) B dX9_tick_30 (by decide) ?_
  refine z_iload_n B dX9_tick_18 rfl 0 rfl ?_
  refine z_iload_n B dX9_tick_19 rfl 2 rfl ?_
  refine z_icmp_ge (tgt := 33) B dX9_tick_20 (by decide) (fun h => absurd h (by decide)) (fun _ => ?_)
  refine z_aload_n B dX9_tick_23 rfl 1 rfl ?_
  refine z_cVv (As := []) (rest := []) B cw_X9_294 cx_10 dX9_tick_24 (ci_X9_ticks_950 l (σ := (ap b σ [(405, 1, 5), (405, 1, 4), (405, 1, 3), (405, 1, 2), (405, 1, 1), (405, 0, 0)] [] [])) (b := b) (lyA hK) (rI_at 405 1 rfl) (rI_at 405 6 hI_405_6) (rI_at 405 16 hI_405_16)) (lKA (hk_K hK 405 rfl rfl)) rfl (by decide) rfl (Nat.le_of_ble_eq_true rfl) (by decide) (fun u hu => ?_)
  refine z_eqs (σ' := (ap b σ [(405, 1, 6), (405, 1, 5), (405, 1, 4), (405, 1, 3), (405, 1, 2), (405, 1, 1), (405, 0, 0)] [] [])) (hu.trans ap_ap) ?_
  show zx p l e _ s m _ below meth c g 3 0 0 _ _ 27 [(2, .int 5), (0, .ref (b + 405)), (1, .int 7)] _
  refine z_iinc (v := 6) (lv' := [(2, .int 6), (0, .ref (b + 405)), (1, .int 7)]) B dX9_tick_27 0 rfl (by decide) (by decide) rfl ?_
  refine z_goto (tgt := 18) B dX9_tick_30 (by decide) ?_
  refine z_iload_n B dX9_tick_18 rfl 0 rfl ?_
  refine z_iload_n B dX9_tick_19 rfl 2 rfl ?_
  refine z_icmp_ge (tgt := 33) B dX9_tick_20 (by decide) (fun h => absurd h (by decide)) (fun _ => ?_)
  refine z_aload_n B dX9_tick_23 rfl 1 rfl ?_
  refine z_cVv (As := []) (rest := []) B cw_X9_294 cx_10 dX9_tick_24 (ci_X9_ticks_955 l (σ := (ap b σ [(405, 1, 6), (405, 1, 5), (405, 1, 4), (405, 1, 3), (405, 1, 2), (405, 1, 1), (405, 0, 0)] [] [])) (b := b) (lyA hK) (rI_at 405 1 rfl) (rI_at 405 6 hI_405_6) (rI_at 405 16 hI_405_16)) (lKA (hk_K hK 405 rfl rfl)) rfl (by decide) rfl (Nat.le_of_ble_eq_true rfl) (by decide) (fun u hu => ?_)
  refine z_eqs (σ' := (ap b σ [(405, 1, 7), (405, 1, 6), (405, 1, 5), (405, 1, 4), (405, 1, 3), (405, 1, 2), (405, 1, 1), (405, 0, 0)] [] [])) (hu.trans ap_ap) ?_
  show zx p l e _ s m _ below meth c g 3 0 0 _ _ 27 [(2, .int 6), (0, .ref (b + 405)), (1, .int 7)] _
  refine z_iinc (v := 7) (lv' := [(2, .int 7), (0, .ref (b + 405)), (1, .int 7)]) B dX9_tick_27 0 rfl (by decide) (by decide) rfl ?_
  refine z_goto (tgt := 18) B dX9_tick_30 (by decide) ?_
  refine z_iload_n B dX9_tick_18 rfl 0 rfl ?_
  refine z_iload_n B dX9_tick_19 rfl 2 rfl ?_
  refine z_icmp_ge (tgt := 33) B dX9_tick_20 (by decide) (fun _ => ?_) (fun h => absurd (by decide) h)
  refine z_aload_n B dX9_tick_33 rfl 1 rfl ?_
  refine gf_X9_197 (x := 7) B (lKA (hk_K hK 405 rfl rfl)) (rI_at 405 1 rfl) dX9_tick_34 ?_
  exact z_iret B hr (by decide) (by decide) dX9_tick_37 ⟨rfl, rfl⟩
set_option maxRecDepth 100000 in
set_option maxHeartbeats 4000000 in
theorem ci_X8_tick_957 (l : Launch) {g : gx_T} {σ : sx_T} {b : Nat} (hK : lay b σ)   (hI_0_7 : sx_I σ (b + 0) 7 = 0) (hI_0_8 : sx_I σ (b + 0) 8 = 0) (hI_4_2 : sx_I σ (b + 4) 2 = 0) (hR_0_3 : sx_R σ (b + 0) 3 = (some (b + 4))) : Met l yX8_tick (.code yX8_tick cX8_tick 3 (some .int) :: lw_g) { frames := 2, cells := 0, slots := 0, locals := 42 } (va_Pc [.ref (b + 0), .int 8] (zx_w g σ)) (va_Qi (fun r u => r = 8 ∧ u = (ap b σ [(0, 8, 8), (0, 8, 7), (0, 8, 6), (0, 8, 5), (0, 8, 4), (0, 8, 3), (0, 8, 2), (0, 8, 1)] [] [])) (zx_w g) (gx_Q g)) 0 0 (gx_Q g) := by
  refine z_met (by decide) (Nat.le_of_ble_eq_true rfl) (fun p e s m below meth c B hr hin => ?_)
  refine z_eqs (σ' := (ap b σ [] [] [])) rfl ?_
  show zx p l e _ s m _ below meth c g 3 0 0 _ _ 0 [(0, .ref (b + 0)), (1, .int 8)] []
  refine z_iload_n B dX8_tick_0 rfl 1 rfl ?_
  refine z_iconst (v := 1) B dX8_tick_1 (by decide) ?_
  refine z_icmp_lt (tgt := 11) B dX8_tick_2 (by decide) (fun h => absurd h (by decide)) (fun _ => ?_)
  refine z_iload_n B dX8_tick_5 rfl 1 rfl ?_
  refine z_bipush (v := 50) B dX8_tick_6 (by decide) ?_
  refine z_icmp_le (tgt := 21) B dX8_tick_8 (by decide) (fun _ => ?_) (fun h => absurd (by decide) h)
  refine z_iconst (v := 0) B dX8_tick_21 (by decide) ?_
  refine z_istore_n (lv' := [(2, .int 0), (0, .ref (b + 0)), (1, .int 8)]) B dX8_tick_22 rfl (by decide) rfl ?_
  refine z_iload_n B dX8_tick_23 rfl 0 rfl ?_
  refine z_iload_n B dX8_tick_24 rfl 2 rfl ?_
  refine z_icmp_ge (tgt := 52) B dX8_tick_25 (by decide) (fun h => absurd h (by decide)) (fun _ => ?_)
  refine z_aload_n B dX8_tick_28 rfl 1 rfl ?_
  refine z_dup B dX8_tick_29 rfl ?_
  refine gf_X8_206 (x := 0) B (lKA (hk_K hK 0 rfl rfl)) (rI_at 0 8 hI_0_8) dX8_tick_30 ?_
  refine z_iconst (v := 1) B dX8_tick_33 (by decide) ?_
  refine z_iadd B dX8_tick_34 ?_
  refine z_seti (y := 1) (by decide) ?_
  refine pf_X8_206 (x := 1) (σ' := (ap b σ [(0, 8, 1)] [] [])) B (lKA (hk_K hK 0 rfl rfl)) wI_ap dX8_tick_35 ?_
  refine z_aload_n B dX8_tick_38 rfl 1 rfl ?_
  refine z_cVv (As := []) (rest := []) B cw_X8_240 cx_9 dX8_tick_39 (ci_X8_passTasks_920 l (σ := (ap b σ [(0, 8, 1)] [] [])) (b := b) (lyA hK) (rI_at 4 2 hI_4_2) (rR_at 0 3 hR_0_3)) (lKA (hk_K hK 0 rfl rfl)) rfl (by decide) rfl (Nat.le_of_ble_eq_true rfl) (by decide) (fun u hu => ?_)
  refine z_eqs (σ' := (ap b σ [(0, 8, 1)] [] [])) hu ?_
  show zx p l e _ s m _ below meth c g 3 0 0 _ _ 42 [(2, .int 0), (0, .ref (b + 0)), (1, .int 8)] _
  refine z_aload_n B dX8_tick_42 rfl 1 rfl ?_
  refine z_cVv (As := []) (rest := []) B cw_X8_243 cx_9 dX8_tick_43 (ci_X8_passTimers_921 l (σ := (ap b σ [(0, 8, 1)] [] [])) (b := b) (lyA hK) (rI_at 0 7 hI_0_7)) (lKA (hk_K hK 0 rfl rfl)) rfl (by decide) rfl (Nat.le_of_ble_eq_true rfl) (by decide) (fun u hu => ?_)
  refine z_eqs (σ' := (ap b σ [(0, 8, 1)] [] [])) hu ?_
  show zx p l e _ s m _ below meth c g 3 0 0 _ _ 46 [(2, .int 0), (0, .ref (b + 0)), (1, .int 8)] _
  refine z_iinc (v := 1) (lv' := [(2, .int 1), (0, .ref (b + 0)), (1, .int 8)]) B dX8_tick_46 0 rfl (by decide) (by decide) rfl ?_
  refine z_goto (tgt := 23) B dX8_tick_49 (by decide) ?_
  refine z_iload_n B dX8_tick_23 rfl 0 rfl ?_
  refine z_iload_n B dX8_tick_24 rfl 2 rfl ?_
  refine z_icmp_ge (tgt := 52) B dX8_tick_25 (by decide) (fun h => absurd h (by decide)) (fun _ => ?_)
  refine z_aload_n B dX8_tick_28 rfl 1 rfl ?_
  refine z_dup B dX8_tick_29 rfl ?_
  refine gf_X8_206 (x := 1) B (lKA (hk_K hK 0 rfl rfl)) (rI_at 0 8 rfl) dX8_tick_30 ?_
  refine z_iconst (v := 1) B dX8_tick_33 (by decide) ?_
  refine z_iadd B dX8_tick_34 ?_
  refine z_seti (y := 2) (by decide) ?_
  refine pf_X8_206 (x := 2) (σ' := (ap b σ [(0, 8, 2), (0, 8, 1)] [] [])) B (lKA (hk_K hK 0 rfl rfl)) wI_ap dX8_tick_35 ?_
  refine z_aload_n B dX8_tick_38 rfl 1 rfl ?_
  refine z_cVv (As := []) (rest := []) B cw_X8_240 cx_9 dX8_tick_39 (ci_X8_passTasks_920 l (σ := (ap b σ [(0, 8, 2), (0, 8, 1)] [] [])) (b := b) (lyA hK) (rI_at 4 2 hI_4_2) (rR_at 0 3 hR_0_3)) (lKA (hk_K hK 0 rfl rfl)) rfl (by decide) rfl (Nat.le_of_ble_eq_true rfl) (by decide) (fun u hu => ?_)
  refine z_eqs (σ' := (ap b σ [(0, 8, 2), (0, 8, 1)] [] [])) hu ?_
  show zx p l e _ s m _ below meth c g 3 0 0 _ _ 42 [(2, .int 1), (0, .ref (b + 0)), (1, .int 8)] _
  refine z_aload_n B dX8_tick_42 rfl 1 rfl ?_
  refine z_cVv (As := []) (rest := []) B cw_X8_243 cx_9 dX8_tick_43 (ci_X8_passTimers_921 l (σ := (ap b σ [(0, 8, 2), (0, 8, 1)] [] [])) (b := b) (lyA hK) (rI_at 0 7 hI_0_7)) (lKA (hk_K hK 0 rfl rfl)) rfl (by decide) rfl (Nat.le_of_ble_eq_true rfl) (by decide) (fun u hu => ?_)
  refine z_eqs (σ' := (ap b σ [(0, 8, 2), (0, 8, 1)] [] [])) hu ?_
  show zx p l e _ s m _ below meth c g 3 0 0 _ _ 46 [(2, .int 1), (0, .ref (b + 0)), (1, .int 8)] _
  refine z_iinc (v := 2) (lv' := [(2, .int 2), (0, .ref (b + 0)), (1, .int 8)]) B dX8_tick_46 0 rfl (by decide) (by decide) rfl ?_
  refine z_goto (tgt := 23) B dX8_tick_49 (by decide) ?_
  refine z_iload_n B dX8_tick_23 rfl 0 rfl ?_
  refine z_iload_n B dX8_tick_24 rfl 2 rfl ?_
  refine z_icmp_ge (tgt := 52) B dX8_tick_25 (by decide) (fun h => absurd h (by decide)) (fun _ => ?_)
  refine z_aload_n B dX8_tick_28 rfl 1 rfl ?_
  refine z_dup B dX8_tick_29 rfl ?_
  refine gf_X8_206 (x := 2) B (lKA (hk_K hK 0 rfl rfl)) (rI_at 0 8 rfl) dX8_tick_30 ?_
  refine z_iconst (v := 1) B dX8_tick_33 (by decide) ?_
  refine z_iadd B dX8_tick_34 ?_
  refine z_seti (y := 3) (by decide) ?_
  refine pf_X8_206 (x := 3) (σ' := (ap b σ [(0, 8, 3), (0, 8, 2), (0, 8, 1)] [] [])) B (lKA (hk_K hK 0 rfl rfl)) wI_ap dX8_tick_35 ?_
  refine z_aload_n B dX8_tick_38 rfl 1 rfl ?_
  refine z_cVv (As := []) (rest := []) B cw_X8_240 cx_9 dX8_tick_39 (ci_X8_passTasks_920 l (σ := (ap b σ [(0, 8, 3), (0, 8, 2), (0, 8, 1)] [] [])) (b := b) (lyA hK) (rI_at 4 2 hI_4_2) (rR_at 0 3 hR_0_3)) (lKA (hk_K hK 0 rfl rfl)) rfl (by decide) rfl (Nat.le_of_ble_eq_true rfl) (by decide) (fun u hu => ?_)
  refine z_eqs (σ' := (ap b σ [(0, 8, 3), (0, 8, 2), (0, 8, 1)] [] [])) hu ?_
  show zx p l e _ s m _ below meth c g 3 0 0 _ _ 42 [(2, .int 2), (0, .ref (b + 0)), (1, .int 8)] _
  refine z_aload_n B dX8_tick_42 rfl 1 rfl ?_
  refine z_cVv (As := []) (rest := []) B cw_X8_243 cx_9 dX8_tick_43 (ci_X8_passTimers_921 l (σ := (ap b σ [(0, 8, 3), (0, 8, 2), (0, 8, 1)] [] [])) (b := b) (lyA hK) (rI_at 0 7 hI_0_7)) (lKA (hk_K hK 0 rfl rfl)) rfl (by decide) rfl (Nat.le_of_ble_eq_true rfl) (by decide) (fun u hu => ?_)
  refine z_eqs (σ' := (ap b σ [(0, 8, 3), (0, 8, 2), (0, 8, 1)] [] [])) hu ?_
  show zx p l e _ s m _ below meth c g 3 0 0 _ _ 46 [(2, .int 2), (0, .ref (b + 0)), (1, .int 8)] _
  refine z_iinc (v := 3) (lv' := [(2, .int 3), (0, .ref (b + 0)), (1, .int 8)]) B dX8_tick_46 0 rfl (by decide) (by decide) rfl ?_
  refine z_goto (tgt := 23) B dX8_tick_49 (by decide) ?_
  refine z_iload_n B dX8_tick_23 rfl 0 rfl ?_
  refine z_iload_n B dX8_tick_24 rfl 2 rfl ?_
  refine z_icmp_ge (tgt := 52) B dX8_tick_25 (by decide) (fun h => absurd h (by decide)) (fun _ => ?_)
  refine z_aload_n B dX8_tick_28 rfl 1 rfl ?_
  refine z_dup B dX8_tick_29 rfl ?_
  refine gf_X8_206 (x := 3) B (lKA (hk_K hK 0 rfl rfl)) (rI_at 0 8 rfl) dX8_tick_30 ?_
  refine z_iconst (v := 1) B dX8_tick_33 (by decide) ?_
  refine z_iadd B dX8_tick_34 ?_
  refine z_seti (y := 4) (by decide) ?_
  refine pf_X8_206 (x := 4) (σ' := (ap b σ [(0, 8, 4), (0, 8, 3), (0, 8, 2), (0, 8, 1)] [] [])) B (lKA (hk_K hK 0 rfl rfl)) wI_ap dX8_tick_35 ?_
  refine z_aload_n B dX8_tick_38 rfl 1 rfl ?_
  refine z_cVv (As := []) (rest := []) B cw_X8_240 cx_9 dX8_tick_39 (ci_X8_passTasks_920 l (σ := (ap b σ [(0, 8, 4), (0, 8, 3), (0, 8, 2), (0, 8, 1)] [] [])) (b := b) (lyA hK) (rI_at 4 2 hI_4_2) (rR_at 0 3 hR_0_3)) (lKA (hk_K hK 0 rfl rfl)) rfl (by decide) rfl (Nat.le_of_ble_eq_true rfl) (by decide) (fun u hu => ?_)
  refine z_eqs (σ' := (ap b σ [(0, 8, 4), (0, 8, 3), (0, 8, 2), (0, 8, 1)] [] [])) hu ?_
  show zx p l e _ s m _ below meth c g 3 0 0 _ _ 42 [(2, .int 3), (0, .ref (b + 0)), (1, .int 8)] _
  refine z_aload_n B dX8_tick_42 rfl 1 rfl ?_
  refine z_cVv (As := []) (rest := []) B cw_X8_243 cx_9 dX8_tick_43 (ci_X8_passTimers_921 l (σ := (ap b σ [(0, 8, 4), (0, 8, 3), (0, 8, 2), (0, 8, 1)] [] [])) (b := b) (lyA hK) (rI_at 0 7 hI_0_7)) (lKA (hk_K hK 0 rfl rfl)) rfl (by decide) rfl (Nat.le_of_ble_eq_true rfl) (by decide) (fun u hu => ?_)
  refine z_eqs (σ' := (ap b σ [(0, 8, 4), (0, 8, 3), (0, 8, 2), (0, 8, 1)] [] [])) hu ?_
  show zx p l e _ s m _ below meth c g 3 0 0 _ _ 46 [(2, .int 3), (0, .ref (b + 0)), (1, .int 8)] _
  refine z_iinc (v := 4) (lv' := [(2, .int 4), (0, .ref (b + 0)), (1, .int 8)]) B dX8_tick_46 0 rfl (by decide) (by decide) rfl ?_
  refine z_goto (tgt := 23) B dX8_tick_49 (by decide) ?_
  refine z_iload_n B dX8_tick_23 rfl 0 rfl ?_
  refine z_iload_n B dX8_tick_24 rfl 2 rfl ?_
  refine z_icmp_ge (tgt := 52) B dX8_tick_25 (by decide) (fun h => absurd h (by decide)) (fun _ => ?_)
  refine z_aload_n B dX8_tick_28 rfl 1 rfl ?_
  refine z_dup B dX8_tick_29 rfl ?_
  refine gf_X8_206 (x := 4) B (lKA (hk_K hK 0 rfl rfl)) (rI_at 0 8 rfl) dX8_tick_30 ?_
  refine z_iconst (v := 1) B dX8_tick_33 (by decide) ?_
  refine z_iadd B dX8_tick_34 ?_
  refine z_seti (y := 5) (by decide) ?_
  refine pf_X8_206 (x := 5) (σ' := (ap b σ [(0, 8, 5), (0, 8, 4), (0, 8, 3), (0, 8, 2), (0, 8, 1)] [] [])) B (lKA (hk_K hK 0 rfl rfl)) wI_ap dX8_tick_35 ?_
  refine z_aload_n B dX8_tick_38 rfl 1 rfl ?_
  refine z_cVv (As := []) (rest := []) B cw_X8_240 cx_9 dX8_tick_39 (ci_X8_passTasks_920 l (σ := (ap b σ [(0, 8, 5), (0, 8, 4), (0, 8, 3), (0, 8, 2), (0, 8, 1)] [] [])) (b := b) (lyA hK) (rI_at 4 2 hI_4_2) (rR_at 0 3 hR_0_3)) (lKA (hk_K hK 0 rfl rfl)) rfl (by decide) rfl (Nat.le_of_ble_eq_true rfl) (by decide) (fun u hu => ?_)
  refine z_eqs (σ' := (ap b σ [(0, 8, 5), (0, 8, 4), (0, 8, 3), (0, 8, 2), (0, 8, 1)] [] [])) hu ?_
  show zx p l e _ s m _ below meth c g 3 0 0 _ _ 42 [(2, .int 4), (0, .ref (b + 0)), (1, .int 8)] _
  refine z_aload_n B dX8_tick_42 rfl 1 rfl ?_
  refine z_cVv (As := []) (rest := []) B cw_X8_243 cx_9 dX8_tick_43 (ci_X8_passTimers_921 l (σ := (ap b σ [(0, 8, 5), (0, 8, 4), (0, 8, 3), (0, 8, 2), (0, 8, 1)] [] [])) (b := b) (lyA hK) (rI_at 0 7 hI_0_7)) (lKA (hk_K hK 0 rfl rfl)) rfl (by decide) rfl (Nat.le_of_ble_eq_true rfl) (by decide) (fun u hu => ?_)
  refine z_eqs (σ' := (ap b σ [(0, 8, 5), (0, 8, 4), (0, 8, 3), (0, 8, 2), (0, 8, 1)] [] [])) hu ?_
  show zx p l e _ s m _ below meth c g 3 0 0 _ _ 46 [(2, .int 4), (0, .ref (b + 0)), (1, .int 8)] _
  refine z_iinc (v := 5) (lv' := [(2, .int 5), (0, .ref (b + 0)), (1, .int 8)]) B dX8_tick_46 0 rfl (by decide) (by decide) rfl ?_
  refine z_goto (tgt := 23) B dX8_tick_49 (by decide) ?_
  refine z_iload_n B dX8_tick_23 rfl 0 rfl ?_
  refine z_iload_n B dX8_tick_24 rfl 2 rfl ?_
  refine z_icmp_ge (tgt := 52) B dX8_tick_25 (by decide) (fun h => absurd h (by decide)) (fun _ => ?_)
  refine z_aload_n B dX8_tick_28 rfl 1 rfl ?_
  refine z_dup B dX8_tick_29 rfl ?_
  refine gf_X8_206 (x := 5) B (lKA (hk_K hK 0 rfl rfl)) (rI_at 0 8 rfl) dX8_tick_30 ?_
  refine z_iconst (v := 1) B dX8_tick_33 (by decide) ?_
  refine z_iadd B dX8_tick_34 ?_
  refine z_seti (y := 6) (by decide) ?_
  refine pf_X8_206 (x := 6) (σ' := (ap b σ [(0, 8, 6), (0, 8, 5), (0, 8, 4), (0, 8, 3), (0, 8, 2), (0, 8, 1)] [] [])) B (lKA (hk_K hK 0 rfl rfl)) wI_ap dX8_tick_35 ?_
  refine z_aload_n B dX8_tick_38 rfl 1 rfl ?_
  refine z_cVv (As := []) (rest := []) B cw_X8_240 cx_9 dX8_tick_39 (ci_X8_passTasks_920 l (σ := (ap b σ [(0, 8, 6), (0, 8, 5), (0, 8, 4), (0, 8, 3), (0, 8, 2), (0, 8, 1)] [] [])) (b := b) (lyA hK) (rI_at 4 2 hI_4_2) (rR_at 0 3 hR_0_3)) (lKA (hk_K hK 0 rfl rfl)) rfl (by decide) rfl (Nat.le_of_ble_eq_true rfl) (by decide) (fun u hu => ?_)
  refine z_eqs (σ' := (ap b σ [(0, 8, 6), (0, 8, 5), (0, 8, 4), (0, 8, 3), (0, 8, 2), (0, 8, 1)] [] [])) hu ?_
  show zx p l e _ s m _ below meth c g 3 0 0 _ _ 42 [(2, .int 5), (0, .ref (b + 0)), (1, .int 8)] _
  refine z_aload_n B dX8_tick_42 rfl 1 rfl ?_
  refine z_cVv (As := []) (rest := []) B cw_X8_243 cx_9 dX8_tick_43 (ci_X8_passTimers_921 l (σ := (ap b σ [(0, 8, 6), (0, 8, 5), (0, 8, 4), (0, 8, 3), (0, 8, 2), (0, 8, 1)] [] [])) (b := b) (lyA hK) (rI_at 0 7 hI_0_7)) (lKA (hk_K hK 0 rfl rfl)) rfl (by decide) rfl (Nat.le_of_ble_eq_true rfl) (by decide) (fun u hu => ?_)
  refine z_eqs (σ' := (ap b σ [(0, 8, 6), (0, 8, 5), (0, 8, 4), (0, 8, 3), (0, 8, 2), (0, 8, 1)] [] [])) hu ?_
  show zx p l e _ s m _ below meth c g 3 0 0 _ _ 46 [(2, .int 5), (0, .ref (b + 0)), (1, .int 8)] _
  refine z_iinc (v := 6) (lv' := [(2, .int 6), (0, .ref (b + 0)), (1, .int 8)]) B dX8_tick_46 0 rfl (by decide) (by decide) rfl ?_
  refine z_goto (tgt := 23) B dX8_tick_49 (by decide) ?_
  refine z_iload_n B dX8_tick_23 rfl 0 rfl ?_
  refine z_iload_n B dX8_tick_24 rfl 2 rfl ?_
  refine z_icmp_ge (tgt := 52) B dX8_tick_25 (by decide) (fun h => absurd h (by decide)) (fun _ => ?_)
  refine z_aload_n B dX8_tick_28 rfl 1 rfl ?_
  refine z_dup B dX8_tick_29 rfl ?_
  refine gf_X8_206 (x := 6) B (lKA (hk_K hK 0 rfl rfl)) (rI_at 0 8 rfl) dX8_tick_30 ?_
  refine z_iconst (v := 1) B dX8_tick_33 (by decide) ?_
  refine z_iadd B dX8_tick_34 ?_
  refine z_seti (y := 7) (by decide) ?_
  refine pf_X8_206 (x := 7) (σ' := (ap b σ [(0, 8, 7), (0, 8, 6), (0, 8, 5), (0, 8, 4), (0, 8, 3), (0, 8, 2), (0, 8, 1)] [] [])) B (lKA (hk_K hK 0 rfl rfl)) wI_ap dX8_tick_35 ?_
  refine z_aload_n B dX8_tick_38 rfl 1 rfl ?_
  refine z_cVv (As := []) (rest := []) B cw_X8_240 cx_9 dX8_tick_39 (ci_X8_passTasks_920 l (σ := (ap b σ [(0, 8, 7), (0, 8, 6), (0, 8, 5), (0, 8, 4), (0, 8, 3), (0, 8, 2), (0, 8, 1)] [] [])) (b := b) (lyA hK) (rI_at 4 2 hI_4_2) (rR_at 0 3 hR_0_3)) (lKA (hk_K hK 0 rfl rfl)) rfl (by decide) rfl (Nat.le_of_ble_eq_true rfl) (by decide) (fun u hu => ?_)
  refine z_eqs (σ' := (ap b σ [(0, 8, 7), (0, 8, 6), (0, 8, 5), (0, 8, 4), (0, 8, 3), (0, 8, 2), (0, 8, 1)] [] [])) hu ?_
  show zx p l e _ s m _ below meth c g 3 0 0 _ _ 42 [(2, .int 6), (0, .ref (b + 0)), (1, .int 8)] _
  refine z_aload_n B dX8_tick_42 rfl 1 rfl ?_
  refine z_cVv (As := []) (rest := []) B cw_X8_243 cx_9 dX8_tick_43 (ci_X8_passTimers_921 l (σ := (ap b σ [(0, 8, 7), (0, 8, 6), (0, 8, 5), (0, 8, 4), (0, 8, 3), (0, 8, 2), (0, 8, 1)] [] [])) (b := b) (lyA hK) (rI_at 0 7 hI_0_7)) (lKA (hk_K hK 0 rfl rfl)) rfl (by decide) rfl (Nat.le_of_ble_eq_true rfl) (by decide) (fun u hu => ?_)
  refine z_eqs (σ' := (ap b σ [(0, 8, 7), (0, 8, 6), (0, 8, 5), (0, 8, 4), (0, 8, 3), (0, 8, 2), (0, 8, 1)] [] [])) hu ?_
  show zx p l e _ s m _ below meth c g 3 0 0 _ _ 46 [(2, .int 6), (0, .ref (b + 0)), (1, .int 8)] _
  refine z_iinc (v := 7) (lv' := [(2, .int 7), (0, .ref (b + 0)), (1, .int 8)]) B dX8_tick_46 0 rfl (by decide) (by decide) rfl ?_
  refine z_goto (tgt := 23) B dX8_tick_49 (by decide) ?_
  refine z_iload_n B dX8_tick_23 rfl 0 rfl ?_
  refine z_iload_n B dX8_tick_24 rfl 2 rfl ?_
  refine z_icmp_ge (tgt := 52) B dX8_tick_25 (by decide) (fun h => absurd h (by decide)) (fun _ => ?_)
  refine z_aload_n B dX8_tick_28 rfl 1 rfl ?_
  refine z_dup B dX8_tick_29 rfl ?_
  refine gf_X8_206 (x := 7) B (lKA (hk_K hK 0 rfl rfl)) (rI_at 0 8 rfl) dX8_tick_30 ?_
  refine z_iconst (v := 1) B dX8_tick_33 (by decide) ?_
  refine z_iadd B dX8_tick_34 ?_
  refine z_seti (y := 8) (by decide) ?_
  refine pf_X8_206 (x := 8) (σ' := (ap b σ [(0, 8, 8), (0, 8, 7), (0, 8, 6), (0, 8, 5), (0, 8, 4), (0, 8, 3), (0, 8, 2), (0, 8, 1)] [] [])) B (lKA (hk_K hK 0 rfl rfl)) wI_ap dX8_tick_35 ?_
  refine z_aload_n B dX8_tick_38 rfl 1 rfl ?_
  refine z_cVv (As := []) (rest := []) B cw_X8_240 cx_9 dX8_tick_39 (ci_X8_passTasks_920 l (σ := (ap b σ [(0, 8, 8), (0, 8, 7), (0, 8, 6), (0, 8, 5), (0, 8, 4), (0, 8, 3), (0, 8, 2), (0, 8, 1)] [] [])) (b := b) (lyA hK) (rI_at 4 2 hI_4_2) (rR_at 0 3 hR_0_3)) (lKA (hk_K hK 0 rfl rfl)) rfl (by decide) rfl (Nat.le_of_ble_eq_true rfl) (by decide) (fun u hu => ?_)
  refine z_eqs (σ' := (ap b σ [(0, 8, 8), (0, 8, 7), (0, 8, 6), (0, 8, 5), (0, 8, 4), (0, 8, 3), (0, 8, 2), (0, 8, 1)] [] [])) hu ?_
  show zx p l e _ s m _ below meth c g 3 0 0 _ _ 42 [(2, .int 7), (0, .ref (b + 0)), (1, .int 8)] _
  refine z_aload_n B dX8_tick_42 rfl 1 rfl ?_
  refine z_cVv (As := []) (rest := []) B cw_X8_243 cx_9 dX8_tick_43 (ci_X8_passTimers_921 l (σ := (ap b σ [(0, 8, 8), (0, 8, 7), (0, 8, 6), (0, 8, 5), (0, 8, 4), (0, 8, 3), (0, 8, 2), (0, 8, 1)] [] [])) (b := b) (lyA hK) (rI_at 0 7 hI_0_7)) (lKA (hk_K hK 0 rfl rfl)) rfl (by decide) rfl (Nat.le_of_ble_eq_true rfl) (by decide) (fun u hu => ?_)
  refine z_eqs (σ' := (ap b σ [(0, 8, 8), (0, 8, 7), (0, 8, 6), (0, 8, 5), (0, 8, 4), (0, 8, 3), (0, 8, 2), (0, 8, 1)] [] [])) hu ?_
  show zx p l e _ s m _ below meth c g 3 0 0 _ _ 46 [(2, .int 7), (0, .ref (b + 0)), (1, .int 8)] _
  refine z_iinc (v := 8) (lv' := [(2, .int 8), (0, .ref (b + 0)), (1, .int 8)]) B dX8_tick_46 0 rfl (by decide) (by decide) rfl ?_
  refine z_goto (tgt := 23) B dX8_tick_49 (by decide) ?_
  refine z_iload_n B dX8_tick_23 rfl 0 rfl ?_
  refine z_iload_n B dX8_tick_24 rfl 2 rfl ?_
  refine z_icmp_ge (tgt := 52) B dX8_tick_25 (by decide) (fun _ => ?_) (fun h => absurd (by decide) h)
  refine z_aload_n B dX8_tick_52 rfl 1 rfl ?_
  refine gf_X8_206 (x := 8) B (lKA (hk_K hK 0 rfl rfl)) (rI_at 0 8 rfl) dX8_tick_53 ?_
  exact z_iret B hr (by decide) (by decide) dX8_tick_56 ⟨rfl, rfl⟩
set_option maxRecDepth 100000 in
set_option maxHeartbeats 4000000 in
theorem ci_L_tick_958 (l : Launch) {g : gx_T} {σ : sx_T} {b : Nat} (hK : lay b σ)   (hI_0_7 : sx_I σ (b + 0) 7 = 0) (hI_0_8 : sx_I σ (b + 0) 8 = 0) (hI_4_2 : sx_I σ (b + 4) 2 = 0) (hR_0_3 : sx_R σ (b + 0) 3 = (some (b + 4))) : Met l yL_tick (.codeWith yL_tick cL_tick 4 (some .int) [(0, 9, 12, 15)] :: lw_g) { frames := 3, cells := 0, slots := 0, locals := 64 } (va_Pc [.ref (b + 0), .int 8, .ref (b + 431)] (zx_w g σ)) (va_Qi (fun r u => r = 0 ∧ u = (ap b σ [(0, 8, 8), (0, 8, 7), (0, 8, 6), (0, 8, 5), (0, 8, 4), (0, 8, 3), (0, 8, 2), (0, 8, 1)] [(431, 0, 8)] [])) (zx_w g) (gx_Q g)) 0 0 (gx_Q g) := by
  refine z_metW (by decide) (Nat.le_of_ble_eq_true rfl) (fun p e s m below meth c B hr htab => ?_)
  refine z_eqs (σ' := (ap b σ [] [] [])) rfl ?_
  show zx p l e _ s m _ below meth c g 4 0 0 _ _ 0 [(0, .ref (b + 0)), (1, .int 8), (2, .ref (b + 431))] []
  refine z_aload_n B dL_tick_0 rfl 2 rfl ?_
  refine z_iconst (v := 0) B dL_tick_1 (by decide) ?_
  refine z_aload_n B dL_tick_2 rfl 0 rfl ?_
  refine z_iload_n B dL_tick_3 rfl 1 rfl ?_
  refine z_cVi (As := [.int 8]) (rest := [.int 0, .ref (b + 431)]) B cw_L_41 cx_9 dL_tick_4 (ci_X8_tick_957 l (σ := (ap b σ [] [] [])) (b := b) (lyA hK) (rI_at 0 7 hI_0_7) (rI_at 0 8 hI_0_8) (rI_at 4 2 hI_4_2) (rR_at 0 3 hR_0_3)) (lKA (hk_K hK 0 rfl rfl)) rfl (by decide) rfl (Nat.le_of_ble_eq_true rfl) (by decide) (fun r u hu => ?_)
  refine z_eqs (σ' := (ap b σ [(0, 8, 8), (0, 8, 7), (0, 8, 6), (0, 8, 5), (0, 8, 4), (0, 8, 3), (0, 8, 2), (0, 8, 1)] [] [])) (hu.2.trans ap_ap) ?_
  show zx p l e _ s m _ below meth c g 4 0 0 _ _ 7 [(0, .ref (b + 0)), (1, .int 8), (2, .ref (b + 431))] _
  refine z_seti (y := 8) hu.1 ?_
  refine z_i2l (v := 8) B dL_tick_7 (by decide) ?_
  refine z_last (j := 0) (σ' := (ap b σ [(0, 8, 8), (0, 8, 7), (0, 8, 6), (0, 8, 5), (0, 8, 4), (0, 8, 3), (0, 8, 2), (0, 8, 1)] [(431, 0, 8)] [])) B (lKA (hk_K hK 431 rfl rfl)) (by decide) (in_of (lNA (hk_N hK 431 rfl rfl)) (show ¬ ((0 : Int32) < 0 ∨ 1 ≤ (0 : Int32).toNatClampNeg) by decide)) wJ_ap dL_tick_8 ?_
  refine z_goto (tgt := 15) B dL_tick_9 (by decide) ?_
  refine z_iconst (v := 0) B dL_tick_15 (by decide) ?_
  exact z_iret B hr (by decide) (by decide) dL_tick_16 ⟨rfl, rfl⟩
set_option maxRecDepth 100000 in
set_option maxHeartbeats 4000000 in
theorem ci_X9_in_959 (l : Launch) {g : gx_T} {σ : sx_T} {b : Nat} (hK : lay b σ)    : Met l yX9_in (.code yX9_in cX9_in 3 (some .boolean) :: lw_g) { frames := 0, cells := 0, slots := 0, locals := 0 } (va_Pc [.int 8, .int 1, .int 50] (zx_w g σ)) (va_Qi (fun r u => r = 1 ∧ u = σ) (zx_w g) (gx_Q g)) 0 0 (gx_Q g) := by
  refine z_met (by decide) (Nat.le_of_ble_eq_true rfl) (fun p e s m below meth c B hr hin => ?_)
  refine z_eqs (σ' := (ap b σ [] [] [])) rfl ?_
  show zx p l e _ s m _ below meth c g 3 0 0 _ _ 0 [(0, .int 8), (1, .int 1), (2, .int 50)] []
  refine z_iload_n B dX9_in_0 rfl 0 rfl ?_
  refine z_iload_n B dX9_in_1 rfl 1 rfl ?_
  refine z_icmp_lt (tgt := 14) B dX9_in_2 (by decide) (fun h => absurd h (by decide)) (fun _ => ?_)
  refine z_iload_n B dX9_in_5 rfl 0 rfl ?_
  refine z_iload_n B dX9_in_6 rfl 2 rfl ?_
  refine z_icmp_gt (tgt := 14) B dX9_in_7 (by decide) (fun h => absurd h (by decide)) (fun _ => ?_)
  refine z_iconst (v := 1) B dX9_in_10 (by decide) ?_
  refine z_goto (tgt := 15) B dX9_in_11 (by decide) ?_
  exact z_zret B hr (by decide) (by decide) (by decide) dX9_in_15 ⟨rfl, rfl⟩
set_option maxRecDepth 100000 in
set_option maxHeartbeats 4000000 in
theorem ci_X9_ticks_960 (l : Launch) {g : gx_T} {σ : sx_T} {b : Nat} (hK : lay b σ)   (hI_405_1 : sx_I σ (b + 405) 1 = 7) (hI_405_6 : sx_I σ (b + 405) 6 = 0) (hI_405_16 : sx_I σ (b + 405) 16 = 0) : Met l yX9_ticks (.code yX9_ticks cX9_ticks 2 none :: lw_g) { frames := 0, cells := 0, slots := 0, locals := 0 } (va_Pc [.ref (b + 405)] (zx_w g σ)) (va_Qv (fun u => u = (ap b σ [(405, 1, 8)] [] [])) (zx_w g) (gx_Q g)) 0 0 (gx_Q g) := by
  refine z_met (by decide) (Nat.le_of_ble_eq_true rfl) (fun p e s m below meth c B hr hin => ?_)
  refine z_eqs (σ' := (ap b σ [] [] [])) rfl ?_
  show zx p l e _ s m _ below meth c g 2 0 0 _ _ 0 [(0, .ref (b + 405))] []
  refine z_aload_n B dX9_ticks_0 rfl 0 rfl ?_
  refine z_dup B dX9_ticks_1 rfl ?_
  refine gf_X9_197 (x := 7) B (lKA (hk_K hK 405 rfl rfl)) (rI_at 405 1 hI_405_1) dX9_ticks_2 ?_
  refine z_iconst (v := 1) B dX9_ticks_5 (by decide) ?_
  refine z_iadd B dX9_ticks_6 ?_
  refine z_seti (y := 8) (by decide) ?_
  refine pf_X9_197 (x := 8) (σ' := (ap b σ [(405, 1, 8)] [] [])) B (lKA (hk_K hK 405 rfl rfl)) wI_ap dX9_ticks_7 ?_
  refine z_iconst (v := 0) B dX9_ticks_10 (by decide) ?_
  refine z_istore_n (lv' := [(1, .int 0), (0, .ref (b + 405))]) B dX9_ticks_11 rfl (by decide) rfl ?_
  refine z_iload_n B dX9_ticks_12 rfl 0 rfl ?_
  refine z_aload_n B dX9_ticks_13 rfl 1 rfl ?_
  refine gf_X9_100 (x := 0) B (lKA (hk_K hK 405 rfl rfl)) (rI_at 405 16 hI_405_16) dX9_ticks_14 ?_
  refine z_icmp_ge (tgt := 104) B dX9_ticks_17 (by decide) (fun _ => ?_) (fun h => absurd (by decide) h)
  refine z_iconst (v := 0) B dX9_ticks_104 (by decide) ?_
  refine z_istore_n (lv' := [(1, .int 0), (0, .ref (b + 405))]) B dX9_ticks_105 rfl (by decide) rfl ?_
  refine z_iload_n B dX9_ticks_106 rfl 0 rfl ?_
  refine z_aload_n B dX9_ticks_107 rfl 1 rfl ?_
  refine gf_X9_93 (x := 0) B (lKA (hk_K hK 405 rfl rfl)) (rI_at 405 6 hI_405_6) dX9_ticks_108 ?_
  refine z_icmp_ge (tgt := 176) B dX9_ticks_111 (by decide) (fun _ => ?_) (fun h => absurd (by decide) h)
  exact z_vret B hr (by decide) (by decide) dX9_ticks_176 rfl
set_option maxRecDepth 100000 in
set_option maxHeartbeats 4000000 in
theorem ci_X9_tick_961 (l : Launch) {g : gx_T} {σ : sx_T} {b : Nat} (hK : lay b σ)   (hI_405_1 : sx_I σ (b + 405) 1 = 0) (hI_405_6 : sx_I σ (b + 405) 6 = 0) (hI_405_16 : sx_I σ (b + 405) 16 = 0) : Met l yX9_tick (.code yX9_tick cX9_tick 3 (some .int) :: lw_g) { frames := 1, cells := 0, slots := 0, locals := 22 } (va_Pc [.ref (b + 405), .int 8] (zx_w g σ)) (va_Qi (fun r u => r = 8 ∧ u = (ap b σ [(405, 1, 8), (405, 1, 7), (405, 1, 6), (405, 1, 5), (405, 1, 4), (405, 1, 3), (405, 1, 2), (405, 1, 1), (405, 0, 0)] [] [])) (zx_w g) (gx_Q g)) 0 0 (gx_Q g) := by
  refine z_met (by decide) (Nat.le_of_ble_eq_true rfl) (fun p e s m below meth c B hr hin => ?_)
  refine z_eqs (σ' := (ap b σ [] [] [])) rfl ?_
  show zx p l e _ s m _ below meth c g 3 0 0 _ _ 0 [(0, .ref (b + 405)), (1, .int 8)] []
  refine z_aload_n B dX9_tick_0 rfl 0 rfl ?_
  refine z_iload_n B dX9_tick_1 rfl 1 rfl ?_
  refine z_iconst (v := 1) B dX9_tick_2 (by decide) ?_
  refine z_bipush (v := 50) B dX9_tick_3 (by decide) ?_
  refine z_cSi (As := [.int 8, .int 1, .int 50]) (rest := [.ref (b + 405)]) B cw_X9_96 dX9_tick_5 (ci_X9_in_959 l (σ := (ap b σ [] [] [])) (b := b) (lyA hK) ) rfl (by decide) rfl (Nat.le_of_ble_eq_true rfl) (by decide) (fun r u hu => ?_)
  refine z_eqs (σ' := (ap b σ [] [] [])) hu.2 ?_
  show zx p l e _ s m _ below meth c g 3 0 0 _ _ 8 [(0, .ref (b + 405)), (1, .int 8)] _
  refine z_seti (y := 1) hu.1 ?_
  refine z_cVi (As := [.int 1]) (rest := []) B cw_X9_269 cx_10 dX9_tick_8 (ci_X9_needs_905 l (σ := (ap b σ [] [] [])) (b := b) (lyA hK) ) (lKA (hk_K hK 405 rfl rfl)) rfl (by decide) rfl (Nat.le_of_ble_eq_true rfl) (by decide) (fun r u hu => ?_)
  refine z_eqs (σ' := (ap b σ [(405, 0, 0)] [] [])) (hu.2.trans ap_ap) ?_
  show zx p l e _ s m _ below meth c g 3 0 0 _ _ 11 [(0, .ref (b + 405)), (1, .int 8)] _
  refine z_seti (y := 1) hu.1 ?_
  refine z_if_ne (tgt := 16) B dX9_tick_11 (by decide) (fun _ => ?_) (fun h => absurd h (by decide))
  refine z_iconst (v := 0) B dX9_tick_16 (by decide) ?_
  refine z_istore_n (lv' := [(2, .int 0), (0, .ref (b + 405)), (1, .int 8)]) B dX9_tick_17 rfl (by decide) rfl ?_
  refine z_iload_n B dX9_tick_18 rfl 0 rfl ?_
  refine z_iload_n B dX9_tick_19 rfl 2 rfl ?_
  refine z_icmp_ge (tgt := 33) B dX9_tick_20 (by decide) (fun h => absurd h (by decide)) (fun _ => ?_)
  refine z_aload_n B dX9_tick_23 rfl 1 rfl ?_
  refine z_cVv (As := []) (rest := []) B cw_X9_294 cx_10 dX9_tick_24 (ci_X9_ticks_925 l (σ := (ap b σ [(405, 0, 0)] [] [])) (b := b) (lyA hK) (rI_at 405 1 hI_405_1) (rI_at 405 6 hI_405_6) (rI_at 405 16 hI_405_16)) (lKA (hk_K hK 405 rfl rfl)) rfl (by decide) rfl (Nat.le_of_ble_eq_true rfl) (by decide) (fun u hu => ?_)
  refine z_eqs (σ' := (ap b σ [(405, 1, 1), (405, 0, 0)] [] [])) (hu.trans ap_ap) ?_
  show zx p l e _ s m _ below meth c g 3 0 0 _ _ 27 [(2, .int 0), (0, .ref (b + 405)), (1, .int 8)] _
  refine z_iinc (v := 1) (lv' := [(2, .int 1), (0, .ref (b + 405)), (1, .int 8)]) B dX9_tick_27 0 rfl (by decide) (by decide) rfl ?_
  refine z_goto (tgt := 18) B dX9_tick_30 (by decide) ?_
  refine z_iload_n B dX9_tick_18 rfl 0 rfl ?_
  refine z_iload_n B dX9_tick_19 rfl 2 rfl ?_
  refine z_icmp_ge (tgt := 33) B dX9_tick_20 (by decide) (fun h => absurd h (by decide)) (fun _ => ?_)
  refine z_aload_n B dX9_tick_23 rfl 1 rfl ?_
  refine z_cVv (As := []) (rest := []) B cw_X9_294 cx_10 dX9_tick_24 (ci_X9_ticks_930 l (σ := (ap b σ [(405, 1, 1), (405, 0, 0)] [] [])) (b := b) (lyA hK) (rI_at 405 1 rfl) (rI_at 405 6 hI_405_6) (rI_at 405 16 hI_405_16)) (lKA (hk_K hK 405 rfl rfl)) rfl (by decide) rfl (Nat.le_of_ble_eq_true rfl) (by decide) (fun u hu => ?_)
  refine z_eqs (σ' := (ap b σ [(405, 1, 2), (405, 1, 1), (405, 0, 0)] [] [])) (hu.trans ap_ap) ?_
  show zx p l e _ s m _ below meth c g 3 0 0 _ _ 27 [(2, .int 1), (0, .ref (b + 405)), (1, .int 8)] _
  refine z_iinc (v := 2) (lv' := [(2, .int 2), (0, .ref (b + 405)), (1, .int 8)]) B dX9_tick_27 0 rfl (by decide) (by decide) rfl ?_
  refine z_goto (tgt := 18) B dX9_tick_30 (by decide) ?_
  refine z_iload_n B dX9_tick_18 rfl 0 rfl ?_
  refine z_iload_n B dX9_tick_19 rfl 2 rfl ?_
  refine z_icmp_ge (tgt := 33) B dX9_tick_20 (by decide) (fun h => absurd h (by decide)) (fun _ => ?_)
  refine z_aload_n B dX9_tick_23 rfl 1 rfl ?_
  refine z_cVv (As := []) (rest := []) B cw_X9_294 cx_10 dX9_tick_24 (ci_X9_ticks_935 l (σ := (ap b σ [(405, 1, 2), (405, 1, 1), (405, 0, 0)] [] [])) (b := b) (lyA hK) (rI_at 405 1 rfl) (rI_at 405 6 hI_405_6) (rI_at 405 16 hI_405_16)) (lKA (hk_K hK 405 rfl rfl)) rfl (by decide) rfl (Nat.le_of_ble_eq_true rfl) (by decide) (fun u hu => ?_)
  refine z_eqs (σ' := (ap b σ [(405, 1, 3), (405, 1, 2), (405, 1, 1), (405, 0, 0)] [] [])) (hu.trans ap_ap) ?_
  show zx p l e _ s m _ below meth c g 3 0 0 _ _ 27 [(2, .int 2), (0, .ref (b + 405)), (1, .int 8)] _
  refine z_iinc (v := 3) (lv' := [(2, .int 3), (0, .ref (b + 405)), (1, .int 8)]) B dX9_tick_27 0 rfl (by decide) (by decide) rfl ?_
  refine z_goto (tgt := 18) B dX9_tick_30 (by decide) ?_
  refine z_iload_n B dX9_tick_18 rfl 0 rfl ?_
  refine z_iload_n B dX9_tick_19 rfl 2 rfl ?_
  refine z_icmp_ge (tgt := 33) B dX9_tick_20 (by decide) (fun h => absurd h (by decide)) (fun _ => ?_)
  refine z_aload_n B dX9_tick_23 rfl 1 rfl ?_
  refine z_cVv (As := []) (rest := []) B cw_X9_294 cx_10 dX9_tick_24 (ci_X9_ticks_940 l (σ := (ap b σ [(405, 1, 3), (405, 1, 2), (405, 1, 1), (405, 0, 0)] [] [])) (b := b) (lyA hK) (rI_at 405 1 rfl) (rI_at 405 6 hI_405_6) (rI_at 405 16 hI_405_16)) (lKA (hk_K hK 405 rfl rfl)) rfl (by decide) rfl (Nat.le_of_ble_eq_true rfl) (by decide) (fun u hu => ?_)
  refine z_eqs (σ' := (ap b σ [(405, 1, 4), (405, 1, 3), (405, 1, 2), (405, 1, 1), (405, 0, 0)] [] [])) (hu.trans ap_ap) ?_
  show zx p l e _ s m _ below meth c g 3 0 0 _ _ 27 [(2, .int 3), (0, .ref (b + 405)), (1, .int 8)] _
  refine z_iinc (v := 4) (lv' := [(2, .int 4), (0, .ref (b + 405)), (1, .int 8)]) B dX9_tick_27 0 rfl (by decide) (by decide) rfl ?_
  refine z_goto (tgt := 18) B dX9_tick_30 (by decide) ?_
  refine z_iload_n B dX9_tick_18 rfl 0 rfl ?_
  refine z_iload_n B dX9_tick_19 rfl 2 rfl ?_
  refine z_icmp_ge (tgt := 33) B dX9_tick_20 (by decide) (fun h => absurd h (by decide)) (fun _ => ?_)
  refine z_aload_n B dX9_tick_23 rfl 1 rfl ?_
  refine z_cVv (As := []) (rest := []) B cw_X9_294 cx_10 dX9_tick_24 (ci_X9_ticks_945 l (σ := (ap b σ [(405, 1, 4), (405, 1, 3), (405, 1, 2), (405, 1, 1), (405, 0, 0)] [] [])) (b := b) (lyA hK) (rI_at 405 1 rfl) (rI_at 405 6 hI_405_6) (rI_at 405 16 hI_405_16)) (lKA (hk_K hK 405 rfl rfl)) rfl (by decide) rfl (Nat.le_of_ble_eq_true rfl) (by decide) (fun u hu => ?_)
  refine z_eqs (σ' := (ap b σ [(405, 1, 5), (405, 1, 4), (405, 1, 3), (405, 1, 2), (405, 1, 1), (405, 0, 0)] [] [])) (hu.trans ap_ap) ?_
  show zx p l e _ s m _ below meth c g 3 0 0 _ _ 27 [(2, .int 4), (0, .ref (b + 405)), (1, .int 8)] _
  refine z_iinc (v := 5) (lv' := [(2, .int 5), (0, .ref (b + 405)), (1, .int 8)]) B dX9_tick_27 0 rfl (by decide) (by decide) rfl ?_
  refine z_goto (tgt := 18) B dX9_tick_30 (by decide) ?_
  refine z_iload_n B dX9_tick_18 rfl 0 rfl ?_
  refine z_iload_n B dX9_tick_19 rfl 2 rfl ?_
  refine z_icmp_ge (tgt := 33) B dX9_tick_20 (by decide) (fun h => absurd h (by decide)) (fun _ => ?_)
  refine z_aload_n B dX9_tick_23 rfl 1 rfl ?_
  refine z_cVv (As := []) (rest := []) B cw_X9_294 cx_10 dX9_tick_24 (ci_X9_ticks_950 l (σ := (ap b σ [(405, 1, 5), (405, 1, 4), (405, 1, 3), (405, 1, 2), (405, 1, 1), (405, 0, 0)] [] [])) (b := b) (lyA hK) (rI_at 405 1 rfl) (rI_at 405 6 hI_405_6) (rI_at 405 16 hI_405_16)) (lKA (hk_K hK 405 rfl rfl)) rfl (by decide) rfl (Nat.le_of_ble_eq_true rfl) (by decide) (fun u hu => ?_)
  refine z_eqs (σ' := (ap b σ [(405, 1, 6), (405, 1, 5), (405, 1, 4), (405, 1, 3), (405, 1, 2), (405, 1, 1), (405, 0, 0)] [] [])) (hu.trans ap_ap) ?_
  show zx p l e _ s m _ below meth c g 3 0 0 _ _ 27 [(2, .int 5), (0, .ref (b + 405)), (1, .int 8)] _
  refine z_iinc (v := 6) (lv' := [(2, .int 6), (0, .ref (b + 405)), (1, .int 8)]) B dX9_tick_27 0 rfl (by decide) (by decide) rfl ?_
  refine z_goto (tgt := 18) B dX9_tick_30 (by decide) ?_
  refine z_iload_n B dX9_tick_18 rfl 0 rfl ?_
  refine z_iload_n B dX9_tick_19 rfl 2 rfl ?_
  refine z_icmp_ge (tgt := 33) B dX9_tick_20 (by decide) (fun h => absurd h (by decide)) (fun _ => ?_)
  refine z_aload_n B dX9_tick_23 rfl 1 rfl ?_
  refine z_cVv (As := []) (rest := []) B cw_X9_294 cx_10 dX9_tick_24 (ci_X9_ticks_955 l (σ := (ap b σ [(405, 1, 6), (405, 1, 5), (405, 1, 4), (405, 1, 3), (405, 1, 2), (405, 1, 1), (405, 0, 0)] [] [])) (b := b) (lyA hK) (rI_at 405 1 rfl) (rI_at 405 6 hI_405_6) (rI_at 405 16 hI_405_16)) (lKA (hk_K hK 405 rfl rfl)) rfl (by decide) rfl (Nat.le_of_ble_eq_true rfl) (by decide) (fun u hu => ?_)
  refine z_eqs (σ' := (ap b σ [(405, 1, 7), (405, 1, 6), (405, 1, 5), (405, 1, 4), (405, 1, 3), (405, 1, 2), (405, 1, 1), (405, 0, 0)] [] [])) (hu.trans ap_ap) ?_
  show zx p l e _ s m _ below meth c g 3 0 0 _ _ 27 [(2, .int 6), (0, .ref (b + 405)), (1, .int 8)] _
  refine z_iinc (v := 7) (lv' := [(2, .int 7), (0, .ref (b + 405)), (1, .int 8)]) B dX9_tick_27 0 rfl (by decide) (by decide) rfl ?_
  refine z_goto (tgt := 18) B dX9_tick_30 (by decide) ?_
  refine z_iload_n B dX9_tick_18 rfl 0 rfl ?_
  refine z_iload_n B dX9_tick_19 rfl 2 rfl ?_
  refine z_icmp_ge (tgt := 33) B dX9_tick_20 (by decide) (fun h => absurd h (by decide)) (fun _ => ?_)
  refine z_aload_n B dX9_tick_23 rfl 1 rfl ?_
  refine z_cVv (As := []) (rest := []) B cw_X9_294 cx_10 dX9_tick_24 (ci_X9_ticks_960 l (σ := (ap b σ [(405, 1, 7), (405, 1, 6), (405, 1, 5), (405, 1, 4), (405, 1, 3), (405, 1, 2), (405, 1, 1), (405, 0, 0)] [] [])) (b := b) (lyA hK) (rI_at 405 1 rfl) (rI_at 405 6 hI_405_6) (rI_at 405 16 hI_405_16)) (lKA (hk_K hK 405 rfl rfl)) rfl (by decide) rfl (Nat.le_of_ble_eq_true rfl) (by decide) (fun u hu => ?_)
  refine z_eqs (σ' := (ap b σ [(405, 1, 8), (405, 1, 7), (405, 1, 6), (405, 1, 5), (405, 1, 4), (405, 1, 3), (405, 1, 2), (405, 1, 1), (405, 0, 0)] [] [])) (hu.trans ap_ap) ?_
  show zx p l e _ s m _ below meth c g 3 0 0 _ _ 27 [(2, .int 7), (0, .ref (b + 405)), (1, .int 8)] _
  refine z_iinc (v := 8) (lv' := [(2, .int 8), (0, .ref (b + 405)), (1, .int 8)]) B dX9_tick_27 0 rfl (by decide) (by decide) rfl ?_
  refine z_goto (tgt := 18) B dX9_tick_30 (by decide) ?_
  refine z_iload_n B dX9_tick_18 rfl 0 rfl ?_
  refine z_iload_n B dX9_tick_19 rfl 2 rfl ?_
  refine z_icmp_ge (tgt := 33) B dX9_tick_20 (by decide) (fun _ => ?_) (fun h => absurd (by decide) h)
  refine z_aload_n B dX9_tick_33 rfl 1 rfl ?_
  refine gf_X9_197 (x := 8) B (lKA (hk_K hK 405 rfl rfl)) (rI_at 405 1 rfl) dX9_tick_34 ?_
  exact z_iret B hr (by decide) (by decide) dX9_tick_37 ⟨rfl, rfl⟩
set_option maxRecDepth 100000 in
set_option maxHeartbeats 4000000 in
theorem ci_X8_tick_962 (l : Launch) {g : gx_T} {σ : sx_T} {b : Nat} (hK : lay b σ)   (hI_0_7 : sx_I σ (b + 0) 7 = 0) (hI_0_8 : sx_I σ (b + 0) 8 = 0) (hI_4_2 : sx_I σ (b + 4) 2 = 0) (hR_0_3 : sx_R σ (b + 0) 3 = (some (b + 4))) : Met l yX8_tick (.code yX8_tick cX8_tick 3 (some .int) :: lw_g) { frames := 2, cells := 0, slots := 0, locals := 42 } (va_Pc [.ref (b + 0), .int 9] (zx_w g σ)) (va_Qi (fun r u => r = 9 ∧ u = (ap b σ [(0, 8, 9), (0, 8, 8), (0, 8, 7), (0, 8, 6), (0, 8, 5), (0, 8, 4), (0, 8, 3), (0, 8, 2), (0, 8, 1)] [] [])) (zx_w g) (gx_Q g)) 0 0 (gx_Q g) := by
  refine z_met (by decide) (Nat.le_of_ble_eq_true rfl) (fun p e s m below meth c B hr hin => ?_)
  refine z_eqs (σ' := (ap b σ [] [] [])) rfl ?_
  show zx p l e _ s m _ below meth c g 3 0 0 _ _ 0 [(0, .ref (b + 0)), (1, .int 9)] []
  refine z_iload_n B dX8_tick_0 rfl 1 rfl ?_
  refine z_iconst (v := 1) B dX8_tick_1 (by decide) ?_
  refine z_icmp_lt (tgt := 11) B dX8_tick_2 (by decide) (fun h => absurd h (by decide)) (fun _ => ?_)
  refine z_iload_n B dX8_tick_5 rfl 1 rfl ?_
  refine z_bipush (v := 50) B dX8_tick_6 (by decide) ?_
  refine z_icmp_le (tgt := 21) B dX8_tick_8 (by decide) (fun _ => ?_) (fun h => absurd (by decide) h)
  refine z_iconst (v := 0) B dX8_tick_21 (by decide) ?_
  refine z_istore_n (lv' := [(2, .int 0), (0, .ref (b + 0)), (1, .int 9)]) B dX8_tick_22 rfl (by decide) rfl ?_
  refine z_iload_n B dX8_tick_23 rfl 0 rfl ?_
  refine z_iload_n B dX8_tick_24 rfl 2 rfl ?_
  refine z_icmp_ge (tgt := 52) B dX8_tick_25 (by decide) (fun h => absurd h (by decide)) (fun _ => ?_)
  refine z_aload_n B dX8_tick_28 rfl 1 rfl ?_
  refine z_dup B dX8_tick_29 rfl ?_
  refine gf_X8_206 (x := 0) B (lKA (hk_K hK 0 rfl rfl)) (rI_at 0 8 hI_0_8) dX8_tick_30 ?_
  refine z_iconst (v := 1) B dX8_tick_33 (by decide) ?_
  refine z_iadd B dX8_tick_34 ?_
  refine z_seti (y := 1) (by decide) ?_
  refine pf_X8_206 (x := 1) (σ' := (ap b σ [(0, 8, 1)] [] [])) B (lKA (hk_K hK 0 rfl rfl)) wI_ap dX8_tick_35 ?_
  refine z_aload_n B dX8_tick_38 rfl 1 rfl ?_
  refine z_cVv (As := []) (rest := []) B cw_X8_240 cx_9 dX8_tick_39 (ci_X8_passTasks_920 l (σ := (ap b σ [(0, 8, 1)] [] [])) (b := b) (lyA hK) (rI_at 4 2 hI_4_2) (rR_at 0 3 hR_0_3)) (lKA (hk_K hK 0 rfl rfl)) rfl (by decide) rfl (Nat.le_of_ble_eq_true rfl) (by decide) (fun u hu => ?_)
  refine z_eqs (σ' := (ap b σ [(0, 8, 1)] [] [])) hu ?_
  show zx p l e _ s m _ below meth c g 3 0 0 _ _ 42 [(2, .int 0), (0, .ref (b + 0)), (1, .int 9)] _
  refine z_aload_n B dX8_tick_42 rfl 1 rfl ?_
  refine z_cVv (As := []) (rest := []) B cw_X8_243 cx_9 dX8_tick_43 (ci_X8_passTimers_921 l (σ := (ap b σ [(0, 8, 1)] [] [])) (b := b) (lyA hK) (rI_at 0 7 hI_0_7)) (lKA (hk_K hK 0 rfl rfl)) rfl (by decide) rfl (Nat.le_of_ble_eq_true rfl) (by decide) (fun u hu => ?_)
  refine z_eqs (σ' := (ap b σ [(0, 8, 1)] [] [])) hu ?_
  show zx p l e _ s m _ below meth c g 3 0 0 _ _ 46 [(2, .int 0), (0, .ref (b + 0)), (1, .int 9)] _
  refine z_iinc (v := 1) (lv' := [(2, .int 1), (0, .ref (b + 0)), (1, .int 9)]) B dX8_tick_46 0 rfl (by decide) (by decide) rfl ?_
  refine z_goto (tgt := 23) B dX8_tick_49 (by decide) ?_
  refine z_iload_n B dX8_tick_23 rfl 0 rfl ?_
  refine z_iload_n B dX8_tick_24 rfl 2 rfl ?_
  refine z_icmp_ge (tgt := 52) B dX8_tick_25 (by decide) (fun h => absurd h (by decide)) (fun _ => ?_)
  refine z_aload_n B dX8_tick_28 rfl 1 rfl ?_
  refine z_dup B dX8_tick_29 rfl ?_
  refine gf_X8_206 (x := 1) B (lKA (hk_K hK 0 rfl rfl)) (rI_at 0 8 rfl) dX8_tick_30 ?_
  refine z_iconst (v := 1) B dX8_tick_33 (by decide) ?_
  refine z_iadd B dX8_tick_34 ?_
  refine z_seti (y := 2) (by decide) ?_
  refine pf_X8_206 (x := 2) (σ' := (ap b σ [(0, 8, 2), (0, 8, 1)] [] [])) B (lKA (hk_K hK 0 rfl rfl)) wI_ap dX8_tick_35 ?_
  refine z_aload_n B dX8_tick_38 rfl 1 rfl ?_
  refine z_cVv (As := []) (rest := []) B cw_X8_240 cx_9 dX8_tick_39 (ci_X8_passTasks_920 l (σ := (ap b σ [(0, 8, 2), (0, 8, 1)] [] [])) (b := b) (lyA hK) (rI_at 4 2 hI_4_2) (rR_at 0 3 hR_0_3)) (lKA (hk_K hK 0 rfl rfl)) rfl (by decide) rfl (Nat.le_of_ble_eq_true rfl) (by decide) (fun u hu => ?_)
  refine z_eqs (σ' := (ap b σ [(0, 8, 2), (0, 8, 1)] [] [])) hu ?_
  show zx p l e _ s m _ below meth c g 3 0 0 _ _ 42 [(2, .int 1), (0, .ref (b + 0)), (1, .int 9)] _
  refine z_aload_n B dX8_tick_42 rfl 1 rfl ?_
  refine z_cVv (As := []) (rest := []) B cw_X8_243 cx_9 dX8_tick_43 (ci_X8_passTimers_921 l (σ := (ap b σ [(0, 8, 2), (0, 8, 1)] [] [])) (b := b) (lyA hK) (rI_at 0 7 hI_0_7)) (lKA (hk_K hK 0 rfl rfl)) rfl (by decide) rfl (Nat.le_of_ble_eq_true rfl) (by decide) (fun u hu => ?_)
  refine z_eqs (σ' := (ap b σ [(0, 8, 2), (0, 8, 1)] [] [])) hu ?_
  show zx p l e _ s m _ below meth c g 3 0 0 _ _ 46 [(2, .int 1), (0, .ref (b + 0)), (1, .int 9)] _
  refine z_iinc (v := 2) (lv' := [(2, .int 2), (0, .ref (b + 0)), (1, .int 9)]) B dX8_tick_46 0 rfl (by decide) (by decide) rfl ?_
  refine z_goto (tgt := 23) B dX8_tick_49 (by decide) ?_
  refine z_iload_n B dX8_tick_23 rfl 0 rfl ?_
  refine z_iload_n B dX8_tick_24 rfl 2 rfl ?_
  refine z_icmp_ge (tgt := 52) B dX8_tick_25 (by decide) (fun h => absurd h (by decide)) (fun _ => ?_)
  refine z_aload_n B dX8_tick_28 rfl 1 rfl ?_
  refine z_dup B dX8_tick_29 rfl ?_
  refine gf_X8_206 (x := 2) B (lKA (hk_K hK 0 rfl rfl)) (rI_at 0 8 rfl) dX8_tick_30 ?_
  refine z_iconst (v := 1) B dX8_tick_33 (by decide) ?_
  refine z_iadd B dX8_tick_34 ?_
  refine z_seti (y := 3) (by decide) ?_
  refine pf_X8_206 (x := 3) (σ' := (ap b σ [(0, 8, 3), (0, 8, 2), (0, 8, 1)] [] [])) B (lKA (hk_K hK 0 rfl rfl)) wI_ap dX8_tick_35 ?_
  refine z_aload_n B dX8_tick_38 rfl 1 rfl ?_
  refine z_cVv (As := []) (rest := []) B cw_X8_240 cx_9 dX8_tick_39 (ci_X8_passTasks_920 l (σ := (ap b σ [(0, 8, 3), (0, 8, 2), (0, 8, 1)] [] [])) (b := b) (lyA hK) (rI_at 4 2 hI_4_2) (rR_at 0 3 hR_0_3)) (lKA (hk_K hK 0 rfl rfl)) rfl (by decide) rfl (Nat.le_of_ble_eq_true rfl) (by decide) (fun u hu => ?_)
  refine z_eqs (σ' := (ap b σ [(0, 8, 3), (0, 8, 2), (0, 8, 1)] [] [])) hu ?_
  show zx p l e _ s m _ below meth c g 3 0 0 _ _ 42 [(2, .int 2), (0, .ref (b + 0)), (1, .int 9)] _
  refine z_aload_n B dX8_tick_42 rfl 1 rfl ?_
  refine z_cVv (As := []) (rest := []) B cw_X8_243 cx_9 dX8_tick_43 (ci_X8_passTimers_921 l (σ := (ap b σ [(0, 8, 3), (0, 8, 2), (0, 8, 1)] [] [])) (b := b) (lyA hK) (rI_at 0 7 hI_0_7)) (lKA (hk_K hK 0 rfl rfl)) rfl (by decide) rfl (Nat.le_of_ble_eq_true rfl) (by decide) (fun u hu => ?_)
  refine z_eqs (σ' := (ap b σ [(0, 8, 3), (0, 8, 2), (0, 8, 1)] [] [])) hu ?_
  show zx p l e _ s m _ below meth c g 3 0 0 _ _ 46 [(2, .int 2), (0, .ref (b + 0)), (1, .int 9)] _
  refine z_iinc (v := 3) (lv' := [(2, .int 3), (0, .ref (b + 0)), (1, .int 9)]) B dX8_tick_46 0 rfl (by decide) (by decide) rfl ?_
  refine z_goto (tgt := 23) B dX8_tick_49 (by decide) ?_
  refine z_iload_n B dX8_tick_23 rfl 0 rfl ?_
  refine z_iload_n B dX8_tick_24 rfl 2 rfl ?_
  refine z_icmp_ge (tgt := 52) B dX8_tick_25 (by decide) (fun h => absurd h (by decide)) (fun _ => ?_)
  refine z_aload_n B dX8_tick_28 rfl 1 rfl ?_
  refine z_dup B dX8_tick_29 rfl ?_
  refine gf_X8_206 (x := 3) B (lKA (hk_K hK 0 rfl rfl)) (rI_at 0 8 rfl) dX8_tick_30 ?_
  refine z_iconst (v := 1) B dX8_tick_33 (by decide) ?_
  refine z_iadd B dX8_tick_34 ?_
  refine z_seti (y := 4) (by decide) ?_
  refine pf_X8_206 (x := 4) (σ' := (ap b σ [(0, 8, 4), (0, 8, 3), (0, 8, 2), (0, 8, 1)] [] [])) B (lKA (hk_K hK 0 rfl rfl)) wI_ap dX8_tick_35 ?_
  refine z_aload_n B dX8_tick_38 rfl 1 rfl ?_
  refine z_cVv (As := []) (rest := []) B cw_X8_240 cx_9 dX8_tick_39 (ci_X8_passTasks_920 l (σ := (ap b σ [(0, 8, 4), (0, 8, 3), (0, 8, 2), (0, 8, 1)] [] [])) (b := b) (lyA hK) (rI_at 4 2 hI_4_2) (rR_at 0 3 hR_0_3)) (lKA (hk_K hK 0 rfl rfl)) rfl (by decide) rfl (Nat.le_of_ble_eq_true rfl) (by decide) (fun u hu => ?_)
  refine z_eqs (σ' := (ap b σ [(0, 8, 4), (0, 8, 3), (0, 8, 2), (0, 8, 1)] [] [])) hu ?_
  show zx p l e _ s m _ below meth c g 3 0 0 _ _ 42 [(2, .int 3), (0, .ref (b + 0)), (1, .int 9)] _
  refine z_aload_n B dX8_tick_42 rfl 1 rfl ?_
  refine z_cVv (As := []) (rest := []) B cw_X8_243 cx_9 dX8_tick_43 (ci_X8_passTimers_921 l (σ := (ap b σ [(0, 8, 4), (0, 8, 3), (0, 8, 2), (0, 8, 1)] [] [])) (b := b) (lyA hK) (rI_at 0 7 hI_0_7)) (lKA (hk_K hK 0 rfl rfl)) rfl (by decide) rfl (Nat.le_of_ble_eq_true rfl) (by decide) (fun u hu => ?_)
  refine z_eqs (σ' := (ap b σ [(0, 8, 4), (0, 8, 3), (0, 8, 2), (0, 8, 1)] [] [])) hu ?_
  show zx p l e _ s m _ below meth c g 3 0 0 _ _ 46 [(2, .int 3), (0, .ref (b + 0)), (1, .int 9)] _
  refine z_iinc (v := 4) (lv' := [(2, .int 4), (0, .ref (b + 0)), (1, .int 9)]) B dX8_tick_46 0 rfl (by decide) (by decide) rfl ?_
  refine z_goto (tgt := 23) B dX8_tick_49 (by decide) ?_
  refine z_iload_n B dX8_tick_23 rfl 0 rfl ?_
  refine z_iload_n B dX8_tick_24 rfl 2 rfl ?_
  refine z_icmp_ge (tgt := 52) B dX8_tick_25 (by decide) (fun h => absurd h (by decide)) (fun _ => ?_)
  refine z_aload_n B dX8_tick_28 rfl 1 rfl ?_
  refine z_dup B dX8_tick_29 rfl ?_
  refine gf_X8_206 (x := 4) B (lKA (hk_K hK 0 rfl rfl)) (rI_at 0 8 rfl) dX8_tick_30 ?_
  refine z_iconst (v := 1) B dX8_tick_33 (by decide) ?_
  refine z_iadd B dX8_tick_34 ?_
  refine z_seti (y := 5) (by decide) ?_
  refine pf_X8_206 (x := 5) (σ' := (ap b σ [(0, 8, 5), (0, 8, 4), (0, 8, 3), (0, 8, 2), (0, 8, 1)] [] [])) B (lKA (hk_K hK 0 rfl rfl)) wI_ap dX8_tick_35 ?_
  refine z_aload_n B dX8_tick_38 rfl 1 rfl ?_
  refine z_cVv (As := []) (rest := []) B cw_X8_240 cx_9 dX8_tick_39 (ci_X8_passTasks_920 l (σ := (ap b σ [(0, 8, 5), (0, 8, 4), (0, 8, 3), (0, 8, 2), (0, 8, 1)] [] [])) (b := b) (lyA hK) (rI_at 4 2 hI_4_2) (rR_at 0 3 hR_0_3)) (lKA (hk_K hK 0 rfl rfl)) rfl (by decide) rfl (Nat.le_of_ble_eq_true rfl) (by decide) (fun u hu => ?_)
  refine z_eqs (σ' := (ap b σ [(0, 8, 5), (0, 8, 4), (0, 8, 3), (0, 8, 2), (0, 8, 1)] [] [])) hu ?_
  show zx p l e _ s m _ below meth c g 3 0 0 _ _ 42 [(2, .int 4), (0, .ref (b + 0)), (1, .int 9)] _
  refine z_aload_n B dX8_tick_42 rfl 1 rfl ?_
  refine z_cVv (As := []) (rest := []) B cw_X8_243 cx_9 dX8_tick_43 (ci_X8_passTimers_921 l (σ := (ap b σ [(0, 8, 5), (0, 8, 4), (0, 8, 3), (0, 8, 2), (0, 8, 1)] [] [])) (b := b) (lyA hK) (rI_at 0 7 hI_0_7)) (lKA (hk_K hK 0 rfl rfl)) rfl (by decide) rfl (Nat.le_of_ble_eq_true rfl) (by decide) (fun u hu => ?_)
  refine z_eqs (σ' := (ap b σ [(0, 8, 5), (0, 8, 4), (0, 8, 3), (0, 8, 2), (0, 8, 1)] [] [])) hu ?_
  show zx p l e _ s m _ below meth c g 3 0 0 _ _ 46 [(2, .int 4), (0, .ref (b + 0)), (1, .int 9)] _
  refine z_iinc (v := 5) (lv' := [(2, .int 5), (0, .ref (b + 0)), (1, .int 9)]) B dX8_tick_46 0 rfl (by decide) (by decide) rfl ?_
  refine z_goto (tgt := 23) B dX8_tick_49 (by decide) ?_
  refine z_iload_n B dX8_tick_23 rfl 0 rfl ?_
  refine z_iload_n B dX8_tick_24 rfl 2 rfl ?_
  refine z_icmp_ge (tgt := 52) B dX8_tick_25 (by decide) (fun h => absurd h (by decide)) (fun _ => ?_)
  refine z_aload_n B dX8_tick_28 rfl 1 rfl ?_
  refine z_dup B dX8_tick_29 rfl ?_
  refine gf_X8_206 (x := 5) B (lKA (hk_K hK 0 rfl rfl)) (rI_at 0 8 rfl) dX8_tick_30 ?_
  refine z_iconst (v := 1) B dX8_tick_33 (by decide) ?_
  refine z_iadd B dX8_tick_34 ?_
  refine z_seti (y := 6) (by decide) ?_
  refine pf_X8_206 (x := 6) (σ' := (ap b σ [(0, 8, 6), (0, 8, 5), (0, 8, 4), (0, 8, 3), (0, 8, 2), (0, 8, 1)] [] [])) B (lKA (hk_K hK 0 rfl rfl)) wI_ap dX8_tick_35 ?_
  refine z_aload_n B dX8_tick_38 rfl 1 rfl ?_
  refine z_cVv (As := []) (rest := []) B cw_X8_240 cx_9 dX8_tick_39 (ci_X8_passTasks_920 l (σ := (ap b σ [(0, 8, 6), (0, 8, 5), (0, 8, 4), (0, 8, 3), (0, 8, 2), (0, 8, 1)] [] [])) (b := b) (lyA hK) (rI_at 4 2 hI_4_2) (rR_at 0 3 hR_0_3)) (lKA (hk_K hK 0 rfl rfl)) rfl (by decide) rfl (Nat.le_of_ble_eq_true rfl) (by decide) (fun u hu => ?_)
  refine z_eqs (σ' := (ap b σ [(0, 8, 6), (0, 8, 5), (0, 8, 4), (0, 8, 3), (0, 8, 2), (0, 8, 1)] [] [])) hu ?_
  show zx p l e _ s m _ below meth c g 3 0 0 _ _ 42 [(2, .int 5), (0, .ref (b + 0)), (1, .int 9)] _
  refine z_aload_n B dX8_tick_42 rfl 1 rfl ?_
  refine z_cVv (As := []) (rest := []) B cw_X8_243 cx_9 dX8_tick_43 (ci_X8_passTimers_921 l (σ := (ap b σ [(0, 8, 6), (0, 8, 5), (0, 8, 4), (0, 8, 3), (0, 8, 2), (0, 8, 1)] [] [])) (b := b) (lyA hK) (rI_at 0 7 hI_0_7)) (lKA (hk_K hK 0 rfl rfl)) rfl (by decide) rfl (Nat.le_of_ble_eq_true rfl) (by decide) (fun u hu => ?_)
  refine z_eqs (σ' := (ap b σ [(0, 8, 6), (0, 8, 5), (0, 8, 4), (0, 8, 3), (0, 8, 2), (0, 8, 1)] [] [])) hu ?_
  show zx p l e _ s m _ below meth c g 3 0 0 _ _ 46 [(2, .int 5), (0, .ref (b + 0)), (1, .int 9)] _
  refine z_iinc (v := 6) (lv' := [(2, .int 6), (0, .ref (b + 0)), (1, .int 9)]) B dX8_tick_46 0 rfl (by decide) (by decide) rfl ?_
  refine z_goto (tgt := 23) B dX8_tick_49 (by decide) ?_
  refine z_iload_n B dX8_tick_23 rfl 0 rfl ?_
  refine z_iload_n B dX8_tick_24 rfl 2 rfl ?_
  refine z_icmp_ge (tgt := 52) B dX8_tick_25 (by decide) (fun h => absurd h (by decide)) (fun _ => ?_)
  refine z_aload_n B dX8_tick_28 rfl 1 rfl ?_
  refine z_dup B dX8_tick_29 rfl ?_
  refine gf_X8_206 (x := 6) B (lKA (hk_K hK 0 rfl rfl)) (rI_at 0 8 rfl) dX8_tick_30 ?_
  refine z_iconst (v := 1) B dX8_tick_33 (by decide) ?_
  refine z_iadd B dX8_tick_34 ?_
  refine z_seti (y := 7) (by decide) ?_
  refine pf_X8_206 (x := 7) (σ' := (ap b σ [(0, 8, 7), (0, 8, 6), (0, 8, 5), (0, 8, 4), (0, 8, 3), (0, 8, 2), (0, 8, 1)] [] [])) B (lKA (hk_K hK 0 rfl rfl)) wI_ap dX8_tick_35 ?_
  refine z_aload_n B dX8_tick_38 rfl 1 rfl ?_
  refine z_cVv (As := []) (rest := []) B cw_X8_240 cx_9 dX8_tick_39 (ci_X8_passTasks_920 l (σ := (ap b σ [(0, 8, 7), (0, 8, 6), (0, 8, 5), (0, 8, 4), (0, 8, 3), (0, 8, 2), (0, 8, 1)] [] [])) (b := b) (lyA hK) (rI_at 4 2 hI_4_2) (rR_at 0 3 hR_0_3)) (lKA (hk_K hK 0 rfl rfl)) rfl (by decide) rfl (Nat.le_of_ble_eq_true rfl) (by decide) (fun u hu => ?_)
  refine z_eqs (σ' := (ap b σ [(0, 8, 7), (0, 8, 6), (0, 8, 5), (0, 8, 4), (0, 8, 3), (0, 8, 2), (0, 8, 1)] [] [])) hu ?_
  show zx p l e _ s m _ below meth c g 3 0 0 _ _ 42 [(2, .int 6), (0, .ref (b + 0)), (1, .int 9)] _
  refine z_aload_n B dX8_tick_42 rfl 1 rfl ?_
  refine z_cVv (As := []) (rest := []) B cw_X8_243 cx_9 dX8_tick_43 (ci_X8_passTimers_921 l (σ := (ap b σ [(0, 8, 7), (0, 8, 6), (0, 8, 5), (0, 8, 4), (0, 8, 3), (0, 8, 2), (0, 8, 1)] [] [])) (b := b) (lyA hK) (rI_at 0 7 hI_0_7)) (lKA (hk_K hK 0 rfl rfl)) rfl (by decide) rfl (Nat.le_of_ble_eq_true rfl) (by decide) (fun u hu => ?_)
  refine z_eqs (σ' := (ap b σ [(0, 8, 7), (0, 8, 6), (0, 8, 5), (0, 8, 4), (0, 8, 3), (0, 8, 2), (0, 8, 1)] [] [])) hu ?_
  show zx p l e _ s m _ below meth c g 3 0 0 _ _ 46 [(2, .int 6), (0, .ref (b + 0)), (1, .int 9)] _
  refine z_iinc (v := 7) (lv' := [(2, .int 7), (0, .ref (b + 0)), (1, .int 9)]) B dX8_tick_46 0 rfl (by decide) (by decide) rfl ?_
  refine z_goto (tgt := 23) B dX8_tick_49 (by decide) ?_
  refine z_iload_n B dX8_tick_23 rfl 0 rfl ?_
  refine z_iload_n B dX8_tick_24 rfl 2 rfl ?_
  refine z_icmp_ge (tgt := 52) B dX8_tick_25 (by decide) (fun h => absurd h (by decide)) (fun _ => ?_)
  refine z_aload_n B dX8_tick_28 rfl 1 rfl ?_
  refine z_dup B dX8_tick_29 rfl ?_
  refine gf_X8_206 (x := 7) B (lKA (hk_K hK 0 rfl rfl)) (rI_at 0 8 rfl) dX8_tick_30 ?_
  refine z_iconst (v := 1) B dX8_tick_33 (by decide) ?_
  refine z_iadd B dX8_tick_34 ?_
  refine z_seti (y := 8) (by decide) ?_
  refine pf_X8_206 (x := 8) (σ' := (ap b σ [(0, 8, 8), (0, 8, 7), (0, 8, 6), (0, 8, 5), (0, 8, 4), (0, 8, 3), (0, 8, 2), (0, 8, 1)] [] [])) B (lKA (hk_K hK 0 rfl rfl)) wI_ap dX8_tick_35 ?_
  refine z_aload_n B dX8_tick_38 rfl 1 rfl ?_
  refine z_cVv (As := []) (rest := []) B cw_X8_240 cx_9 dX8_tick_39 (ci_X8_passTasks_920 l (σ := (ap b σ [(0, 8, 8), (0, 8, 7), (0, 8, 6), (0, 8, 5), (0, 8, 4), (0, 8, 3), (0, 8, 2), (0, 8, 1)] [] [])) (b := b) (lyA hK) (rI_at 4 2 hI_4_2) (rR_at 0 3 hR_0_3)) (lKA (hk_K hK 0 rfl rfl)) rfl (by decide) rfl (Nat.le_of_ble_eq_true rfl) (by decide) (fun u hu => ?_)
  refine z_eqs (σ' := (ap b σ [(0, 8, 8), (0, 8, 7), (0, 8, 6), (0, 8, 5), (0, 8, 4), (0, 8, 3), (0, 8, 2), (0, 8, 1)] [] [])) hu ?_
  show zx p l e _ s m _ below meth c g 3 0 0 _ _ 42 [(2, .int 7), (0, .ref (b + 0)), (1, .int 9)] _
  refine z_aload_n B dX8_tick_42 rfl 1 rfl ?_
  refine z_cVv (As := []) (rest := []) B cw_X8_243 cx_9 dX8_tick_43 (ci_X8_passTimers_921 l (σ := (ap b σ [(0, 8, 8), (0, 8, 7), (0, 8, 6), (0, 8, 5), (0, 8, 4), (0, 8, 3), (0, 8, 2), (0, 8, 1)] [] [])) (b := b) (lyA hK) (rI_at 0 7 hI_0_7)) (lKA (hk_K hK 0 rfl rfl)) rfl (by decide) rfl (Nat.le_of_ble_eq_true rfl) (by decide) (fun u hu => ?_)
  refine z_eqs (σ' := (ap b σ [(0, 8, 8), (0, 8, 7), (0, 8, 6), (0, 8, 5), (0, 8, 4), (0, 8, 3), (0, 8, 2), (0, 8, 1)] [] [])) hu ?_
  show zx p l e _ s m _ below meth c g 3 0 0 _ _ 46 [(2, .int 7), (0, .ref (b + 0)), (1, .int 9)] _
  refine z_iinc (v := 8) (lv' := [(2, .int 8), (0, .ref (b + 0)), (1, .int 9)]) B dX8_tick_46 0 rfl (by decide) (by decide) rfl ?_
  refine z_goto (tgt := 23) B dX8_tick_49 (by decide) ?_
  refine z_iload_n B dX8_tick_23 rfl 0 rfl ?_
  refine z_iload_n B dX8_tick_24 rfl 2 rfl ?_
  refine z_icmp_ge (tgt := 52) B dX8_tick_25 (by decide) (fun h => absurd h (by decide)) (fun _ => ?_)
  refine z_aload_n B dX8_tick_28 rfl 1 rfl ?_
  refine z_dup B dX8_tick_29 rfl ?_
  refine gf_X8_206 (x := 8) B (lKA (hk_K hK 0 rfl rfl)) (rI_at 0 8 rfl) dX8_tick_30 ?_
  refine z_iconst (v := 1) B dX8_tick_33 (by decide) ?_
  refine z_iadd B dX8_tick_34 ?_
  refine z_seti (y := 9) (by decide) ?_
  refine pf_X8_206 (x := 9) (σ' := (ap b σ [(0, 8, 9), (0, 8, 8), (0, 8, 7), (0, 8, 6), (0, 8, 5), (0, 8, 4), (0, 8, 3), (0, 8, 2), (0, 8, 1)] [] [])) B (lKA (hk_K hK 0 rfl rfl)) wI_ap dX8_tick_35 ?_
  refine z_aload_n B dX8_tick_38 rfl 1 rfl ?_
  refine z_cVv (As := []) (rest := []) B cw_X8_240 cx_9 dX8_tick_39 (ci_X8_passTasks_920 l (σ := (ap b σ [(0, 8, 9), (0, 8, 8), (0, 8, 7), (0, 8, 6), (0, 8, 5), (0, 8, 4), (0, 8, 3), (0, 8, 2), (0, 8, 1)] [] [])) (b := b) (lyA hK) (rI_at 4 2 hI_4_2) (rR_at 0 3 hR_0_3)) (lKA (hk_K hK 0 rfl rfl)) rfl (by decide) rfl (Nat.le_of_ble_eq_true rfl) (by decide) (fun u hu => ?_)
  refine z_eqs (σ' := (ap b σ [(0, 8, 9), (0, 8, 8), (0, 8, 7), (0, 8, 6), (0, 8, 5), (0, 8, 4), (0, 8, 3), (0, 8, 2), (0, 8, 1)] [] [])) hu ?_
  show zx p l e _ s m _ below meth c g 3 0 0 _ _ 42 [(2, .int 8), (0, .ref (b + 0)), (1, .int 9)] _
  refine z_aload_n B dX8_tick_42 rfl 1 rfl ?_
  refine z_cVv (As := []) (rest := []) B cw_X8_243 cx_9 dX8_tick_43 (ci_X8_passTimers_921 l (σ := (ap b σ [(0, 8, 9), (0, 8, 8), (0, 8, 7), (0, 8, 6), (0, 8, 5), (0, 8, 4), (0, 8, 3), (0, 8, 2), (0, 8, 1)] [] [])) (b := b) (lyA hK) (rI_at 0 7 hI_0_7)) (lKA (hk_K hK 0 rfl rfl)) rfl (by decide) rfl (Nat.le_of_ble_eq_true rfl) (by decide) (fun u hu => ?_)
  refine z_eqs (σ' := (ap b σ [(0, 8, 9), (0, 8, 8), (0, 8, 7), (0, 8, 6), (0, 8, 5), (0, 8, 4), (0, 8, 3), (0, 8, 2), (0, 8, 1)] [] [])) hu ?_
  show zx p l e _ s m _ below meth c g 3 0 0 _ _ 46 [(2, .int 8), (0, .ref (b + 0)), (1, .int 9)] _
  refine z_iinc (v := 9) (lv' := [(2, .int 9), (0, .ref (b + 0)), (1, .int 9)]) B dX8_tick_46 0 rfl (by decide) (by decide) rfl ?_
  refine z_goto (tgt := 23) B dX8_tick_49 (by decide) ?_
  refine z_iload_n B dX8_tick_23 rfl 0 rfl ?_
  refine z_iload_n B dX8_tick_24 rfl 2 rfl ?_
  refine z_icmp_ge (tgt := 52) B dX8_tick_25 (by decide) (fun _ => ?_) (fun h => absurd (by decide) h)
  refine z_aload_n B dX8_tick_52 rfl 1 rfl ?_
  refine gf_X8_206 (x := 9) B (lKA (hk_K hK 0 rfl rfl)) (rI_at 0 8 rfl) dX8_tick_53 ?_
  exact z_iret B hr (by decide) (by decide) dX8_tick_56 ⟨rfl, rfl⟩
set_option maxRecDepth 100000 in
set_option maxHeartbeats 4000000 in
theorem ci_L_tick_963 (l : Launch) {g : gx_T} {σ : sx_T} {b : Nat} (hK : lay b σ)   (hI_0_7 : sx_I σ (b + 0) 7 = 0) (hI_0_8 : sx_I σ (b + 0) 8 = 0) (hI_4_2 : sx_I σ (b + 4) 2 = 0) (hR_0_3 : sx_R σ (b + 0) 3 = (some (b + 4))) : Met l yL_tick (.codeWith yL_tick cL_tick 4 (some .int) [(0, 9, 12, 15)] :: lw_g) { frames := 3, cells := 0, slots := 0, locals := 64 } (va_Pc [.ref (b + 0), .int 9, .ref (b + 431)] (zx_w g σ)) (va_Qi (fun r u => r = 0 ∧ u = (ap b σ [(0, 8, 9), (0, 8, 8), (0, 8, 7), (0, 8, 6), (0, 8, 5), (0, 8, 4), (0, 8, 3), (0, 8, 2), (0, 8, 1)] [(431, 0, 9)] [])) (zx_w g) (gx_Q g)) 0 0 (gx_Q g) := by
  refine z_metW (by decide) (Nat.le_of_ble_eq_true rfl) (fun p e s m below meth c B hr htab => ?_)
  refine z_eqs (σ' := (ap b σ [] [] [])) rfl ?_
  show zx p l e _ s m _ below meth c g 4 0 0 _ _ 0 [(0, .ref (b + 0)), (1, .int 9), (2, .ref (b + 431))] []
  refine z_aload_n B dL_tick_0 rfl 2 rfl ?_
  refine z_iconst (v := 0) B dL_tick_1 (by decide) ?_
  refine z_aload_n B dL_tick_2 rfl 0 rfl ?_
  refine z_iload_n B dL_tick_3 rfl 1 rfl ?_
  refine z_cVi (As := [.int 9]) (rest := [.int 0, .ref (b + 431)]) B cw_L_41 cx_9 dL_tick_4 (ci_X8_tick_962 l (σ := (ap b σ [] [] [])) (b := b) (lyA hK) (rI_at 0 7 hI_0_7) (rI_at 0 8 hI_0_8) (rI_at 4 2 hI_4_2) (rR_at 0 3 hR_0_3)) (lKA (hk_K hK 0 rfl rfl)) rfl (by decide) rfl (Nat.le_of_ble_eq_true rfl) (by decide) (fun r u hu => ?_)
  refine z_eqs (σ' := (ap b σ [(0, 8, 9), (0, 8, 8), (0, 8, 7), (0, 8, 6), (0, 8, 5), (0, 8, 4), (0, 8, 3), (0, 8, 2), (0, 8, 1)] [] [])) (hu.2.trans ap_ap) ?_
  show zx p l e _ s m _ below meth c g 4 0 0 _ _ 7 [(0, .ref (b + 0)), (1, .int 9), (2, .ref (b + 431))] _
  refine z_seti (y := 9) hu.1 ?_
  refine z_i2l (v := 9) B dL_tick_7 (by decide) ?_
  refine z_last (j := 0) (σ' := (ap b σ [(0, 8, 9), (0, 8, 8), (0, 8, 7), (0, 8, 6), (0, 8, 5), (0, 8, 4), (0, 8, 3), (0, 8, 2), (0, 8, 1)] [(431, 0, 9)] [])) B (lKA (hk_K hK 431 rfl rfl)) (by decide) (in_of (lNA (hk_N hK 431 rfl rfl)) (show ¬ ((0 : Int32) < 0 ∨ 1 ≤ (0 : Int32).toNatClampNeg) by decide)) wJ_ap dL_tick_8 ?_
  refine z_goto (tgt := 15) B dL_tick_9 (by decide) ?_
  refine z_iconst (v := 0) B dL_tick_15 (by decide) ?_
  exact z_iret B hr (by decide) (by decide) dL_tick_16 ⟨rfl, rfl⟩
set_option maxRecDepth 100000 in
set_option maxHeartbeats 4000000 in
theorem ci_X9_in_964 (l : Launch) {g : gx_T} {σ : sx_T} {b : Nat} (hK : lay b σ)    : Met l yX9_in (.code yX9_in cX9_in 3 (some .boolean) :: lw_g) { frames := 0, cells := 0, slots := 0, locals := 0 } (va_Pc [.int 9, .int 1, .int 50] (zx_w g σ)) (va_Qi (fun r u => r = 1 ∧ u = σ) (zx_w g) (gx_Q g)) 0 0 (gx_Q g) := by
  refine z_met (by decide) (Nat.le_of_ble_eq_true rfl) (fun p e s m below meth c B hr hin => ?_)
  refine z_eqs (σ' := (ap b σ [] [] [])) rfl ?_
  show zx p l e _ s m _ below meth c g 3 0 0 _ _ 0 [(0, .int 9), (1, .int 1), (2, .int 50)] []
  refine z_iload_n B dX9_in_0 rfl 0 rfl ?_
  refine z_iload_n B dX9_in_1 rfl 1 rfl ?_
  refine z_icmp_lt (tgt := 14) B dX9_in_2 (by decide) (fun h => absurd h (by decide)) (fun _ => ?_)
  refine z_iload_n B dX9_in_5 rfl 0 rfl ?_
  refine z_iload_n B dX9_in_6 rfl 2 rfl ?_
  refine z_icmp_gt (tgt := 14) B dX9_in_7 (by decide) (fun h => absurd h (by decide)) (fun _ => ?_)
  refine z_iconst (v := 1) B dX9_in_10 (by decide) ?_
  refine z_goto (tgt := 15) B dX9_in_11 (by decide) ?_
  exact z_zret B hr (by decide) (by decide) (by decide) dX9_in_15 ⟨rfl, rfl⟩
set_option maxRecDepth 100000 in
set_option maxHeartbeats 4000000 in
theorem ci_X9_ticks_965 (l : Launch) {g : gx_T} {σ : sx_T} {b : Nat} (hK : lay b σ)   (hI_405_1 : sx_I σ (b + 405) 1 = 8) (hI_405_6 : sx_I σ (b + 405) 6 = 0) (hI_405_16 : sx_I σ (b + 405) 16 = 0) : Met l yX9_ticks (.code yX9_ticks cX9_ticks 2 none :: lw_g) { frames := 0, cells := 0, slots := 0, locals := 0 } (va_Pc [.ref (b + 405)] (zx_w g σ)) (va_Qv (fun u => u = (ap b σ [(405, 1, 9)] [] [])) (zx_w g) (gx_Q g)) 0 0 (gx_Q g) := by
  refine z_met (by decide) (Nat.le_of_ble_eq_true rfl) (fun p e s m below meth c B hr hin => ?_)
  refine z_eqs (σ' := (ap b σ [] [] [])) rfl ?_
  show zx p l e _ s m _ below meth c g 2 0 0 _ _ 0 [(0, .ref (b + 405))] []
  refine z_aload_n B dX9_ticks_0 rfl 0 rfl ?_
  refine z_dup B dX9_ticks_1 rfl ?_
  refine gf_X9_197 (x := 8) B (lKA (hk_K hK 405 rfl rfl)) (rI_at 405 1 hI_405_1) dX9_ticks_2 ?_
  refine z_iconst (v := 1) B dX9_ticks_5 (by decide) ?_
  refine z_iadd B dX9_ticks_6 ?_
  refine z_seti (y := 9) (by decide) ?_
  refine pf_X9_197 (x := 9) (σ' := (ap b σ [(405, 1, 9)] [] [])) B (lKA (hk_K hK 405 rfl rfl)) wI_ap dX9_ticks_7 ?_
  refine z_iconst (v := 0) B dX9_ticks_10 (by decide) ?_
  refine z_istore_n (lv' := [(1, .int 0), (0, .ref (b + 405))]) B dX9_ticks_11 rfl (by decide) rfl ?_
  refine z_iload_n B dX9_ticks_12 rfl 0 rfl ?_
  refine z_aload_n B dX9_ticks_13 rfl 1 rfl ?_
  refine gf_X9_100 (x := 0) B (lKA (hk_K hK 405 rfl rfl)) (rI_at 405 16 hI_405_16) dX9_ticks_14 ?_
  refine z_icmp_ge (tgt := 104) B dX9_ticks_17 (by decide) (fun _ => ?_) (fun h => absurd (by decide) h)
  refine z_iconst (v := 0) B dX9_ticks_104 (by decide) ?_
  refine z_istore_n (lv' := [(1, .int 0), (0, .ref (b + 405))]) B dX9_ticks_105 rfl (by decide) rfl ?_
  refine z_iload_n B dX9_ticks_106 rfl 0 rfl ?_
  refine z_aload_n B dX9_ticks_107 rfl 1 rfl ?_
  refine gf_X9_93 (x := 0) B (lKA (hk_K hK 405 rfl rfl)) (rI_at 405 6 hI_405_6) dX9_ticks_108 ?_
  refine z_icmp_ge (tgt := 176) B dX9_ticks_111 (by decide) (fun _ => ?_) (fun h => absurd (by decide) h)
  exact z_vret B hr (by decide) (by decide) dX9_ticks_176 rfl
set_option maxRecDepth 100000 in
set_option maxHeartbeats 4000000 in
theorem ci_X9_tick_966 (l : Launch) {g : gx_T} {σ : sx_T} {b : Nat} (hK : lay b σ)   (hI_405_1 : sx_I σ (b + 405) 1 = 0) (hI_405_6 : sx_I σ (b + 405) 6 = 0) (hI_405_16 : sx_I σ (b + 405) 16 = 0) : Met l yX9_tick (.code yX9_tick cX9_tick 3 (some .int) :: lw_g) { frames := 1, cells := 0, slots := 0, locals := 22 } (va_Pc [.ref (b + 405), .int 9] (zx_w g σ)) (va_Qi (fun r u => r = 9 ∧ u = (ap b σ [(405, 1, 9), (405, 1, 8), (405, 1, 7), (405, 1, 6), (405, 1, 5), (405, 1, 4), (405, 1, 3), (405, 1, 2), (405, 1, 1), (405, 0, 0)] [] [])) (zx_w g) (gx_Q g)) 0 0 (gx_Q g) := by
  refine z_met (by decide) (Nat.le_of_ble_eq_true rfl) (fun p e s m below meth c B hr hin => ?_)
  refine z_eqs (σ' := (ap b σ [] [] [])) rfl ?_
  show zx p l e _ s m _ below meth c g 3 0 0 _ _ 0 [(0, .ref (b + 405)), (1, .int 9)] []
  refine z_aload_n B dX9_tick_0 rfl 0 rfl ?_
  refine z_iload_n B dX9_tick_1 rfl 1 rfl ?_
  refine z_iconst (v := 1) B dX9_tick_2 (by decide) ?_
  refine z_bipush (v := 50) B dX9_tick_3 (by decide) ?_
  refine z_cSi (As := [.int 9, .int 1, .int 50]) (rest := [.ref (b + 405)]) B cw_X9_96 dX9_tick_5 (ci_X9_in_964 l (σ := (ap b σ [] [] [])) (b := b) (lyA hK) ) rfl (by decide) rfl (Nat.le_of_ble_eq_true rfl) (by decide) (fun r u hu => ?_)
  refine z_eqs (σ' := (ap b σ [] [] [])) hu.2 ?_
  show zx p l e _ s m _ below meth c g 3 0 0 _ _ 8 [(0, .ref (b + 405)), (1, .int 9)] _
  refine z_seti (y := 1) hu.1 ?_
  refine z_cVi (As := [.int 1]) (rest := []) B cw_X9_269 cx_10 dX9_tick_8 (ci_X9_needs_905 l (σ := (ap b σ [] [] [])) (b := b) (lyA hK) ) (lKA (hk_K hK 405 rfl rfl)) rfl (by decide) rfl (Nat.le_of_ble_eq_true rfl) (by decide) (fun r u hu => ?_)
  refine z_eqs (σ' := (ap b σ [(405, 0, 0)] [] [])) (hu.2.trans ap_ap) ?_
  show zx p l e _ s m _ below meth c g 3 0 0 _ _ 11 [(0, .ref (b + 405)), (1, .int 9)] _
  refine z_seti (y := 1) hu.1 ?_
  refine z_if_ne (tgt := 16) B dX9_tick_11 (by decide) (fun _ => ?_) (fun h => absurd h (by decide))
  refine z_iconst (v := 0) B dX9_tick_16 (by decide) ?_
  refine z_istore_n (lv' := [(2, .int 0), (0, .ref (b + 405)), (1, .int 9)]) B dX9_tick_17 rfl (by decide) rfl ?_
  refine z_iload_n B dX9_tick_18 rfl 0 rfl ?_
  refine z_iload_n B dX9_tick_19 rfl 2 rfl ?_
  refine z_icmp_ge (tgt := 33) B dX9_tick_20 (by decide) (fun h => absurd h (by decide)) (fun _ => ?_)
  refine z_aload_n B dX9_tick_23 rfl 1 rfl ?_
  refine z_cVv (As := []) (rest := []) B cw_X9_294 cx_10 dX9_tick_24 (ci_X9_ticks_925 l (σ := (ap b σ [(405, 0, 0)] [] [])) (b := b) (lyA hK) (rI_at 405 1 hI_405_1) (rI_at 405 6 hI_405_6) (rI_at 405 16 hI_405_16)) (lKA (hk_K hK 405 rfl rfl)) rfl (by decide) rfl (Nat.le_of_ble_eq_true rfl) (by decide) (fun u hu => ?_)
  refine z_eqs (σ' := (ap b σ [(405, 1, 1), (405, 0, 0)] [] [])) (hu.trans ap_ap) ?_
  show zx p l e _ s m _ below meth c g 3 0 0 _ _ 27 [(2, .int 0), (0, .ref (b + 405)), (1, .int 9)] _
  refine z_iinc (v := 1) (lv' := [(2, .int 1), (0, .ref (b + 405)), (1, .int 9)]) B dX9_tick_27 0 rfl (by decide) (by decide) rfl ?_
  refine z_goto (tgt := 18) B dX9_tick_30 (by decide) ?_
  refine z_iload_n B dX9_tick_18 rfl 0 rfl ?_
  refine z_iload_n B dX9_tick_19 rfl 2 rfl ?_
  refine z_icmp_ge (tgt := 33) B dX9_tick_20 (by decide) (fun h => absurd h (by decide)) (fun _ => ?_)
  refine z_aload_n B dX9_tick_23 rfl 1 rfl ?_
  refine z_cVv (As := []) (rest := []) B cw_X9_294 cx_10 dX9_tick_24 (ci_X9_ticks_930 l (σ := (ap b σ [(405, 1, 1), (405, 0, 0)] [] [])) (b := b) (lyA hK) (rI_at 405 1 rfl) (rI_at 405 6 hI_405_6) (rI_at 405 16 hI_405_16)) (lKA (hk_K hK 405 rfl rfl)) rfl (by decide) rfl (Nat.le_of_ble_eq_true rfl) (by decide) (fun u hu => ?_)
  refine z_eqs (σ' := (ap b σ [(405, 1, 2), (405, 1, 1), (405, 0, 0)] [] [])) (hu.trans ap_ap) ?_
  show zx p l e _ s m _ below meth c g 3 0 0 _ _ 27 [(2, .int 1), (0, .ref (b + 405)), (1, .int 9)] _
  refine z_iinc (v := 2) (lv' := [(2, .int 2), (0, .ref (b + 405)), (1, .int 9)]) B dX9_tick_27 0 rfl (by decide) (by decide) rfl ?_
  refine z_goto (tgt := 18) B dX9_tick_30 (by decide) ?_
  refine z_iload_n B dX9_tick_18 rfl 0 rfl ?_
  refine z_iload_n B dX9_tick_19 rfl 2 rfl ?_
  refine z_icmp_ge (tgt := 33) B dX9_tick_20 (by decide) (fun h => absurd h (by decide)) (fun _ => ?_)
  refine z_aload_n B dX9_tick_23 rfl 1 rfl ?_
  refine z_cVv (As := []) (rest := []) B cw_X9_294 cx_10 dX9_tick_24 (ci_X9_ticks_935 l (σ := (ap b σ [(405, 1, 2), (405, 1, 1), (405, 0, 0)] [] [])) (b := b) (lyA hK) (rI_at 405 1 rfl) (rI_at 405 6 hI_405_6) (rI_at 405 16 hI_405_16)) (lKA (hk_K hK 405 rfl rfl)) rfl (by decide) rfl (Nat.le_of_ble_eq_true rfl) (by decide) (fun u hu => ?_)
  refine z_eqs (σ' := (ap b σ [(405, 1, 3), (405, 1, 2), (405, 1, 1), (405, 0, 0)] [] [])) (hu.trans ap_ap) ?_
  show zx p l e _ s m _ below meth c g 3 0 0 _ _ 27 [(2, .int 2), (0, .ref (b + 405)), (1, .int 9)] _
  refine z_iinc (v := 3) (lv' := [(2, .int 3), (0, .ref (b + 405)), (1, .int 9)]) B dX9_tick_27 0 rfl (by decide) (by decide) rfl ?_
  refine z_goto (tgt := 18) B dX9_tick_30 (by decide) ?_
  refine z_iload_n B dX9_tick_18 rfl 0 rfl ?_
  refine z_iload_n B dX9_tick_19 rfl 2 rfl ?_
  refine z_icmp_ge (tgt := 33) B dX9_tick_20 (by decide) (fun h => absurd h (by decide)) (fun _ => ?_)
  refine z_aload_n B dX9_tick_23 rfl 1 rfl ?_
  refine z_cVv (As := []) (rest := []) B cw_X9_294 cx_10 dX9_tick_24 (ci_X9_ticks_940 l (σ := (ap b σ [(405, 1, 3), (405, 1, 2), (405, 1, 1), (405, 0, 0)] [] [])) (b := b) (lyA hK) (rI_at 405 1 rfl) (rI_at 405 6 hI_405_6) (rI_at 405 16 hI_405_16)) (lKA (hk_K hK 405 rfl rfl)) rfl (by decide) rfl (Nat.le_of_ble_eq_true rfl) (by decide) (fun u hu => ?_)
  refine z_eqs (σ' := (ap b σ [(405, 1, 4), (405, 1, 3), (405, 1, 2), (405, 1, 1), (405, 0, 0)] [] [])) (hu.trans ap_ap) ?_
  show zx p l e _ s m _ below meth c g 3 0 0 _ _ 27 [(2, .int 3), (0, .ref (b + 405)), (1, .int 9)] _
  refine z_iinc (v := 4) (lv' := [(2, .int 4), (0, .ref (b + 405)), (1, .int 9)]) B dX9_tick_27 0 rfl (by decide) (by decide) rfl ?_
  refine z_goto (tgt := 18) B dX9_tick_30 (by decide) ?_
  refine z_iload_n B dX9_tick_18 rfl 0 rfl ?_
  refine z_iload_n B dX9_tick_19 rfl 2 rfl ?_
  refine z_icmp_ge (tgt := 33) B dX9_tick_20 (by decide) (fun h => absurd h (by decide)) (fun _ => ?_)
  refine z_aload_n B dX9_tick_23 rfl 1 rfl ?_
  refine z_cVv (As := []) (rest := []) B cw_X9_294 cx_10 dX9_tick_24 (ci_X9_ticks_945 l (σ := (ap b σ [(405, 1, 4), (405, 1, 3), (405, 1, 2), (405, 1, 1), (405, 0, 0)] [] [])) (b := b) (lyA hK) (rI_at 405 1 rfl) (rI_at 405 6 hI_405_6) (rI_at 405 16 hI_405_16)) (lKA (hk_K hK 405 rfl rfl)) rfl (by decide) rfl (Nat.le_of_ble_eq_true rfl) (by decide) (fun u hu => ?_)
  refine z_eqs (σ' := (ap b σ [(405, 1, 5), (405, 1, 4), (405, 1, 3), (405, 1, 2), (405, 1, 1), (405, 0, 0)] [] [])) (hu.trans ap_ap) ?_
  show zx p l e _ s m _ below meth c g 3 0 0 _ _ 27 [(2, .int 4), (0, .ref (b + 405)), (1, .int 9)] _
  refine z_iinc (v := 5) (lv' := [(2, .int 5), (0, .ref (b + 405)), (1, .int 9)]) B dX9_tick_27 0 rfl (by decide) (by decide) rfl ?_
  refine z_goto (tgt := 18) B dX9_tick_30 (by decide) ?_
  refine z_iload_n B dX9_tick_18 rfl 0 rfl ?_
  refine z_iload_n B dX9_tick_19 rfl 2 rfl ?_
  refine z_icmp_ge (tgt := 33) B dX9_tick_20 (by decide) (fun h => absurd h (by decide)) (fun _ => ?_)
  refine z_aload_n B dX9_tick_23 rfl 1 rfl ?_
  refine z_cVv (As := []) (rest := []) B cw_X9_294 cx_10 dX9_tick_24 (ci_X9_ticks_950 l (σ := (ap b σ [(405, 1, 5), (405, 1, 4), (405, 1, 3), (405, 1, 2), (405, 1, 1), (405, 0, 0)] [] [])) (b := b) (lyA hK) (rI_at 405 1 rfl) (rI_at 405 6 hI_405_6) (rI_at 405 16 hI_405_16)) (lKA (hk_K hK 405 rfl rfl)) rfl (by decide) rfl (Nat.le_of_ble_eq_true rfl) (by decide) (fun u hu => ?_)
  refine z_eqs (σ' := (ap b σ [(405, 1, 6), (405, 1, 5), (405, 1, 4), (405, 1, 3), (405, 1, 2), (405, 1, 1), (405, 0, 0)] [] [])) (hu.trans ap_ap) ?_
  show zx p l e _ s m _ below meth c g 3 0 0 _ _ 27 [(2, .int 5), (0, .ref (b + 405)), (1, .int 9)] _
  refine z_iinc (v := 6) (lv' := [(2, .int 6), (0, .ref (b + 405)), (1, .int 9)]) B dX9_tick_27 0 rfl (by decide) (by decide) rfl ?_
  refine z_goto (tgt := 18) B dX9_tick_30 (by decide) ?_
  refine z_iload_n B dX9_tick_18 rfl 0 rfl ?_
  refine z_iload_n B dX9_tick_19 rfl 2 rfl ?_
  refine z_icmp_ge (tgt := 33) B dX9_tick_20 (by decide) (fun h => absurd h (by decide)) (fun _ => ?_)
  refine z_aload_n B dX9_tick_23 rfl 1 rfl ?_
  refine z_cVv (As := []) (rest := []) B cw_X9_294 cx_10 dX9_tick_24 (ci_X9_ticks_955 l (σ := (ap b σ [(405, 1, 6), (405, 1, 5), (405, 1, 4), (405, 1, 3), (405, 1, 2), (405, 1, 1), (405, 0, 0)] [] [])) (b := b) (lyA hK) (rI_at 405 1 rfl) (rI_at 405 6 hI_405_6) (rI_at 405 16 hI_405_16)) (lKA (hk_K hK 405 rfl rfl)) rfl (by decide) rfl (Nat.le_of_ble_eq_true rfl) (by decide) (fun u hu => ?_)
  refine z_eqs (σ' := (ap b σ [(405, 1, 7), (405, 1, 6), (405, 1, 5), (405, 1, 4), (405, 1, 3), (405, 1, 2), (405, 1, 1), (405, 0, 0)] [] [])) (hu.trans ap_ap) ?_
  show zx p l e _ s m _ below meth c g 3 0 0 _ _ 27 [(2, .int 6), (0, .ref (b + 405)), (1, .int 9)] _
  refine z_iinc (v := 7) (lv' := [(2, .int 7), (0, .ref (b + 405)), (1, .int 9)]) B dX9_tick_27 0 rfl (by decide) (by decide) rfl ?_
  refine z_goto (tgt := 18) B dX9_tick_30 (by decide) ?_
  refine z_iload_n B dX9_tick_18 rfl 0 rfl ?_
  refine z_iload_n B dX9_tick_19 rfl 2 rfl ?_
  refine z_icmp_ge (tgt := 33) B dX9_tick_20 (by decide) (fun h => absurd h (by decide)) (fun _ => ?_)
  refine z_aload_n B dX9_tick_23 rfl 1 rfl ?_
  refine z_cVv (As := []) (rest := []) B cw_X9_294 cx_10 dX9_tick_24 (ci_X9_ticks_960 l (σ := (ap b σ [(405, 1, 7), (405, 1, 6), (405, 1, 5), (405, 1, 4), (405, 1, 3), (405, 1, 2), (405, 1, 1), (405, 0, 0)] [] [])) (b := b) (lyA hK) (rI_at 405 1 rfl) (rI_at 405 6 hI_405_6) (rI_at 405 16 hI_405_16)) (lKA (hk_K hK 405 rfl rfl)) rfl (by decide) rfl (Nat.le_of_ble_eq_true rfl) (by decide) (fun u hu => ?_)
  refine z_eqs (σ' := (ap b σ [(405, 1, 8), (405, 1, 7), (405, 1, 6), (405, 1, 5), (405, 1, 4), (405, 1, 3), (405, 1, 2), (405, 1, 1), (405, 0, 0)] [] [])) (hu.trans ap_ap) ?_
  show zx p l e _ s m _ below meth c g 3 0 0 _ _ 27 [(2, .int 7), (0, .ref (b + 405)), (1, .int 9)] _
  refine z_iinc (v := 8) (lv' := [(2, .int 8), (0, .ref (b + 405)), (1, .int 9)]) B dX9_tick_27 0 rfl (by decide) (by decide) rfl ?_
  refine z_goto (tgt := 18) B dX9_tick_30 (by decide) ?_
  refine z_iload_n B dX9_tick_18 rfl 0 rfl ?_
  refine z_iload_n B dX9_tick_19 rfl 2 rfl ?_
  refine z_icmp_ge (tgt := 33) B dX9_tick_20 (by decide) (fun h => absurd h (by decide)) (fun _ => ?_)
  refine z_aload_n B dX9_tick_23 rfl 1 rfl ?_
  refine z_cVv (As := []) (rest := []) B cw_X9_294 cx_10 dX9_tick_24 (ci_X9_ticks_965 l (σ := (ap b σ [(405, 1, 8), (405, 1, 7), (405, 1, 6), (405, 1, 5), (405, 1, 4), (405, 1, 3), (405, 1, 2), (405, 1, 1), (405, 0, 0)] [] [])) (b := b) (lyA hK) (rI_at 405 1 rfl) (rI_at 405 6 hI_405_6) (rI_at 405 16 hI_405_16)) (lKA (hk_K hK 405 rfl rfl)) rfl (by decide) rfl (Nat.le_of_ble_eq_true rfl) (by decide) (fun u hu => ?_)
  refine z_eqs (σ' := (ap b σ [(405, 1, 9), (405, 1, 8), (405, 1, 7), (405, 1, 6), (405, 1, 5), (405, 1, 4), (405, 1, 3), (405, 1, 2), (405, 1, 1), (405, 0, 0)] [] [])) (hu.trans ap_ap) ?_
  show zx p l e _ s m _ below meth c g 3 0 0 _ _ 27 [(2, .int 8), (0, .ref (b + 405)), (1, .int 9)] _
  refine z_iinc (v := 9) (lv' := [(2, .int 9), (0, .ref (b + 405)), (1, .int 9)]) B dX9_tick_27 0 rfl (by decide) (by decide) rfl ?_
  refine z_goto (tgt := 18) B dX9_tick_30 (by decide) ?_
  refine z_iload_n B dX9_tick_18 rfl 0 rfl ?_
  refine z_iload_n B dX9_tick_19 rfl 2 rfl ?_
  refine z_icmp_ge (tgt := 33) B dX9_tick_20 (by decide) (fun _ => ?_) (fun h => absurd (by decide) h)
  refine z_aload_n B dX9_tick_33 rfl 1 rfl ?_
  refine gf_X9_197 (x := 9) B (lKA (hk_K hK 405 rfl rfl)) (rI_at 405 1 rfl) dX9_tick_34 ?_
  exact z_iret B hr (by decide) (by decide) dX9_tick_37 ⟨rfl, rfl⟩
set_option maxRecDepth 100000 in
set_option maxHeartbeats 4000000 in
theorem ci_X8_tick_967 (l : Launch) {g : gx_T} {σ : sx_T} {b : Nat} (hK : lay b σ)   (hI_0_7 : sx_I σ (b + 0) 7 = 0) (hI_0_8 : sx_I σ (b + 0) 8 = 0) (hI_4_2 : sx_I σ (b + 4) 2 = 0) (hR_0_3 : sx_R σ (b + 0) 3 = (some (b + 4))) : Met l yX8_tick (.code yX8_tick cX8_tick 3 (some .int) :: lw_g) { frames := 2, cells := 0, slots := 0, locals := 42 } (va_Pc [.ref (b + 0), .int 10] (zx_w g σ)) (va_Qi (fun r u => r = 10 ∧ u = (ap b σ [(0, 8, 10), (0, 8, 9), (0, 8, 8), (0, 8, 7), (0, 8, 6), (0, 8, 5), (0, 8, 4), (0, 8, 3), (0, 8, 2), (0, 8, 1)] [] [])) (zx_w g) (gx_Q g)) 0 0 (gx_Q g) := by
  refine z_met (by decide) (Nat.le_of_ble_eq_true rfl) (fun p e s m below meth c B hr hin => ?_)
  refine z_eqs (σ' := (ap b σ [] [] [])) rfl ?_
  show zx p l e _ s m _ below meth c g 3 0 0 _ _ 0 [(0, .ref (b + 0)), (1, .int 10)] []
  refine z_iload_n B dX8_tick_0 rfl 1 rfl ?_
  refine z_iconst (v := 1) B dX8_tick_1 (by decide) ?_
  refine z_icmp_lt (tgt := 11) B dX8_tick_2 (by decide) (fun h => absurd h (by decide)) (fun _ => ?_)
  refine z_iload_n B dX8_tick_5 rfl 1 rfl ?_
  refine z_bipush (v := 50) B dX8_tick_6 (by decide) ?_
  refine z_icmp_le (tgt := 21) B dX8_tick_8 (by decide) (fun _ => ?_) (fun h => absurd (by decide) h)
  refine z_iconst (v := 0) B dX8_tick_21 (by decide) ?_
  refine z_istore_n (lv' := [(2, .int 0), (0, .ref (b + 0)), (1, .int 10)]) B dX8_tick_22 rfl (by decide) rfl ?_
  refine z_iload_n B dX8_tick_23 rfl 0 rfl ?_
  refine z_iload_n B dX8_tick_24 rfl 2 rfl ?_
  refine z_icmp_ge (tgt := 52) B dX8_tick_25 (by decide) (fun h => absurd h (by decide)) (fun _ => ?_)
  refine z_aload_n B dX8_tick_28 rfl 1 rfl ?_
  refine z_dup B dX8_tick_29 rfl ?_
  refine gf_X8_206 (x := 0) B (lKA (hk_K hK 0 rfl rfl)) (rI_at 0 8 hI_0_8) dX8_tick_30 ?_
  refine z_iconst (v := 1) B dX8_tick_33 (by decide) ?_
  refine z_iadd B dX8_tick_34 ?_
  refine z_seti (y := 1) (by decide) ?_
  refine pf_X8_206 (x := 1) (σ' := (ap b σ [(0, 8, 1)] [] [])) B (lKA (hk_K hK 0 rfl rfl)) wI_ap dX8_tick_35 ?_
  refine z_aload_n B dX8_tick_38 rfl 1 rfl ?_
  refine z_cVv (As := []) (rest := []) B cw_X8_240 cx_9 dX8_tick_39 (ci_X8_passTasks_920 l (σ := (ap b σ [(0, 8, 1)] [] [])) (b := b) (lyA hK) (rI_at 4 2 hI_4_2) (rR_at 0 3 hR_0_3)) (lKA (hk_K hK 0 rfl rfl)) rfl (by decide) rfl (Nat.le_of_ble_eq_true rfl) (by decide) (fun u hu => ?_)
  refine z_eqs (σ' := (ap b σ [(0, 8, 1)] [] [])) hu ?_
  show zx p l e _ s m _ below meth c g 3 0 0 _ _ 42 [(2, .int 0), (0, .ref (b + 0)), (1, .int 10)] _
  refine z_aload_n B dX8_tick_42 rfl 1 rfl ?_
  refine z_cVv (As := []) (rest := []) B cw_X8_243 cx_9 dX8_tick_43 (ci_X8_passTimers_921 l (σ := (ap b σ [(0, 8, 1)] [] [])) (b := b) (lyA hK) (rI_at 0 7 hI_0_7)) (lKA (hk_K hK 0 rfl rfl)) rfl (by decide) rfl (Nat.le_of_ble_eq_true rfl) (by decide) (fun u hu => ?_)
  refine z_eqs (σ' := (ap b σ [(0, 8, 1)] [] [])) hu ?_
  show zx p l e _ s m _ below meth c g 3 0 0 _ _ 46 [(2, .int 0), (0, .ref (b + 0)), (1, .int 10)] _
  refine z_iinc (v := 1) (lv' := [(2, .int 1), (0, .ref (b + 0)), (1, .int 10)]) B dX8_tick_46 0 rfl (by decide) (by decide) rfl ?_
  refine z_goto (tgt := 23) B dX8_tick_49 (by decide) ?_
  refine z_iload_n B dX8_tick_23 rfl 0 rfl ?_
  refine z_iload_n B dX8_tick_24 rfl 2 rfl ?_
  refine z_icmp_ge (tgt := 52) B dX8_tick_25 (by decide) (fun h => absurd h (by decide)) (fun _ => ?_)
  refine z_aload_n B dX8_tick_28 rfl 1 rfl ?_
  refine z_dup B dX8_tick_29 rfl ?_
  refine gf_X8_206 (x := 1) B (lKA (hk_K hK 0 rfl rfl)) (rI_at 0 8 rfl) dX8_tick_30 ?_
  refine z_iconst (v := 1) B dX8_tick_33 (by decide) ?_
  refine z_iadd B dX8_tick_34 ?_
  refine z_seti (y := 2) (by decide) ?_
  refine pf_X8_206 (x := 2) (σ' := (ap b σ [(0, 8, 2), (0, 8, 1)] [] [])) B (lKA (hk_K hK 0 rfl rfl)) wI_ap dX8_tick_35 ?_
  refine z_aload_n B dX8_tick_38 rfl 1 rfl ?_
  refine z_cVv (As := []) (rest := []) B cw_X8_240 cx_9 dX8_tick_39 (ci_X8_passTasks_920 l (σ := (ap b σ [(0, 8, 2), (0, 8, 1)] [] [])) (b := b) (lyA hK) (rI_at 4 2 hI_4_2) (rR_at 0 3 hR_0_3)) (lKA (hk_K hK 0 rfl rfl)) rfl (by decide) rfl (Nat.le_of_ble_eq_true rfl) (by decide) (fun u hu => ?_)
  refine z_eqs (σ' := (ap b σ [(0, 8, 2), (0, 8, 1)] [] [])) hu ?_
  show zx p l e _ s m _ below meth c g 3 0 0 _ _ 42 [(2, .int 1), (0, .ref (b + 0)), (1, .int 10)] _
  refine z_aload_n B dX8_tick_42 rfl 1 rfl ?_
  refine z_cVv (As := []) (rest := []) B cw_X8_243 cx_9 dX8_tick_43 (ci_X8_passTimers_921 l (σ := (ap b σ [(0, 8, 2), (0, 8, 1)] [] [])) (b := b) (lyA hK) (rI_at 0 7 hI_0_7)) (lKA (hk_K hK 0 rfl rfl)) rfl (by decide) rfl (Nat.le_of_ble_eq_true rfl) (by decide) (fun u hu => ?_)
  refine z_eqs (σ' := (ap b σ [(0, 8, 2), (0, 8, 1)] [] [])) hu ?_
  show zx p l e _ s m _ below meth c g 3 0 0 _ _ 46 [(2, .int 1), (0, .ref (b + 0)), (1, .int 10)] _
  refine z_iinc (v := 2) (lv' := [(2, .int 2), (0, .ref (b + 0)), (1, .int 10)]) B dX8_tick_46 0 rfl (by decide) (by decide) rfl ?_
  refine z_goto (tgt := 23) B dX8_tick_49 (by decide) ?_
  refine z_iload_n B dX8_tick_23 rfl 0 rfl ?_
  refine z_iload_n B dX8_tick_24 rfl 2 rfl ?_
  refine z_icmp_ge (tgt := 52) B dX8_tick_25 (by decide) (fun h => absurd h (by decide)) (fun _ => ?_)
  refine z_aload_n B dX8_tick_28 rfl 1 rfl ?_
  refine z_dup B dX8_tick_29 rfl ?_
  refine gf_X8_206 (x := 2) B (lKA (hk_K hK 0 rfl rfl)) (rI_at 0 8 rfl) dX8_tick_30 ?_
  refine z_iconst (v := 1) B dX8_tick_33 (by decide) ?_
  refine z_iadd B dX8_tick_34 ?_
  refine z_seti (y := 3) (by decide) ?_
  refine pf_X8_206 (x := 3) (σ' := (ap b σ [(0, 8, 3), (0, 8, 2), (0, 8, 1)] [] [])) B (lKA (hk_K hK 0 rfl rfl)) wI_ap dX8_tick_35 ?_
  refine z_aload_n B dX8_tick_38 rfl 1 rfl ?_
  refine z_cVv (As := []) (rest := []) B cw_X8_240 cx_9 dX8_tick_39 (ci_X8_passTasks_920 l (σ := (ap b σ [(0, 8, 3), (0, 8, 2), (0, 8, 1)] [] [])) (b := b) (lyA hK) (rI_at 4 2 hI_4_2) (rR_at 0 3 hR_0_3)) (lKA (hk_K hK 0 rfl rfl)) rfl (by decide) rfl (Nat.le_of_ble_eq_true rfl) (by decide) (fun u hu => ?_)
  refine z_eqs (σ' := (ap b σ [(0, 8, 3), (0, 8, 2), (0, 8, 1)] [] [])) hu ?_
  show zx p l e _ s m _ below meth c g 3 0 0 _ _ 42 [(2, .int 2), (0, .ref (b + 0)), (1, .int 10)] _
  refine z_aload_n B dX8_tick_42 rfl 1 rfl ?_
  refine z_cVv (As := []) (rest := []) B cw_X8_243 cx_9 dX8_tick_43 (ci_X8_passTimers_921 l (σ := (ap b σ [(0, 8, 3), (0, 8, 2), (0, 8, 1)] [] [])) (b := b) (lyA hK) (rI_at 0 7 hI_0_7)) (lKA (hk_K hK 0 rfl rfl)) rfl (by decide) rfl (Nat.le_of_ble_eq_true rfl) (by decide) (fun u hu => ?_)
  refine z_eqs (σ' := (ap b σ [(0, 8, 3), (0, 8, 2), (0, 8, 1)] [] [])) hu ?_
  show zx p l e _ s m _ below meth c g 3 0 0 _ _ 46 [(2, .int 2), (0, .ref (b + 0)), (1, .int 10)] _
  refine z_iinc (v := 3) (lv' := [(2, .int 3), (0, .ref (b + 0)), (1, .int 10)]) B dX8_tick_46 0 rfl (by decide) (by decide) rfl ?_
  refine z_goto (tgt := 23) B dX8_tick_49 (by decide) ?_
  refine z_iload_n B dX8_tick_23 rfl 0 rfl ?_
  refine z_iload_n B dX8_tick_24 rfl 2 rfl ?_
  refine z_icmp_ge (tgt := 52) B dX8_tick_25 (by decide) (fun h => absurd h (by decide)) (fun _ => ?_)
  refine z_aload_n B dX8_tick_28 rfl 1 rfl ?_
  refine z_dup B dX8_tick_29 rfl ?_
  refine gf_X8_206 (x := 3) B (lKA (hk_K hK 0 rfl rfl)) (rI_at 0 8 rfl) dX8_tick_30 ?_
  refine z_iconst (v := 1) B dX8_tick_33 (by decide) ?_
  refine z_iadd B dX8_tick_34 ?_
  refine z_seti (y := 4) (by decide) ?_
  refine pf_X8_206 (x := 4) (σ' := (ap b σ [(0, 8, 4), (0, 8, 3), (0, 8, 2), (0, 8, 1)] [] [])) B (lKA (hk_K hK 0 rfl rfl)) wI_ap dX8_tick_35 ?_
  refine z_aload_n B dX8_tick_38 rfl 1 rfl ?_
  refine z_cVv (As := []) (rest := []) B cw_X8_240 cx_9 dX8_tick_39 (ci_X8_passTasks_920 l (σ := (ap b σ [(0, 8, 4), (0, 8, 3), (0, 8, 2), (0, 8, 1)] [] [])) (b := b) (lyA hK) (rI_at 4 2 hI_4_2) (rR_at 0 3 hR_0_3)) (lKA (hk_K hK 0 rfl rfl)) rfl (by decide) rfl (Nat.le_of_ble_eq_true rfl) (by decide) (fun u hu => ?_)
  refine z_eqs (σ' := (ap b σ [(0, 8, 4), (0, 8, 3), (0, 8, 2), (0, 8, 1)] [] [])) hu ?_
  show zx p l e _ s m _ below meth c g 3 0 0 _ _ 42 [(2, .int 3), (0, .ref (b + 0)), (1, .int 10)] _
  refine z_aload_n B dX8_tick_42 rfl 1 rfl ?_
  refine z_cVv (As := []) (rest := []) B cw_X8_243 cx_9 dX8_tick_43 (ci_X8_passTimers_921 l (σ := (ap b σ [(0, 8, 4), (0, 8, 3), (0, 8, 2), (0, 8, 1)] [] [])) (b := b) (lyA hK) (rI_at 0 7 hI_0_7)) (lKA (hk_K hK 0 rfl rfl)) rfl (by decide) rfl (Nat.le_of_ble_eq_true rfl) (by decide) (fun u hu => ?_)
  refine z_eqs (σ' := (ap b σ [(0, 8, 4), (0, 8, 3), (0, 8, 2), (0, 8, 1)] [] [])) hu ?_
  show zx p l e _ s m _ below meth c g 3 0 0 _ _ 46 [(2, .int 3), (0, .ref (b + 0)), (1, .int 10)] _
  refine z_iinc (v := 4) (lv' := [(2, .int 4), (0, .ref (b + 0)), (1, .int 10)]) B dX8_tick_46 0 rfl (by decide) (by decide) rfl ?_
  refine z_goto (tgt := 23) B dX8_tick_49 (by decide) ?_
  refine z_iload_n B dX8_tick_23 rfl 0 rfl ?_
  refine z_iload_n B dX8_tick_24 rfl 2 rfl ?_
  refine z_icmp_ge (tgt := 52) B dX8_tick_25 (by decide) (fun h => absurd h (by decide)) (fun _ => ?_)
  refine z_aload_n B dX8_tick_28 rfl 1 rfl ?_
  refine z_dup B dX8_tick_29 rfl ?_
  refine gf_X8_206 (x := 4) B (lKA (hk_K hK 0 rfl rfl)) (rI_at 0 8 rfl) dX8_tick_30 ?_
  refine z_iconst (v := 1) B dX8_tick_33 (by decide) ?_
  refine z_iadd B dX8_tick_34 ?_
  refine z_seti (y := 5) (by decide) ?_
  refine pf_X8_206 (x := 5) (σ' := (ap b σ [(0, 8, 5), (0, 8, 4), (0, 8, 3), (0, 8, 2), (0, 8, 1)] [] [])) B (lKA (hk_K hK 0 rfl rfl)) wI_ap dX8_tick_35 ?_
  refine z_aload_n B dX8_tick_38 rfl 1 rfl ?_
  refine z_cVv (As := []) (rest := []) B cw_X8_240 cx_9 dX8_tick_39 (ci_X8_passTasks_920 l (σ := (ap b σ [(0, 8, 5), (0, 8, 4), (0, 8, 3), (0, 8, 2), (0, 8, 1)] [] [])) (b := b) (lyA hK) (rI_at 4 2 hI_4_2) (rR_at 0 3 hR_0_3)) (lKA (hk_K hK 0 rfl rfl)) rfl (by decide) rfl (Nat.le_of_ble_eq_true rfl) (by decide) (fun u hu => ?_)
  refine z_eqs (σ' := (ap b σ [(0, 8, 5), (0, 8, 4), (0, 8, 3), (0, 8, 2), (0, 8, 1)] [] [])) hu ?_
  show zx p l e _ s m _ below meth c g 3 0 0 _ _ 42 [(2, .int 4), (0, .ref (b + 0)), (1, .int 10)] _
  refine z_aload_n B dX8_tick_42 rfl 1 rfl ?_
  refine z_cVv (As := []) (rest := []) B cw_X8_243 cx_9 dX8_tick_43 (ci_X8_passTimers_921 l (σ := (ap b σ [(0, 8, 5), (0, 8, 4), (0, 8, 3), (0, 8, 2), (0, 8, 1)] [] [])) (b := b) (lyA hK) (rI_at 0 7 hI_0_7)) (lKA (hk_K hK 0 rfl rfl)) rfl (by decide) rfl (Nat.le_of_ble_eq_true rfl) (by decide) (fun u hu => ?_)
  refine z_eqs (σ' := (ap b σ [(0, 8, 5), (0, 8, 4), (0, 8, 3), (0, 8, 2), (0, 8, 1)] [] [])) hu ?_
  show zx p l e _ s m _ below meth c g 3 0 0 _ _ 46 [(2, .int 4), (0, .ref (b + 0)), (1, .int 10)] _
  refine z_iinc (v := 5) (lv' := [(2, .int 5), (0, .ref (b + 0)), (1, .int 10)]) B dX8_tick_46 0 rfl (by decide) (by decide) rfl ?_
  refine z_goto (tgt := 23) B dX8_tick_49 (by decide) ?_
  refine z_iload_n B dX8_tick_23 rfl 0 rfl ?_
  refine z_iload_n B dX8_tick_24 rfl 2 rfl ?_
  refine z_icmp_ge (tgt := 52) B dX8_tick_25 (by decide) (fun h => absurd h (by decide)) (fun _ => ?_)
  refine z_aload_n B dX8_tick_28 rfl 1 rfl ?_
  refine z_dup B dX8_tick_29 rfl ?_
  refine gf_X8_206 (x := 5) B (lKA (hk_K hK 0 rfl rfl)) (rI_at 0 8 rfl) dX8_tick_30 ?_
  refine z_iconst (v := 1) B dX8_tick_33 (by decide) ?_
  refine z_iadd B dX8_tick_34 ?_
  refine z_seti (y := 6) (by decide) ?_
  refine pf_X8_206 (x := 6) (σ' := (ap b σ [(0, 8, 6), (0, 8, 5), (0, 8, 4), (0, 8, 3), (0, 8, 2), (0, 8, 1)] [] [])) B (lKA (hk_K hK 0 rfl rfl)) wI_ap dX8_tick_35 ?_
  refine z_aload_n B dX8_tick_38 rfl 1 rfl ?_
  refine z_cVv (As := []) (rest := []) B cw_X8_240 cx_9 dX8_tick_39 (ci_X8_passTasks_920 l (σ := (ap b σ [(0, 8, 6), (0, 8, 5), (0, 8, 4), (0, 8, 3), (0, 8, 2), (0, 8, 1)] [] [])) (b := b) (lyA hK) (rI_at 4 2 hI_4_2) (rR_at 0 3 hR_0_3)) (lKA (hk_K hK 0 rfl rfl)) rfl (by decide) rfl (Nat.le_of_ble_eq_true rfl) (by decide) (fun u hu => ?_)
  refine z_eqs (σ' := (ap b σ [(0, 8, 6), (0, 8, 5), (0, 8, 4), (0, 8, 3), (0, 8, 2), (0, 8, 1)] [] [])) hu ?_
  show zx p l e _ s m _ below meth c g 3 0 0 _ _ 42 [(2, .int 5), (0, .ref (b + 0)), (1, .int 10)] _
  refine z_aload_n B dX8_tick_42 rfl 1 rfl ?_
  refine z_cVv (As := []) (rest := []) B cw_X8_243 cx_9 dX8_tick_43 (ci_X8_passTimers_921 l (σ := (ap b σ [(0, 8, 6), (0, 8, 5), (0, 8, 4), (0, 8, 3), (0, 8, 2), (0, 8, 1)] [] [])) (b := b) (lyA hK) (rI_at 0 7 hI_0_7)) (lKA (hk_K hK 0 rfl rfl)) rfl (by decide) rfl (Nat.le_of_ble_eq_true rfl) (by decide) (fun u hu => ?_)
  refine z_eqs (σ' := (ap b σ [(0, 8, 6), (0, 8, 5), (0, 8, 4), (0, 8, 3), (0, 8, 2), (0, 8, 1)] [] [])) hu ?_
  show zx p l e _ s m _ below meth c g 3 0 0 _ _ 46 [(2, .int 5), (0, .ref (b + 0)), (1, .int 10)] _
  refine z_iinc (v := 6) (lv' := [(2, .int 6), (0, .ref (b + 0)), (1, .int 10)]) B dX8_tick_46 0 rfl (by decide) (by decide) rfl ?_
  refine z_goto (tgt := 23) B dX8_tick_49 (by decide) ?_
  refine z_iload_n B dX8_tick_23 rfl 0 rfl ?_
  refine z_iload_n B dX8_tick_24 rfl 2 rfl ?_
  refine z_icmp_ge (tgt := 52) B dX8_tick_25 (by decide) (fun h => absurd h (by decide)) (fun _ => ?_)
  refine z_aload_n B dX8_tick_28 rfl 1 rfl ?_
  refine z_dup B dX8_tick_29 rfl ?_
  refine gf_X8_206 (x := 6) B (lKA (hk_K hK 0 rfl rfl)) (rI_at 0 8 rfl) dX8_tick_30 ?_
  refine z_iconst (v := 1) B dX8_tick_33 (by decide) ?_
  refine z_iadd B dX8_tick_34 ?_
  refine z_seti (y := 7) (by decide) ?_
  refine pf_X8_206 (x := 7) (σ' := (ap b σ [(0, 8, 7), (0, 8, 6), (0, 8, 5), (0, 8, 4), (0, 8, 3), (0, 8, 2), (0, 8, 1)] [] [])) B (lKA (hk_K hK 0 rfl rfl)) wI_ap dX8_tick_35 ?_
  refine z_aload_n B dX8_tick_38 rfl 1 rfl ?_
  refine z_cVv (As := []) (rest := []) B cw_X8_240 cx_9 dX8_tick_39 (ci_X8_passTasks_920 l (σ := (ap b σ [(0, 8, 7), (0, 8, 6), (0, 8, 5), (0, 8, 4), (0, 8, 3), (0, 8, 2), (0, 8, 1)] [] [])) (b := b) (lyA hK) (rI_at 4 2 hI_4_2) (rR_at 0 3 hR_0_3)) (lKA (hk_K hK 0 rfl rfl)) rfl (by decide) rfl (Nat.le_of_ble_eq_true rfl) (by decide) (fun u hu => ?_)
  refine z_eqs (σ' := (ap b σ [(0, 8, 7), (0, 8, 6), (0, 8, 5), (0, 8, 4), (0, 8, 3), (0, 8, 2), (0, 8, 1)] [] [])) hu ?_
  show zx p l e _ s m _ below meth c g 3 0 0 _ _ 42 [(2, .int 6), (0, .ref (b + 0)), (1, .int 10)] _
  refine z_aload_n B dX8_tick_42 rfl 1 rfl ?_
  refine z_cVv (As := []) (rest := []) B cw_X8_243 cx_9 dX8_tick_43 (ci_X8_passTimers_921 l (σ := (ap b σ [(0, 8, 7), (0, 8, 6), (0, 8, 5), (0, 8, 4), (0, 8, 3), (0, 8, 2), (0, 8, 1)] [] [])) (b := b) (lyA hK) (rI_at 0 7 hI_0_7)) (lKA (hk_K hK 0 rfl rfl)) rfl (by decide) rfl (Nat.le_of_ble_eq_true rfl) (by decide) (fun u hu => ?_)
  refine z_eqs (σ' := (ap b σ [(0, 8, 7), (0, 8, 6), (0, 8, 5), (0, 8, 4), (0, 8, 3), (0, 8, 2), (0, 8, 1)] [] [])) hu ?_
  show zx p l e _ s m _ below meth c g 3 0 0 _ _ 46 [(2, .int 6), (0, .ref (b + 0)), (1, .int 10)] _
  refine z_iinc (v := 7) (lv' := [(2, .int 7), (0, .ref (b + 0)), (1, .int 10)]) B dX8_tick_46 0 rfl (by decide) (by decide) rfl ?_
  refine z_goto (tgt := 23) B dX8_tick_49 (by decide) ?_
  refine z_iload_n B dX8_tick_23 rfl 0 rfl ?_
  refine z_iload_n B dX8_tick_24 rfl 2 rfl ?_
  refine z_icmp_ge (tgt := 52) B dX8_tick_25 (by decide) (fun h => absurd h (by decide)) (fun _ => ?_)
  refine z_aload_n B dX8_tick_28 rfl 1 rfl ?_
  refine z_dup B dX8_tick_29 rfl ?_
  refine gf_X8_206 (x := 7) B (lKA (hk_K hK 0 rfl rfl)) (rI_at 0 8 rfl) dX8_tick_30 ?_
  refine z_iconst (v := 1) B dX8_tick_33 (by decide) ?_
  refine z_iadd B dX8_tick_34 ?_
  refine z_seti (y := 8) (by decide) ?_
  refine pf_X8_206 (x := 8) (σ' := (ap b σ [(0, 8, 8), (0, 8, 7), (0, 8, 6), (0, 8, 5), (0, 8, 4), (0, 8, 3), (0, 8, 2), (0, 8, 1)] [] [])) B (lKA (hk_K hK 0 rfl rfl)) wI_ap dX8_tick_35 ?_
  refine z_aload_n B dX8_tick_38 rfl 1 rfl ?_
  refine z_cVv (As := []) (rest := []) B cw_X8_240 cx_9 dX8_tick_39 (ci_X8_passTasks_920 l (σ := (ap b σ [(0, 8, 8), (0, 8, 7), (0, 8, 6), (0, 8, 5), (0, 8, 4), (0, 8, 3), (0, 8, 2), (0, 8, 1)] [] [])) (b := b) (lyA hK) (rI_at 4 2 hI_4_2) (rR_at 0 3 hR_0_3)) (lKA (hk_K hK 0 rfl rfl)) rfl (by decide) rfl (Nat.le_of_ble_eq_true rfl) (by decide) (fun u hu => ?_)
  refine z_eqs (σ' := (ap b σ [(0, 8, 8), (0, 8, 7), (0, 8, 6), (0, 8, 5), (0, 8, 4), (0, 8, 3), (0, 8, 2), (0, 8, 1)] [] [])) hu ?_
  show zx p l e _ s m _ below meth c g 3 0 0 _ _ 42 [(2, .int 7), (0, .ref (b + 0)), (1, .int 10)] _
  refine z_aload_n B dX8_tick_42 rfl 1 rfl ?_
  refine z_cVv (As := []) (rest := []) B cw_X8_243 cx_9 dX8_tick_43 (ci_X8_passTimers_921 l (σ := (ap b σ [(0, 8, 8), (0, 8, 7), (0, 8, 6), (0, 8, 5), (0, 8, 4), (0, 8, 3), (0, 8, 2), (0, 8, 1)] [] [])) (b := b) (lyA hK) (rI_at 0 7 hI_0_7)) (lKA (hk_K hK 0 rfl rfl)) rfl (by decide) rfl (Nat.le_of_ble_eq_true rfl) (by decide) (fun u hu => ?_)
  refine z_eqs (σ' := (ap b σ [(0, 8, 8), (0, 8, 7), (0, 8, 6), (0, 8, 5), (0, 8, 4), (0, 8, 3), (0, 8, 2), (0, 8, 1)] [] [])) hu ?_
  show zx p l e _ s m _ below meth c g 3 0 0 _ _ 46 [(2, .int 7), (0, .ref (b + 0)), (1, .int 10)] _
  refine z_iinc (v := 8) (lv' := [(2, .int 8), (0, .ref (b + 0)), (1, .int 10)]) B dX8_tick_46 0 rfl (by decide) (by decide) rfl ?_
  refine z_goto (tgt := 23) B dX8_tick_49 (by decide) ?_
  refine z_iload_n B dX8_tick_23 rfl 0 rfl ?_
  refine z_iload_n B dX8_tick_24 rfl 2 rfl ?_
  refine z_icmp_ge (tgt := 52) B dX8_tick_25 (by decide) (fun h => absurd h (by decide)) (fun _ => ?_)
  refine z_aload_n B dX8_tick_28 rfl 1 rfl ?_
  refine z_dup B dX8_tick_29 rfl ?_
  refine gf_X8_206 (x := 8) B (lKA (hk_K hK 0 rfl rfl)) (rI_at 0 8 rfl) dX8_tick_30 ?_
  refine z_iconst (v := 1) B dX8_tick_33 (by decide) ?_
  refine z_iadd B dX8_tick_34 ?_
  refine z_seti (y := 9) (by decide) ?_
  refine pf_X8_206 (x := 9) (σ' := (ap b σ [(0, 8, 9), (0, 8, 8), (0, 8, 7), (0, 8, 6), (0, 8, 5), (0, 8, 4), (0, 8, 3), (0, 8, 2), (0, 8, 1)] [] [])) B (lKA (hk_K hK 0 rfl rfl)) wI_ap dX8_tick_35 ?_
  refine z_aload_n B dX8_tick_38 rfl 1 rfl ?_
  refine z_cVv (As := []) (rest := []) B cw_X8_240 cx_9 dX8_tick_39 (ci_X8_passTasks_920 l (σ := (ap b σ [(0, 8, 9), (0, 8, 8), (0, 8, 7), (0, 8, 6), (0, 8, 5), (0, 8, 4), (0, 8, 3), (0, 8, 2), (0, 8, 1)] [] [])) (b := b) (lyA hK) (rI_at 4 2 hI_4_2) (rR_at 0 3 hR_0_3)) (lKA (hk_K hK 0 rfl rfl)) rfl (by decide) rfl (Nat.le_of_ble_eq_true rfl) (by decide) (fun u hu => ?_)
  refine z_eqs (σ' := (ap b σ [(0, 8, 9), (0, 8, 8), (0, 8, 7), (0, 8, 6), (0, 8, 5), (0, 8, 4), (0, 8, 3), (0, 8, 2), (0, 8, 1)] [] [])) hu ?_
  show zx p l e _ s m _ below meth c g 3 0 0 _ _ 42 [(2, .int 8), (0, .ref (b + 0)), (1, .int 10)] _
  refine z_aload_n B dX8_tick_42 rfl 1 rfl ?_
  refine z_cVv (As := []) (rest := []) B cw_X8_243 cx_9 dX8_tick_43 (ci_X8_passTimers_921 l (σ := (ap b σ [(0, 8, 9), (0, 8, 8), (0, 8, 7), (0, 8, 6), (0, 8, 5), (0, 8, 4), (0, 8, 3), (0, 8, 2), (0, 8, 1)] [] [])) (b := b) (lyA hK) (rI_at 0 7 hI_0_7)) (lKA (hk_K hK 0 rfl rfl)) rfl (by decide) rfl (Nat.le_of_ble_eq_true rfl) (by decide) (fun u hu => ?_)
  refine z_eqs (σ' := (ap b σ [(0, 8, 9), (0, 8, 8), (0, 8, 7), (0, 8, 6), (0, 8, 5), (0, 8, 4), (0, 8, 3), (0, 8, 2), (0, 8, 1)] [] [])) hu ?_
  show zx p l e _ s m _ below meth c g 3 0 0 _ _ 46 [(2, .int 8), (0, .ref (b + 0)), (1, .int 10)] _
  refine z_iinc (v := 9) (lv' := [(2, .int 9), (0, .ref (b + 0)), (1, .int 10)]) B dX8_tick_46 0 rfl (by decide) (by decide) rfl ?_
  refine z_goto (tgt := 23) B dX8_tick_49 (by decide) ?_
  refine z_iload_n B dX8_tick_23 rfl 0 rfl ?_
  refine z_iload_n B dX8_tick_24 rfl 2 rfl ?_
  refine z_icmp_ge (tgt := 52) B dX8_tick_25 (by decide) (fun h => absurd h (by decide)) (fun _ => ?_)
  refine z_aload_n B dX8_tick_28 rfl 1 rfl ?_
  refine z_dup B dX8_tick_29 rfl ?_
  refine gf_X8_206 (x := 9) B (lKA (hk_K hK 0 rfl rfl)) (rI_at 0 8 rfl) dX8_tick_30 ?_
  refine z_iconst (v := 1) B dX8_tick_33 (by decide) ?_
  refine z_iadd B dX8_tick_34 ?_
  refine z_seti (y := 10) (by decide) ?_
  refine pf_X8_206 (x := 10) (σ' := (ap b σ [(0, 8, 10), (0, 8, 9), (0, 8, 8), (0, 8, 7), (0, 8, 6), (0, 8, 5), (0, 8, 4), (0, 8, 3), (0, 8, 2), (0, 8, 1)] [] [])) B (lKA (hk_K hK 0 rfl rfl)) wI_ap dX8_tick_35 ?_
  refine z_aload_n B dX8_tick_38 rfl 1 rfl ?_
  refine z_cVv (As := []) (rest := []) B cw_X8_240 cx_9 dX8_tick_39 (ci_X8_passTasks_920 l (σ := (ap b σ [(0, 8, 10), (0, 8, 9), (0, 8, 8), (0, 8, 7), (0, 8, 6), (0, 8, 5), (0, 8, 4), (0, 8, 3), (0, 8, 2), (0, 8, 1)] [] [])) (b := b) (lyA hK) (rI_at 4 2 hI_4_2) (rR_at 0 3 hR_0_3)) (lKA (hk_K hK 0 rfl rfl)) rfl (by decide) rfl (Nat.le_of_ble_eq_true rfl) (by decide) (fun u hu => ?_)
  refine z_eqs (σ' := (ap b σ [(0, 8, 10), (0, 8, 9), (0, 8, 8), (0, 8, 7), (0, 8, 6), (0, 8, 5), (0, 8, 4), (0, 8, 3), (0, 8, 2), (0, 8, 1)] [] [])) hu ?_
  show zx p l e _ s m _ below meth c g 3 0 0 _ _ 42 [(2, .int 9), (0, .ref (b + 0)), (1, .int 10)] _
  refine z_aload_n B dX8_tick_42 rfl 1 rfl ?_
  refine z_cVv (As := []) (rest := []) B cw_X8_243 cx_9 dX8_tick_43 (ci_X8_passTimers_921 l (σ := (ap b σ [(0, 8, 10), (0, 8, 9), (0, 8, 8), (0, 8, 7), (0, 8, 6), (0, 8, 5), (0, 8, 4), (0, 8, 3), (0, 8, 2), (0, 8, 1)] [] [])) (b := b) (lyA hK) (rI_at 0 7 hI_0_7)) (lKA (hk_K hK 0 rfl rfl)) rfl (by decide) rfl (Nat.le_of_ble_eq_true rfl) (by decide) (fun u hu => ?_)
  refine z_eqs (σ' := (ap b σ [(0, 8, 10), (0, 8, 9), (0, 8, 8), (0, 8, 7), (0, 8, 6), (0, 8, 5), (0, 8, 4), (0, 8, 3), (0, 8, 2), (0, 8, 1)] [] [])) hu ?_
  show zx p l e _ s m _ below meth c g 3 0 0 _ _ 46 [(2, .int 9), (0, .ref (b + 0)), (1, .int 10)] _
  refine z_iinc (v := 10) (lv' := [(2, .int 10), (0, .ref (b + 0)), (1, .int 10)]) B dX8_tick_46 0 rfl (by decide) (by decide) rfl ?_
  refine z_goto (tgt := 23) B dX8_tick_49 (by decide) ?_
  refine z_iload_n B dX8_tick_23 rfl 0 rfl ?_
  refine z_iload_n B dX8_tick_24 rfl 2 rfl ?_
  refine z_icmp_ge (tgt := 52) B dX8_tick_25 (by decide) (fun _ => ?_) (fun h => absurd (by decide) h)
  refine z_aload_n B dX8_tick_52 rfl 1 rfl ?_
  refine gf_X8_206 (x := 10) B (lKA (hk_K hK 0 rfl rfl)) (rI_at 0 8 rfl) dX8_tick_53 ?_
  exact z_iret B hr (by decide) (by decide) dX8_tick_56 ⟨rfl, rfl⟩
set_option maxRecDepth 100000 in
set_option maxHeartbeats 4000000 in
theorem ci_L_tick_968 (l : Launch) {g : gx_T} {σ : sx_T} {b : Nat} (hK : lay b σ)   (hI_0_7 : sx_I σ (b + 0) 7 = 0) (hI_0_8 : sx_I σ (b + 0) 8 = 0) (hI_4_2 : sx_I σ (b + 4) 2 = 0) (hR_0_3 : sx_R σ (b + 0) 3 = (some (b + 4))) : Met l yL_tick (.codeWith yL_tick cL_tick 4 (some .int) [(0, 9, 12, 15)] :: lw_g) { frames := 3, cells := 0, slots := 0, locals := 64 } (va_Pc [.ref (b + 0), .int 10, .ref (b + 431)] (zx_w g σ)) (va_Qi (fun r u => r = 0 ∧ u = (ap b σ [(0, 8, 10), (0, 8, 9), (0, 8, 8), (0, 8, 7), (0, 8, 6), (0, 8, 5), (0, 8, 4), (0, 8, 3), (0, 8, 2), (0, 8, 1)] [(431, 0, 10)] [])) (zx_w g) (gx_Q g)) 0 0 (gx_Q g) := by
  refine z_metW (by decide) (Nat.le_of_ble_eq_true rfl) (fun p e s m below meth c B hr htab => ?_)
  refine z_eqs (σ' := (ap b σ [] [] [])) rfl ?_
  show zx p l e _ s m _ below meth c g 4 0 0 _ _ 0 [(0, .ref (b + 0)), (1, .int 10), (2, .ref (b + 431))] []
  refine z_aload_n B dL_tick_0 rfl 2 rfl ?_
  refine z_iconst (v := 0) B dL_tick_1 (by decide) ?_
  refine z_aload_n B dL_tick_2 rfl 0 rfl ?_
  refine z_iload_n B dL_tick_3 rfl 1 rfl ?_
  refine z_cVi (As := [.int 10]) (rest := [.int 0, .ref (b + 431)]) B cw_L_41 cx_9 dL_tick_4 (ci_X8_tick_967 l (σ := (ap b σ [] [] [])) (b := b) (lyA hK) (rI_at 0 7 hI_0_7) (rI_at 0 8 hI_0_8) (rI_at 4 2 hI_4_2) (rR_at 0 3 hR_0_3)) (lKA (hk_K hK 0 rfl rfl)) rfl (by decide) rfl (Nat.le_of_ble_eq_true rfl) (by decide) (fun r u hu => ?_)
  refine z_eqs (σ' := (ap b σ [(0, 8, 10), (0, 8, 9), (0, 8, 8), (0, 8, 7), (0, 8, 6), (0, 8, 5), (0, 8, 4), (0, 8, 3), (0, 8, 2), (0, 8, 1)] [] [])) (hu.2.trans ap_ap) ?_
  show zx p l e _ s m _ below meth c g 4 0 0 _ _ 7 [(0, .ref (b + 0)), (1, .int 10), (2, .ref (b + 431))] _
  refine z_seti (y := 10) hu.1 ?_
  refine z_i2l (v := 10) B dL_tick_7 (by decide) ?_
  refine z_last (j := 0) (σ' := (ap b σ [(0, 8, 10), (0, 8, 9), (0, 8, 8), (0, 8, 7), (0, 8, 6), (0, 8, 5), (0, 8, 4), (0, 8, 3), (0, 8, 2), (0, 8, 1)] [(431, 0, 10)] [])) B (lKA (hk_K hK 431 rfl rfl)) (by decide) (in_of (lNA (hk_N hK 431 rfl rfl)) (show ¬ ((0 : Int32) < 0 ∨ 1 ≤ (0 : Int32).toNatClampNeg) by decide)) wJ_ap dL_tick_8 ?_
  refine z_goto (tgt := 15) B dL_tick_9 (by decide) ?_
  refine z_iconst (v := 0) B dL_tick_15 (by decide) ?_
  exact z_iret B hr (by decide) (by decide) dL_tick_16 ⟨rfl, rfl⟩
