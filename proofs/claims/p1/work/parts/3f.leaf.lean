set_option maxRecDepth 100000 in
set_option maxHeartbeats 4000000 in
theorem lf_11_376 {p : Program} {l : Launch} {e : Env} {s : State} {m : MethodId} {args : Array Value} {below : List Frame} {meth : Method} {c : Code} {g : gx_T} {Q : State → Prop} {σ : sx_T} {b t bS : Nat} {xs : Nat → Int32} (hlt : l.stackTraces = false) (B : zx_B p s m args meth c code RL 8 g) (hX : va_X bS 6 xs s s.heap) (hbl : bS < s.heap.size) (hbA : ¬ gx_b g ≤ bS) (hF : fz_P b t σ) (h_x1 : xs 1 = 45) (kk : ∀ σ', zx p l e room_1 s m args below meth c g 8 600002 7302232 Q σ' 1395 [(4, .int 0), (0, .ref bS)] []) : zx p l e room_1 s m args below meth c g 8 500 100000 Q σ 793 [(4, .int 0), (3, .ref (b + 431)), (2, .ref (b + 405)), (1, .ref (b + 0)), (0, .ref bS)] [] := by
  have hK := fz_lay hF
  refine z_eqs (σ' := (ap b σ [] [] [])) rfl ?_
  refine z_aload_n B dL_law_793 rfl 3 rfl ?_
  refine z_aload_n B dL_law_794 rfl 4 rfl ?_
  refine z_iload B dL_law_795 0 rfl ?_
  refine z_iconst (v := 1) B dL_law_797 (by decide) ?_
  refine z_iadd B dL_law_798 ?_
  refine z_seti (y := 1) (by decide) ?_
  refine z_sld (j := 1) (x := 45) B hX hbl hbA (by decide) (show ¬ ((1 : Int32) < 0 ∨ 6 ≤ (1 : Int32).toNatClampNeg) by decide) h_x1 dL_law_799 ?_
  refine z_aload_n B dL_law_800 rfl 1 rfl ?_
  refine z_cSWi (As := [.ref (b + 0), .int 45, .ref (b + 431)]) (rest := []) B cw_L_121 dL_law_801 (ci_L_tick_1143 l (σ := (ap b σ [] [] [])) (b := b) (lyA hK) (rI_at 0 7 (fz_I hF 0 7 rfl rfl)) (rI_at 0 8 (fz_I hF 0 8 rfl rfl)) (rI_at 4 2 (fz_I hF 4 2 rfl rfl)) (rR_at 0 3 (fz_R hF 0 3 rfl rfl))) rfl (by decide) rfl (Nat.le_of_ble_eq_true rfl) (by decide) (fun r u hu => ?_)
  refine z_eqs (σ' := (ap b σ [(0, 8, 45), (0, 8, 44), (0, 8, 43), (0, 8, 42), (0, 8, 41), (0, 8, 40), (0, 8, 39), (0, 8, 38), (0, 8, 37), (0, 8, 36), (0, 8, 35), (0, 8, 34), (0, 8, 33), (0, 8, 32), (0, 8, 31), (0, 8, 30), (0, 8, 29), (0, 8, 28), (0, 8, 27), (0, 8, 26), (0, 8, 25), (0, 8, 24), (0, 8, 23), (0, 8, 22), (0, 8, 21), (0, 8, 20), (0, 8, 19), (0, 8, 18), (0, 8, 17), (0, 8, 16), (0, 8, 15), (0, 8, 14), (0, 8, 13), (0, 8, 12), (0, 8, 11), (0, 8, 10), (0, 8, 9), (0, 8, 8), (0, 8, 7), (0, 8, 6), (0, 8, 5), (0, 8, 4), (0, 8, 3), (0, 8, 2), (0, 8, 1)] [(431, 0, 45)] [])) (hu.2.trans ap_ap) ?_
  show zx p l e _ s m _ below meth c g 8 _ _ _ _ 804 [(4, .int 0), (3, .ref (b + 431)), (2, .ref (b + 405)), (1, .ref (b + 0)), (0, .ref bS)] _
  refine z_seti (y := 0) hu.1 ?_
  refine z_istore (lv' := [(5, .int 0), (4, .int 0), (3, .ref (b + 431)), (2, .ref (b + 405)), (1, .ref (b + 0)), (0, .ref bS)]) B dL_law_804 (by decide) rfl ?_
  refine z_aload_n B dL_law_806 rfl 3 rfl ?_
  refine z_aload_n B dL_law_807 rfl 5 rfl ?_
  refine z_iload B dL_law_808 1 rfl ?_
  refine z_iconst (v := 1) B dL_law_810 (by decide) ?_
  refine z_iadd B dL_law_811 ?_
  refine z_seti (y := 1) (by decide) ?_
  refine z_sld (j := 1) (x := 45) B hX hbl hbA (by decide) (show ¬ ((1 : Int32) < 0 ∨ 6 ≤ (1 : Int32).toNatClampNeg) by decide) h_x1 dL_law_812 ?_
  refine z_cVi (As := [.int 45]) (rest := []) B cw_L_123 cx_10 dL_law_813 (ci_X9_tick_1146 l (σ := (ap b σ [(0, 8, 45), (0, 8, 44), (0, 8, 43), (0, 8, 42), (0, 8, 41), (0, 8, 40), (0, 8, 39), (0, 8, 38), (0, 8, 37), (0, 8, 36), (0, 8, 35), (0, 8, 34), (0, 8, 33), (0, 8, 32), (0, 8, 31), (0, 8, 30), (0, 8, 29), (0, 8, 28), (0, 8, 27), (0, 8, 26), (0, 8, 25), (0, 8, 24), (0, 8, 23), (0, 8, 22), (0, 8, 21), (0, 8, 20), (0, 8, 19), (0, 8, 18), (0, 8, 17), (0, 8, 16), (0, 8, 15), (0, 8, 14), (0, 8, 13), (0, 8, 12), (0, 8, 11), (0, 8, 10), (0, 8, 9), (0, 8, 8), (0, 8, 7), (0, 8, 6), (0, 8, 5), (0, 8, 4), (0, 8, 3), (0, 8, 2), (0, 8, 1)] [(431, 0, 45)] [])) (b := b) (lyA hK) (rI_at 405 1 (fz_I hF 405 1 rfl rfl)) (rI_at 405 6 (fz_I hF 405 6 rfl rfl)) (rI_at 405 16 (fz_I hF 405 16 rfl rfl))) (lKA (hk_K hK 405 rfl rfl)) rfl (by decide) rfl (Nat.le_of_ble_eq_true rfl) (by decide) (fun r u hu => ?_)
  refine z_eqs (σ' := (ap b σ [(405, 1, 45), (405, 1, 44), (405, 1, 43), (405, 1, 42), (405, 1, 41), (405, 1, 40), (405, 1, 39), (405, 1, 38), (405, 1, 37), (405, 1, 36), (405, 1, 35), (405, 1, 34), (405, 1, 33), (405, 1, 32), (405, 1, 31), (405, 1, 30), (405, 1, 29), (405, 1, 28), (405, 1, 27), (405, 1, 26), (405, 1, 25), (405, 1, 24), (405, 1, 23), (405, 1, 22), (405, 1, 21), (405, 1, 20), (405, 1, 19), (405, 1, 18), (405, 1, 17), (405, 1, 16), (405, 1, 15), (405, 1, 14), (405, 1, 13), (405, 1, 12), (405, 1, 11), (405, 1, 10), (405, 1, 9), (405, 1, 8), (405, 1, 7), (405, 1, 6), (405, 1, 5), (405, 1, 4), (405, 1, 3), (405, 1, 2), (405, 1, 1), (405, 0, 0), (0, 8, 45), (0, 8, 44), (0, 8, 43), (0, 8, 42), (0, 8, 41), (0, 8, 40), (0, 8, 39), (0, 8, 38), (0, 8, 37), (0, 8, 36), (0, 8, 35), (0, 8, 34), (0, 8, 33), (0, 8, 32), (0, 8, 31), (0, 8, 30), (0, 8, 29), (0, 8, 28), (0, 8, 27), (0, 8, 26), (0, 8, 25), (0, 8, 24), (0, 8, 23), (0, 8, 22), (0, 8, 21), (0, 8, 20), (0, 8, 19), (0, 8, 18), (0, 8, 17), (0, 8, 16), (0, 8, 15), (0, 8, 14), (0, 8, 13), (0, 8, 12), (0, 8, 11), (0, 8, 10), (0, 8, 9), (0, 8, 8), (0, 8, 7), (0, 8, 6), (0, 8, 5), (0, 8, 4), (0, 8, 3), (0, 8, 2), (0, 8, 1)] [(431, 0, 45)] [])) (hu.2.trans ap_ap) ?_
  show zx p l e _ s m _ below meth c g 8 _ _ _ _ 816 [(5, .int 0), (4, .int 0), (3, .ref (b + 431)), (2, .ref (b + 405)), (1, .ref (b + 0)), (0, .ref bS)] _
  refine z_seti (y := 45) hu.1 ?_
  refine z_istore (lv' := [(6, .int 45), (5, .int 0), (4, .int 0), (3, .ref (b + 431)), (2, .ref (b + 405)), (1, .ref (b + 0)), (0, .ref bS)]) B dL_law_816 (by decide) rfl ?_
  refine z_aload_n B dL_law_818 rfl 4 rfl ?_
  refine z_cVi (As := []) (rest := []) B cw_L_80 cx_10 dL_law_819 (ci_X9_thrown_95 l (σ := (ap b σ [(405, 1, 45), (405, 1, 44), (405, 1, 43), (405, 1, 42), (405, 1, 41), (405, 1, 40), (405, 1, 39), (405, 1, 38), (405, 1, 37), (405, 1, 36), (405, 1, 35), (405, 1, 34), (405, 1, 33), (405, 1, 32), (405, 1, 31), (405, 1, 30), (405, 1, 29), (405, 1, 28), (405, 1, 27), (405, 1, 26), (405, 1, 25), (405, 1, 24), (405, 1, 23), (405, 1, 22), (405, 1, 21), (405, 1, 20), (405, 1, 19), (405, 1, 18), (405, 1, 17), (405, 1, 16), (405, 1, 15), (405, 1, 14), (405, 1, 13), (405, 1, 12), (405, 1, 11), (405, 1, 10), (405, 1, 9), (405, 1, 8), (405, 1, 7), (405, 1, 6), (405, 1, 5), (405, 1, 4), (405, 1, 3), (405, 1, 2), (405, 1, 1), (405, 0, 0), (0, 8, 45), (0, 8, 44), (0, 8, 43), (0, 8, 42), (0, 8, 41), (0, 8, 40), (0, 8, 39), (0, 8, 38), (0, 8, 37), (0, 8, 36), (0, 8, 35), (0, 8, 34), (0, 8, 33), (0, 8, 32), (0, 8, 31), (0, 8, 30), (0, 8, 29), (0, 8, 28), (0, 8, 27), (0, 8, 26), (0, 8, 25), (0, 8, 24), (0, 8, 23), (0, 8, 22), (0, 8, 21), (0, 8, 20), (0, 8, 19), (0, 8, 18), (0, 8, 17), (0, 8, 16), (0, 8, 15), (0, 8, 14), (0, 8, 13), (0, 8, 12), (0, 8, 11), (0, 8, 10), (0, 8, 9), (0, 8, 8), (0, 8, 7), (0, 8, 6), (0, 8, 5), (0, 8, 4), (0, 8, 3), (0, 8, 2), (0, 8, 1)] [(431, 0, 45)] [])) (b := b) (lyA hK) (rI_at 405 0 rfl)) (lKA (hk_K hK 405 rfl rfl)) rfl (by decide) rfl (Nat.le_of_ble_eq_true rfl) (by decide) (fun r u hu => ?_)
  refine z_eqs (σ' := (ap b σ [(405, 1, 45), (405, 1, 44), (405, 1, 43), (405, 1, 42), (405, 1, 41), (405, 1, 40), (405, 1, 39), (405, 1, 38), (405, 1, 37), (405, 1, 36), (405, 1, 35), (405, 1, 34), (405, 1, 33), (405, 1, 32), (405, 1, 31), (405, 1, 30), (405, 1, 29), (405, 1, 28), (405, 1, 27), (405, 1, 26), (405, 1, 25), (405, 1, 24), (405, 1, 23), (405, 1, 22), (405, 1, 21), (405, 1, 20), (405, 1, 19), (405, 1, 18), (405, 1, 17), (405, 1, 16), (405, 1, 15), (405, 1, 14), (405, 1, 13), (405, 1, 12), (405, 1, 11), (405, 1, 10), (405, 1, 9), (405, 1, 8), (405, 1, 7), (405, 1, 6), (405, 1, 5), (405, 1, 4), (405, 1, 3), (405, 1, 2), (405, 1, 1), (405, 0, 0), (0, 8, 45), (0, 8, 44), (0, 8, 43), (0, 8, 42), (0, 8, 41), (0, 8, 40), (0, 8, 39), (0, 8, 38), (0, 8, 37), (0, 8, 36), (0, 8, 35), (0, 8, 34), (0, 8, 33), (0, 8, 32), (0, 8, 31), (0, 8, 30), (0, 8, 29), (0, 8, 28), (0, 8, 27), (0, 8, 26), (0, 8, 25), (0, 8, 24), (0, 8, 23), (0, 8, 22), (0, 8, 21), (0, 8, 20), (0, 8, 19), (0, 8, 18), (0, 8, 17), (0, 8, 16), (0, 8, 15), (0, 8, 14), (0, 8, 13), (0, 8, 12), (0, 8, 11), (0, 8, 10), (0, 8, 9), (0, 8, 8), (0, 8, 7), (0, 8, 6), (0, 8, 5), (0, 8, 4), (0, 8, 3), (0, 8, 2), (0, 8, 1)] [(431, 0, 45)] [])) hu.2 ?_
  show zx p l e _ s m _ below meth c g 8 _ _ _ _ 822 [(6, .int 45), (5, .int 0), (4, .int 0), (3, .ref (b + 431)), (2, .ref (b + 405)), (1, .ref (b + 0)), (0, .ref bS)] _
  refine z_seti (y := 0) hu.1 ?_
  refine z_iload B dL_law_822 1 rfl ?_
  refine z_icmp_eq (tgt := 829) B dL_law_824 (by decide) (fun _ => ?_) (fun h => absurd (by decide) h)
  refine z_iload B dL_law_829 1 rfl ?_
  refine z_if_ne (tgt := 846) B dL_law_831 (by decide) (fun h => absurd (by decide) h) (fun _ => ?_)
  refine z_aload_n B dL_law_834 rfl 3 rfl ?_
  refine z_iconst (v := 0) B dL_law_835 (by decide) ?_
  refine z_lald (j := 0) (x := 45) B (lKA (hk_K hK 431 rfl rfl)) (by decide) (in_of (lNA (hk_N hK 431 rfl rfl)) (show ¬ ((0 : Int32) < 0 ∨ 1 ≤ (0 : Int32).toNatClampNeg) by decide)) (rJ_at 431 0 rfl) dL_law_836 ?_
  refine z_iload B dL_law_837 0 rfl ?_
  refine z_i2l (v := 45) B dL_law_839 (by decide) ?_
  refine z_lcmp (v := 0) B dL_law_840 (by decide) ?_
  refine z_if_eq (tgt := 846) B dL_law_841 (by decide) (fun _ => ?_) (fun h => absurd (by decide) h)
  refine z_goto (tgt := 1395) B dL_law_846 (by decide) ?_
  exact z_widen (Nat.le_of_ble_eq_true rfl) (Nat.le_of_ble_eq_true rfl) (z_sub _ [2, 6] rfl (kk _))
set_option maxRecDepth 100000 in
set_option maxHeartbeats 4000000 in
theorem lf_11_377 {p : Program} {l : Launch} {e : Env} {s : State} {m : MethodId} {args : Array Value} {below : List Frame} {meth : Method} {c : Code} {g : gx_T} {Q : State → Prop} {σ : sx_T} {b t bS : Nat} {xs : Nat → Int32} (hlt : l.stackTraces = false) (B : zx_B p s m args meth c code RL 8 g) (hX : va_X bS 6 xs s s.heap) (hbl : bS < s.heap.size) (hbA : ¬ gx_b g ≤ bS) (hF : fz_P b t σ) (h_x1 : xs 1 = 46) (kk : ∀ σ', zx p l e room_1 s m args below meth c g 8 600002 7302232 Q σ' 1395 [(4, .int 0), (0, .ref bS)] []) : zx p l e room_1 s m args below meth c g 8 500 100000 Q σ 793 [(4, .int 0), (3, .ref (b + 431)), (2, .ref (b + 405)), (1, .ref (b + 0)), (0, .ref bS)] [] := by
  have hK := fz_lay hF
  refine z_eqs (σ' := (ap b σ [] [] [])) rfl ?_
  refine z_aload_n B dL_law_793 rfl 3 rfl ?_
  refine z_aload_n B dL_law_794 rfl 4 rfl ?_
  refine z_iload B dL_law_795 0 rfl ?_
  refine z_iconst (v := 1) B dL_law_797 (by decide) ?_
  refine z_iadd B dL_law_798 ?_
  refine z_seti (y := 1) (by decide) ?_
  refine z_sld (j := 1) (x := 46) B hX hbl hbA (by decide) (show ¬ ((1 : Int32) < 0 ∨ 6 ≤ (1 : Int32).toNatClampNeg) by decide) h_x1 dL_law_799 ?_
  refine z_aload_n B dL_law_800 rfl 1 rfl ?_
  refine z_cSWi (As := [.ref (b + 0), .int 46, .ref (b + 431)]) (rest := []) B cw_L_121 dL_law_801 (ci_L_tick_1148 l (σ := (ap b σ [] [] [])) (b := b) (lyA hK) (rI_at 0 7 (fz_I hF 0 7 rfl rfl)) (rI_at 0 8 (fz_I hF 0 8 rfl rfl)) (rI_at 4 2 (fz_I hF 4 2 rfl rfl)) (rR_at 0 3 (fz_R hF 0 3 rfl rfl))) rfl (by decide) rfl (Nat.le_of_ble_eq_true rfl) (by decide) (fun r u hu => ?_)
  refine z_eqs (σ' := (ap b σ [(0, 8, 46), (0, 8, 45), (0, 8, 44), (0, 8, 43), (0, 8, 42), (0, 8, 41), (0, 8, 40), (0, 8, 39), (0, 8, 38), (0, 8, 37), (0, 8, 36), (0, 8, 35), (0, 8, 34), (0, 8, 33), (0, 8, 32), (0, 8, 31), (0, 8, 30), (0, 8, 29), (0, 8, 28), (0, 8, 27), (0, 8, 26), (0, 8, 25), (0, 8, 24), (0, 8, 23), (0, 8, 22), (0, 8, 21), (0, 8, 20), (0, 8, 19), (0, 8, 18), (0, 8, 17), (0, 8, 16), (0, 8, 15), (0, 8, 14), (0, 8, 13), (0, 8, 12), (0, 8, 11), (0, 8, 10), (0, 8, 9), (0, 8, 8), (0, 8, 7), (0, 8, 6), (0, 8, 5), (0, 8, 4), (0, 8, 3), (0, 8, 2), (0, 8, 1)] [(431, 0, 46)] [])) (hu.2.trans ap_ap) ?_
  show zx p l e _ s m _ below meth c g 8 _ _ _ _ 804 [(4, .int 0), (3, .ref (b + 431)), (2, .ref (b + 405)), (1, .ref (b + 0)), (0, .ref bS)] _
  refine z_seti (y := 0) hu.1 ?_
  refine z_istore (lv' := [(5, .int 0), (4, .int 0), (3, .ref (b + 431)), (2, .ref (b + 405)), (1, .ref (b + 0)), (0, .ref bS)]) B dL_law_804 (by decide) rfl ?_
  refine z_aload_n B dL_law_806 rfl 3 rfl ?_
  refine z_aload_n B dL_law_807 rfl 5 rfl ?_
  refine z_iload B dL_law_808 1 rfl ?_
  refine z_iconst (v := 1) B dL_law_810 (by decide) ?_
  refine z_iadd B dL_law_811 ?_
  refine z_seti (y := 1) (by decide) ?_
  refine z_sld (j := 1) (x := 46) B hX hbl hbA (by decide) (show ¬ ((1 : Int32) < 0 ∨ 6 ≤ (1 : Int32).toNatClampNeg) by decide) h_x1 dL_law_812 ?_
  refine z_cVi (As := [.int 46]) (rest := []) B cw_L_123 cx_10 dL_law_813 (ci_X9_tick_1151 l (σ := (ap b σ [(0, 8, 46), (0, 8, 45), (0, 8, 44), (0, 8, 43), (0, 8, 42), (0, 8, 41), (0, 8, 40), (0, 8, 39), (0, 8, 38), (0, 8, 37), (0, 8, 36), (0, 8, 35), (0, 8, 34), (0, 8, 33), (0, 8, 32), (0, 8, 31), (0, 8, 30), (0, 8, 29), (0, 8, 28), (0, 8, 27), (0, 8, 26), (0, 8, 25), (0, 8, 24), (0, 8, 23), (0, 8, 22), (0, 8, 21), (0, 8, 20), (0, 8, 19), (0, 8, 18), (0, 8, 17), (0, 8, 16), (0, 8, 15), (0, 8, 14), (0, 8, 13), (0, 8, 12), (0, 8, 11), (0, 8, 10), (0, 8, 9), (0, 8, 8), (0, 8, 7), (0, 8, 6), (0, 8, 5), (0, 8, 4), (0, 8, 3), (0, 8, 2), (0, 8, 1)] [(431, 0, 46)] [])) (b := b) (lyA hK) (rI_at 405 1 (fz_I hF 405 1 rfl rfl)) (rI_at 405 6 (fz_I hF 405 6 rfl rfl)) (rI_at 405 16 (fz_I hF 405 16 rfl rfl))) (lKA (hk_K hK 405 rfl rfl)) rfl (by decide) rfl (Nat.le_of_ble_eq_true rfl) (by decide) (fun r u hu => ?_)
  refine z_eqs (σ' := (ap b σ [(405, 1, 46), (405, 1, 45), (405, 1, 44), (405, 1, 43), (405, 1, 42), (405, 1, 41), (405, 1, 40), (405, 1, 39), (405, 1, 38), (405, 1, 37), (405, 1, 36), (405, 1, 35), (405, 1, 34), (405, 1, 33), (405, 1, 32), (405, 1, 31), (405, 1, 30), (405, 1, 29), (405, 1, 28), (405, 1, 27), (405, 1, 26), (405, 1, 25), (405, 1, 24), (405, 1, 23), (405, 1, 22), (405, 1, 21), (405, 1, 20), (405, 1, 19), (405, 1, 18), (405, 1, 17), (405, 1, 16), (405, 1, 15), (405, 1, 14), (405, 1, 13), (405, 1, 12), (405, 1, 11), (405, 1, 10), (405, 1, 9), (405, 1, 8), (405, 1, 7), (405, 1, 6), (405, 1, 5), (405, 1, 4), (405, 1, 3), (405, 1, 2), (405, 1, 1), (405, 0, 0), (0, 8, 46), (0, 8, 45), (0, 8, 44), (0, 8, 43), (0, 8, 42), (0, 8, 41), (0, 8, 40), (0, 8, 39), (0, 8, 38), (0, 8, 37), (0, 8, 36), (0, 8, 35), (0, 8, 34), (0, 8, 33), (0, 8, 32), (0, 8, 31), (0, 8, 30), (0, 8, 29), (0, 8, 28), (0, 8, 27), (0, 8, 26), (0, 8, 25), (0, 8, 24), (0, 8, 23), (0, 8, 22), (0, 8, 21), (0, 8, 20), (0, 8, 19), (0, 8, 18), (0, 8, 17), (0, 8, 16), (0, 8, 15), (0, 8, 14), (0, 8, 13), (0, 8, 12), (0, 8, 11), (0, 8, 10), (0, 8, 9), (0, 8, 8), (0, 8, 7), (0, 8, 6), (0, 8, 5), (0, 8, 4), (0, 8, 3), (0, 8, 2), (0, 8, 1)] [(431, 0, 46)] [])) (hu.2.trans ap_ap) ?_
  show zx p l e _ s m _ below meth c g 8 _ _ _ _ 816 [(5, .int 0), (4, .int 0), (3, .ref (b + 431)), (2, .ref (b + 405)), (1, .ref (b + 0)), (0, .ref bS)] _
  refine z_seti (y := 46) hu.1 ?_
  refine z_istore (lv' := [(6, .int 46), (5, .int 0), (4, .int 0), (3, .ref (b + 431)), (2, .ref (b + 405)), (1, .ref (b + 0)), (0, .ref bS)]) B dL_law_816 (by decide) rfl ?_
  refine z_aload_n B dL_law_818 rfl 4 rfl ?_
  refine z_cVi (As := []) (rest := []) B cw_L_80 cx_10 dL_law_819 (ci_X9_thrown_95 l (σ := (ap b σ [(405, 1, 46), (405, 1, 45), (405, 1, 44), (405, 1, 43), (405, 1, 42), (405, 1, 41), (405, 1, 40), (405, 1, 39), (405, 1, 38), (405, 1, 37), (405, 1, 36), (405, 1, 35), (405, 1, 34), (405, 1, 33), (405, 1, 32), (405, 1, 31), (405, 1, 30), (405, 1, 29), (405, 1, 28), (405, 1, 27), (405, 1, 26), (405, 1, 25), (405, 1, 24), (405, 1, 23), (405, 1, 22), (405, 1, 21), (405, 1, 20), (405, 1, 19), (405, 1, 18), (405, 1, 17), (405, 1, 16), (405, 1, 15), (405, 1, 14), (405, 1, 13), (405, 1, 12), (405, 1, 11), (405, 1, 10), (405, 1, 9), (405, 1, 8), (405, 1, 7), (405, 1, 6), (405, 1, 5), (405, 1, 4), (405, 1, 3), (405, 1, 2), (405, 1, 1), (405, 0, 0), (0, 8, 46), (0, 8, 45), (0, 8, 44), (0, 8, 43), (0, 8, 42), (0, 8, 41), (0, 8, 40), (0, 8, 39), (0, 8, 38), (0, 8, 37), (0, 8, 36), (0, 8, 35), (0, 8, 34), (0, 8, 33), (0, 8, 32), (0, 8, 31), (0, 8, 30), (0, 8, 29), (0, 8, 28), (0, 8, 27), (0, 8, 26), (0, 8, 25), (0, 8, 24), (0, 8, 23), (0, 8, 22), (0, 8, 21), (0, 8, 20), (0, 8, 19), (0, 8, 18), (0, 8, 17), (0, 8, 16), (0, 8, 15), (0, 8, 14), (0, 8, 13), (0, 8, 12), (0, 8, 11), (0, 8, 10), (0, 8, 9), (0, 8, 8), (0, 8, 7), (0, 8, 6), (0, 8, 5), (0, 8, 4), (0, 8, 3), (0, 8, 2), (0, 8, 1)] [(431, 0, 46)] [])) (b := b) (lyA hK) (rI_at 405 0 rfl)) (lKA (hk_K hK 405 rfl rfl)) rfl (by decide) rfl (Nat.le_of_ble_eq_true rfl) (by decide) (fun r u hu => ?_)
  refine z_eqs (σ' := (ap b σ [(405, 1, 46), (405, 1, 45), (405, 1, 44), (405, 1, 43), (405, 1, 42), (405, 1, 41), (405, 1, 40), (405, 1, 39), (405, 1, 38), (405, 1, 37), (405, 1, 36), (405, 1, 35), (405, 1, 34), (405, 1, 33), (405, 1, 32), (405, 1, 31), (405, 1, 30), (405, 1, 29), (405, 1, 28), (405, 1, 27), (405, 1, 26), (405, 1, 25), (405, 1, 24), (405, 1, 23), (405, 1, 22), (405, 1, 21), (405, 1, 20), (405, 1, 19), (405, 1, 18), (405, 1, 17), (405, 1, 16), (405, 1, 15), (405, 1, 14), (405, 1, 13), (405, 1, 12), (405, 1, 11), (405, 1, 10), (405, 1, 9), (405, 1, 8), (405, 1, 7), (405, 1, 6), (405, 1, 5), (405, 1, 4), (405, 1, 3), (405, 1, 2), (405, 1, 1), (405, 0, 0), (0, 8, 46), (0, 8, 45), (0, 8, 44), (0, 8, 43), (0, 8, 42), (0, 8, 41), (0, 8, 40), (0, 8, 39), (0, 8, 38), (0, 8, 37), (0, 8, 36), (0, 8, 35), (0, 8, 34), (0, 8, 33), (0, 8, 32), (0, 8, 31), (0, 8, 30), (0, 8, 29), (0, 8, 28), (0, 8, 27), (0, 8, 26), (0, 8, 25), (0, 8, 24), (0, 8, 23), (0, 8, 22), (0, 8, 21), (0, 8, 20), (0, 8, 19), (0, 8, 18), (0, 8, 17), (0, 8, 16), (0, 8, 15), (0, 8, 14), (0, 8, 13), (0, 8, 12), (0, 8, 11), (0, 8, 10), (0, 8, 9), (0, 8, 8), (0, 8, 7), (0, 8, 6), (0, 8, 5), (0, 8, 4), (0, 8, 3), (0, 8, 2), (0, 8, 1)] [(431, 0, 46)] [])) hu.2 ?_
  show zx p l e _ s m _ below meth c g 8 _ _ _ _ 822 [(6, .int 46), (5, .int 0), (4, .int 0), (3, .ref (b + 431)), (2, .ref (b + 405)), (1, .ref (b + 0)), (0, .ref bS)] _
  refine z_seti (y := 0) hu.1 ?_
  refine z_iload B dL_law_822 1 rfl ?_
  refine z_icmp_eq (tgt := 829) B dL_law_824 (by decide) (fun _ => ?_) (fun h => absurd (by decide) h)
  refine z_iload B dL_law_829 1 rfl ?_
  refine z_if_ne (tgt := 846) B dL_law_831 (by decide) (fun h => absurd (by decide) h) (fun _ => ?_)
  refine z_aload_n B dL_law_834 rfl 3 rfl ?_
  refine z_iconst (v := 0) B dL_law_835 (by decide) ?_
  refine z_lald (j := 0) (x := 46) B (lKA (hk_K hK 431 rfl rfl)) (by decide) (in_of (lNA (hk_N hK 431 rfl rfl)) (show ¬ ((0 : Int32) < 0 ∨ 1 ≤ (0 : Int32).toNatClampNeg) by decide)) (rJ_at 431 0 rfl) dL_law_836 ?_
  refine z_iload B dL_law_837 0 rfl ?_
  refine z_i2l (v := 46) B dL_law_839 (by decide) ?_
  refine z_lcmp (v := 0) B dL_law_840 (by decide) ?_
  refine z_if_eq (tgt := 846) B dL_law_841 (by decide) (fun _ => ?_) (fun h => absurd (by decide) h)
  refine z_goto (tgt := 1395) B dL_law_846 (by decide) ?_
  exact z_widen (Nat.le_of_ble_eq_true rfl) (Nat.le_of_ble_eq_true rfl) (z_sub _ [2, 6] rfl (kk _))
set_option maxRecDepth 100000 in
set_option maxHeartbeats 4000000 in
theorem lf_11_378 {p : Program} {l : Launch} {e : Env} {s : State} {m : MethodId} {args : Array Value} {below : List Frame} {meth : Method} {c : Code} {g : gx_T} {Q : State → Prop} {σ : sx_T} {b t bS : Nat} {xs : Nat → Int32} (hlt : l.stackTraces = false) (B : zx_B p s m args meth c code RL 8 g) (hX : va_X bS 6 xs s s.heap) (hbl : bS < s.heap.size) (hbA : ¬ gx_b g ≤ bS) (hF : fz_P b t σ) (h_x1 : xs 1 = 47) (kk : ∀ σ', zx p l e room_1 s m args below meth c g 8 600002 7302232 Q σ' 1395 [(4, .int 0), (0, .ref bS)] []) : zx p l e room_1 s m args below meth c g 8 500 100000 Q σ 793 [(4, .int 0), (3, .ref (b + 431)), (2, .ref (b + 405)), (1, .ref (b + 0)), (0, .ref bS)] [] := by
  have hK := fz_lay hF
  refine z_eqs (σ' := (ap b σ [] [] [])) rfl ?_
  refine z_aload_n B dL_law_793 rfl 3 rfl ?_
  refine z_aload_n B dL_law_794 rfl 4 rfl ?_
  refine z_iload B dL_law_795 0 rfl ?_
  refine z_iconst (v := 1) B dL_law_797 (by decide) ?_
  refine z_iadd B dL_law_798 ?_
  refine z_seti (y := 1) (by decide) ?_
  refine z_sld (j := 1) (x := 47) B hX hbl hbA (by decide) (show ¬ ((1 : Int32) < 0 ∨ 6 ≤ (1 : Int32).toNatClampNeg) by decide) h_x1 dL_law_799 ?_
  refine z_aload_n B dL_law_800 rfl 1 rfl ?_
  refine z_cSWi (As := [.ref (b + 0), .int 47, .ref (b + 431)]) (rest := []) B cw_L_121 dL_law_801 (ci_L_tick_1153 l (σ := (ap b σ [] [] [])) (b := b) (lyA hK) (rI_at 0 7 (fz_I hF 0 7 rfl rfl)) (rI_at 0 8 (fz_I hF 0 8 rfl rfl)) (rI_at 4 2 (fz_I hF 4 2 rfl rfl)) (rR_at 0 3 (fz_R hF 0 3 rfl rfl))) rfl (by decide) rfl (Nat.le_of_ble_eq_true rfl) (by decide) (fun r u hu => ?_)
  refine z_eqs (σ' := (ap b σ [(0, 8, 47), (0, 8, 46), (0, 8, 45), (0, 8, 44), (0, 8, 43), (0, 8, 42), (0, 8, 41), (0, 8, 40), (0, 8, 39), (0, 8, 38), (0, 8, 37), (0, 8, 36), (0, 8, 35), (0, 8, 34), (0, 8, 33), (0, 8, 32), (0, 8, 31), (0, 8, 30), (0, 8, 29), (0, 8, 28), (0, 8, 27), (0, 8, 26), (0, 8, 25), (0, 8, 24), (0, 8, 23), (0, 8, 22), (0, 8, 21), (0, 8, 20), (0, 8, 19), (0, 8, 18), (0, 8, 17), (0, 8, 16), (0, 8, 15), (0, 8, 14), (0, 8, 13), (0, 8, 12), (0, 8, 11), (0, 8, 10), (0, 8, 9), (0, 8, 8), (0, 8, 7), (0, 8, 6), (0, 8, 5), (0, 8, 4), (0, 8, 3), (0, 8, 2), (0, 8, 1)] [(431, 0, 47)] [])) (hu.2.trans ap_ap) ?_
  show zx p l e _ s m _ below meth c g 8 _ _ _ _ 804 [(4, .int 0), (3, .ref (b + 431)), (2, .ref (b + 405)), (1, .ref (b + 0)), (0, .ref bS)] _
  refine z_seti (y := 0) hu.1 ?_
  refine z_istore (lv' := [(5, .int 0), (4, .int 0), (3, .ref (b + 431)), (2, .ref (b + 405)), (1, .ref (b + 0)), (0, .ref bS)]) B dL_law_804 (by decide) rfl ?_
  refine z_aload_n B dL_law_806 rfl 3 rfl ?_
  refine z_aload_n B dL_law_807 rfl 5 rfl ?_
  refine z_iload B dL_law_808 1 rfl ?_
  refine z_iconst (v := 1) B dL_law_810 (by decide) ?_
  refine z_iadd B dL_law_811 ?_
  refine z_seti (y := 1) (by decide) ?_
  refine z_sld (j := 1) (x := 47) B hX hbl hbA (by decide) (show ¬ ((1 : Int32) < 0 ∨ 6 ≤ (1 : Int32).toNatClampNeg) by decide) h_x1 dL_law_812 ?_
  refine z_cVi (As := [.int 47]) (rest := []) B cw_L_123 cx_10 dL_law_813 (ci_X9_tick_1156 l (σ := (ap b σ [(0, 8, 47), (0, 8, 46), (0, 8, 45), (0, 8, 44), (0, 8, 43), (0, 8, 42), (0, 8, 41), (0, 8, 40), (0, 8, 39), (0, 8, 38), (0, 8, 37), (0, 8, 36), (0, 8, 35), (0, 8, 34), (0, 8, 33), (0, 8, 32), (0, 8, 31), (0, 8, 30), (0, 8, 29), (0, 8, 28), (0, 8, 27), (0, 8, 26), (0, 8, 25), (0, 8, 24), (0, 8, 23), (0, 8, 22), (0, 8, 21), (0, 8, 20), (0, 8, 19), (0, 8, 18), (0, 8, 17), (0, 8, 16), (0, 8, 15), (0, 8, 14), (0, 8, 13), (0, 8, 12), (0, 8, 11), (0, 8, 10), (0, 8, 9), (0, 8, 8), (0, 8, 7), (0, 8, 6), (0, 8, 5), (0, 8, 4), (0, 8, 3), (0, 8, 2), (0, 8, 1)] [(431, 0, 47)] [])) (b := b) (lyA hK) (rI_at 405 1 (fz_I hF 405 1 rfl rfl)) (rI_at 405 6 (fz_I hF 405 6 rfl rfl)) (rI_at 405 16 (fz_I hF 405 16 rfl rfl))) (lKA (hk_K hK 405 rfl rfl)) rfl (by decide) rfl (Nat.le_of_ble_eq_true rfl) (by decide) (fun r u hu => ?_)
  refine z_eqs (σ' := (ap b σ [(405, 1, 47), (405, 1, 46), (405, 1, 45), (405, 1, 44), (405, 1, 43), (405, 1, 42), (405, 1, 41), (405, 1, 40), (405, 1, 39), (405, 1, 38), (405, 1, 37), (405, 1, 36), (405, 1, 35), (405, 1, 34), (405, 1, 33), (405, 1, 32), (405, 1, 31), (405, 1, 30), (405, 1, 29), (405, 1, 28), (405, 1, 27), (405, 1, 26), (405, 1, 25), (405, 1, 24), (405, 1, 23), (405, 1, 22), (405, 1, 21), (405, 1, 20), (405, 1, 19), (405, 1, 18), (405, 1, 17), (405, 1, 16), (405, 1, 15), (405, 1, 14), (405, 1, 13), (405, 1, 12), (405, 1, 11), (405, 1, 10), (405, 1, 9), (405, 1, 8), (405, 1, 7), (405, 1, 6), (405, 1, 5), (405, 1, 4), (405, 1, 3), (405, 1, 2), (405, 1, 1), (405, 0, 0), (0, 8, 47), (0, 8, 46), (0, 8, 45), (0, 8, 44), (0, 8, 43), (0, 8, 42), (0, 8, 41), (0, 8, 40), (0, 8, 39), (0, 8, 38), (0, 8, 37), (0, 8, 36), (0, 8, 35), (0, 8, 34), (0, 8, 33), (0, 8, 32), (0, 8, 31), (0, 8, 30), (0, 8, 29), (0, 8, 28), (0, 8, 27), (0, 8, 26), (0, 8, 25), (0, 8, 24), (0, 8, 23), (0, 8, 22), (0, 8, 21), (0, 8, 20), (0, 8, 19), (0, 8, 18), (0, 8, 17), (0, 8, 16), (0, 8, 15), (0, 8, 14), (0, 8, 13), (0, 8, 12), (0, 8, 11), (0, 8, 10), (0, 8, 9), (0, 8, 8), (0, 8, 7), (0, 8, 6), (0, 8, 5), (0, 8, 4), (0, 8, 3), (0, 8, 2), (0, 8, 1)] [(431, 0, 47)] [])) (hu.2.trans ap_ap) ?_
  show zx p l e _ s m _ below meth c g 8 _ _ _ _ 816 [(5, .int 0), (4, .int 0), (3, .ref (b + 431)), (2, .ref (b + 405)), (1, .ref (b + 0)), (0, .ref bS)] _
  refine z_seti (y := 47) hu.1 ?_
  refine z_istore (lv' := [(6, .int 47), (5, .int 0), (4, .int 0), (3, .ref (b + 431)), (2, .ref (b + 405)), (1, .ref (b + 0)), (0, .ref bS)]) B dL_law_816 (by decide) rfl ?_
  refine z_aload_n B dL_law_818 rfl 4 rfl ?_
  refine z_cVi (As := []) (rest := []) B cw_L_80 cx_10 dL_law_819 (ci_X9_thrown_95 l (σ := (ap b σ [(405, 1, 47), (405, 1, 46), (405, 1, 45), (405, 1, 44), (405, 1, 43), (405, 1, 42), (405, 1, 41), (405, 1, 40), (405, 1, 39), (405, 1, 38), (405, 1, 37), (405, 1, 36), (405, 1, 35), (405, 1, 34), (405, 1, 33), (405, 1, 32), (405, 1, 31), (405, 1, 30), (405, 1, 29), (405, 1, 28), (405, 1, 27), (405, 1, 26), (405, 1, 25), (405, 1, 24), (405, 1, 23), (405, 1, 22), (405, 1, 21), (405, 1, 20), (405, 1, 19), (405, 1, 18), (405, 1, 17), (405, 1, 16), (405, 1, 15), (405, 1, 14), (405, 1, 13), (405, 1, 12), (405, 1, 11), (405, 1, 10), (405, 1, 9), (405, 1, 8), (405, 1, 7), (405, 1, 6), (405, 1, 5), (405, 1, 4), (405, 1, 3), (405, 1, 2), (405, 1, 1), (405, 0, 0), (0, 8, 47), (0, 8, 46), (0, 8, 45), (0, 8, 44), (0, 8, 43), (0, 8, 42), (0, 8, 41), (0, 8, 40), (0, 8, 39), (0, 8, 38), (0, 8, 37), (0, 8, 36), (0, 8, 35), (0, 8, 34), (0, 8, 33), (0, 8, 32), (0, 8, 31), (0, 8, 30), (0, 8, 29), (0, 8, 28), (0, 8, 27), (0, 8, 26), (0, 8, 25), (0, 8, 24), (0, 8, 23), (0, 8, 22), (0, 8, 21), (0, 8, 20), (0, 8, 19), (0, 8, 18), (0, 8, 17), (0, 8, 16), (0, 8, 15), (0, 8, 14), (0, 8, 13), (0, 8, 12), (0, 8, 11), (0, 8, 10), (0, 8, 9), (0, 8, 8), (0, 8, 7), (0, 8, 6), (0, 8, 5), (0, 8, 4), (0, 8, 3), (0, 8, 2), (0, 8, 1)] [(431, 0, 47)] [])) (b := b) (lyA hK) (rI_at 405 0 rfl)) (lKA (hk_K hK 405 rfl rfl)) rfl (by decide) rfl (Nat.le_of_ble_eq_true rfl) (by decide) (fun r u hu => ?_)
  refine z_eqs (σ' := (ap b σ [(405, 1, 47), (405, 1, 46), (405, 1, 45), (405, 1, 44), (405, 1, 43), (405, 1, 42), (405, 1, 41), (405, 1, 40), (405, 1, 39), (405, 1, 38), (405, 1, 37), (405, 1, 36), (405, 1, 35), (405, 1, 34), (405, 1, 33), (405, 1, 32), (405, 1, 31), (405, 1, 30), (405, 1, 29), (405, 1, 28), (405, 1, 27), (405, 1, 26), (405, 1, 25), (405, 1, 24), (405, 1, 23), (405, 1, 22), (405, 1, 21), (405, 1, 20), (405, 1, 19), (405, 1, 18), (405, 1, 17), (405, 1, 16), (405, 1, 15), (405, 1, 14), (405, 1, 13), (405, 1, 12), (405, 1, 11), (405, 1, 10), (405, 1, 9), (405, 1, 8), (405, 1, 7), (405, 1, 6), (405, 1, 5), (405, 1, 4), (405, 1, 3), (405, 1, 2), (405, 1, 1), (405, 0, 0), (0, 8, 47), (0, 8, 46), (0, 8, 45), (0, 8, 44), (0, 8, 43), (0, 8, 42), (0, 8, 41), (0, 8, 40), (0, 8, 39), (0, 8, 38), (0, 8, 37), (0, 8, 36), (0, 8, 35), (0, 8, 34), (0, 8, 33), (0, 8, 32), (0, 8, 31), (0, 8, 30), (0, 8, 29), (0, 8, 28), (0, 8, 27), (0, 8, 26), (0, 8, 25), (0, 8, 24), (0, 8, 23), (0, 8, 22), (0, 8, 21), (0, 8, 20), (0, 8, 19), (0, 8, 18), (0, 8, 17), (0, 8, 16), (0, 8, 15), (0, 8, 14), (0, 8, 13), (0, 8, 12), (0, 8, 11), (0, 8, 10), (0, 8, 9), (0, 8, 8), (0, 8, 7), (0, 8, 6), (0, 8, 5), (0, 8, 4), (0, 8, 3), (0, 8, 2), (0, 8, 1)] [(431, 0, 47)] [])) hu.2 ?_
  show zx p l e _ s m _ below meth c g 8 _ _ _ _ 822 [(6, .int 47), (5, .int 0), (4, .int 0), (3, .ref (b + 431)), (2, .ref (b + 405)), (1, .ref (b + 0)), (0, .ref bS)] _
  refine z_seti (y := 0) hu.1 ?_
  refine z_iload B dL_law_822 1 rfl ?_
  refine z_icmp_eq (tgt := 829) B dL_law_824 (by decide) (fun _ => ?_) (fun h => absurd (by decide) h)
  refine z_iload B dL_law_829 1 rfl ?_
  refine z_if_ne (tgt := 846) B dL_law_831 (by decide) (fun h => absurd (by decide) h) (fun _ => ?_)
  refine z_aload_n B dL_law_834 rfl 3 rfl ?_
  refine z_iconst (v := 0) B dL_law_835 (by decide) ?_
  refine z_lald (j := 0) (x := 47) B (lKA (hk_K hK 431 rfl rfl)) (by decide) (in_of (lNA (hk_N hK 431 rfl rfl)) (show ¬ ((0 : Int32) < 0 ∨ 1 ≤ (0 : Int32).toNatClampNeg) by decide)) (rJ_at 431 0 rfl) dL_law_836 ?_
  refine z_iload B dL_law_837 0 rfl ?_
  refine z_i2l (v := 47) B dL_law_839 (by decide) ?_
  refine z_lcmp (v := 0) B dL_law_840 (by decide) ?_
  refine z_if_eq (tgt := 846) B dL_law_841 (by decide) (fun _ => ?_) (fun h => absurd (by decide) h)
  refine z_goto (tgt := 1395) B dL_law_846 (by decide) ?_
  exact z_widen (Nat.le_of_ble_eq_true rfl) (Nat.le_of_ble_eq_true rfl) (z_sub _ [2, 6] rfl (kk _))
set_option maxRecDepth 100000 in
set_option maxHeartbeats 4000000 in
theorem lf_11_379 {p : Program} {l : Launch} {e : Env} {s : State} {m : MethodId} {args : Array Value} {below : List Frame} {meth : Method} {c : Code} {g : gx_T} {Q : State → Prop} {σ : sx_T} {b t bS : Nat} {xs : Nat → Int32} (hlt : l.stackTraces = false) (B : zx_B p s m args meth c code RL 8 g) (hX : va_X bS 6 xs s s.heap) (hbl : bS < s.heap.size) (hbA : ¬ gx_b g ≤ bS) (hF : fz_P b t σ) (h_x1 : xs 1 = 48) (kk : ∀ σ', zx p l e room_1 s m args below meth c g 8 600002 7302232 Q σ' 1395 [(4, .int 0), (0, .ref bS)] []) : zx p l e room_1 s m args below meth c g 8 500 100000 Q σ 793 [(4, .int 0), (3, .ref (b + 431)), (2, .ref (b + 405)), (1, .ref (b + 0)), (0, .ref bS)] [] := by
  have hK := fz_lay hF
  refine z_eqs (σ' := (ap b σ [] [] [])) rfl ?_
  refine z_aload_n B dL_law_793 rfl 3 rfl ?_
  refine z_aload_n B dL_law_794 rfl 4 rfl ?_
  refine z_iload B dL_law_795 0 rfl ?_
  refine z_iconst (v := 1) B dL_law_797 (by decide) ?_
  refine z_iadd B dL_law_798 ?_
  refine z_seti (y := 1) (by decide) ?_
  refine z_sld (j := 1) (x := 48) B hX hbl hbA (by decide) (show ¬ ((1 : Int32) < 0 ∨ 6 ≤ (1 : Int32).toNatClampNeg) by decide) h_x1 dL_law_799 ?_
  refine z_aload_n B dL_law_800 rfl 1 rfl ?_
  refine z_cSWi (As := [.ref (b + 0), .int 48, .ref (b + 431)]) (rest := []) B cw_L_121 dL_law_801 (ci_L_tick_1158 l (σ := (ap b σ [] [] [])) (b := b) (lyA hK) (rI_at 0 7 (fz_I hF 0 7 rfl rfl)) (rI_at 0 8 (fz_I hF 0 8 rfl rfl)) (rI_at 4 2 (fz_I hF 4 2 rfl rfl)) (rR_at 0 3 (fz_R hF 0 3 rfl rfl))) rfl (by decide) rfl (Nat.le_of_ble_eq_true rfl) (by decide) (fun r u hu => ?_)
  refine z_eqs (σ' := (ap b σ [(0, 8, 48), (0, 8, 47), (0, 8, 46), (0, 8, 45), (0, 8, 44), (0, 8, 43), (0, 8, 42), (0, 8, 41), (0, 8, 40), (0, 8, 39), (0, 8, 38), (0, 8, 37), (0, 8, 36), (0, 8, 35), (0, 8, 34), (0, 8, 33), (0, 8, 32), (0, 8, 31), (0, 8, 30), (0, 8, 29), (0, 8, 28), (0, 8, 27), (0, 8, 26), (0, 8, 25), (0, 8, 24), (0, 8, 23), (0, 8, 22), (0, 8, 21), (0, 8, 20), (0, 8, 19), (0, 8, 18), (0, 8, 17), (0, 8, 16), (0, 8, 15), (0, 8, 14), (0, 8, 13), (0, 8, 12), (0, 8, 11), (0, 8, 10), (0, 8, 9), (0, 8, 8), (0, 8, 7), (0, 8, 6), (0, 8, 5), (0, 8, 4), (0, 8, 3), (0, 8, 2), (0, 8, 1)] [(431, 0, 48)] [])) (hu.2.trans ap_ap) ?_
  show zx p l e _ s m _ below meth c g 8 _ _ _ _ 804 [(4, .int 0), (3, .ref (b + 431)), (2, .ref (b + 405)), (1, .ref (b + 0)), (0, .ref bS)] _
  refine z_seti (y := 0) hu.1 ?_
  refine z_istore (lv' := [(5, .int 0), (4, .int 0), (3, .ref (b + 431)), (2, .ref (b + 405)), (1, .ref (b + 0)), (0, .ref bS)]) B dL_law_804 (by decide) rfl ?_
  refine z_aload_n B dL_law_806 rfl 3 rfl ?_
  refine z_aload_n B dL_law_807 rfl 5 rfl ?_
  refine z_iload B dL_law_808 1 rfl ?_
  refine z_iconst (v := 1) B dL_law_810 (by decide) ?_
  refine z_iadd B dL_law_811 ?_
  refine z_seti (y := 1) (by decide) ?_
  refine z_sld (j := 1) (x := 48) B hX hbl hbA (by decide) (show ¬ ((1 : Int32) < 0 ∨ 6 ≤ (1 : Int32).toNatClampNeg) by decide) h_x1 dL_law_812 ?_
  refine z_cVi (As := [.int 48]) (rest := []) B cw_L_123 cx_10 dL_law_813 (ci_X9_tick_1161 l (σ := (ap b σ [(0, 8, 48), (0, 8, 47), (0, 8, 46), (0, 8, 45), (0, 8, 44), (0, 8, 43), (0, 8, 42), (0, 8, 41), (0, 8, 40), (0, 8, 39), (0, 8, 38), (0, 8, 37), (0, 8, 36), (0, 8, 35), (0, 8, 34), (0, 8, 33), (0, 8, 32), (0, 8, 31), (0, 8, 30), (0, 8, 29), (0, 8, 28), (0, 8, 27), (0, 8, 26), (0, 8, 25), (0, 8, 24), (0, 8, 23), (0, 8, 22), (0, 8, 21), (0, 8, 20), (0, 8, 19), (0, 8, 18), (0, 8, 17), (0, 8, 16), (0, 8, 15), (0, 8, 14), (0, 8, 13), (0, 8, 12), (0, 8, 11), (0, 8, 10), (0, 8, 9), (0, 8, 8), (0, 8, 7), (0, 8, 6), (0, 8, 5), (0, 8, 4), (0, 8, 3), (0, 8, 2), (0, 8, 1)] [(431, 0, 48)] [])) (b := b) (lyA hK) (rI_at 405 1 (fz_I hF 405 1 rfl rfl)) (rI_at 405 6 (fz_I hF 405 6 rfl rfl)) (rI_at 405 16 (fz_I hF 405 16 rfl rfl))) (lKA (hk_K hK 405 rfl rfl)) rfl (by decide) rfl (Nat.le_of_ble_eq_true rfl) (by decide) (fun r u hu => ?_)
  refine z_eqs (σ' := (ap b σ [(405, 1, 48), (405, 1, 47), (405, 1, 46), (405, 1, 45), (405, 1, 44), (405, 1, 43), (405, 1, 42), (405, 1, 41), (405, 1, 40), (405, 1, 39), (405, 1, 38), (405, 1, 37), (405, 1, 36), (405, 1, 35), (405, 1, 34), (405, 1, 33), (405, 1, 32), (405, 1, 31), (405, 1, 30), (405, 1, 29), (405, 1, 28), (405, 1, 27), (405, 1, 26), (405, 1, 25), (405, 1, 24), (405, 1, 23), (405, 1, 22), (405, 1, 21), (405, 1, 20), (405, 1, 19), (405, 1, 18), (405, 1, 17), (405, 1, 16), (405, 1, 15), (405, 1, 14), (405, 1, 13), (405, 1, 12), (405, 1, 11), (405, 1, 10), (405, 1, 9), (405, 1, 8), (405, 1, 7), (405, 1, 6), (405, 1, 5), (405, 1, 4), (405, 1, 3), (405, 1, 2), (405, 1, 1), (405, 0, 0), (0, 8, 48), (0, 8, 47), (0, 8, 46), (0, 8, 45), (0, 8, 44), (0, 8, 43), (0, 8, 42), (0, 8, 41), (0, 8, 40), (0, 8, 39), (0, 8, 38), (0, 8, 37), (0, 8, 36), (0, 8, 35), (0, 8, 34), (0, 8, 33), (0, 8, 32), (0, 8, 31), (0, 8, 30), (0, 8, 29), (0, 8, 28), (0, 8, 27), (0, 8, 26), (0, 8, 25), (0, 8, 24), (0, 8, 23), (0, 8, 22), (0, 8, 21), (0, 8, 20), (0, 8, 19), (0, 8, 18), (0, 8, 17), (0, 8, 16), (0, 8, 15), (0, 8, 14), (0, 8, 13), (0, 8, 12), (0, 8, 11), (0, 8, 10), (0, 8, 9), (0, 8, 8), (0, 8, 7), (0, 8, 6), (0, 8, 5), (0, 8, 4), (0, 8, 3), (0, 8, 2), (0, 8, 1)] [(431, 0, 48)] [])) (hu.2.trans ap_ap) ?_
  show zx p l e _ s m _ below meth c g 8 _ _ _ _ 816 [(5, .int 0), (4, .int 0), (3, .ref (b + 431)), (2, .ref (b + 405)), (1, .ref (b + 0)), (0, .ref bS)] _
  refine z_seti (y := 48) hu.1 ?_
  refine z_istore (lv' := [(6, .int 48), (5, .int 0), (4, .int 0), (3, .ref (b + 431)), (2, .ref (b + 405)), (1, .ref (b + 0)), (0, .ref bS)]) B dL_law_816 (by decide) rfl ?_
  refine z_aload_n B dL_law_818 rfl 4 rfl ?_
  refine z_cVi (As := []) (rest := []) B cw_L_80 cx_10 dL_law_819 (ci_X9_thrown_95 l (σ := (ap b σ [(405, 1, 48), (405, 1, 47), (405, 1, 46), (405, 1, 45), (405, 1, 44), (405, 1, 43), (405, 1, 42), (405, 1, 41), (405, 1, 40), (405, 1, 39), (405, 1, 38), (405, 1, 37), (405, 1, 36), (405, 1, 35), (405, 1, 34), (405, 1, 33), (405, 1, 32), (405, 1, 31), (405, 1, 30), (405, 1, 29), (405, 1, 28), (405, 1, 27), (405, 1, 26), (405, 1, 25), (405, 1, 24), (405, 1, 23), (405, 1, 22), (405, 1, 21), (405, 1, 20), (405, 1, 19), (405, 1, 18), (405, 1, 17), (405, 1, 16), (405, 1, 15), (405, 1, 14), (405, 1, 13), (405, 1, 12), (405, 1, 11), (405, 1, 10), (405, 1, 9), (405, 1, 8), (405, 1, 7), (405, 1, 6), (405, 1, 5), (405, 1, 4), (405, 1, 3), (405, 1, 2), (405, 1, 1), (405, 0, 0), (0, 8, 48), (0, 8, 47), (0, 8, 46), (0, 8, 45), (0, 8, 44), (0, 8, 43), (0, 8, 42), (0, 8, 41), (0, 8, 40), (0, 8, 39), (0, 8, 38), (0, 8, 37), (0, 8, 36), (0, 8, 35), (0, 8, 34), (0, 8, 33), (0, 8, 32), (0, 8, 31), (0, 8, 30), (0, 8, 29), (0, 8, 28), (0, 8, 27), (0, 8, 26), (0, 8, 25), (0, 8, 24), (0, 8, 23), (0, 8, 22), (0, 8, 21), (0, 8, 20), (0, 8, 19), (0, 8, 18), (0, 8, 17), (0, 8, 16), (0, 8, 15), (0, 8, 14), (0, 8, 13), (0, 8, 12), (0, 8, 11), (0, 8, 10), (0, 8, 9), (0, 8, 8), (0, 8, 7), (0, 8, 6), (0, 8, 5), (0, 8, 4), (0, 8, 3), (0, 8, 2), (0, 8, 1)] [(431, 0, 48)] [])) (b := b) (lyA hK) (rI_at 405 0 rfl)) (lKA (hk_K hK 405 rfl rfl)) rfl (by decide) rfl (Nat.le_of_ble_eq_true rfl) (by decide) (fun r u hu => ?_)
  refine z_eqs (σ' := (ap b σ [(405, 1, 48), (405, 1, 47), (405, 1, 46), (405, 1, 45), (405, 1, 44), (405, 1, 43), (405, 1, 42), (405, 1, 41), (405, 1, 40), (405, 1, 39), (405, 1, 38), (405, 1, 37), (405, 1, 36), (405, 1, 35), (405, 1, 34), (405, 1, 33), (405, 1, 32), (405, 1, 31), (405, 1, 30), (405, 1, 29), (405, 1, 28), (405, 1, 27), (405, 1, 26), (405, 1, 25), (405, 1, 24), (405, 1, 23), (405, 1, 22), (405, 1, 21), (405, 1, 20), (405, 1, 19), (405, 1, 18), (405, 1, 17), (405, 1, 16), (405, 1, 15), (405, 1, 14), (405, 1, 13), (405, 1, 12), (405, 1, 11), (405, 1, 10), (405, 1, 9), (405, 1, 8), (405, 1, 7), (405, 1, 6), (405, 1, 5), (405, 1, 4), (405, 1, 3), (405, 1, 2), (405, 1, 1), (405, 0, 0), (0, 8, 48), (0, 8, 47), (0, 8, 46), (0, 8, 45), (0, 8, 44), (0, 8, 43), (0, 8, 42), (0, 8, 41), (0, 8, 40), (0, 8, 39), (0, 8, 38), (0, 8, 37), (0, 8, 36), (0, 8, 35), (0, 8, 34), (0, 8, 33), (0, 8, 32), (0, 8, 31), (0, 8, 30), (0, 8, 29), (0, 8, 28), (0, 8, 27), (0, 8, 26), (0, 8, 25), (0, 8, 24), (0, 8, 23), (0, 8, 22), (0, 8, 21), (0, 8, 20), (0, 8, 19), (0, 8, 18), (0, 8, 17), (0, 8, 16), (0, 8, 15), (0, 8, 14), (0, 8, 13), (0, 8, 12), (0, 8, 11), (0, 8, 10), (0, 8, 9), (0, 8, 8), (0, 8, 7), (0, 8, 6), (0, 8, 5), (0, 8, 4), (0, 8, 3), (0, 8, 2), (0, 8, 1)] [(431, 0, 48)] [])) hu.2 ?_
  show zx p l e _ s m _ below meth c g 8 _ _ _ _ 822 [(6, .int 48), (5, .int 0), (4, .int 0), (3, .ref (b + 431)), (2, .ref (b + 405)), (1, .ref (b + 0)), (0, .ref bS)] _
  refine z_seti (y := 0) hu.1 ?_
  refine z_iload B dL_law_822 1 rfl ?_
  refine z_icmp_eq (tgt := 829) B dL_law_824 (by decide) (fun _ => ?_) (fun h => absurd (by decide) h)
  refine z_iload B dL_law_829 1 rfl ?_
  refine z_if_ne (tgt := 846) B dL_law_831 (by decide) (fun h => absurd (by decide) h) (fun _ => ?_)
  refine z_aload_n B dL_law_834 rfl 3 rfl ?_
  refine z_iconst (v := 0) B dL_law_835 (by decide) ?_
  refine z_lald (j := 0) (x := 48) B (lKA (hk_K hK 431 rfl rfl)) (by decide) (in_of (lNA (hk_N hK 431 rfl rfl)) (show ¬ ((0 : Int32) < 0 ∨ 1 ≤ (0 : Int32).toNatClampNeg) by decide)) (rJ_at 431 0 rfl) dL_law_836 ?_
  refine z_iload B dL_law_837 0 rfl ?_
  refine z_i2l (v := 48) B dL_law_839 (by decide) ?_
  refine z_lcmp (v := 0) B dL_law_840 (by decide) ?_
  refine z_if_eq (tgt := 846) B dL_law_841 (by decide) (fun _ => ?_) (fun h => absurd (by decide) h)
  refine z_goto (tgt := 1395) B dL_law_846 (by decide) ?_
  exact z_widen (Nat.le_of_ble_eq_true rfl) (Nat.le_of_ble_eq_true rfl) (z_sub _ [2, 6] rfl (kk _))
set_option maxRecDepth 100000 in
set_option maxHeartbeats 4000000 in
theorem lf_11_380 {p : Program} {l : Launch} {e : Env} {s : State} {m : MethodId} {args : Array Value} {below : List Frame} {meth : Method} {c : Code} {g : gx_T} {Q : State → Prop} {σ : sx_T} {b t bS : Nat} {xs : Nat → Int32} (hlt : l.stackTraces = false) (B : zx_B p s m args meth c code RL 8 g) (hX : va_X bS 6 xs s s.heap) (hbl : bS < s.heap.size) (hbA : ¬ gx_b g ≤ bS) (hF : fz_P b t σ) (h_x1 : xs 1 = 49) (kk : ∀ σ', zx p l e room_1 s m args below meth c g 8 600002 7302232 Q σ' 1395 [(4, .int 0), (0, .ref bS)] []) : zx p l e room_1 s m args below meth c g 8 500 100000 Q σ 793 [(4, .int 0), (3, .ref (b + 431)), (2, .ref (b + 405)), (1, .ref (b + 0)), (0, .ref bS)] [] := by
  have hK := fz_lay hF
  refine z_eqs (σ' := (ap b σ [] [] [])) rfl ?_
  refine z_aload_n B dL_law_793 rfl 3 rfl ?_
  refine z_aload_n B dL_law_794 rfl 4 rfl ?_
  refine z_iload B dL_law_795 0 rfl ?_
  refine z_iconst (v := 1) B dL_law_797 (by decide) ?_
  refine z_iadd B dL_law_798 ?_
  refine z_seti (y := 1) (by decide) ?_
  refine z_sld (j := 1) (x := 49) B hX hbl hbA (by decide) (show ¬ ((1 : Int32) < 0 ∨ 6 ≤ (1 : Int32).toNatClampNeg) by decide) h_x1 dL_law_799 ?_
  refine z_aload_n B dL_law_800 rfl 1 rfl ?_
  refine z_cSWi (As := [.ref (b + 0), .int 49, .ref (b + 431)]) (rest := []) B cw_L_121 dL_law_801 (ci_L_tick_1163 l (σ := (ap b σ [] [] [])) (b := b) (lyA hK) (rI_at 0 7 (fz_I hF 0 7 rfl rfl)) (rI_at 0 8 (fz_I hF 0 8 rfl rfl)) (rI_at 4 2 (fz_I hF 4 2 rfl rfl)) (rR_at 0 3 (fz_R hF 0 3 rfl rfl))) rfl (by decide) rfl (Nat.le_of_ble_eq_true rfl) (by decide) (fun r u hu => ?_)
  refine z_eqs (σ' := (ap b σ [(0, 8, 49), (0, 8, 48), (0, 8, 47), (0, 8, 46), (0, 8, 45), (0, 8, 44), (0, 8, 43), (0, 8, 42), (0, 8, 41), (0, 8, 40), (0, 8, 39), (0, 8, 38), (0, 8, 37), (0, 8, 36), (0, 8, 35), (0, 8, 34), (0, 8, 33), (0, 8, 32), (0, 8, 31), (0, 8, 30), (0, 8, 29), (0, 8, 28), (0, 8, 27), (0, 8, 26), (0, 8, 25), (0, 8, 24), (0, 8, 23), (0, 8, 22), (0, 8, 21), (0, 8, 20), (0, 8, 19), (0, 8, 18), (0, 8, 17), (0, 8, 16), (0, 8, 15), (0, 8, 14), (0, 8, 13), (0, 8, 12), (0, 8, 11), (0, 8, 10), (0, 8, 9), (0, 8, 8), (0, 8, 7), (0, 8, 6), (0, 8, 5), (0, 8, 4), (0, 8, 3), (0, 8, 2), (0, 8, 1)] [(431, 0, 49)] [])) (hu.2.trans ap_ap) ?_
  show zx p l e _ s m _ below meth c g 8 _ _ _ _ 804 [(4, .int 0), (3, .ref (b + 431)), (2, .ref (b + 405)), (1, .ref (b + 0)), (0, .ref bS)] _
  refine z_seti (y := 0) hu.1 ?_
  refine z_istore (lv' := [(5, .int 0), (4, .int 0), (3, .ref (b + 431)), (2, .ref (b + 405)), (1, .ref (b + 0)), (0, .ref bS)]) B dL_law_804 (by decide) rfl ?_
  refine z_aload_n B dL_law_806 rfl 3 rfl ?_
  refine z_aload_n B dL_law_807 rfl 5 rfl ?_
  refine z_iload B dL_law_808 1 rfl ?_
  refine z_iconst (v := 1) B dL_law_810 (by decide) ?_
  refine z_iadd B dL_law_811 ?_
  refine z_seti (y := 1) (by decide) ?_
  refine z_sld (j := 1) (x := 49) B hX hbl hbA (by decide) (show ¬ ((1 : Int32) < 0 ∨ 6 ≤ (1 : Int32).toNatClampNeg) by decide) h_x1 dL_law_812 ?_
  refine z_cVi (As := [.int 49]) (rest := []) B cw_L_123 cx_10 dL_law_813 (ci_X9_tick_1166 l (σ := (ap b σ [(0, 8, 49), (0, 8, 48), (0, 8, 47), (0, 8, 46), (0, 8, 45), (0, 8, 44), (0, 8, 43), (0, 8, 42), (0, 8, 41), (0, 8, 40), (0, 8, 39), (0, 8, 38), (0, 8, 37), (0, 8, 36), (0, 8, 35), (0, 8, 34), (0, 8, 33), (0, 8, 32), (0, 8, 31), (0, 8, 30), (0, 8, 29), (0, 8, 28), (0, 8, 27), (0, 8, 26), (0, 8, 25), (0, 8, 24), (0, 8, 23), (0, 8, 22), (0, 8, 21), (0, 8, 20), (0, 8, 19), (0, 8, 18), (0, 8, 17), (0, 8, 16), (0, 8, 15), (0, 8, 14), (0, 8, 13), (0, 8, 12), (0, 8, 11), (0, 8, 10), (0, 8, 9), (0, 8, 8), (0, 8, 7), (0, 8, 6), (0, 8, 5), (0, 8, 4), (0, 8, 3), (0, 8, 2), (0, 8, 1)] [(431, 0, 49)] [])) (b := b) (lyA hK) (rI_at 405 1 (fz_I hF 405 1 rfl rfl)) (rI_at 405 6 (fz_I hF 405 6 rfl rfl)) (rI_at 405 16 (fz_I hF 405 16 rfl rfl))) (lKA (hk_K hK 405 rfl rfl)) rfl (by decide) rfl (Nat.le_of_ble_eq_true rfl) (by decide) (fun r u hu => ?_)
  refine z_eqs (σ' := (ap b σ [(405, 1, 49), (405, 1, 48), (405, 1, 47), (405, 1, 46), (405, 1, 45), (405, 1, 44), (405, 1, 43), (405, 1, 42), (405, 1, 41), (405, 1, 40), (405, 1, 39), (405, 1, 38), (405, 1, 37), (405, 1, 36), (405, 1, 35), (405, 1, 34), (405, 1, 33), (405, 1, 32), (405, 1, 31), (405, 1, 30), (405, 1, 29), (405, 1, 28), (405, 1, 27), (405, 1, 26), (405, 1, 25), (405, 1, 24), (405, 1, 23), (405, 1, 22), (405, 1, 21), (405, 1, 20), (405, 1, 19), (405, 1, 18), (405, 1, 17), (405, 1, 16), (405, 1, 15), (405, 1, 14), (405, 1, 13), (405, 1, 12), (405, 1, 11), (405, 1, 10), (405, 1, 9), (405, 1, 8), (405, 1, 7), (405, 1, 6), (405, 1, 5), (405, 1, 4), (405, 1, 3), (405, 1, 2), (405, 1, 1), (405, 0, 0), (0, 8, 49), (0, 8, 48), (0, 8, 47), (0, 8, 46), (0, 8, 45), (0, 8, 44), (0, 8, 43), (0, 8, 42), (0, 8, 41), (0, 8, 40), (0, 8, 39), (0, 8, 38), (0, 8, 37), (0, 8, 36), (0, 8, 35), (0, 8, 34), (0, 8, 33), (0, 8, 32), (0, 8, 31), (0, 8, 30), (0, 8, 29), (0, 8, 28), (0, 8, 27), (0, 8, 26), (0, 8, 25), (0, 8, 24), (0, 8, 23), (0, 8, 22), (0, 8, 21), (0, 8, 20), (0, 8, 19), (0, 8, 18), (0, 8, 17), (0, 8, 16), (0, 8, 15), (0, 8, 14), (0, 8, 13), (0, 8, 12), (0, 8, 11), (0, 8, 10), (0, 8, 9), (0, 8, 8), (0, 8, 7), (0, 8, 6), (0, 8, 5), (0, 8, 4), (0, 8, 3), (0, 8, 2), (0, 8, 1)] [(431, 0, 49)] [])) (hu.2.trans ap_ap) ?_
  show zx p l e _ s m _ below meth c g 8 _ _ _ _ 816 [(5, .int 0), (4, .int 0), (3, .ref (b + 431)), (2, .ref (b + 405)), (1, .ref (b + 0)), (0, .ref bS)] _
  refine z_seti (y := 49) hu.1 ?_
  refine z_istore (lv' := [(6, .int 49), (5, .int 0), (4, .int 0), (3, .ref (b + 431)), (2, .ref (b + 405)), (1, .ref (b + 0)), (0, .ref bS)]) B dL_law_816 (by decide) rfl ?_
  refine z_aload_n B dL_law_818 rfl 4 rfl ?_
  refine z_cVi (As := []) (rest := []) B cw_L_80 cx_10 dL_law_819 (ci_X9_thrown_95 l (σ := (ap b σ [(405, 1, 49), (405, 1, 48), (405, 1, 47), (405, 1, 46), (405, 1, 45), (405, 1, 44), (405, 1, 43), (405, 1, 42), (405, 1, 41), (405, 1, 40), (405, 1, 39), (405, 1, 38), (405, 1, 37), (405, 1, 36), (405, 1, 35), (405, 1, 34), (405, 1, 33), (405, 1, 32), (405, 1, 31), (405, 1, 30), (405, 1, 29), (405, 1, 28), (405, 1, 27), (405, 1, 26), (405, 1, 25), (405, 1, 24), (405, 1, 23), (405, 1, 22), (405, 1, 21), (405, 1, 20), (405, 1, 19), (405, 1, 18), (405, 1, 17), (405, 1, 16), (405, 1, 15), (405, 1, 14), (405, 1, 13), (405, 1, 12), (405, 1, 11), (405, 1, 10), (405, 1, 9), (405, 1, 8), (405, 1, 7), (405, 1, 6), (405, 1, 5), (405, 1, 4), (405, 1, 3), (405, 1, 2), (405, 1, 1), (405, 0, 0), (0, 8, 49), (0, 8, 48), (0, 8, 47), (0, 8, 46), (0, 8, 45), (0, 8, 44), (0, 8, 43), (0, 8, 42), (0, 8, 41), (0, 8, 40), (0, 8, 39), (0, 8, 38), (0, 8, 37), (0, 8, 36), (0, 8, 35), (0, 8, 34), (0, 8, 33), (0, 8, 32), (0, 8, 31), (0, 8, 30), (0, 8, 29), (0, 8, 28), (0, 8, 27), (0, 8, 26), (0, 8, 25), (0, 8, 24), (0, 8, 23), (0, 8, 22), (0, 8, 21), (0, 8, 20), (0, 8, 19), (0, 8, 18), (0, 8, 17), (0, 8, 16), (0, 8, 15), (0, 8, 14), (0, 8, 13), (0, 8, 12), (0, 8, 11), (0, 8, 10), (0, 8, 9), (0, 8, 8), (0, 8, 7), (0, 8, 6), (0, 8, 5), (0, 8, 4), (0, 8, 3), (0, 8, 2), (0, 8, 1)] [(431, 0, 49)] [])) (b := b) (lyA hK) (rI_at 405 0 rfl)) (lKA (hk_K hK 405 rfl rfl)) rfl (by decide) rfl (Nat.le_of_ble_eq_true rfl) (by decide) (fun r u hu => ?_)
  refine z_eqs (σ' := (ap b σ [(405, 1, 49), (405, 1, 48), (405, 1, 47), (405, 1, 46), (405, 1, 45), (405, 1, 44), (405, 1, 43), (405, 1, 42), (405, 1, 41), (405, 1, 40), (405, 1, 39), (405, 1, 38), (405, 1, 37), (405, 1, 36), (405, 1, 35), (405, 1, 34), (405, 1, 33), (405, 1, 32), (405, 1, 31), (405, 1, 30), (405, 1, 29), (405, 1, 28), (405, 1, 27), (405, 1, 26), (405, 1, 25), (405, 1, 24), (405, 1, 23), (405, 1, 22), (405, 1, 21), (405, 1, 20), (405, 1, 19), (405, 1, 18), (405, 1, 17), (405, 1, 16), (405, 1, 15), (405, 1, 14), (405, 1, 13), (405, 1, 12), (405, 1, 11), (405, 1, 10), (405, 1, 9), (405, 1, 8), (405, 1, 7), (405, 1, 6), (405, 1, 5), (405, 1, 4), (405, 1, 3), (405, 1, 2), (405, 1, 1), (405, 0, 0), (0, 8, 49), (0, 8, 48), (0, 8, 47), (0, 8, 46), (0, 8, 45), (0, 8, 44), (0, 8, 43), (0, 8, 42), (0, 8, 41), (0, 8, 40), (0, 8, 39), (0, 8, 38), (0, 8, 37), (0, 8, 36), (0, 8, 35), (0, 8, 34), (0, 8, 33), (0, 8, 32), (0, 8, 31), (0, 8, 30), (0, 8, 29), (0, 8, 28), (0, 8, 27), (0, 8, 26), (0, 8, 25), (0, 8, 24), (0, 8, 23), (0, 8, 22), (0, 8, 21), (0, 8, 20), (0, 8, 19), (0, 8, 18), (0, 8, 17), (0, 8, 16), (0, 8, 15), (0, 8, 14), (0, 8, 13), (0, 8, 12), (0, 8, 11), (0, 8, 10), (0, 8, 9), (0, 8, 8), (0, 8, 7), (0, 8, 6), (0, 8, 5), (0, 8, 4), (0, 8, 3), (0, 8, 2), (0, 8, 1)] [(431, 0, 49)] [])) hu.2 ?_
  show zx p l e _ s m _ below meth c g 8 _ _ _ _ 822 [(6, .int 49), (5, .int 0), (4, .int 0), (3, .ref (b + 431)), (2, .ref (b + 405)), (1, .ref (b + 0)), (0, .ref bS)] _
  refine z_seti (y := 0) hu.1 ?_
  refine z_iload B dL_law_822 1 rfl ?_
  refine z_icmp_eq (tgt := 829) B dL_law_824 (by decide) (fun _ => ?_) (fun h => absurd (by decide) h)
  refine z_iload B dL_law_829 1 rfl ?_
  refine z_if_ne (tgt := 846) B dL_law_831 (by decide) (fun h => absurd (by decide) h) (fun _ => ?_)
  refine z_aload_n B dL_law_834 rfl 3 rfl ?_
  refine z_iconst (v := 0) B dL_law_835 (by decide) ?_
  refine z_lald (j := 0) (x := 49) B (lKA (hk_K hK 431 rfl rfl)) (by decide) (in_of (lNA (hk_N hK 431 rfl rfl)) (show ¬ ((0 : Int32) < 0 ∨ 1 ≤ (0 : Int32).toNatClampNeg) by decide)) (rJ_at 431 0 rfl) dL_law_836 ?_
  refine z_iload B dL_law_837 0 rfl ?_
  refine z_i2l (v := 49) B dL_law_839 (by decide) ?_
  refine z_lcmp (v := 0) B dL_law_840 (by decide) ?_
  refine z_if_eq (tgt := 846) B dL_law_841 (by decide) (fun _ => ?_) (fun h => absurd (by decide) h)
  refine z_goto (tgt := 1395) B dL_law_846 (by decide) ?_
  exact z_widen (Nat.le_of_ble_eq_true rfl) (Nat.le_of_ble_eq_true rfl) (z_sub _ [2, 6] rfl (kk _))
set_option maxRecDepth 100000 in
set_option maxHeartbeats 4000000 in
theorem lf_11_381 {p : Program} {l : Launch} {e : Env} {s : State} {m : MethodId} {args : Array Value} {below : List Frame} {meth : Method} {c : Code} {g : gx_T} {Q : State → Prop} {σ : sx_T} {b t bS : Nat} {xs : Nat → Int32} (hlt : l.stackTraces = false) (B : zx_B p s m args meth c code RL 8 g) (hX : va_X bS 6 xs s s.heap) (hbl : bS < s.heap.size) (hbA : ¬ gx_b g ≤ bS) (hF : fz_P b t σ) (h_x1 : xs 1 = 50) (kk : ∀ σ', zx p l e room_1 s m args below meth c g 8 600002 7302232 Q σ' 1395 [(4, .int 0), (0, .ref bS)] []) : zx p l e room_1 s m args below meth c g 8 500 100000 Q σ 793 [(4, .int 0), (3, .ref (b + 431)), (2, .ref (b + 405)), (1, .ref (b + 0)), (0, .ref bS)] [] := by
  have hK := fz_lay hF
  refine z_eqs (σ' := (ap b σ [] [] [])) rfl ?_
  refine z_aload_n B dL_law_793 rfl 3 rfl ?_
  refine z_aload_n B dL_law_794 rfl 4 rfl ?_
  refine z_iload B dL_law_795 0 rfl ?_
  refine z_iconst (v := 1) B dL_law_797 (by decide) ?_
  refine z_iadd B dL_law_798 ?_
  refine z_seti (y := 1) (by decide) ?_
  refine z_sld (j := 1) (x := 50) B hX hbl hbA (by decide) (show ¬ ((1 : Int32) < 0 ∨ 6 ≤ (1 : Int32).toNatClampNeg) by decide) h_x1 dL_law_799 ?_
  refine z_aload_n B dL_law_800 rfl 1 rfl ?_
  refine z_cSWi (As := [.ref (b + 0), .int 50, .ref (b + 431)]) (rest := []) B cw_L_121 dL_law_801 (ci_L_tick_1168 l (σ := (ap b σ [] [] [])) (b := b) (lyA hK) (rI_at 0 7 (fz_I hF 0 7 rfl rfl)) (rI_at 0 8 (fz_I hF 0 8 rfl rfl)) (rI_at 4 2 (fz_I hF 4 2 rfl rfl)) (rR_at 0 3 (fz_R hF 0 3 rfl rfl))) rfl (by decide) rfl (Nat.le_of_ble_eq_true rfl) (by decide) (fun r u hu => ?_)
  refine z_eqs (σ' := (ap b σ [(0, 8, 50), (0, 8, 49), (0, 8, 48), (0, 8, 47), (0, 8, 46), (0, 8, 45), (0, 8, 44), (0, 8, 43), (0, 8, 42), (0, 8, 41), (0, 8, 40), (0, 8, 39), (0, 8, 38), (0, 8, 37), (0, 8, 36), (0, 8, 35), (0, 8, 34), (0, 8, 33), (0, 8, 32), (0, 8, 31), (0, 8, 30), (0, 8, 29), (0, 8, 28), (0, 8, 27), (0, 8, 26), (0, 8, 25), (0, 8, 24), (0, 8, 23), (0, 8, 22), (0, 8, 21), (0, 8, 20), (0, 8, 19), (0, 8, 18), (0, 8, 17), (0, 8, 16), (0, 8, 15), (0, 8, 14), (0, 8, 13), (0, 8, 12), (0, 8, 11), (0, 8, 10), (0, 8, 9), (0, 8, 8), (0, 8, 7), (0, 8, 6), (0, 8, 5), (0, 8, 4), (0, 8, 3), (0, 8, 2), (0, 8, 1)] [(431, 0, 50)] [])) (hu.2.trans ap_ap) ?_
  show zx p l e _ s m _ below meth c g 8 _ _ _ _ 804 [(4, .int 0), (3, .ref (b + 431)), (2, .ref (b + 405)), (1, .ref (b + 0)), (0, .ref bS)] _
  refine z_seti (y := 0) hu.1 ?_
  refine z_istore (lv' := [(5, .int 0), (4, .int 0), (3, .ref (b + 431)), (2, .ref (b + 405)), (1, .ref (b + 0)), (0, .ref bS)]) B dL_law_804 (by decide) rfl ?_
  refine z_aload_n B dL_law_806 rfl 3 rfl ?_
  refine z_aload_n B dL_law_807 rfl 5 rfl ?_
  refine z_iload B dL_law_808 1 rfl ?_
  refine z_iconst (v := 1) B dL_law_810 (by decide) ?_
  refine z_iadd B dL_law_811 ?_
  refine z_seti (y := 1) (by decide) ?_
  refine z_sld (j := 1) (x := 50) B hX hbl hbA (by decide) (show ¬ ((1 : Int32) < 0 ∨ 6 ≤ (1 : Int32).toNatClampNeg) by decide) h_x1 dL_law_812 ?_
  refine z_cVi (As := [.int 50]) (rest := []) B cw_L_123 cx_10 dL_law_813 (ci_X9_tick_1171 l (σ := (ap b σ [(0, 8, 50), (0, 8, 49), (0, 8, 48), (0, 8, 47), (0, 8, 46), (0, 8, 45), (0, 8, 44), (0, 8, 43), (0, 8, 42), (0, 8, 41), (0, 8, 40), (0, 8, 39), (0, 8, 38), (0, 8, 37), (0, 8, 36), (0, 8, 35), (0, 8, 34), (0, 8, 33), (0, 8, 32), (0, 8, 31), (0, 8, 30), (0, 8, 29), (0, 8, 28), (0, 8, 27), (0, 8, 26), (0, 8, 25), (0, 8, 24), (0, 8, 23), (0, 8, 22), (0, 8, 21), (0, 8, 20), (0, 8, 19), (0, 8, 18), (0, 8, 17), (0, 8, 16), (0, 8, 15), (0, 8, 14), (0, 8, 13), (0, 8, 12), (0, 8, 11), (0, 8, 10), (0, 8, 9), (0, 8, 8), (0, 8, 7), (0, 8, 6), (0, 8, 5), (0, 8, 4), (0, 8, 3), (0, 8, 2), (0, 8, 1)] [(431, 0, 50)] [])) (b := b) (lyA hK) (rI_at 405 1 (fz_I hF 405 1 rfl rfl)) (rI_at 405 6 (fz_I hF 405 6 rfl rfl)) (rI_at 405 16 (fz_I hF 405 16 rfl rfl))) (lKA (hk_K hK 405 rfl rfl)) rfl (by decide) rfl (Nat.le_of_ble_eq_true rfl) (by decide) (fun r u hu => ?_)
  refine z_eqs (σ' := (ap b σ [(405, 1, 50), (405, 1, 49), (405, 1, 48), (405, 1, 47), (405, 1, 46), (405, 1, 45), (405, 1, 44), (405, 1, 43), (405, 1, 42), (405, 1, 41), (405, 1, 40), (405, 1, 39), (405, 1, 38), (405, 1, 37), (405, 1, 36), (405, 1, 35), (405, 1, 34), (405, 1, 33), (405, 1, 32), (405, 1, 31), (405, 1, 30), (405, 1, 29), (405, 1, 28), (405, 1, 27), (405, 1, 26), (405, 1, 25), (405, 1, 24), (405, 1, 23), (405, 1, 22), (405, 1, 21), (405, 1, 20), (405, 1, 19), (405, 1, 18), (405, 1, 17), (405, 1, 16), (405, 1, 15), (405, 1, 14), (405, 1, 13), (405, 1, 12), (405, 1, 11), (405, 1, 10), (405, 1, 9), (405, 1, 8), (405, 1, 7), (405, 1, 6), (405, 1, 5), (405, 1, 4), (405, 1, 3), (405, 1, 2), (405, 1, 1), (405, 0, 0), (0, 8, 50), (0, 8, 49), (0, 8, 48), (0, 8, 47), (0, 8, 46), (0, 8, 45), (0, 8, 44), (0, 8, 43), (0, 8, 42), (0, 8, 41), (0, 8, 40), (0, 8, 39), (0, 8, 38), (0, 8, 37), (0, 8, 36), (0, 8, 35), (0, 8, 34), (0, 8, 33), (0, 8, 32), (0, 8, 31), (0, 8, 30), (0, 8, 29), (0, 8, 28), (0, 8, 27), (0, 8, 26), (0, 8, 25), (0, 8, 24), (0, 8, 23), (0, 8, 22), (0, 8, 21), (0, 8, 20), (0, 8, 19), (0, 8, 18), (0, 8, 17), (0, 8, 16), (0, 8, 15), (0, 8, 14), (0, 8, 13), (0, 8, 12), (0, 8, 11), (0, 8, 10), (0, 8, 9), (0, 8, 8), (0, 8, 7), (0, 8, 6), (0, 8, 5), (0, 8, 4), (0, 8, 3), (0, 8, 2), (0, 8, 1)] [(431, 0, 50)] [])) (hu.2.trans ap_ap) ?_
  show zx p l e _ s m _ below meth c g 8 _ _ _ _ 816 [(5, .int 0), (4, .int 0), (3, .ref (b + 431)), (2, .ref (b + 405)), (1, .ref (b + 0)), (0, .ref bS)] _
  refine z_seti (y := 50) hu.1 ?_
  refine z_istore (lv' := [(6, .int 50), (5, .int 0), (4, .int 0), (3, .ref (b + 431)), (2, .ref (b + 405)), (1, .ref (b + 0)), (0, .ref bS)]) B dL_law_816 (by decide) rfl ?_
  refine z_aload_n B dL_law_818 rfl 4 rfl ?_
  refine z_cVi (As := []) (rest := []) B cw_L_80 cx_10 dL_law_819 (ci_X9_thrown_95 l (σ := (ap b σ [(405, 1, 50), (405, 1, 49), (405, 1, 48), (405, 1, 47), (405, 1, 46), (405, 1, 45), (405, 1, 44), (405, 1, 43), (405, 1, 42), (405, 1, 41), (405, 1, 40), (405, 1, 39), (405, 1, 38), (405, 1, 37), (405, 1, 36), (405, 1, 35), (405, 1, 34), (405, 1, 33), (405, 1, 32), (405, 1, 31), (405, 1, 30), (405, 1, 29), (405, 1, 28), (405, 1, 27), (405, 1, 26), (405, 1, 25), (405, 1, 24), (405, 1, 23), (405, 1, 22), (405, 1, 21), (405, 1, 20), (405, 1, 19), (405, 1, 18), (405, 1, 17), (405, 1, 16), (405, 1, 15), (405, 1, 14), (405, 1, 13), (405, 1, 12), (405, 1, 11), (405, 1, 10), (405, 1, 9), (405, 1, 8), (405, 1, 7), (405, 1, 6), (405, 1, 5), (405, 1, 4), (405, 1, 3), (405, 1, 2), (405, 1, 1), (405, 0, 0), (0, 8, 50), (0, 8, 49), (0, 8, 48), (0, 8, 47), (0, 8, 46), (0, 8, 45), (0, 8, 44), (0, 8, 43), (0, 8, 42), (0, 8, 41), (0, 8, 40), (0, 8, 39), (0, 8, 38), (0, 8, 37), (0, 8, 36), (0, 8, 35), (0, 8, 34), (0, 8, 33), (0, 8, 32), (0, 8, 31), (0, 8, 30), (0, 8, 29), (0, 8, 28), (0, 8, 27), (0, 8, 26), (0, 8, 25), (0, 8, 24), (0, 8, 23), (0, 8, 22), (0, 8, 21), (0, 8, 20), (0, 8, 19), (0, 8, 18), (0, 8, 17), (0, 8, 16), (0, 8, 15), (0, 8, 14), (0, 8, 13), (0, 8, 12), (0, 8, 11), (0, 8, 10), (0, 8, 9), (0, 8, 8), (0, 8, 7), (0, 8, 6), (0, 8, 5), (0, 8, 4), (0, 8, 3), (0, 8, 2), (0, 8, 1)] [(431, 0, 50)] [])) (b := b) (lyA hK) (rI_at 405 0 rfl)) (lKA (hk_K hK 405 rfl rfl)) rfl (by decide) rfl (Nat.le_of_ble_eq_true rfl) (by decide) (fun r u hu => ?_)
  refine z_eqs (σ' := (ap b σ [(405, 1, 50), (405, 1, 49), (405, 1, 48), (405, 1, 47), (405, 1, 46), (405, 1, 45), (405, 1, 44), (405, 1, 43), (405, 1, 42), (405, 1, 41), (405, 1, 40), (405, 1, 39), (405, 1, 38), (405, 1, 37), (405, 1, 36), (405, 1, 35), (405, 1, 34), (405, 1, 33), (405, 1, 32), (405, 1, 31), (405, 1, 30), (405, 1, 29), (405, 1, 28), (405, 1, 27), (405, 1, 26), (405, 1, 25), (405, 1, 24), (405, 1, 23), (405, 1, 22), (405, 1, 21), (405, 1, 20), (405, 1, 19), (405, 1, 18), (405, 1, 17), (405, 1, 16), (405, 1, 15), (405, 1, 14), (405, 1, 13), (405, 1, 12), (405, 1, 11), (405, 1, 10), (405, 1, 9), (405, 1, 8), (405, 1, 7), (405, 1, 6), (405, 1, 5), (405, 1, 4), (405, 1, 3), (405, 1, 2), (405, 1, 1), (405, 0, 0), (0, 8, 50), (0, 8, 49), (0, 8, 48), (0, 8, 47), (0, 8, 46), (0, 8, 45), (0, 8, 44), (0, 8, 43), (0, 8, 42), (0, 8, 41), (0, 8, 40), (0, 8, 39), (0, 8, 38), (0, 8, 37), (0, 8, 36), (0, 8, 35), (0, 8, 34), (0, 8, 33), (0, 8, 32), (0, 8, 31), (0, 8, 30), (0, 8, 29), (0, 8, 28), (0, 8, 27), (0, 8, 26), (0, 8, 25), (0, 8, 24), (0, 8, 23), (0, 8, 22), (0, 8, 21), (0, 8, 20), (0, 8, 19), (0, 8, 18), (0, 8, 17), (0, 8, 16), (0, 8, 15), (0, 8, 14), (0, 8, 13), (0, 8, 12), (0, 8, 11), (0, 8, 10), (0, 8, 9), (0, 8, 8), (0, 8, 7), (0, 8, 6), (0, 8, 5), (0, 8, 4), (0, 8, 3), (0, 8, 2), (0, 8, 1)] [(431, 0, 50)] [])) hu.2 ?_
  show zx p l e _ s m _ below meth c g 8 _ _ _ _ 822 [(6, .int 50), (5, .int 0), (4, .int 0), (3, .ref (b + 431)), (2, .ref (b + 405)), (1, .ref (b + 0)), (0, .ref bS)] _
  refine z_seti (y := 0) hu.1 ?_
  refine z_iload B dL_law_822 1 rfl ?_
  refine z_icmp_eq (tgt := 829) B dL_law_824 (by decide) (fun _ => ?_) (fun h => absurd (by decide) h)
  refine z_iload B dL_law_829 1 rfl ?_
  refine z_if_ne (tgt := 846) B dL_law_831 (by decide) (fun h => absurd (by decide) h) (fun _ => ?_)
  refine z_aload_n B dL_law_834 rfl 3 rfl ?_
  refine z_iconst (v := 0) B dL_law_835 (by decide) ?_
  refine z_lald (j := 0) (x := 50) B (lKA (hk_K hK 431 rfl rfl)) (by decide) (in_of (lNA (hk_N hK 431 rfl rfl)) (show ¬ ((0 : Int32) < 0 ∨ 1 ≤ (0 : Int32).toNatClampNeg) by decide)) (rJ_at 431 0 rfl) dL_law_836 ?_
  refine z_iload B dL_law_837 0 rfl ?_
  refine z_i2l (v := 50) B dL_law_839 (by decide) ?_
  refine z_lcmp (v := 0) B dL_law_840 (by decide) ?_
  refine z_if_eq (tgt := 846) B dL_law_841 (by decide) (fun _ => ?_) (fun h => absurd (by decide) h)
  refine z_goto (tgt := 1395) B dL_law_846 (by decide) ?_
  exact z_widen (Nat.le_of_ble_eq_true rfl) (Nat.le_of_ble_eq_true rfl) (z_sub _ [2, 6] rfl (kk _))
set_option maxRecDepth 100000 in
set_option maxHeartbeats 4000000 in
theorem lf_11_382 {p : Program} {l : Launch} {e : Env} {s : State} {m : MethodId} {args : Array Value} {below : List Frame} {meth : Method} {c : Code} {g : gx_T} {Q : State → Prop} {σ : sx_T} {b t bS : Nat} {xs : Nat → Int32} (hlt : l.stackTraces = false) (B : zx_B p s m args meth c code RL 8 g) (hX : va_X bS 6 xs s s.heap) (hbl : bS < s.heap.size) (hbA : ¬ gx_b g ≤ bS) (hF : fz_P b t σ) {x1 : Int32} (h_x1 : xs 1 = x1) (q1_x1 : (51 : Int) ≤ x1.toInt) (q2_x1 : x1.toInt ≤ (2147483647 : Int)) (kk : ∀ σ', zx p l e room_1 s m args below meth c g 8 600002 7302232 Q σ' 1395 [(4, .int 0), (0, .ref bS)] []) : zx p l e room_1 s m args below meth c g 8 500 100000 Q σ 793 [(4, .int 0), (3, .ref (b + 431)), (2, .ref (b + 405)), (1, .ref (b + 0)), (0, .ref bS)] [] := by
  have hK := fz_lay hF
  refine z_eqs (σ' := (ap b σ [] [] [])) rfl ?_
  refine z_aload_n B dL_law_793 rfl 3 rfl ?_
  refine z_aload_n B dL_law_794 rfl 4 rfl ?_
  refine z_iload B dL_law_795 0 rfl ?_
  refine z_iconst (v := 1) B dL_law_797 (by decide) ?_
  refine z_iadd B dL_law_798 ?_
  refine z_seti (y := 1) (by decide) ?_
  refine z_sld (j := 1) (x := x1) B hX hbl hbA (by decide) (show ¬ ((1 : Int32) < 0 ∨ 6 ≤ (1 : Int32).toNatClampNeg) by decide) h_x1 dL_law_799 ?_
  refine z_aload_n B dL_law_800 rfl 1 rfl ?_
  refine z_cSWi (As := [.ref (b + 0), .int x1, .ref (b + 431)]) (rest := []) B cw_L_121 dL_law_801 (ci_L_tick_1173 l hlt (σ := (ap b σ [] [] [])) (b := b) (lyA hK) x1 q1_x1 q2_x1) rfl (by decide) rfl (Nat.le_of_ble_eq_true rfl) (by decide) (fun r u hu => ?_)
  obtain ⟨hu1, z, hu⟩ := hu
  refine z_eqs (σ' := (ap b (wx_Z σ z) [] [] [])) (hu.trans az_ap) ?_
  show zx p l e _ s m _ below meth c g 8 _ _ _ _ 804 [(4, .int 0), (3, .ref (b + 431)), (2, .ref (b + 405)), (1, .ref (b + 0)), (0, .ref bS)] _
  refine z_seti (y := 1) hu1 ?_
  refine z_istore (lv' := [(5, .int 1), (4, .int 0), (3, .ref (b + 431)), (2, .ref (b + 405)), (1, .ref (b + 0)), (0, .ref bS)]) B dL_law_804 (by decide) rfl ?_
  refine z_aload_n B dL_law_806 rfl 3 rfl ?_
  refine z_aload_n B dL_law_807 rfl 5 rfl ?_
  refine z_iload B dL_law_808 1 rfl ?_
  refine z_iconst (v := 1) B dL_law_810 (by decide) ?_
  refine z_iadd B dL_law_811 ?_
  refine z_seti (y := 1) (by decide) ?_
  refine z_sld (j := 1) (x := x1) B hX hbl hbA (by decide) (show ¬ ((1 : Int32) < 0 ∨ 6 ≤ (1 : Int32).toNatClampNeg) by decide) h_x1 dL_law_812 ?_
  refine z_cVi (As := [.int x1]) (rest := []) B cw_L_123 cx_10 dL_law_813 (ci_X9_tick_1175 l (σ := (ap b (wx_Z σ z) [] [] [])) (b := b) (lyA (lyZ hK)) x1 q1_x1 q2_x1) (lKA (lKZ (hk_K hK 405 rfl rfl))) rfl (by decide) rfl (Nat.le_of_ble_eq_true rfl) (by decide) (fun r u hu => ?_)
  refine z_eqs (σ' := (ap b (wx_Z σ z) [(405, 0, 1)] [] [])) (hu.2.trans ap_ap) ?_
  show zx p l e _ s m _ below meth c g 8 _ _ _ _ 816 [(5, .int 1), (4, .int 0), (3, .ref (b + 431)), (2, .ref (b + 405)), (1, .ref (b + 0)), (0, .ref bS)] _
  refine z_seti (y := 0) hu.1 ?_
  refine z_istore (lv' := [(6, .int 0), (5, .int 1), (4, .int 0), (3, .ref (b + 431)), (2, .ref (b + 405)), (1, .ref (b + 0)), (0, .ref bS)]) B dL_law_816 (by decide) rfl ?_
  refine z_aload_n B dL_law_818 rfl 4 rfl ?_
  refine z_cVi (As := []) (rest := []) B cw_L_80 cx_10 dL_law_819 (ci_X9_thrown_31 l (σ := (ap b (wx_Z σ z) [(405, 0, 1)] [] [])) (b := b) (lyA (lyZ hK)) (rI_at 405 0 rfl)) (lKA (lKZ (hk_K hK 405 rfl rfl))) rfl (by decide) rfl (Nat.le_of_ble_eq_true rfl) (by decide) (fun r u hu => ?_)
  refine z_eqs (σ' := (ap b (wx_Z σ z) [(405, 0, 1)] [] [])) hu.2 ?_
  show zx p l e _ s m _ below meth c g 8 _ _ _ _ 822 [(6, .int 0), (5, .int 1), (4, .int 0), (3, .ref (b + 431)), (2, .ref (b + 405)), (1, .ref (b + 0)), (0, .ref bS)] _
  refine z_seti (y := 1) hu.1 ?_
  refine z_iload B dL_law_822 1 rfl ?_
  refine z_icmp_eq (tgt := 829) B dL_law_824 (by decide) (fun _ => ?_) (fun h => absurd (by decide) h)
  refine z_iload B dL_law_829 1 rfl ?_
  refine z_if_ne (tgt := 846) B dL_law_831 (by decide) (fun _ => ?_) (fun h => absurd h (by decide))
  refine z_goto (tgt := 1395) B dL_law_846 (by decide) ?_
  exact z_widen (Nat.le_of_ble_eq_true rfl) (Nat.le_of_ble_eq_true rfl) (z_sub _ [2, 6] rfl (kk _))
set_option maxRecDepth 100000 in
set_option maxHeartbeats 4000000 in
theorem lf_12_383 {p : Program} {l : Launch} {e : Env} {s : State} {m : MethodId} {args : Array Value} {below : List Frame} {meth : Method} {c : Code} {g : gx_T} {Q : State → Prop} {σ : sx_T} {b t bS : Nat} {xs : Nat → Int32} (hlt : l.stackTraces = false) (B : zx_B p s m args meth c code RL 8 g) (hX : va_X bS 6 xs s s.heap) (hbl : bS < s.heap.size) (hbA : ¬ gx_b g ≤ bS) (hF : fz_P b t σ)  (kk : ∀ σ', zx p l e room_1 s m args below meth c g 8 600002 7302232 Q σ' 1395 [(4, .int 0), (0, .ref bS)] []) : zx p l e room_1 s m args below meth c g 8 500 100000 Q σ 849 [(4, .int 0), (3, .ref (b + 431)), (2, .ref (b + 405)), (1, .ref (b + 0)), (0, .ref bS)] [] := by
  have hK := fz_lay hF
  refine z_eqs (σ' := (ap b σ [] [] [])) rfl ?_
  refine z_aload_n B dL_law_849 rfl 3 rfl ?_
  refine z_cVi (As := []) (rest := []) B cw_L_124 cx_9 dL_law_850 (ci_X8_workflows_1176 l (σ := (ap b σ [] [] [])) (b := b) (lyA hK) (rI_at 0 7 (fz_I hF 0 7 rfl rfl))) (lKA (hk_K hK 0 rfl rfl)) rfl (by decide) rfl (Nat.le_of_ble_eq_true rfl) (by decide) (fun r u hu => ?_)
  refine z_eqs (σ' := (ap b σ [] [] [])) hu.2 ?_
  show zx p l e _ s m _ below meth c g 8 _ _ _ _ 853 [(4, .int 0), (3, .ref (b + 431)), (2, .ref (b + 405)), (1, .ref (b + 0)), (0, .ref bS)] _
  refine z_seti (y := 0) hu.1 ?_
  refine z_aload_n B dL_law_853 rfl 2 rfl ?_
  refine z_cVi (As := []) (rest := [.int 0]) B cw_L_127 cx_10 dL_law_854 (ci_X9_workflows_1177 l (σ := (ap b σ [] [] [])) (b := b) (lyA hK) (rI_at 405 6 (fz_I hF 405 6 rfl rfl))) (lKA (hk_K hK 405 rfl rfl)) rfl (by decide) rfl (Nat.le_of_ble_eq_true rfl) (by decide) (fun r u hu => ?_)
  refine z_eqs (σ' := (ap b σ [(405, 0, 0)] [] [])) (hu.2.trans ap_ap) ?_
  show zx p l e _ s m _ below meth c g 8 _ _ _ _ 857 [(4, .int 0), (3, .ref (b + 431)), (2, .ref (b + 405)), (1, .ref (b + 0)), (0, .ref bS)] _
  refine z_seti (y := 0) hu.1 ?_
  refine z_icmp_eq (tgt := 1395) B dL_law_857 (by decide) (fun _ => ?_) (fun h => absurd (by decide) h)
  exact z_widen (Nat.le_of_ble_eq_true rfl) (Nat.le_of_ble_eq_true rfl) (z_sub _ [0, 4] rfl (kk _))
set_option maxRecDepth 100000 in
set_option maxHeartbeats 4000000 in
theorem lf_13_384 {p : Program} {l : Launch} {e : Env} {s : State} {m : MethodId} {args : Array Value} {below : List Frame} {meth : Method} {c : Code} {g : gx_T} {Q : State → Prop} {σ : sx_T} {b t bS : Nat} {xs : Nat → Int32} (hlt : l.stackTraces = false) (B : zx_B p s m args meth c code RL 8 g) (hX : va_X bS 6 xs s s.heap) (hbl : bS < s.heap.size) (hbA : ¬ gx_b g ≤ bS) (hF : fz_P b t σ) {x1 : Int32} (h_x1 : xs 1 = x1) (q1_x1 : (-2147483648 : Int) ≤ x1.toInt) (q2_x1 : x1.toInt ≤ (-1 : Int)) (kk : ∀ σ', zx p l e room_1 s m args below meth c g 8 600002 7302232 Q σ' 1395 [(4, .int 0), (0, .ref bS)] []) : zx p l e room_1 s m args below meth c g 8 500 100000 Q σ 862 [(4, .int 0), (3, .ref (b + 431)), (2, .ref (b + 405)), (1, .ref (b + 0)), (0, .ref bS)] [] := by
  have hK := fz_lay hF
  refine z_eqs (σ' := (ap b σ [] [] [])) rfl ?_
  refine z_aload_n B dL_law_862 rfl 3 rfl ?_
  refine z_aload_n B dL_law_863 rfl 4 rfl ?_
  refine z_iload B dL_law_864 0 rfl ?_
  refine z_iconst (v := 1) B dL_law_866 (by decide) ?_
  refine z_iadd B dL_law_867 ?_
  refine z_seti (y := 1) (by decide) ?_
  refine z_sld (j := 1) (x := x1) B hX hbl hbA (by decide) (show ¬ ((1 : Int32) < 0 ∨ 6 ≤ (1 : Int32).toNatClampNeg) by decide) h_x1 dL_law_868 ?_
  refine z_aload_n B dL_law_869 rfl 1 rfl ?_
  refine z_cSWi (As := [.ref (b + 0), .int x1, .ref (b + 431)]) (rest := []) B cw_L_128 dL_law_870 (ci_L_state_1179 l hlt (σ := (ap b σ [] [] [])) (b := b) (lyA hK) x1 q1_x1 q2_x1) rfl (by decide) rfl (Nat.le_of_ble_eq_true rfl) (by decide) (fun r u hu => ?_)
  obtain ⟨hu1, z, hu⟩ := hu
  refine z_eqs (σ' := (ap b (wx_Z σ z) [] [] [])) (hu.trans az_ap) ?_
  show zx p l e _ s m _ below meth c g 8 _ _ _ _ 873 [(4, .int 0), (3, .ref (b + 431)), (2, .ref (b + 405)), (1, .ref (b + 0)), (0, .ref bS)] _
  refine z_seti (y := 1) hu1 ?_
  refine z_istore (lv' := [(5, .int 1), (4, .int 0), (3, .ref (b + 431)), (2, .ref (b + 405)), (1, .ref (b + 0)), (0, .ref bS)]) B dL_law_873 (by decide) rfl ?_
  refine z_aload_n B dL_law_875 rfl 3 rfl ?_
  refine z_aload_n B dL_law_876 rfl 5 rfl ?_
  refine z_iload B dL_law_877 1 rfl ?_
  refine z_iconst (v := 1) B dL_law_879 (by decide) ?_
  refine z_iadd B dL_law_880 ?_
  refine z_seti (y := 1) (by decide) ?_
  refine z_sld (j := 1) (x := x1) B hX hbl hbA (by decide) (show ¬ ((1 : Int32) < 0 ∨ 6 ≤ (1 : Int32).toNatClampNeg) by decide) h_x1 dL_law_881 ?_
  refine z_cVi (As := [.int x1]) (rest := []) B cw_L_130 cx_10 dL_law_882 (ci_X9_state_1180 l (σ := (ap b (wx_Z σ z) [] [] [])) (b := b) (lyA (lyZ hK)) x1 q1_x1 q2_x1 (rI_at 405 6 (lIZ (fz_I hF 405 6 rfl rfl)))) (lKA (lKZ (hk_K hK 405 rfl rfl))) rfl (by decide) rfl (Nat.le_of_ble_eq_true rfl) (by decide) (fun r u hu => ?_)
  refine z_eqs (σ' := (ap b (wx_Z σ z) [(405, 0, 1)] [] [])) (hu.2.trans ap_ap) ?_
  show zx p l e _ s m _ below meth c g 8 _ _ _ _ 885 [(5, .int 1), (4, .int 0), (3, .ref (b + 431)), (2, .ref (b + 405)), (1, .ref (b + 0)), (0, .ref bS)] _
  refine z_seti (y := 0) hu.1 ?_
  refine z_istore (lv' := [(6, .int 0), (5, .int 1), (4, .int 0), (3, .ref (b + 431)), (2, .ref (b + 405)), (1, .ref (b + 0)), (0, .ref bS)]) B dL_law_885 (by decide) rfl ?_
  refine z_aload_n B dL_law_887 rfl 4 rfl ?_
  refine z_cVi (As := []) (rest := []) B cw_L_80 cx_10 dL_law_888 (ci_X9_thrown_31 l (σ := (ap b (wx_Z σ z) [(405, 0, 1)] [] [])) (b := b) (lyA (lyZ hK)) (rI_at 405 0 rfl)) (lKA (lKZ (hk_K hK 405 rfl rfl))) rfl (by decide) rfl (Nat.le_of_ble_eq_true rfl) (by decide) (fun r u hu => ?_)
  refine z_eqs (σ' := (ap b (wx_Z σ z) [(405, 0, 1)] [] [])) hu.2 ?_
  show zx p l e _ s m _ below meth c g 8 _ _ _ _ 891 [(6, .int 0), (5, .int 1), (4, .int 0), (3, .ref (b + 431)), (2, .ref (b + 405)), (1, .ref (b + 0)), (0, .ref bS)] _
  refine z_seti (y := 1) hu.1 ?_
  refine z_iload B dL_law_891 1 rfl ?_
  refine z_icmp_eq (tgt := 898) B dL_law_893 (by decide) (fun _ => ?_) (fun h => absurd (by decide) h)
  refine z_iload B dL_law_898 1 rfl ?_
  refine z_if_ne (tgt := 915) B dL_law_900 (by decide) (fun _ => ?_) (fun h => absurd h (by decide))
  refine z_goto (tgt := 1395) B dL_law_915 (by decide) ?_
  exact z_widen (Nat.le_of_ble_eq_true rfl) (Nat.le_of_ble_eq_true rfl) (z_sub _ [2, 6] rfl (kk _))
set_option maxRecDepth 100000 in
set_option maxHeartbeats 4000000 in
theorem lf_13_385 {p : Program} {l : Launch} {e : Env} {s : State} {m : MethodId} {args : Array Value} {below : List Frame} {meth : Method} {c : Code} {g : gx_T} {Q : State → Prop} {σ : sx_T} {b t bS : Nat} {xs : Nat → Int32} (hlt : l.stackTraces = false) (B : zx_B p s m args meth c code RL 8 g) (hX : va_X bS 6 xs s s.heap) (hbl : bS < s.heap.size) (hbA : ¬ gx_b g ≤ bS) (hF : fz_P b t σ) {x1 : Int32} (h_x1 : xs 1 = x1) (q1_x1 : (0 : Int) ≤ x1.toInt) (q2_x1 : x1.toInt ≤ (2147483647 : Int)) (kk : ∀ σ', zx p l e room_1 s m args below meth c g 8 600002 7302232 Q σ' 1395 [(4, .int 0), (0, .ref bS)] []) : zx p l e room_1 s m args below meth c g 8 500 100000 Q σ 862 [(4, .int 0), (3, .ref (b + 431)), (2, .ref (b + 405)), (1, .ref (b + 0)), (0, .ref bS)] [] := by
  have hK := fz_lay hF
  refine z_eqs (σ' := (ap b σ [] [] [])) rfl ?_
  refine z_aload_n B dL_law_862 rfl 3 rfl ?_
  refine z_aload_n B dL_law_863 rfl 4 rfl ?_
  refine z_iload B dL_law_864 0 rfl ?_
  refine z_iconst (v := 1) B dL_law_866 (by decide) ?_
  refine z_iadd B dL_law_867 ?_
  refine z_seti (y := 1) (by decide) ?_
  refine z_sld (j := 1) (x := x1) B hX hbl hbA (by decide) (show ¬ ((1 : Int32) < 0 ∨ 6 ≤ (1 : Int32).toNatClampNeg) by decide) h_x1 dL_law_868 ?_
  refine z_aload_n B dL_law_869 rfl 1 rfl ?_
  refine z_cSWi (As := [.ref (b + 0), .int x1, .ref (b + 431)]) (rest := []) B cw_L_128 dL_law_870 (ci_L_state_1182 l hlt (σ := (ap b σ [] [] [])) (b := b) (lyA hK) x1 q1_x1 q2_x1 (rI_at 0 7 (fz_I hF 0 7 rfl rfl))) rfl (by decide) rfl (Nat.le_of_ble_eq_true rfl) (by decide) (fun r u hu => ?_)
  obtain ⟨hu1, z, hu⟩ := hu
  refine z_eqs (σ' := (ap b (wx_Z σ z) [] [] [])) (hu.trans az_ap) ?_
  show zx p l e _ s m _ below meth c g 8 _ _ _ _ 873 [(4, .int 0), (3, .ref (b + 431)), (2, .ref (b + 405)), (1, .ref (b + 0)), (0, .ref bS)] _
  refine z_seti (y := 1) hu1 ?_
  refine z_istore (lv' := [(5, .int 1), (4, .int 0), (3, .ref (b + 431)), (2, .ref (b + 405)), (1, .ref (b + 0)), (0, .ref bS)]) B dL_law_873 (by decide) rfl ?_
  refine z_aload_n B dL_law_875 rfl 3 rfl ?_
  refine z_aload_n B dL_law_876 rfl 5 rfl ?_
  refine z_iload B dL_law_877 1 rfl ?_
  refine z_iconst (v := 1) B dL_law_879 (by decide) ?_
  refine z_iadd B dL_law_880 ?_
  refine z_seti (y := 1) (by decide) ?_
  refine z_sld (j := 1) (x := x1) B hX hbl hbA (by decide) (show ¬ ((1 : Int32) < 0 ∨ 6 ≤ (1 : Int32).toNatClampNeg) by decide) h_x1 dL_law_881 ?_
  refine z_cVi (As := [.int x1]) (rest := []) B cw_L_130 cx_10 dL_law_882 (ci_X9_state_1183 l (σ := (ap b (wx_Z σ z) [] [] [])) (b := b) (lyA (lyZ hK)) x1 q1_x1 q2_x1 (rI_at 405 6 (lIZ (fz_I hF 405 6 rfl rfl)))) (lKA (lKZ (hk_K hK 405 rfl rfl))) rfl (by decide) rfl (Nat.le_of_ble_eq_true rfl) (by decide) (fun r u hu => ?_)
  refine z_eqs (σ' := (ap b (wx_Z σ z) [(405, 0, 1)] [] [])) (hu.2.trans ap_ap) ?_
  show zx p l e _ s m _ below meth c g 8 _ _ _ _ 885 [(5, .int 1), (4, .int 0), (3, .ref (b + 431)), (2, .ref (b + 405)), (1, .ref (b + 0)), (0, .ref bS)] _
  refine z_seti (y := 0) hu.1 ?_
  refine z_istore (lv' := [(6, .int 0), (5, .int 1), (4, .int 0), (3, .ref (b + 431)), (2, .ref (b + 405)), (1, .ref (b + 0)), (0, .ref bS)]) B dL_law_885 (by decide) rfl ?_
  refine z_aload_n B dL_law_887 rfl 4 rfl ?_
  refine z_cVi (As := []) (rest := []) B cw_L_80 cx_10 dL_law_888 (ci_X9_thrown_31 l (σ := (ap b (wx_Z σ z) [(405, 0, 1)] [] [])) (b := b) (lyA (lyZ hK)) (rI_at 405 0 rfl)) (lKA (lKZ (hk_K hK 405 rfl rfl))) rfl (by decide) rfl (Nat.le_of_ble_eq_true rfl) (by decide) (fun r u hu => ?_)
  refine z_eqs (σ' := (ap b (wx_Z σ z) [(405, 0, 1)] [] [])) hu.2 ?_
  show zx p l e _ s m _ below meth c g 8 _ _ _ _ 891 [(6, .int 0), (5, .int 1), (4, .int 0), (3, .ref (b + 431)), (2, .ref (b + 405)), (1, .ref (b + 0)), (0, .ref bS)] _
  refine z_seti (y := 1) hu.1 ?_
  refine z_iload B dL_law_891 1 rfl ?_
  refine z_icmp_eq (tgt := 898) B dL_law_893 (by decide) (fun _ => ?_) (fun h => absurd (by decide) h)
  refine z_iload B dL_law_898 1 rfl ?_
  refine z_if_ne (tgt := 915) B dL_law_900 (by decide) (fun _ => ?_) (fun h => absurd h (by decide))
  refine z_goto (tgt := 1395) B dL_law_915 (by decide) ?_
  exact z_widen (Nat.le_of_ble_eq_true rfl) (Nat.le_of_ble_eq_true rfl) (z_sub _ [2, 6] rfl (kk _))
set_option maxRecDepth 100000 in
set_option maxHeartbeats 4000000 in
theorem lf_14_386 {p : Program} {l : Launch} {e : Env} {s : State} {m : MethodId} {args : Array Value} {below : List Frame} {meth : Method} {c : Code} {g : gx_T} {Q : State → Prop} {σ : sx_T} {b t bS : Nat} {xs : Nat → Int32} (hlt : l.stackTraces = false) (B : zx_B p s m args meth c code RL 8 g) (hX : va_X bS 6 xs s s.heap) (hbl : bS < s.heap.size) (hbA : ¬ gx_b g ≤ bS) (hF : fz_P b t σ) {x1 : Int32} (h_x1 : xs 1 = x1) (q1_x1 : (-2147483648 : Int) ≤ x1.toInt) (q2_x1 : x1.toInt ≤ (-1 : Int)) {x2 : Int32} (h_x2 : xs 2 = x2) (q1_x2 : (-2147483648 : Int) ≤ x2.toInt) (q2_x2 : x2.toInt ≤ (-1 : Int)) (kk : ∀ σ', zx p l e room_1 s m args below meth c g 8 600002 7302232 Q σ' 1395 [(4, .int 0), (0, .ref bS)] []) : zx p l e room_1 s m args below meth c g 8 500 100000 Q σ 918 [(4, .int 0), (3, .ref (b + 431)), (2, .ref (b + 405)), (1, .ref (b + 0)), (0, .ref bS)] [] := by
  have hK := fz_lay hF
  refine z_eqs (σ' := (ap b σ [] [] [])) rfl ?_
  refine z_aload_n B dL_law_918 rfl 3 rfl ?_
  refine z_aload_n B dL_law_919 rfl 4 rfl ?_
  refine z_iload B dL_law_920 0 rfl ?_
  refine z_iconst (v := 1) B dL_law_922 (by decide) ?_
  refine z_iadd B dL_law_923 ?_
  refine z_seti (y := 1) (by decide) ?_
  refine z_sld (j := 1) (x := x1) B hX hbl hbA (by decide) (show ¬ ((1 : Int32) < 0 ∨ 6 ≤ (1 : Int32).toNatClampNeg) by decide) h_x1 dL_law_924 ?_
  refine z_aload_n B dL_law_925 rfl 4 rfl ?_
  refine z_iload B dL_law_926 0 rfl ?_
  refine z_iconst (v := 2) B dL_law_928 (by decide) ?_
  refine z_iadd B dL_law_929 ?_
  refine z_seti (y := 2) (by decide) ?_
  refine z_sld (j := 2) (x := x2) B hX hbl hbA (by decide) (show ¬ ((2 : Int32) < 0 ∨ 6 ≤ (2 : Int32).toNatClampNeg) by decide) h_x2 dL_law_930 ?_
  refine z_aload_n B dL_law_931 rfl 1 rfl ?_
  refine z_cSWi (As := [.ref (b + 0), .int x1, .int x2, .ref (b + 431)]) (rest := []) B cw_L_131 dL_law_932 (ci_L_about_1185 l hlt (σ := (ap b σ [] [] [])) (b := b) (lyA hK) x1 x2 q1_x1 q2_x1) rfl (by decide) rfl (Nat.le_of_ble_eq_true rfl) (by decide) (fun r u hu => ?_)
  obtain ⟨hu1, z, hu⟩ := hu
  refine z_eqs (σ' := (ap b (wx_Z σ z) [] [] [])) (hu.trans az_ap) ?_
  show zx p l e _ s m _ below meth c g 8 _ _ _ _ 935 [(4, .int 0), (3, .ref (b + 431)), (2, .ref (b + 405)), (1, .ref (b + 0)), (0, .ref bS)] _
  refine z_seti (y := 1) hu1 ?_
  refine z_istore (lv' := [(5, .int 1), (4, .int 0), (3, .ref (b + 431)), (2, .ref (b + 405)), (1, .ref (b + 0)), (0, .ref bS)]) B dL_law_935 (by decide) rfl ?_
  refine z_aload_n B dL_law_937 rfl 3 rfl ?_
  refine z_aload_n B dL_law_938 rfl 5 rfl ?_
  refine z_iload B dL_law_939 1 rfl ?_
  refine z_iconst (v := 1) B dL_law_941 (by decide) ?_
  refine z_iadd B dL_law_942 ?_
  refine z_seti (y := 1) (by decide) ?_
  refine z_sld (j := 1) (x := x1) B hX hbl hbA (by decide) (show ¬ ((1 : Int32) < 0 ∨ 6 ≤ (1 : Int32).toNatClampNeg) by decide) h_x1 dL_law_943 ?_
  refine z_aload_n B dL_law_944 rfl 5 rfl ?_
  refine z_iload B dL_law_945 1 rfl ?_
  refine z_iconst (v := 2) B dL_law_947 (by decide) ?_
  refine z_iadd B dL_law_948 ?_
  refine z_seti (y := 2) (by decide) ?_
  refine z_sld (j := 2) (x := x2) B hX hbl hbA (by decide) (show ¬ ((2 : Int32) < 0 ∨ 6 ≤ (2 : Int32).toNatClampNeg) by decide) h_x2 dL_law_949 ?_
  refine z_cVi (As := [.int x1, .int x2]) (rest := []) B cw_L_133 cx_10 dL_law_950 (ci_X9_about_1188 l (σ := (ap b (wx_Z σ z) [] [] [])) (b := b) (lyA (lyZ hK)) x1 x2 q1_x1 q2_x1 q1_x2 q2_x2 (rI_at 405 6 (lIZ (fz_I hF 405 6 rfl rfl)))) (lKA (lKZ (hk_K hK 405 rfl rfl))) rfl (by decide) rfl (Nat.le_of_ble_eq_true rfl) (by decide) (fun r u hu => ?_)
  refine z_eqs (σ' := (ap b (wx_Z σ z) [(405, 0, 1)] [] [])) (hu.2.trans ap_ap) ?_
  show zx p l e _ s m _ below meth c g 8 _ _ _ _ 953 [(5, .int 1), (4, .int 0), (3, .ref (b + 431)), (2, .ref (b + 405)), (1, .ref (b + 0)), (0, .ref bS)] _
  refine z_seti (y := 0) hu.1 ?_
  refine z_istore (lv' := [(6, .int 0), (5, .int 1), (4, .int 0), (3, .ref (b + 431)), (2, .ref (b + 405)), (1, .ref (b + 0)), (0, .ref bS)]) B dL_law_953 (by decide) rfl ?_
  refine z_aload_n B dL_law_955 rfl 4 rfl ?_
  refine z_cVi (As := []) (rest := []) B cw_L_80 cx_10 dL_law_956 (ci_X9_thrown_31 l (σ := (ap b (wx_Z σ z) [(405, 0, 1)] [] [])) (b := b) (lyA (lyZ hK)) (rI_at 405 0 rfl)) (lKA (lKZ (hk_K hK 405 rfl rfl))) rfl (by decide) rfl (Nat.le_of_ble_eq_true rfl) (by decide) (fun r u hu => ?_)
  refine z_eqs (σ' := (ap b (wx_Z σ z) [(405, 0, 1)] [] [])) hu.2 ?_
  show zx p l e _ s m _ below meth c g 8 _ _ _ _ 959 [(6, .int 0), (5, .int 1), (4, .int 0), (3, .ref (b + 431)), (2, .ref (b + 405)), (1, .ref (b + 0)), (0, .ref bS)] _
  refine z_seti (y := 1) hu.1 ?_
  refine z_iload B dL_law_959 1 rfl ?_
  refine z_icmp_eq (tgt := 966) B dL_law_961 (by decide) (fun _ => ?_) (fun h => absurd (by decide) h)
  refine z_iload B dL_law_966 1 rfl ?_
  refine z_if_ne (tgt := 983) B dL_law_968 (by decide) (fun _ => ?_) (fun h => absurd h (by decide))
  refine z_goto (tgt := 1395) B dL_law_983 (by decide) ?_
  exact z_widen (Nat.le_of_ble_eq_true rfl) (Nat.le_of_ble_eq_true rfl) (z_sub _ [2, 6] rfl (kk _))
set_option maxRecDepth 100000 in
set_option maxHeartbeats 4000000 in
theorem lf_14_387 {p : Program} {l : Launch} {e : Env} {s : State} {m : MethodId} {args : Array Value} {below : List Frame} {meth : Method} {c : Code} {g : gx_T} {Q : State → Prop} {σ : sx_T} {b t bS : Nat} {xs : Nat → Int32} (hlt : l.stackTraces = false) (B : zx_B p s m args meth c code RL 8 g) (hX : va_X bS 6 xs s s.heap) (hbl : bS < s.heap.size) (hbA : ¬ gx_b g ≤ bS) (hF : fz_P b t σ) {x1 : Int32} (h_x1 : xs 1 = x1) (q1_x1 : (-2147483648 : Int) ≤ x1.toInt) (q2_x1 : x1.toInt ≤ (-1 : Int)) {x2 : Int32} (h_x2 : xs 2 = x2) (q1_x2 : (0 : Int) ≤ x2.toInt) (q2_x2 : x2.toInt ≤ (8 : Int)) (kk : ∀ σ', zx p l e room_1 s m args below meth c g 8 600002 7302232 Q σ' 1395 [(4, .int 0), (0, .ref bS)] []) : zx p l e room_1 s m args below meth c g 8 500 100000 Q σ 918 [(4, .int 0), (3, .ref (b + 431)), (2, .ref (b + 405)), (1, .ref (b + 0)), (0, .ref bS)] [] := by
  have hK := fz_lay hF
  refine z_eqs (σ' := (ap b σ [] [] [])) rfl ?_
  refine z_aload_n B dL_law_918 rfl 3 rfl ?_
  refine z_aload_n B dL_law_919 rfl 4 rfl ?_
  refine z_iload B dL_law_920 0 rfl ?_
  refine z_iconst (v := 1) B dL_law_922 (by decide) ?_
  refine z_iadd B dL_law_923 ?_
  refine z_seti (y := 1) (by decide) ?_
  refine z_sld (j := 1) (x := x1) B hX hbl hbA (by decide) (show ¬ ((1 : Int32) < 0 ∨ 6 ≤ (1 : Int32).toNatClampNeg) by decide) h_x1 dL_law_924 ?_
  refine z_aload_n B dL_law_925 rfl 4 rfl ?_
  refine z_iload B dL_law_926 0 rfl ?_
  refine z_iconst (v := 2) B dL_law_928 (by decide) ?_
  refine z_iadd B dL_law_929 ?_
  refine z_seti (y := 2) (by decide) ?_
  refine z_sld (j := 2) (x := x2) B hX hbl hbA (by decide) (show ¬ ((2 : Int32) < 0 ∨ 6 ≤ (2 : Int32).toNatClampNeg) by decide) h_x2 dL_law_930 ?_
  refine z_aload_n B dL_law_931 rfl 1 rfl ?_
  refine z_cSWi (As := [.ref (b + 0), .int x1, .int x2, .ref (b + 431)]) (rest := []) B cw_L_131 dL_law_932 (ci_L_about_1185 l hlt (σ := (ap b σ [] [] [])) (b := b) (lyA hK) x1 x2 q1_x1 q2_x1) rfl (by decide) rfl (Nat.le_of_ble_eq_true rfl) (by decide) (fun r u hu => ?_)
  obtain ⟨hu1, z, hu⟩ := hu
  refine z_eqs (σ' := (ap b (wx_Z σ z) [] [] [])) (hu.trans az_ap) ?_
  show zx p l e _ s m _ below meth c g 8 _ _ _ _ 935 [(4, .int 0), (3, .ref (b + 431)), (2, .ref (b + 405)), (1, .ref (b + 0)), (0, .ref bS)] _
  refine z_seti (y := 1) hu1 ?_
  refine z_istore (lv' := [(5, .int 1), (4, .int 0), (3, .ref (b + 431)), (2, .ref (b + 405)), (1, .ref (b + 0)), (0, .ref bS)]) B dL_law_935 (by decide) rfl ?_
  refine z_aload_n B dL_law_937 rfl 3 rfl ?_
  refine z_aload_n B dL_law_938 rfl 5 rfl ?_
  refine z_iload B dL_law_939 1 rfl ?_
  refine z_iconst (v := 1) B dL_law_941 (by decide) ?_
  refine z_iadd B dL_law_942 ?_
  refine z_seti (y := 1) (by decide) ?_
  refine z_sld (j := 1) (x := x1) B hX hbl hbA (by decide) (show ¬ ((1 : Int32) < 0 ∨ 6 ≤ (1 : Int32).toNatClampNeg) by decide) h_x1 dL_law_943 ?_
  refine z_aload_n B dL_law_944 rfl 5 rfl ?_
  refine z_iload B dL_law_945 1 rfl ?_
  refine z_iconst (v := 2) B dL_law_947 (by decide) ?_
  refine z_iadd B dL_law_948 ?_
  refine z_seti (y := 2) (by decide) ?_
  refine z_sld (j := 2) (x := x2) B hX hbl hbA (by decide) (show ¬ ((2 : Int32) < 0 ∨ 6 ≤ (2 : Int32).toNatClampNeg) by decide) h_x2 dL_law_949 ?_
  refine z_cVi (As := [.int x1, .int x2]) (rest := []) B cw_L_133 cx_10 dL_law_950 (ci_X9_about_1192 l (σ := (ap b (wx_Z σ z) [] [] [])) (b := b) (lyA (lyZ hK)) x1 x2 q1_x1 q2_x1 q1_x2 q2_x2 (rI_at 405 6 (lIZ (fz_I hF 405 6 rfl rfl)))) (lKA (lKZ (hk_K hK 405 rfl rfl))) rfl (by decide) rfl (Nat.le_of_ble_eq_true rfl) (by decide) (fun r u hu => ?_)
  refine z_eqs (σ' := (ap b (wx_Z σ z) [(405, 0, 1)] [] [])) (hu.2.trans ap_ap) ?_
  show zx p l e _ s m _ below meth c g 8 _ _ _ _ 953 [(5, .int 1), (4, .int 0), (3, .ref (b + 431)), (2, .ref (b + 405)), (1, .ref (b + 0)), (0, .ref bS)] _
  refine z_seti (y := 0) hu.1 ?_
  refine z_istore (lv' := [(6, .int 0), (5, .int 1), (4, .int 0), (3, .ref (b + 431)), (2, .ref (b + 405)), (1, .ref (b + 0)), (0, .ref bS)]) B dL_law_953 (by decide) rfl ?_
  refine z_aload_n B dL_law_955 rfl 4 rfl ?_
  refine z_cVi (As := []) (rest := []) B cw_L_80 cx_10 dL_law_956 (ci_X9_thrown_31 l (σ := (ap b (wx_Z σ z) [(405, 0, 1)] [] [])) (b := b) (lyA (lyZ hK)) (rI_at 405 0 rfl)) (lKA (lKZ (hk_K hK 405 rfl rfl))) rfl (by decide) rfl (Nat.le_of_ble_eq_true rfl) (by decide) (fun r u hu => ?_)
  refine z_eqs (σ' := (ap b (wx_Z σ z) [(405, 0, 1)] [] [])) hu.2 ?_
  show zx p l e _ s m _ below meth c g 8 _ _ _ _ 959 [(6, .int 0), (5, .int 1), (4, .int 0), (3, .ref (b + 431)), (2, .ref (b + 405)), (1, .ref (b + 0)), (0, .ref bS)] _
  refine z_seti (y := 1) hu.1 ?_
  refine z_iload B dL_law_959 1 rfl ?_
  refine z_icmp_eq (tgt := 966) B dL_law_961 (by decide) (fun _ => ?_) (fun h => absurd (by decide) h)
  refine z_iload B dL_law_966 1 rfl ?_
  refine z_if_ne (tgt := 983) B dL_law_968 (by decide) (fun _ => ?_) (fun h => absurd h (by decide))
  refine z_goto (tgt := 1395) B dL_law_983 (by decide) ?_
  exact z_widen (Nat.le_of_ble_eq_true rfl) (Nat.le_of_ble_eq_true rfl) (z_sub _ [2, 6] rfl (kk _))
set_option maxRecDepth 100000 in
set_option maxHeartbeats 4000000 in
theorem lf_14_388 {p : Program} {l : Launch} {e : Env} {s : State} {m : MethodId} {args : Array Value} {below : List Frame} {meth : Method} {c : Code} {g : gx_T} {Q : State → Prop} {σ : sx_T} {b t bS : Nat} {xs : Nat → Int32} (hlt : l.stackTraces = false) (B : zx_B p s m args meth c code RL 8 g) (hX : va_X bS 6 xs s s.heap) (hbl : bS < s.heap.size) (hbA : ¬ gx_b g ≤ bS) (hF : fz_P b t σ) {x1 : Int32} (h_x1 : xs 1 = x1) (q1_x1 : (-2147483648 : Int) ≤ x1.toInt) (q2_x1 : x1.toInt ≤ (-1 : Int)) {x2 : Int32} (h_x2 : xs 2 = x2) (q1_x2 : (9 : Int) ≤ x2.toInt) (q2_x2 : x2.toInt ≤ (2147483647 : Int)) (kk : ∀ σ', zx p l e room_1 s m args below meth c g 8 600002 7302232 Q σ' 1395 [(4, .int 0), (0, .ref bS)] []) : zx p l e room_1 s m args below meth c g 8 500 100000 Q σ 918 [(4, .int 0), (3, .ref (b + 431)), (2, .ref (b + 405)), (1, .ref (b + 0)), (0, .ref bS)] [] := by
  have hK := fz_lay hF
  refine z_eqs (σ' := (ap b σ [] [] [])) rfl ?_
  refine z_aload_n B dL_law_918 rfl 3 rfl ?_
  refine z_aload_n B dL_law_919 rfl 4 rfl ?_
  refine z_iload B dL_law_920 0 rfl ?_
  refine z_iconst (v := 1) B dL_law_922 (by decide) ?_
  refine z_iadd B dL_law_923 ?_
  refine z_seti (y := 1) (by decide) ?_
  refine z_sld (j := 1) (x := x1) B hX hbl hbA (by decide) (show ¬ ((1 : Int32) < 0 ∨ 6 ≤ (1 : Int32).toNatClampNeg) by decide) h_x1 dL_law_924 ?_
  refine z_aload_n B dL_law_925 rfl 4 rfl ?_
  refine z_iload B dL_law_926 0 rfl ?_
  refine z_iconst (v := 2) B dL_law_928 (by decide) ?_
  refine z_iadd B dL_law_929 ?_
  refine z_seti (y := 2) (by decide) ?_
  refine z_sld (j := 2) (x := x2) B hX hbl hbA (by decide) (show ¬ ((2 : Int32) < 0 ∨ 6 ≤ (2 : Int32).toNatClampNeg) by decide) h_x2 dL_law_930 ?_
  refine z_aload_n B dL_law_931 rfl 1 rfl ?_
  refine z_cSWi (As := [.ref (b + 0), .int x1, .int x2, .ref (b + 431)]) (rest := []) B cw_L_131 dL_law_932 (ci_L_about_1185 l hlt (σ := (ap b σ [] [] [])) (b := b) (lyA hK) x1 x2 q1_x1 q2_x1) rfl (by decide) rfl (Nat.le_of_ble_eq_true rfl) (by decide) (fun r u hu => ?_)
  obtain ⟨hu1, z, hu⟩ := hu
  refine z_eqs (σ' := (ap b (wx_Z σ z) [] [] [])) (hu.trans az_ap) ?_
  show zx p l e _ s m _ below meth c g 8 _ _ _ _ 935 [(4, .int 0), (3, .ref (b + 431)), (2, .ref (b + 405)), (1, .ref (b + 0)), (0, .ref bS)] _
  refine z_seti (y := 1) hu1 ?_
  refine z_istore (lv' := [(5, .int 1), (4, .int 0), (3, .ref (b + 431)), (2, .ref (b + 405)), (1, .ref (b + 0)), (0, .ref bS)]) B dL_law_935 (by decide) rfl ?_
  refine z_aload_n B dL_law_937 rfl 3 rfl ?_
  refine z_aload_n B dL_law_938 rfl 5 rfl ?_
  refine z_iload B dL_law_939 1 rfl ?_
  refine z_iconst (v := 1) B dL_law_941 (by decide) ?_
  refine z_iadd B dL_law_942 ?_
  refine z_seti (y := 1) (by decide) ?_
  refine z_sld (j := 1) (x := x1) B hX hbl hbA (by decide) (show ¬ ((1 : Int32) < 0 ∨ 6 ≤ (1 : Int32).toNatClampNeg) by decide) h_x1 dL_law_943 ?_
  refine z_aload_n B dL_law_944 rfl 5 rfl ?_
  refine z_iload B dL_law_945 1 rfl ?_
  refine z_iconst (v := 2) B dL_law_947 (by decide) ?_
  refine z_iadd B dL_law_948 ?_
  refine z_seti (y := 2) (by decide) ?_
  refine z_sld (j := 2) (x := x2) B hX hbl hbA (by decide) (show ¬ ((2 : Int32) < 0 ∨ 6 ≤ (2 : Int32).toNatClampNeg) by decide) h_x2 dL_law_949 ?_
  refine z_cVi (As := [.int x1, .int x2]) (rest := []) B cw_L_133 cx_10 dL_law_950 (ci_X9_about_1195 l (σ := (ap b (wx_Z σ z) [] [] [])) (b := b) (lyA (lyZ hK)) x1 x2 q1_x1 q2_x1 q1_x2 q2_x2 (rI_at 405 6 (lIZ (fz_I hF 405 6 rfl rfl)))) (lKA (lKZ (hk_K hK 405 rfl rfl))) rfl (by decide) rfl (Nat.le_of_ble_eq_true rfl) (by decide) (fun r u hu => ?_)
  refine z_eqs (σ' := (ap b (wx_Z σ z) [(405, 0, 1)] [] [])) (hu.2.trans ap_ap) ?_
  show zx p l e _ s m _ below meth c g 8 _ _ _ _ 953 [(5, .int 1), (4, .int 0), (3, .ref (b + 431)), (2, .ref (b + 405)), (1, .ref (b + 0)), (0, .ref bS)] _
  refine z_seti (y := 0) hu.1 ?_
  refine z_istore (lv' := [(6, .int 0), (5, .int 1), (4, .int 0), (3, .ref (b + 431)), (2, .ref (b + 405)), (1, .ref (b + 0)), (0, .ref bS)]) B dL_law_953 (by decide) rfl ?_
  refine z_aload_n B dL_law_955 rfl 4 rfl ?_
  refine z_cVi (As := []) (rest := []) B cw_L_80 cx_10 dL_law_956 (ci_X9_thrown_31 l (σ := (ap b (wx_Z σ z) [(405, 0, 1)] [] [])) (b := b) (lyA (lyZ hK)) (rI_at 405 0 rfl)) (lKA (lKZ (hk_K hK 405 rfl rfl))) rfl (by decide) rfl (Nat.le_of_ble_eq_true rfl) (by decide) (fun r u hu => ?_)
  refine z_eqs (σ' := (ap b (wx_Z σ z) [(405, 0, 1)] [] [])) hu.2 ?_
  show zx p l e _ s m _ below meth c g 8 _ _ _ _ 959 [(6, .int 0), (5, .int 1), (4, .int 0), (3, .ref (b + 431)), (2, .ref (b + 405)), (1, .ref (b + 0)), (0, .ref bS)] _
  refine z_seti (y := 1) hu.1 ?_
  refine z_iload B dL_law_959 1 rfl ?_
  refine z_icmp_eq (tgt := 966) B dL_law_961 (by decide) (fun _ => ?_) (fun h => absurd (by decide) h)
  refine z_iload B dL_law_966 1 rfl ?_
  refine z_if_ne (tgt := 983) B dL_law_968 (by decide) (fun _ => ?_) (fun h => absurd h (by decide))
  refine z_goto (tgt := 1395) B dL_law_983 (by decide) ?_
  exact z_widen (Nat.le_of_ble_eq_true rfl) (Nat.le_of_ble_eq_true rfl) (z_sub _ [2, 6] rfl (kk _))
set_option maxRecDepth 100000 in
set_option maxHeartbeats 4000000 in
theorem lf_14_389 {p : Program} {l : Launch} {e : Env} {s : State} {m : MethodId} {args : Array Value} {below : List Frame} {meth : Method} {c : Code} {g : gx_T} {Q : State → Prop} {σ : sx_T} {b t bS : Nat} {xs : Nat → Int32} (hlt : l.stackTraces = false) (B : zx_B p s m args meth c code RL 8 g) (hX : va_X bS 6 xs s s.heap) (hbl : bS < s.heap.size) (hbA : ¬ gx_b g ≤ bS) (hF : fz_P b t σ) {x1 : Int32} (h_x1 : xs 1 = x1) (q1_x1 : (0 : Int) ≤ x1.toInt) (q2_x1 : x1.toInt ≤ (2147483647 : Int)) {x2 : Int32} (h_x2 : xs 2 = x2) (q1_x2 : (-2147483648 : Int) ≤ x2.toInt) (q2_x2 : x2.toInt ≤ (-1 : Int)) (kk : ∀ σ', zx p l e room_1 s m args below meth c g 8 600002 7302232 Q σ' 1395 [(4, .int 0), (0, .ref bS)] []) : zx p l e room_1 s m args below meth c g 8 500 100000 Q σ 918 [(4, .int 0), (3, .ref (b + 431)), (2, .ref (b + 405)), (1, .ref (b + 0)), (0, .ref bS)] [] := by
  have hK := fz_lay hF
  refine z_eqs (σ' := (ap b σ [] [] [])) rfl ?_
  refine z_aload_n B dL_law_918 rfl 3 rfl ?_
  refine z_aload_n B dL_law_919 rfl 4 rfl ?_
  refine z_iload B dL_law_920 0 rfl ?_
  refine z_iconst (v := 1) B dL_law_922 (by decide) ?_
  refine z_iadd B dL_law_923 ?_
  refine z_seti (y := 1) (by decide) ?_
  refine z_sld (j := 1) (x := x1) B hX hbl hbA (by decide) (show ¬ ((1 : Int32) < 0 ∨ 6 ≤ (1 : Int32).toNatClampNeg) by decide) h_x1 dL_law_924 ?_
  refine z_aload_n B dL_law_925 rfl 4 rfl ?_
  refine z_iload B dL_law_926 0 rfl ?_
  refine z_iconst (v := 2) B dL_law_928 (by decide) ?_
  refine z_iadd B dL_law_929 ?_
  refine z_seti (y := 2) (by decide) ?_
  refine z_sld (j := 2) (x := x2) B hX hbl hbA (by decide) (show ¬ ((2 : Int32) < 0 ∨ 6 ≤ (2 : Int32).toNatClampNeg) by decide) h_x2 dL_law_930 ?_
  refine z_aload_n B dL_law_931 rfl 1 rfl ?_
  refine z_cSWi (As := [.ref (b + 0), .int x1, .int x2, .ref (b + 431)]) (rest := []) B cw_L_131 dL_law_932 (ci_L_about_1197 l hlt (σ := (ap b σ [] [] [])) (b := b) (lyA hK) x1 x2 q1_x1 q2_x1 (rI_at 0 7 (fz_I hF 0 7 rfl rfl))) rfl (by decide) rfl (Nat.le_of_ble_eq_true rfl) (by decide) (fun r u hu => ?_)
  obtain ⟨hu1, z, hu⟩ := hu
  refine z_eqs (σ' := (ap b (wx_Z σ z) [] [] [])) (hu.trans az_ap) ?_
  show zx p l e _ s m _ below meth c g 8 _ _ _ _ 935 [(4, .int 0), (3, .ref (b + 431)), (2, .ref (b + 405)), (1, .ref (b + 0)), (0, .ref bS)] _
  refine z_seti (y := 1) hu1 ?_
  refine z_istore (lv' := [(5, .int 1), (4, .int 0), (3, .ref (b + 431)), (2, .ref (b + 405)), (1, .ref (b + 0)), (0, .ref bS)]) B dL_law_935 (by decide) rfl ?_
  refine z_aload_n B dL_law_937 rfl 3 rfl ?_
  refine z_aload_n B dL_law_938 rfl 5 rfl ?_
  refine z_iload B dL_law_939 1 rfl ?_
  refine z_iconst (v := 1) B dL_law_941 (by decide) ?_
  refine z_iadd B dL_law_942 ?_
  refine z_seti (y := 1) (by decide) ?_
  refine z_sld (j := 1) (x := x1) B hX hbl hbA (by decide) (show ¬ ((1 : Int32) < 0 ∨ 6 ≤ (1 : Int32).toNatClampNeg) by decide) h_x1 dL_law_943 ?_
  refine z_aload_n B dL_law_944 rfl 5 rfl ?_
  refine z_iload B dL_law_945 1 rfl ?_
  refine z_iconst (v := 2) B dL_law_947 (by decide) ?_
  refine z_iadd B dL_law_948 ?_
  refine z_seti (y := 2) (by decide) ?_
  refine z_sld (j := 2) (x := x2) B hX hbl hbA (by decide) (show ¬ ((2 : Int32) < 0 ∨ 6 ≤ (2 : Int32).toNatClampNeg) by decide) h_x2 dL_law_949 ?_
  refine z_cVi (As := [.int x1, .int x2]) (rest := []) B cw_L_133 cx_10 dL_law_950 (ci_X9_about_1199 l (σ := (ap b (wx_Z σ z) [] [] [])) (b := b) (lyA (lyZ hK)) x1 x2 q1_x1 q2_x1 q1_x2 q2_x2 (rI_at 405 6 (lIZ (fz_I hF 405 6 rfl rfl)))) (lKA (lKZ (hk_K hK 405 rfl rfl))) rfl (by decide) rfl (Nat.le_of_ble_eq_true rfl) (by decide) (fun r u hu => ?_)
  refine z_eqs (σ' := (ap b (wx_Z σ z) [(405, 0, 1)] [] [])) (hu.2.trans ap_ap) ?_
  show zx p l e _ s m _ below meth c g 8 _ _ _ _ 953 [(5, .int 1), (4, .int 0), (3, .ref (b + 431)), (2, .ref (b + 405)), (1, .ref (b + 0)), (0, .ref bS)] _
  refine z_seti (y := 0) hu.1 ?_
  refine z_istore (lv' := [(6, .int 0), (5, .int 1), (4, .int 0), (3, .ref (b + 431)), (2, .ref (b + 405)), (1, .ref (b + 0)), (0, .ref bS)]) B dL_law_953 (by decide) rfl ?_
  refine z_aload_n B dL_law_955 rfl 4 rfl ?_
  refine z_cVi (As := []) (rest := []) B cw_L_80 cx_10 dL_law_956 (ci_X9_thrown_31 l (σ := (ap b (wx_Z σ z) [(405, 0, 1)] [] [])) (b := b) (lyA (lyZ hK)) (rI_at 405 0 rfl)) (lKA (lKZ (hk_K hK 405 rfl rfl))) rfl (by decide) rfl (Nat.le_of_ble_eq_true rfl) (by decide) (fun r u hu => ?_)
  refine z_eqs (σ' := (ap b (wx_Z σ z) [(405, 0, 1)] [] [])) hu.2 ?_
  show zx p l e _ s m _ below meth c g 8 _ _ _ _ 959 [(6, .int 0), (5, .int 1), (4, .int 0), (3, .ref (b + 431)), (2, .ref (b + 405)), (1, .ref (b + 0)), (0, .ref bS)] _
  refine z_seti (y := 1) hu.1 ?_
  refine z_iload B dL_law_959 1 rfl ?_
  refine z_icmp_eq (tgt := 966) B dL_law_961 (by decide) (fun _ => ?_) (fun h => absurd (by decide) h)
  refine z_iload B dL_law_966 1 rfl ?_
  refine z_if_ne (tgt := 983) B dL_law_968 (by decide) (fun _ => ?_) (fun h => absurd h (by decide))
  refine z_goto (tgt := 1395) B dL_law_983 (by decide) ?_
  exact z_widen (Nat.le_of_ble_eq_true rfl) (Nat.le_of_ble_eq_true rfl) (z_sub _ [2, 6] rfl (kk _))
set_option maxRecDepth 100000 in
set_option maxHeartbeats 4000000 in
theorem lf_14_390 {p : Program} {l : Launch} {e : Env} {s : State} {m : MethodId} {args : Array Value} {below : List Frame} {meth : Method} {c : Code} {g : gx_T} {Q : State → Prop} {σ : sx_T} {b t bS : Nat} {xs : Nat → Int32} (hlt : l.stackTraces = false) (B : zx_B p s m args meth c code RL 8 g) (hX : va_X bS 6 xs s s.heap) (hbl : bS < s.heap.size) (hbA : ¬ gx_b g ≤ bS) (hF : fz_P b t σ) {x1 : Int32} (h_x1 : xs 1 = x1) (q1_x1 : (0 : Int) ≤ x1.toInt) (q2_x1 : x1.toInt ≤ (2147483647 : Int)) {x2 : Int32} (h_x2 : xs 2 = x2) (q1_x2 : (0 : Int) ≤ x2.toInt) (q2_x2 : x2.toInt ≤ (8 : Int)) (kk : ∀ σ', zx p l e room_1 s m args below meth c g 8 600002 7302232 Q σ' 1395 [(4, .int 0), (0, .ref bS)] []) : zx p l e room_1 s m args below meth c g 8 500 100000 Q σ 918 [(4, .int 0), (3, .ref (b + 431)), (2, .ref (b + 405)), (1, .ref (b + 0)), (0, .ref bS)] [] := by
  have hK := fz_lay hF
  refine z_eqs (σ' := (ap b σ [] [] [])) rfl ?_
  refine z_aload_n B dL_law_918 rfl 3 rfl ?_
  refine z_aload_n B dL_law_919 rfl 4 rfl ?_
  refine z_iload B dL_law_920 0 rfl ?_
  refine z_iconst (v := 1) B dL_law_922 (by decide) ?_
  refine z_iadd B dL_law_923 ?_
  refine z_seti (y := 1) (by decide) ?_
  refine z_sld (j := 1) (x := x1) B hX hbl hbA (by decide) (show ¬ ((1 : Int32) < 0 ∨ 6 ≤ (1 : Int32).toNatClampNeg) by decide) h_x1 dL_law_924 ?_
  refine z_aload_n B dL_law_925 rfl 4 rfl ?_
  refine z_iload B dL_law_926 0 rfl ?_
  refine z_iconst (v := 2) B dL_law_928 (by decide) ?_
  refine z_iadd B dL_law_929 ?_
  refine z_seti (y := 2) (by decide) ?_
  refine z_sld (j := 2) (x := x2) B hX hbl hbA (by decide) (show ¬ ((2 : Int32) < 0 ∨ 6 ≤ (2 : Int32).toNatClampNeg) by decide) h_x2 dL_law_930 ?_
  refine z_aload_n B dL_law_931 rfl 1 rfl ?_
  refine z_cSWi (As := [.ref (b + 0), .int x1, .int x2, .ref (b + 431)]) (rest := []) B cw_L_131 dL_law_932 (ci_L_about_1197 l hlt (σ := (ap b σ [] [] [])) (b := b) (lyA hK) x1 x2 q1_x1 q2_x1 (rI_at 0 7 (fz_I hF 0 7 rfl rfl))) rfl (by decide) rfl (Nat.le_of_ble_eq_true rfl) (by decide) (fun r u hu => ?_)
  obtain ⟨hu1, z, hu⟩ := hu
  refine z_eqs (σ' := (ap b (wx_Z σ z) [] [] [])) (hu.trans az_ap) ?_
  show zx p l e _ s m _ below meth c g 8 _ _ _ _ 935 [(4, .int 0), (3, .ref (b + 431)), (2, .ref (b + 405)), (1, .ref (b + 0)), (0, .ref bS)] _
  refine z_seti (y := 1) hu1 ?_
  refine z_istore (lv' := [(5, .int 1), (4, .int 0), (3, .ref (b + 431)), (2, .ref (b + 405)), (1, .ref (b + 0)), (0, .ref bS)]) B dL_law_935 (by decide) rfl ?_
  refine z_aload_n B dL_law_937 rfl 3 rfl ?_
  refine z_aload_n B dL_law_938 rfl 5 rfl ?_
  refine z_iload B dL_law_939 1 rfl ?_
  refine z_iconst (v := 1) B dL_law_941 (by decide) ?_
  refine z_iadd B dL_law_942 ?_
  refine z_seti (y := 1) (by decide) ?_
  refine z_sld (j := 1) (x := x1) B hX hbl hbA (by decide) (show ¬ ((1 : Int32) < 0 ∨ 6 ≤ (1 : Int32).toNatClampNeg) by decide) h_x1 dL_law_943 ?_
  refine z_aload_n B dL_law_944 rfl 5 rfl ?_
  refine z_iload B dL_law_945 1 rfl ?_
  refine z_iconst (v := 2) B dL_law_947 (by decide) ?_
  refine z_iadd B dL_law_948 ?_
  refine z_seti (y := 2) (by decide) ?_
  refine z_sld (j := 2) (x := x2) B hX hbl hbA (by decide) (show ¬ ((2 : Int32) < 0 ∨ 6 ≤ (2 : Int32).toNatClampNeg) by decide) h_x2 dL_law_949 ?_
  refine z_cVi (As := [.int x1, .int x2]) (rest := []) B cw_L_133 cx_10 dL_law_950 (ci_X9_about_1201 l (σ := (ap b (wx_Z σ z) [] [] [])) (b := b) (lyA (lyZ hK)) x1 x2 q1_x1 q2_x1 q1_x2 q2_x2 (rI_at 405 6 (lIZ (fz_I hF 405 6 rfl rfl)))) (lKA (lKZ (hk_K hK 405 rfl rfl))) rfl (by decide) rfl (Nat.le_of_ble_eq_true rfl) (by decide) (fun r u hu => ?_)
  refine z_eqs (σ' := (ap b (wx_Z σ z) [(405, 0, 1)] [] [])) (hu.2.trans ap_ap) ?_
  show zx p l e _ s m _ below meth c g 8 _ _ _ _ 953 [(5, .int 1), (4, .int 0), (3, .ref (b + 431)), (2, .ref (b + 405)), (1, .ref (b + 0)), (0, .ref bS)] _
  refine z_seti (y := 0) hu.1 ?_
  refine z_istore (lv' := [(6, .int 0), (5, .int 1), (4, .int 0), (3, .ref (b + 431)), (2, .ref (b + 405)), (1, .ref (b + 0)), (0, .ref bS)]) B dL_law_953 (by decide) rfl ?_
  refine z_aload_n B dL_law_955 rfl 4 rfl ?_
  refine z_cVi (As := []) (rest := []) B cw_L_80 cx_10 dL_law_956 (ci_X9_thrown_31 l (σ := (ap b (wx_Z σ z) [(405, 0, 1)] [] [])) (b := b) (lyA (lyZ hK)) (rI_at 405 0 rfl)) (lKA (lKZ (hk_K hK 405 rfl rfl))) rfl (by decide) rfl (Nat.le_of_ble_eq_true rfl) (by decide) (fun r u hu => ?_)
  refine z_eqs (σ' := (ap b (wx_Z σ z) [(405, 0, 1)] [] [])) hu.2 ?_
  show zx p l e _ s m _ below meth c g 8 _ _ _ _ 959 [(6, .int 0), (5, .int 1), (4, .int 0), (3, .ref (b + 431)), (2, .ref (b + 405)), (1, .ref (b + 0)), (0, .ref bS)] _
  refine z_seti (y := 1) hu.1 ?_
  refine z_iload B dL_law_959 1 rfl ?_
  refine z_icmp_eq (tgt := 966) B dL_law_961 (by decide) (fun _ => ?_) (fun h => absurd (by decide) h)
  refine z_iload B dL_law_966 1 rfl ?_
  refine z_if_ne (tgt := 983) B dL_law_968 (by decide) (fun _ => ?_) (fun h => absurd h (by decide))
  refine z_goto (tgt := 1395) B dL_law_983 (by decide) ?_
  exact z_widen (Nat.le_of_ble_eq_true rfl) (Nat.le_of_ble_eq_true rfl) (z_sub _ [2, 6] rfl (kk _))
set_option maxRecDepth 100000 in
set_option maxHeartbeats 4000000 in
theorem lf_14_391 {p : Program} {l : Launch} {e : Env} {s : State} {m : MethodId} {args : Array Value} {below : List Frame} {meth : Method} {c : Code} {g : gx_T} {Q : State → Prop} {σ : sx_T} {b t bS : Nat} {xs : Nat → Int32} (hlt : l.stackTraces = false) (B : zx_B p s m args meth c code RL 8 g) (hX : va_X bS 6 xs s s.heap) (hbl : bS < s.heap.size) (hbA : ¬ gx_b g ≤ bS) (hF : fz_P b t σ) {x1 : Int32} (h_x1 : xs 1 = x1) (q1_x1 : (0 : Int) ≤ x1.toInt) (q2_x1 : x1.toInt ≤ (2147483647 : Int)) {x2 : Int32} (h_x2 : xs 2 = x2) (q1_x2 : (9 : Int) ≤ x2.toInt) (q2_x2 : x2.toInt ≤ (2147483647 : Int)) (kk : ∀ σ', zx p l e room_1 s m args below meth c g 8 600002 7302232 Q σ' 1395 [(4, .int 0), (0, .ref bS)] []) : zx p l e room_1 s m args below meth c g 8 500 100000 Q σ 918 [(4, .int 0), (3, .ref (b + 431)), (2, .ref (b + 405)), (1, .ref (b + 0)), (0, .ref bS)] [] := by
  have hK := fz_lay hF
  refine z_eqs (σ' := (ap b σ [] [] [])) rfl ?_
  refine z_aload_n B dL_law_918 rfl 3 rfl ?_
  refine z_aload_n B dL_law_919 rfl 4 rfl ?_
  refine z_iload B dL_law_920 0 rfl ?_
  refine z_iconst (v := 1) B dL_law_922 (by decide) ?_
  refine z_iadd B dL_law_923 ?_
  refine z_seti (y := 1) (by decide) ?_
  refine z_sld (j := 1) (x := x1) B hX hbl hbA (by decide) (show ¬ ((1 : Int32) < 0 ∨ 6 ≤ (1 : Int32).toNatClampNeg) by decide) h_x1 dL_law_924 ?_
  refine z_aload_n B dL_law_925 rfl 4 rfl ?_
  refine z_iload B dL_law_926 0 rfl ?_
  refine z_iconst (v := 2) B dL_law_928 (by decide) ?_
  refine z_iadd B dL_law_929 ?_
  refine z_seti (y := 2) (by decide) ?_
  refine z_sld (j := 2) (x := x2) B hX hbl hbA (by decide) (show ¬ ((2 : Int32) < 0 ∨ 6 ≤ (2 : Int32).toNatClampNeg) by decide) h_x2 dL_law_930 ?_
  refine z_aload_n B dL_law_931 rfl 1 rfl ?_
  refine z_cSWi (As := [.ref (b + 0), .int x1, .int x2, .ref (b + 431)]) (rest := []) B cw_L_131 dL_law_932 (ci_L_about_1197 l hlt (σ := (ap b σ [] [] [])) (b := b) (lyA hK) x1 x2 q1_x1 q2_x1 (rI_at 0 7 (fz_I hF 0 7 rfl rfl))) rfl (by decide) rfl (Nat.le_of_ble_eq_true rfl) (by decide) (fun r u hu => ?_)
  obtain ⟨hu1, z, hu⟩ := hu
  refine z_eqs (σ' := (ap b (wx_Z σ z) [] [] [])) (hu.trans az_ap) ?_
  show zx p l e _ s m _ below meth c g 8 _ _ _ _ 935 [(4, .int 0), (3, .ref (b + 431)), (2, .ref (b + 405)), (1, .ref (b + 0)), (0, .ref bS)] _
  refine z_seti (y := 1) hu1 ?_
  refine z_istore (lv' := [(5, .int 1), (4, .int 0), (3, .ref (b + 431)), (2, .ref (b + 405)), (1, .ref (b + 0)), (0, .ref bS)]) B dL_law_935 (by decide) rfl ?_
  refine z_aload_n B dL_law_937 rfl 3 rfl ?_
  refine z_aload_n B dL_law_938 rfl 5 rfl ?_
  refine z_iload B dL_law_939 1 rfl ?_
  refine z_iconst (v := 1) B dL_law_941 (by decide) ?_
  refine z_iadd B dL_law_942 ?_
  refine z_seti (y := 1) (by decide) ?_
  refine z_sld (j := 1) (x := x1) B hX hbl hbA (by decide) (show ¬ ((1 : Int32) < 0 ∨ 6 ≤ (1 : Int32).toNatClampNeg) by decide) h_x1 dL_law_943 ?_
  refine z_aload_n B dL_law_944 rfl 5 rfl ?_
  refine z_iload B dL_law_945 1 rfl ?_
  refine z_iconst (v := 2) B dL_law_947 (by decide) ?_
  refine z_iadd B dL_law_948 ?_
  refine z_seti (y := 2) (by decide) ?_
  refine z_sld (j := 2) (x := x2) B hX hbl hbA (by decide) (show ¬ ((2 : Int32) < 0 ∨ 6 ≤ (2 : Int32).toNatClampNeg) by decide) h_x2 dL_law_949 ?_
  refine z_cVi (As := [.int x1, .int x2]) (rest := []) B cw_L_133 cx_10 dL_law_950 (ci_X9_about_1203 l (σ := (ap b (wx_Z σ z) [] [] [])) (b := b) (lyA (lyZ hK)) x1 x2 q1_x1 q2_x1 q1_x2 q2_x2 (rI_at 405 6 (lIZ (fz_I hF 405 6 rfl rfl)))) (lKA (lKZ (hk_K hK 405 rfl rfl))) rfl (by decide) rfl (Nat.le_of_ble_eq_true rfl) (by decide) (fun r u hu => ?_)
  refine z_eqs (σ' := (ap b (wx_Z σ z) [(405, 0, 1)] [] [])) (hu.2.trans ap_ap) ?_
  show zx p l e _ s m _ below meth c g 8 _ _ _ _ 953 [(5, .int 1), (4, .int 0), (3, .ref (b + 431)), (2, .ref (b + 405)), (1, .ref (b + 0)), (0, .ref bS)] _
  refine z_seti (y := 0) hu.1 ?_
  refine z_istore (lv' := [(6, .int 0), (5, .int 1), (4, .int 0), (3, .ref (b + 431)), (2, .ref (b + 405)), (1, .ref (b + 0)), (0, .ref bS)]) B dL_law_953 (by decide) rfl ?_
  refine z_aload_n B dL_law_955 rfl 4 rfl ?_
  refine z_cVi (As := []) (rest := []) B cw_L_80 cx_10 dL_law_956 (ci_X9_thrown_31 l (σ := (ap b (wx_Z σ z) [(405, 0, 1)] [] [])) (b := b) (lyA (lyZ hK)) (rI_at 405 0 rfl)) (lKA (lKZ (hk_K hK 405 rfl rfl))) rfl (by decide) rfl (Nat.le_of_ble_eq_true rfl) (by decide) (fun r u hu => ?_)
  refine z_eqs (σ' := (ap b (wx_Z σ z) [(405, 0, 1)] [] [])) hu.2 ?_
  show zx p l e _ s m _ below meth c g 8 _ _ _ _ 959 [(6, .int 0), (5, .int 1), (4, .int 0), (3, .ref (b + 431)), (2, .ref (b + 405)), (1, .ref (b + 0)), (0, .ref bS)] _
  refine z_seti (y := 1) hu.1 ?_
  refine z_iload B dL_law_959 1 rfl ?_
  refine z_icmp_eq (tgt := 966) B dL_law_961 (by decide) (fun _ => ?_) (fun h => absurd (by decide) h)
  refine z_iload B dL_law_966 1 rfl ?_
  refine z_if_ne (tgt := 983) B dL_law_968 (by decide) (fun _ => ?_) (fun h => absurd h (by decide))
  refine z_goto (tgt := 1395) B dL_law_983 (by decide) ?_
  exact z_widen (Nat.le_of_ble_eq_true rfl) (Nat.le_of_ble_eq_true rfl) (z_sub _ [2, 6] rfl (kk _))
set_option maxRecDepth 100000 in
set_option maxHeartbeats 4000000 in
theorem lf_15_392 {p : Program} {l : Launch} {e : Env} {s : State} {m : MethodId} {args : Array Value} {below : List Frame} {meth : Method} {c : Code} {g : gx_T} {Q : State → Prop} {σ : sx_T} {b t bS : Nat} {xs : Nat → Int32} (hlt : l.stackTraces = false) (B : zx_B p s m args meth c code RL 8 g) (hX : va_X bS 6 xs s s.heap) (hbl : bS < s.heap.size) (hbA : ¬ gx_b g ≤ bS) (hF : fz_P b t σ) {x1 : Int32} (h_x1 : xs 1 = x1) (q1_x1 : (-2147483648 : Int) ≤ x1.toInt) (q2_x1 : x1.toInt ≤ (-1 : Int)) {x2 : Int32} (h_x2 : xs 2 = x2) (q1_x2 : (-2147483648 : Int) ≤ x2.toInt) (q2_x2 : x2.toInt ≤ (-1 : Int)) (kk : ∀ σ', zx p l e room_1 s m args below meth c g 8 600002 7302232 Q σ' 1395 [(4, .int 0), (0, .ref bS)] []) : zx p l e room_1 s m args below meth c g 8 500 100000 Q σ 986 [(4, .int 0), (3, .ref (b + 431)), (2, .ref (b + 405)), (1, .ref (b + 0)), (0, .ref bS)] [] := by
  have hK := fz_lay hF
  refine z_eqs (σ' := (ap b σ [] [] [])) rfl ?_
  refine z_aload_n B dL_law_986 rfl 3 rfl ?_
  refine z_aload_n B dL_law_987 rfl 4 rfl ?_
  refine z_iload B dL_law_988 0 rfl ?_
  refine z_iconst (v := 1) B dL_law_990 (by decide) ?_
  refine z_iadd B dL_law_991 ?_
  refine z_seti (y := 1) (by decide) ?_
  refine z_sld (j := 1) (x := x1) B hX hbl hbA (by decide) (show ¬ ((1 : Int32) < 0 ∨ 6 ≤ (1 : Int32).toNatClampNeg) by decide) h_x1 dL_law_992 ?_
  refine z_aload_n B dL_law_993 rfl 4 rfl ?_
  refine z_iload B dL_law_994 0 rfl ?_
  refine z_iconst (v := 2) B dL_law_996 (by decide) ?_
  refine z_iadd B dL_law_997 ?_
  refine z_seti (y := 2) (by decide) ?_
  refine z_sld (j := 2) (x := x2) B hX hbl hbA (by decide) (show ¬ ((2 : Int32) < 0 ∨ 6 ≤ (2 : Int32).toNatClampNeg) by decide) h_x2 dL_law_998 ?_
  refine z_aload_n B dL_law_999 rfl 1 rfl ?_
  refine z_cSWi (As := [.ref (b + 0), .int x1, .int x2, .ref (b + 431)]) (rest := []) B cw_L_134 dL_law_1000 (ci_L_aboutAnew_1205 l hlt (σ := (ap b σ [] [] [])) (b := b) (lyA hK) x1 x2 q1_x1 q2_x1) rfl (by decide) rfl (Nat.le_of_ble_eq_true rfl) (by decide) (fun r u hu => ?_)
  obtain ⟨hu1, z, hu⟩ := hu
  refine z_eqs (σ' := (ap b (wx_Z σ z) [] [] [])) (hu.trans az_ap) ?_
  show zx p l e _ s m _ below meth c g 8 _ _ _ _ 1003 [(4, .int 0), (3, .ref (b + 431)), (2, .ref (b + 405)), (1, .ref (b + 0)), (0, .ref bS)] _
  refine z_seti (y := 1) hu1 ?_
  refine z_istore (lv' := [(5, .int 1), (4, .int 0), (3, .ref (b + 431)), (2, .ref (b + 405)), (1, .ref (b + 0)), (0, .ref bS)]) B dL_law_1003 (by decide) rfl ?_
  refine z_aload_n B dL_law_1005 rfl 3 rfl ?_
  refine z_aload_n B dL_law_1006 rfl 5 rfl ?_
  refine z_iload B dL_law_1007 1 rfl ?_
  refine z_iconst (v := 1) B dL_law_1009 (by decide) ?_
  refine z_iadd B dL_law_1010 ?_
  refine z_seti (y := 1) (by decide) ?_
  refine z_sld (j := 1) (x := x1) B hX hbl hbA (by decide) (show ¬ ((1 : Int32) < 0 ∨ 6 ≤ (1 : Int32).toNatClampNeg) by decide) h_x1 dL_law_1011 ?_
  refine z_aload_n B dL_law_1012 rfl 5 rfl ?_
  refine z_iload B dL_law_1013 1 rfl ?_
  refine z_iconst (v := 2) B dL_law_1015 (by decide) ?_
  refine z_iadd B dL_law_1016 ?_
  refine z_seti (y := 2) (by decide) ?_
  refine z_sld (j := 2) (x := x2) B hX hbl hbA (by decide) (show ¬ ((2 : Int32) < 0 ∨ 6 ≤ (2 : Int32).toNatClampNeg) by decide) h_x2 dL_law_1017 ?_
  refine z_cVi (As := [.int x1, .int x2]) (rest := []) B cw_L_136 cx_10 dL_law_1018 (ci_X9_aboutAnew_1206 l (σ := (ap b (wx_Z σ z) [] [] [])) (b := b) (lyA (lyZ hK)) x1 x2 q1_x1 q2_x1 q1_x2 q2_x2 (rI_at 405 6 (lIZ (fz_I hF 405 6 rfl rfl)))) (lKA (lKZ (hk_K hK 405 rfl rfl))) rfl (by decide) rfl (Nat.le_of_ble_eq_true rfl) (by decide) (fun r u hu => ?_)
  refine z_eqs (σ' := (ap b (wx_Z σ z) [(405, 0, 1)] [] [])) (hu.2.trans ap_ap) ?_
  show zx p l e _ s m _ below meth c g 8 _ _ _ _ 1021 [(5, .int 1), (4, .int 0), (3, .ref (b + 431)), (2, .ref (b + 405)), (1, .ref (b + 0)), (0, .ref bS)] _
  refine z_seti (y := 0) hu.1 ?_
  refine z_istore (lv' := [(6, .int 0), (5, .int 1), (4, .int 0), (3, .ref (b + 431)), (2, .ref (b + 405)), (1, .ref (b + 0)), (0, .ref bS)]) B dL_law_1021 (by decide) rfl ?_
  refine z_aload_n B dL_law_1023 rfl 4 rfl ?_
  refine z_cVi (As := []) (rest := []) B cw_L_80 cx_10 dL_law_1024 (ci_X9_thrown_31 l (σ := (ap b (wx_Z σ z) [(405, 0, 1)] [] [])) (b := b) (lyA (lyZ hK)) (rI_at 405 0 rfl)) (lKA (lKZ (hk_K hK 405 rfl rfl))) rfl (by decide) rfl (Nat.le_of_ble_eq_true rfl) (by decide) (fun r u hu => ?_)
  refine z_eqs (σ' := (ap b (wx_Z σ z) [(405, 0, 1)] [] [])) hu.2 ?_
  show zx p l e _ s m _ below meth c g 8 _ _ _ _ 1027 [(6, .int 0), (5, .int 1), (4, .int 0), (3, .ref (b + 431)), (2, .ref (b + 405)), (1, .ref (b + 0)), (0, .ref bS)] _
  refine z_seti (y := 1) hu.1 ?_
  refine z_iload B dL_law_1027 1 rfl ?_
  refine z_icmp_eq (tgt := 1034) B dL_law_1029 (by decide) (fun _ => ?_) (fun h => absurd (by decide) h)
  refine z_iload B dL_law_1034 1 rfl ?_
  refine z_if_ne (tgt := 1051) B dL_law_1036 (by decide) (fun _ => ?_) (fun h => absurd h (by decide))
  refine z_goto (tgt := 1395) B dL_law_1051 (by decide) ?_
  exact z_widen (Nat.le_of_ble_eq_true rfl) (Nat.le_of_ble_eq_true rfl) (z_sub _ [2, 6] rfl (kk _))
set_option maxRecDepth 100000 in
set_option maxHeartbeats 4000000 in
theorem lf_15_393 {p : Program} {l : Launch} {e : Env} {s : State} {m : MethodId} {args : Array Value} {below : List Frame} {meth : Method} {c : Code} {g : gx_T} {Q : State → Prop} {σ : sx_T} {b t bS : Nat} {xs : Nat → Int32} (hlt : l.stackTraces = false) (B : zx_B p s m args meth c code RL 8 g) (hX : va_X bS 6 xs s s.heap) (hbl : bS < s.heap.size) (hbA : ¬ gx_b g ≤ bS) (hF : fz_P b t σ) {x1 : Int32} (h_x1 : xs 1 = x1) (q1_x1 : (-2147483648 : Int) ≤ x1.toInt) (q2_x1 : x1.toInt ≤ (-1 : Int)) {x2 : Int32} (h_x2 : xs 2 = x2) (q1_x2 : (0 : Int) ≤ x2.toInt) (q2_x2 : x2.toInt ≤ (8 : Int)) (kk : ∀ σ', zx p l e room_1 s m args below meth c g 8 600002 7302232 Q σ' 1395 [(4, .int 0), (0, .ref bS)] []) : zx p l e room_1 s m args below meth c g 8 500 100000 Q σ 986 [(4, .int 0), (3, .ref (b + 431)), (2, .ref (b + 405)), (1, .ref (b + 0)), (0, .ref bS)] [] := by
  have hK := fz_lay hF
  refine z_eqs (σ' := (ap b σ [] [] [])) rfl ?_
  refine z_aload_n B dL_law_986 rfl 3 rfl ?_
  refine z_aload_n B dL_law_987 rfl 4 rfl ?_
  refine z_iload B dL_law_988 0 rfl ?_
  refine z_iconst (v := 1) B dL_law_990 (by decide) ?_
  refine z_iadd B dL_law_991 ?_
  refine z_seti (y := 1) (by decide) ?_
  refine z_sld (j := 1) (x := x1) B hX hbl hbA (by decide) (show ¬ ((1 : Int32) < 0 ∨ 6 ≤ (1 : Int32).toNatClampNeg) by decide) h_x1 dL_law_992 ?_
  refine z_aload_n B dL_law_993 rfl 4 rfl ?_
  refine z_iload B dL_law_994 0 rfl ?_
  refine z_iconst (v := 2) B dL_law_996 (by decide) ?_
  refine z_iadd B dL_law_997 ?_
  refine z_seti (y := 2) (by decide) ?_
  refine z_sld (j := 2) (x := x2) B hX hbl hbA (by decide) (show ¬ ((2 : Int32) < 0 ∨ 6 ≤ (2 : Int32).toNatClampNeg) by decide) h_x2 dL_law_998 ?_
  refine z_aload_n B dL_law_999 rfl 1 rfl ?_
  refine z_cSWi (As := [.ref (b + 0), .int x1, .int x2, .ref (b + 431)]) (rest := []) B cw_L_134 dL_law_1000 (ci_L_aboutAnew_1205 l hlt (σ := (ap b σ [] [] [])) (b := b) (lyA hK) x1 x2 q1_x1 q2_x1) rfl (by decide) rfl (Nat.le_of_ble_eq_true rfl) (by decide) (fun r u hu => ?_)
  obtain ⟨hu1, z, hu⟩ := hu
  refine z_eqs (σ' := (ap b (wx_Z σ z) [] [] [])) (hu.trans az_ap) ?_
  show zx p l e _ s m _ below meth c g 8 _ _ _ _ 1003 [(4, .int 0), (3, .ref (b + 431)), (2, .ref (b + 405)), (1, .ref (b + 0)), (0, .ref bS)] _
  refine z_seti (y := 1) hu1 ?_
  refine z_istore (lv' := [(5, .int 1), (4, .int 0), (3, .ref (b + 431)), (2, .ref (b + 405)), (1, .ref (b + 0)), (0, .ref bS)]) B dL_law_1003 (by decide) rfl ?_
  refine z_aload_n B dL_law_1005 rfl 3 rfl ?_
  refine z_aload_n B dL_law_1006 rfl 5 rfl ?_
  refine z_iload B dL_law_1007 1 rfl ?_
  refine z_iconst (v := 1) B dL_law_1009 (by decide) ?_
  refine z_iadd B dL_law_1010 ?_
  refine z_seti (y := 1) (by decide) ?_
  refine z_sld (j := 1) (x := x1) B hX hbl hbA (by decide) (show ¬ ((1 : Int32) < 0 ∨ 6 ≤ (1 : Int32).toNatClampNeg) by decide) h_x1 dL_law_1011 ?_
  refine z_aload_n B dL_law_1012 rfl 5 rfl ?_
  refine z_iload B dL_law_1013 1 rfl ?_
  refine z_iconst (v := 2) B dL_law_1015 (by decide) ?_
  refine z_iadd B dL_law_1016 ?_
  refine z_seti (y := 2) (by decide) ?_
  refine z_sld (j := 2) (x := x2) B hX hbl hbA (by decide) (show ¬ ((2 : Int32) < 0 ∨ 6 ≤ (2 : Int32).toNatClampNeg) by decide) h_x2 dL_law_1017 ?_
  refine z_cVi (As := [.int x1, .int x2]) (rest := []) B cw_L_136 cx_10 dL_law_1018 (ci_X9_aboutAnew_1207 l (σ := (ap b (wx_Z σ z) [] [] [])) (b := b) (lyA (lyZ hK)) x1 x2 q1_x1 q2_x1 q1_x2 q2_x2 (rI_at 405 6 (lIZ (fz_I hF 405 6 rfl rfl)))) (lKA (lKZ (hk_K hK 405 rfl rfl))) rfl (by decide) rfl (Nat.le_of_ble_eq_true rfl) (by decide) (fun r u hu => ?_)
  refine z_eqs (σ' := (ap b (wx_Z σ z) [(405, 0, 1)] [] [])) (hu.2.trans ap_ap) ?_
  show zx p l e _ s m _ below meth c g 8 _ _ _ _ 1021 [(5, .int 1), (4, .int 0), (3, .ref (b + 431)), (2, .ref (b + 405)), (1, .ref (b + 0)), (0, .ref bS)] _
  refine z_seti (y := 0) hu.1 ?_
  refine z_istore (lv' := [(6, .int 0), (5, .int 1), (4, .int 0), (3, .ref (b + 431)), (2, .ref (b + 405)), (1, .ref (b + 0)), (0, .ref bS)]) B dL_law_1021 (by decide) rfl ?_
  refine z_aload_n B dL_law_1023 rfl 4 rfl ?_
  refine z_cVi (As := []) (rest := []) B cw_L_80 cx_10 dL_law_1024 (ci_X9_thrown_31 l (σ := (ap b (wx_Z σ z) [(405, 0, 1)] [] [])) (b := b) (lyA (lyZ hK)) (rI_at 405 0 rfl)) (lKA (lKZ (hk_K hK 405 rfl rfl))) rfl (by decide) rfl (Nat.le_of_ble_eq_true rfl) (by decide) (fun r u hu => ?_)
  refine z_eqs (σ' := (ap b (wx_Z σ z) [(405, 0, 1)] [] [])) hu.2 ?_
  show zx p l e _ s m _ below meth c g 8 _ _ _ _ 1027 [(6, .int 0), (5, .int 1), (4, .int 0), (3, .ref (b + 431)), (2, .ref (b + 405)), (1, .ref (b + 0)), (0, .ref bS)] _
  refine z_seti (y := 1) hu.1 ?_
  refine z_iload B dL_law_1027 1 rfl ?_
  refine z_icmp_eq (tgt := 1034) B dL_law_1029 (by decide) (fun _ => ?_) (fun h => absurd (by decide) h)
  refine z_iload B dL_law_1034 1 rfl ?_
  refine z_if_ne (tgt := 1051) B dL_law_1036 (by decide) (fun _ => ?_) (fun h => absurd h (by decide))
  refine z_goto (tgt := 1395) B dL_law_1051 (by decide) ?_
  exact z_widen (Nat.le_of_ble_eq_true rfl) (Nat.le_of_ble_eq_true rfl) (z_sub _ [2, 6] rfl (kk _))
set_option maxRecDepth 100000 in
set_option maxHeartbeats 4000000 in
theorem lf_15_394 {p : Program} {l : Launch} {e : Env} {s : State} {m : MethodId} {args : Array Value} {below : List Frame} {meth : Method} {c : Code} {g : gx_T} {Q : State → Prop} {σ : sx_T} {b t bS : Nat} {xs : Nat → Int32} (hlt : l.stackTraces = false) (B : zx_B p s m args meth c code RL 8 g) (hX : va_X bS 6 xs s s.heap) (hbl : bS < s.heap.size) (hbA : ¬ gx_b g ≤ bS) (hF : fz_P b t σ) {x1 : Int32} (h_x1 : xs 1 = x1) (q1_x1 : (-2147483648 : Int) ≤ x1.toInt) (q2_x1 : x1.toInt ≤ (-1 : Int)) {x2 : Int32} (h_x2 : xs 2 = x2) (q1_x2 : (9 : Int) ≤ x2.toInt) (q2_x2 : x2.toInt ≤ (2147483647 : Int)) (kk : ∀ σ', zx p l e room_1 s m args below meth c g 8 600002 7302232 Q σ' 1395 [(4, .int 0), (0, .ref bS)] []) : zx p l e room_1 s m args below meth c g 8 500 100000 Q σ 986 [(4, .int 0), (3, .ref (b + 431)), (2, .ref (b + 405)), (1, .ref (b + 0)), (0, .ref bS)] [] := by
  have hK := fz_lay hF
  refine z_eqs (σ' := (ap b σ [] [] [])) rfl ?_
  refine z_aload_n B dL_law_986 rfl 3 rfl ?_
  refine z_aload_n B dL_law_987 rfl 4 rfl ?_
  refine z_iload B dL_law_988 0 rfl ?_
  refine z_iconst (v := 1) B dL_law_990 (by decide) ?_
  refine z_iadd B dL_law_991 ?_
  refine z_seti (y := 1) (by decide) ?_
  refine z_sld (j := 1) (x := x1) B hX hbl hbA (by decide) (show ¬ ((1 : Int32) < 0 ∨ 6 ≤ (1 : Int32).toNatClampNeg) by decide) h_x1 dL_law_992 ?_
  refine z_aload_n B dL_law_993 rfl 4 rfl ?_
  refine z_iload B dL_law_994 0 rfl ?_
  refine z_iconst (v := 2) B dL_law_996 (by decide) ?_
  refine z_iadd B dL_law_997 ?_
  refine z_seti (y := 2) (by decide) ?_
  refine z_sld (j := 2) (x := x2) B hX hbl hbA (by decide) (show ¬ ((2 : Int32) < 0 ∨ 6 ≤ (2 : Int32).toNatClampNeg) by decide) h_x2 dL_law_998 ?_
  refine z_aload_n B dL_law_999 rfl 1 rfl ?_
  refine z_cSWi (As := [.ref (b + 0), .int x1, .int x2, .ref (b + 431)]) (rest := []) B cw_L_134 dL_law_1000 (ci_L_aboutAnew_1205 l hlt (σ := (ap b σ [] [] [])) (b := b) (lyA hK) x1 x2 q1_x1 q2_x1) rfl (by decide) rfl (Nat.le_of_ble_eq_true rfl) (by decide) (fun r u hu => ?_)
  obtain ⟨hu1, z, hu⟩ := hu
  refine z_eqs (σ' := (ap b (wx_Z σ z) [] [] [])) (hu.trans az_ap) ?_
  show zx p l e _ s m _ below meth c g 8 _ _ _ _ 1003 [(4, .int 0), (3, .ref (b + 431)), (2, .ref (b + 405)), (1, .ref (b + 0)), (0, .ref bS)] _
  refine z_seti (y := 1) hu1 ?_
  refine z_istore (lv' := [(5, .int 1), (4, .int 0), (3, .ref (b + 431)), (2, .ref (b + 405)), (1, .ref (b + 0)), (0, .ref bS)]) B dL_law_1003 (by decide) rfl ?_
  refine z_aload_n B dL_law_1005 rfl 3 rfl ?_
  refine z_aload_n B dL_law_1006 rfl 5 rfl ?_
  refine z_iload B dL_law_1007 1 rfl ?_
  refine z_iconst (v := 1) B dL_law_1009 (by decide) ?_
  refine z_iadd B dL_law_1010 ?_
  refine z_seti (y := 1) (by decide) ?_
  refine z_sld (j := 1) (x := x1) B hX hbl hbA (by decide) (show ¬ ((1 : Int32) < 0 ∨ 6 ≤ (1 : Int32).toNatClampNeg) by decide) h_x1 dL_law_1011 ?_
  refine z_aload_n B dL_law_1012 rfl 5 rfl ?_
  refine z_iload B dL_law_1013 1 rfl ?_
  refine z_iconst (v := 2) B dL_law_1015 (by decide) ?_
  refine z_iadd B dL_law_1016 ?_
  refine z_seti (y := 2) (by decide) ?_
  refine z_sld (j := 2) (x := x2) B hX hbl hbA (by decide) (show ¬ ((2 : Int32) < 0 ∨ 6 ≤ (2 : Int32).toNatClampNeg) by decide) h_x2 dL_law_1017 ?_
  refine z_cVi (As := [.int x1, .int x2]) (rest := []) B cw_L_136 cx_10 dL_law_1018 (ci_X9_aboutAnew_1208 l (σ := (ap b (wx_Z σ z) [] [] [])) (b := b) (lyA (lyZ hK)) x1 x2 q1_x1 q2_x1 q1_x2 q2_x2 (rI_at 405 6 (lIZ (fz_I hF 405 6 rfl rfl)))) (lKA (lKZ (hk_K hK 405 rfl rfl))) rfl (by decide) rfl (Nat.le_of_ble_eq_true rfl) (by decide) (fun r u hu => ?_)
  refine z_eqs (σ' := (ap b (wx_Z σ z) [(405, 0, 1)] [] [])) (hu.2.trans ap_ap) ?_
  show zx p l e _ s m _ below meth c g 8 _ _ _ _ 1021 [(5, .int 1), (4, .int 0), (3, .ref (b + 431)), (2, .ref (b + 405)), (1, .ref (b + 0)), (0, .ref bS)] _
  refine z_seti (y := 0) hu.1 ?_
  refine z_istore (lv' := [(6, .int 0), (5, .int 1), (4, .int 0), (3, .ref (b + 431)), (2, .ref (b + 405)), (1, .ref (b + 0)), (0, .ref bS)]) B dL_law_1021 (by decide) rfl ?_
  refine z_aload_n B dL_law_1023 rfl 4 rfl ?_
  refine z_cVi (As := []) (rest := []) B cw_L_80 cx_10 dL_law_1024 (ci_X9_thrown_31 l (σ := (ap b (wx_Z σ z) [(405, 0, 1)] [] [])) (b := b) (lyA (lyZ hK)) (rI_at 405 0 rfl)) (lKA (lKZ (hk_K hK 405 rfl rfl))) rfl (by decide) rfl (Nat.le_of_ble_eq_true rfl) (by decide) (fun r u hu => ?_)
  refine z_eqs (σ' := (ap b (wx_Z σ z) [(405, 0, 1)] [] [])) hu.2 ?_
  show zx p l e _ s m _ below meth c g 8 _ _ _ _ 1027 [(6, .int 0), (5, .int 1), (4, .int 0), (3, .ref (b + 431)), (2, .ref (b + 405)), (1, .ref (b + 0)), (0, .ref bS)] _
  refine z_seti (y := 1) hu.1 ?_
  refine z_iload B dL_law_1027 1 rfl ?_
  refine z_icmp_eq (tgt := 1034) B dL_law_1029 (by decide) (fun _ => ?_) (fun h => absurd (by decide) h)
  refine z_iload B dL_law_1034 1 rfl ?_
  refine z_if_ne (tgt := 1051) B dL_law_1036 (by decide) (fun _ => ?_) (fun h => absurd h (by decide))
  refine z_goto (tgt := 1395) B dL_law_1051 (by decide) ?_
  exact z_widen (Nat.le_of_ble_eq_true rfl) (Nat.le_of_ble_eq_true rfl) (z_sub _ [2, 6] rfl (kk _))
set_option maxRecDepth 100000 in
set_option maxHeartbeats 4000000 in
theorem lf_15_395 {p : Program} {l : Launch} {e : Env} {s : State} {m : MethodId} {args : Array Value} {below : List Frame} {meth : Method} {c : Code} {g : gx_T} {Q : State → Prop} {σ : sx_T} {b t bS : Nat} {xs : Nat → Int32} (hlt : l.stackTraces = false) (B : zx_B p s m args meth c code RL 8 g) (hX : va_X bS 6 xs s s.heap) (hbl : bS < s.heap.size) (hbA : ¬ gx_b g ≤ bS) (hF : fz_P b t σ) {x1 : Int32} (h_x1 : xs 1 = x1) (q1_x1 : (0 : Int) ≤ x1.toInt) (q2_x1 : x1.toInt ≤ (2147483647 : Int)) {x2 : Int32} (h_x2 : xs 2 = x2) (q1_x2 : (-2147483648 : Int) ≤ x2.toInt) (q2_x2 : x2.toInt ≤ (-1 : Int)) (kk : ∀ σ', zx p l e room_1 s m args below meth c g 8 600002 7302232 Q σ' 1395 [(4, .int 0), (0, .ref bS)] []) : zx p l e room_1 s m args below meth c g 8 500 100000 Q σ 986 [(4, .int 0), (3, .ref (b + 431)), (2, .ref (b + 405)), (1, .ref (b + 0)), (0, .ref bS)] [] := by
  have hK := fz_lay hF
  refine z_eqs (σ' := (ap b σ [] [] [])) rfl ?_
  refine z_aload_n B dL_law_986 rfl 3 rfl ?_
  refine z_aload_n B dL_law_987 rfl 4 rfl ?_
  refine z_iload B dL_law_988 0 rfl ?_
  refine z_iconst (v := 1) B dL_law_990 (by decide) ?_
  refine z_iadd B dL_law_991 ?_
  refine z_seti (y := 1) (by decide) ?_
  refine z_sld (j := 1) (x := x1) B hX hbl hbA (by decide) (show ¬ ((1 : Int32) < 0 ∨ 6 ≤ (1 : Int32).toNatClampNeg) by decide) h_x1 dL_law_992 ?_
  refine z_aload_n B dL_law_993 rfl 4 rfl ?_
  refine z_iload B dL_law_994 0 rfl ?_
  refine z_iconst (v := 2) B dL_law_996 (by decide) ?_
  refine z_iadd B dL_law_997 ?_
  refine z_seti (y := 2) (by decide) ?_
  refine z_sld (j := 2) (x := x2) B hX hbl hbA (by decide) (show ¬ ((2 : Int32) < 0 ∨ 6 ≤ (2 : Int32).toNatClampNeg) by decide) h_x2 dL_law_998 ?_
  refine z_aload_n B dL_law_999 rfl 1 rfl ?_
  refine z_cSWi (As := [.ref (b + 0), .int x1, .int x2, .ref (b + 431)]) (rest := []) B cw_L_134 dL_law_1000 (ci_L_aboutAnew_1210 l hlt (σ := (ap b σ [] [] [])) (b := b) (lyA hK) x1 x2 q1_x1 q2_x1 (rI_at 0 7 (fz_I hF 0 7 rfl rfl))) rfl (by decide) rfl (Nat.le_of_ble_eq_true rfl) (by decide) (fun r u hu => ?_)
  obtain ⟨hu1, z, hu⟩ := hu
  refine z_eqs (σ' := (ap b (wx_Z σ z) [] [] [])) (hu.trans az_ap) ?_
  show zx p l e _ s m _ below meth c g 8 _ _ _ _ 1003 [(4, .int 0), (3, .ref (b + 431)), (2, .ref (b + 405)), (1, .ref (b + 0)), (0, .ref bS)] _
  refine z_seti (y := 1) hu1 ?_
  refine z_istore (lv' := [(5, .int 1), (4, .int 0), (3, .ref (b + 431)), (2, .ref (b + 405)), (1, .ref (b + 0)), (0, .ref bS)]) B dL_law_1003 (by decide) rfl ?_
  refine z_aload_n B dL_law_1005 rfl 3 rfl ?_
  refine z_aload_n B dL_law_1006 rfl 5 rfl ?_
  refine z_iload B dL_law_1007 1 rfl ?_
  refine z_iconst (v := 1) B dL_law_1009 (by decide) ?_
  refine z_iadd B dL_law_1010 ?_
  refine z_seti (y := 1) (by decide) ?_
  refine z_sld (j := 1) (x := x1) B hX hbl hbA (by decide) (show ¬ ((1 : Int32) < 0 ∨ 6 ≤ (1 : Int32).toNatClampNeg) by decide) h_x1 dL_law_1011 ?_
  refine z_aload_n B dL_law_1012 rfl 5 rfl ?_
  refine z_iload B dL_law_1013 1 rfl ?_
  refine z_iconst (v := 2) B dL_law_1015 (by decide) ?_
  refine z_iadd B dL_law_1016 ?_
  refine z_seti (y := 2) (by decide) ?_
  refine z_sld (j := 2) (x := x2) B hX hbl hbA (by decide) (show ¬ ((2 : Int32) < 0 ∨ 6 ≤ (2 : Int32).toNatClampNeg) by decide) h_x2 dL_law_1017 ?_
  refine z_cVi (As := [.int x1, .int x2]) (rest := []) B cw_L_136 cx_10 dL_law_1018 (ci_X9_aboutAnew_1211 l (σ := (ap b (wx_Z σ z) [] [] [])) (b := b) (lyA (lyZ hK)) x1 x2 q1_x1 q2_x1 q1_x2 q2_x2 (rI_at 405 6 (lIZ (fz_I hF 405 6 rfl rfl)))) (lKA (lKZ (hk_K hK 405 rfl rfl))) rfl (by decide) rfl (Nat.le_of_ble_eq_true rfl) (by decide) (fun r u hu => ?_)
  refine z_eqs (σ' := (ap b (wx_Z σ z) [(405, 0, 1)] [] [])) (hu.2.trans ap_ap) ?_
  show zx p l e _ s m _ below meth c g 8 _ _ _ _ 1021 [(5, .int 1), (4, .int 0), (3, .ref (b + 431)), (2, .ref (b + 405)), (1, .ref (b + 0)), (0, .ref bS)] _
  refine z_seti (y := 0) hu.1 ?_
  refine z_istore (lv' := [(6, .int 0), (5, .int 1), (4, .int 0), (3, .ref (b + 431)), (2, .ref (b + 405)), (1, .ref (b + 0)), (0, .ref bS)]) B dL_law_1021 (by decide) rfl ?_
  refine z_aload_n B dL_law_1023 rfl 4 rfl ?_
  refine z_cVi (As := []) (rest := []) B cw_L_80 cx_10 dL_law_1024 (ci_X9_thrown_31 l (σ := (ap b (wx_Z σ z) [(405, 0, 1)] [] [])) (b := b) (lyA (lyZ hK)) (rI_at 405 0 rfl)) (lKA (lKZ (hk_K hK 405 rfl rfl))) rfl (by decide) rfl (Nat.le_of_ble_eq_true rfl) (by decide) (fun r u hu => ?_)
  refine z_eqs (σ' := (ap b (wx_Z σ z) [(405, 0, 1)] [] [])) hu.2 ?_
  show zx p l e _ s m _ below meth c g 8 _ _ _ _ 1027 [(6, .int 0), (5, .int 1), (4, .int 0), (3, .ref (b + 431)), (2, .ref (b + 405)), (1, .ref (b + 0)), (0, .ref bS)] _
  refine z_seti (y := 1) hu.1 ?_
  refine z_iload B dL_law_1027 1 rfl ?_
  refine z_icmp_eq (tgt := 1034) B dL_law_1029 (by decide) (fun _ => ?_) (fun h => absurd (by decide) h)
  refine z_iload B dL_law_1034 1 rfl ?_
  refine z_if_ne (tgt := 1051) B dL_law_1036 (by decide) (fun _ => ?_) (fun h => absurd h (by decide))
  refine z_goto (tgt := 1395) B dL_law_1051 (by decide) ?_
  exact z_widen (Nat.le_of_ble_eq_true rfl) (Nat.le_of_ble_eq_true rfl) (z_sub _ [2, 6] rfl (kk _))
set_option maxRecDepth 100000 in
set_option maxHeartbeats 4000000 in
theorem lf_15_396 {p : Program} {l : Launch} {e : Env} {s : State} {m : MethodId} {args : Array Value} {below : List Frame} {meth : Method} {c : Code} {g : gx_T} {Q : State → Prop} {σ : sx_T} {b t bS : Nat} {xs : Nat → Int32} (hlt : l.stackTraces = false) (B : zx_B p s m args meth c code RL 8 g) (hX : va_X bS 6 xs s s.heap) (hbl : bS < s.heap.size) (hbA : ¬ gx_b g ≤ bS) (hF : fz_P b t σ) {x1 : Int32} (h_x1 : xs 1 = x1) (q1_x1 : (0 : Int) ≤ x1.toInt) (q2_x1 : x1.toInt ≤ (2147483647 : Int)) {x2 : Int32} (h_x2 : xs 2 = x2) (q1_x2 : (0 : Int) ≤ x2.toInt) (q2_x2 : x2.toInt ≤ (8 : Int)) (kk : ∀ σ', zx p l e room_1 s m args below meth c g 8 600002 7302232 Q σ' 1395 [(4, .int 0), (0, .ref bS)] []) : zx p l e room_1 s m args below meth c g 8 500 100000 Q σ 986 [(4, .int 0), (3, .ref (b + 431)), (2, .ref (b + 405)), (1, .ref (b + 0)), (0, .ref bS)] [] := by
  have hK := fz_lay hF
  refine z_eqs (σ' := (ap b σ [] [] [])) rfl ?_
  refine z_aload_n B dL_law_986 rfl 3 rfl ?_
  refine z_aload_n B dL_law_987 rfl 4 rfl ?_
  refine z_iload B dL_law_988 0 rfl ?_
  refine z_iconst (v := 1) B dL_law_990 (by decide) ?_
  refine z_iadd B dL_law_991 ?_
  refine z_seti (y := 1) (by decide) ?_
  refine z_sld (j := 1) (x := x1) B hX hbl hbA (by decide) (show ¬ ((1 : Int32) < 0 ∨ 6 ≤ (1 : Int32).toNatClampNeg) by decide) h_x1 dL_law_992 ?_
  refine z_aload_n B dL_law_993 rfl 4 rfl ?_
  refine z_iload B dL_law_994 0 rfl ?_
  refine z_iconst (v := 2) B dL_law_996 (by decide) ?_
  refine z_iadd B dL_law_997 ?_
  refine z_seti (y := 2) (by decide) ?_
  refine z_sld (j := 2) (x := x2) B hX hbl hbA (by decide) (show ¬ ((2 : Int32) < 0 ∨ 6 ≤ (2 : Int32).toNatClampNeg) by decide) h_x2 dL_law_998 ?_
  refine z_aload_n B dL_law_999 rfl 1 rfl ?_
  refine z_cSWi (As := [.ref (b + 0), .int x1, .int x2, .ref (b + 431)]) (rest := []) B cw_L_134 dL_law_1000 (ci_L_aboutAnew_1210 l hlt (σ := (ap b σ [] [] [])) (b := b) (lyA hK) x1 x2 q1_x1 q2_x1 (rI_at 0 7 (fz_I hF 0 7 rfl rfl))) rfl (by decide) rfl (Nat.le_of_ble_eq_true rfl) (by decide) (fun r u hu => ?_)
  obtain ⟨hu1, z, hu⟩ := hu
  refine z_eqs (σ' := (ap b (wx_Z σ z) [] [] [])) (hu.trans az_ap) ?_
  show zx p l e _ s m _ below meth c g 8 _ _ _ _ 1003 [(4, .int 0), (3, .ref (b + 431)), (2, .ref (b + 405)), (1, .ref (b + 0)), (0, .ref bS)] _
  refine z_seti (y := 1) hu1 ?_
  refine z_istore (lv' := [(5, .int 1), (4, .int 0), (3, .ref (b + 431)), (2, .ref (b + 405)), (1, .ref (b + 0)), (0, .ref bS)]) B dL_law_1003 (by decide) rfl ?_
  refine z_aload_n B dL_law_1005 rfl 3 rfl ?_
  refine z_aload_n B dL_law_1006 rfl 5 rfl ?_
  refine z_iload B dL_law_1007 1 rfl ?_
  refine z_iconst (v := 1) B dL_law_1009 (by decide) ?_
  refine z_iadd B dL_law_1010 ?_
  refine z_seti (y := 1) (by decide) ?_
  refine z_sld (j := 1) (x := x1) B hX hbl hbA (by decide) (show ¬ ((1 : Int32) < 0 ∨ 6 ≤ (1 : Int32).toNatClampNeg) by decide) h_x1 dL_law_1011 ?_
  refine z_aload_n B dL_law_1012 rfl 5 rfl ?_
  refine z_iload B dL_law_1013 1 rfl ?_
  refine z_iconst (v := 2) B dL_law_1015 (by decide) ?_
  refine z_iadd B dL_law_1016 ?_
  refine z_seti (y := 2) (by decide) ?_
  refine z_sld (j := 2) (x := x2) B hX hbl hbA (by decide) (show ¬ ((2 : Int32) < 0 ∨ 6 ≤ (2 : Int32).toNatClampNeg) by decide) h_x2 dL_law_1017 ?_
  refine z_cVi (As := [.int x1, .int x2]) (rest := []) B cw_L_136 cx_10 dL_law_1018 (ci_X9_aboutAnew_1212 l (σ := (ap b (wx_Z σ z) [] [] [])) (b := b) (lyA (lyZ hK)) x1 x2 q1_x1 q2_x1 q1_x2 q2_x2 (rI_at 405 6 (lIZ (fz_I hF 405 6 rfl rfl)))) (lKA (lKZ (hk_K hK 405 rfl rfl))) rfl (by decide) rfl (Nat.le_of_ble_eq_true rfl) (by decide) (fun r u hu => ?_)
  refine z_eqs (σ' := (ap b (wx_Z σ z) [(405, 0, 1)] [] [])) (hu.2.trans ap_ap) ?_
  show zx p l e _ s m _ below meth c g 8 _ _ _ _ 1021 [(5, .int 1), (4, .int 0), (3, .ref (b + 431)), (2, .ref (b + 405)), (1, .ref (b + 0)), (0, .ref bS)] _
  refine z_seti (y := 0) hu.1 ?_
  refine z_istore (lv' := [(6, .int 0), (5, .int 1), (4, .int 0), (3, .ref (b + 431)), (2, .ref (b + 405)), (1, .ref (b + 0)), (0, .ref bS)]) B dL_law_1021 (by decide) rfl ?_
  refine z_aload_n B dL_law_1023 rfl 4 rfl ?_
  refine z_cVi (As := []) (rest := []) B cw_L_80 cx_10 dL_law_1024 (ci_X9_thrown_31 l (σ := (ap b (wx_Z σ z) [(405, 0, 1)] [] [])) (b := b) (lyA (lyZ hK)) (rI_at 405 0 rfl)) (lKA (lKZ (hk_K hK 405 rfl rfl))) rfl (by decide) rfl (Nat.le_of_ble_eq_true rfl) (by decide) (fun r u hu => ?_)
  refine z_eqs (σ' := (ap b (wx_Z σ z) [(405, 0, 1)] [] [])) hu.2 ?_
  show zx p l e _ s m _ below meth c g 8 _ _ _ _ 1027 [(6, .int 0), (5, .int 1), (4, .int 0), (3, .ref (b + 431)), (2, .ref (b + 405)), (1, .ref (b + 0)), (0, .ref bS)] _
  refine z_seti (y := 1) hu.1 ?_
  refine z_iload B dL_law_1027 1 rfl ?_
  refine z_icmp_eq (tgt := 1034) B dL_law_1029 (by decide) (fun _ => ?_) (fun h => absurd (by decide) h)
  refine z_iload B dL_law_1034 1 rfl ?_
  refine z_if_ne (tgt := 1051) B dL_law_1036 (by decide) (fun _ => ?_) (fun h => absurd h (by decide))
  refine z_goto (tgt := 1395) B dL_law_1051 (by decide) ?_
  exact z_widen (Nat.le_of_ble_eq_true rfl) (Nat.le_of_ble_eq_true rfl) (z_sub _ [2, 6] rfl (kk _))
set_option maxRecDepth 100000 in
set_option maxHeartbeats 4000000 in
theorem lf_15_397 {p : Program} {l : Launch} {e : Env} {s : State} {m : MethodId} {args : Array Value} {below : List Frame} {meth : Method} {c : Code} {g : gx_T} {Q : State → Prop} {σ : sx_T} {b t bS : Nat} {xs : Nat → Int32} (hlt : l.stackTraces = false) (B : zx_B p s m args meth c code RL 8 g) (hX : va_X bS 6 xs s s.heap) (hbl : bS < s.heap.size) (hbA : ¬ gx_b g ≤ bS) (hF : fz_P b t σ) {x1 : Int32} (h_x1 : xs 1 = x1) (q1_x1 : (0 : Int) ≤ x1.toInt) (q2_x1 : x1.toInt ≤ (2147483647 : Int)) {x2 : Int32} (h_x2 : xs 2 = x2) (q1_x2 : (9 : Int) ≤ x2.toInt) (q2_x2 : x2.toInt ≤ (2147483647 : Int)) (kk : ∀ σ', zx p l e room_1 s m args below meth c g 8 600002 7302232 Q σ' 1395 [(4, .int 0), (0, .ref bS)] []) : zx p l e room_1 s m args below meth c g 8 500 100000 Q σ 986 [(4, .int 0), (3, .ref (b + 431)), (2, .ref (b + 405)), (1, .ref (b + 0)), (0, .ref bS)] [] := by
  have hK := fz_lay hF
  refine z_eqs (σ' := (ap b σ [] [] [])) rfl ?_
  refine z_aload_n B dL_law_986 rfl 3 rfl ?_
  refine z_aload_n B dL_law_987 rfl 4 rfl ?_
  refine z_iload B dL_law_988 0 rfl ?_
  refine z_iconst (v := 1) B dL_law_990 (by decide) ?_
  refine z_iadd B dL_law_991 ?_
  refine z_seti (y := 1) (by decide) ?_
  refine z_sld (j := 1) (x := x1) B hX hbl hbA (by decide) (show ¬ ((1 : Int32) < 0 ∨ 6 ≤ (1 : Int32).toNatClampNeg) by decide) h_x1 dL_law_992 ?_
  refine z_aload_n B dL_law_993 rfl 4 rfl ?_
  refine z_iload B dL_law_994 0 rfl ?_
  refine z_iconst (v := 2) B dL_law_996 (by decide) ?_
  refine z_iadd B dL_law_997 ?_
  refine z_seti (y := 2) (by decide) ?_
  refine z_sld (j := 2) (x := x2) B hX hbl hbA (by decide) (show ¬ ((2 : Int32) < 0 ∨ 6 ≤ (2 : Int32).toNatClampNeg) by decide) h_x2 dL_law_998 ?_
  refine z_aload_n B dL_law_999 rfl 1 rfl ?_
  refine z_cSWi (As := [.ref (b + 0), .int x1, .int x2, .ref (b + 431)]) (rest := []) B cw_L_134 dL_law_1000 (ci_L_aboutAnew_1210 l hlt (σ := (ap b σ [] [] [])) (b := b) (lyA hK) x1 x2 q1_x1 q2_x1 (rI_at 0 7 (fz_I hF 0 7 rfl rfl))) rfl (by decide) rfl (Nat.le_of_ble_eq_true rfl) (by decide) (fun r u hu => ?_)
  obtain ⟨hu1, z, hu⟩ := hu
  refine z_eqs (σ' := (ap b (wx_Z σ z) [] [] [])) (hu.trans az_ap) ?_
  show zx p l e _ s m _ below meth c g 8 _ _ _ _ 1003 [(4, .int 0), (3, .ref (b + 431)), (2, .ref (b + 405)), (1, .ref (b + 0)), (0, .ref bS)] _
  refine z_seti (y := 1) hu1 ?_
  refine z_istore (lv' := [(5, .int 1), (4, .int 0), (3, .ref (b + 431)), (2, .ref (b + 405)), (1, .ref (b + 0)), (0, .ref bS)]) B dL_law_1003 (by decide) rfl ?_
  refine z_aload_n B dL_law_1005 rfl 3 rfl ?_
  refine z_aload_n B dL_law_1006 rfl 5 rfl ?_
  refine z_iload B dL_law_1007 1 rfl ?_
  refine z_iconst (v := 1) B dL_law_1009 (by decide) ?_
  refine z_iadd B dL_law_1010 ?_
  refine z_seti (y := 1) (by decide) ?_
  refine z_sld (j := 1) (x := x1) B hX hbl hbA (by decide) (show ¬ ((1 : Int32) < 0 ∨ 6 ≤ (1 : Int32).toNatClampNeg) by decide) h_x1 dL_law_1011 ?_
  refine z_aload_n B dL_law_1012 rfl 5 rfl ?_
  refine z_iload B dL_law_1013 1 rfl ?_
  refine z_iconst (v := 2) B dL_law_1015 (by decide) ?_
  refine z_iadd B dL_law_1016 ?_
  refine z_seti (y := 2) (by decide) ?_
  refine z_sld (j := 2) (x := x2) B hX hbl hbA (by decide) (show ¬ ((2 : Int32) < 0 ∨ 6 ≤ (2 : Int32).toNatClampNeg) by decide) h_x2 dL_law_1017 ?_
  refine z_cVi (As := [.int x1, .int x2]) (rest := []) B cw_L_136 cx_10 dL_law_1018 (ci_X9_aboutAnew_1213 l (σ := (ap b (wx_Z σ z) [] [] [])) (b := b) (lyA (lyZ hK)) x1 x2 q1_x1 q2_x1 q1_x2 q2_x2 (rI_at 405 6 (lIZ (fz_I hF 405 6 rfl rfl)))) (lKA (lKZ (hk_K hK 405 rfl rfl))) rfl (by decide) rfl (Nat.le_of_ble_eq_true rfl) (by decide) (fun r u hu => ?_)
  refine z_eqs (σ' := (ap b (wx_Z σ z) [(405, 0, 1)] [] [])) (hu.2.trans ap_ap) ?_
  show zx p l e _ s m _ below meth c g 8 _ _ _ _ 1021 [(5, .int 1), (4, .int 0), (3, .ref (b + 431)), (2, .ref (b + 405)), (1, .ref (b + 0)), (0, .ref bS)] _
  refine z_seti (y := 0) hu.1 ?_
  refine z_istore (lv' := [(6, .int 0), (5, .int 1), (4, .int 0), (3, .ref (b + 431)), (2, .ref (b + 405)), (1, .ref (b + 0)), (0, .ref bS)]) B dL_law_1021 (by decide) rfl ?_
  refine z_aload_n B dL_law_1023 rfl 4 rfl ?_
  refine z_cVi (As := []) (rest := []) B cw_L_80 cx_10 dL_law_1024 (ci_X9_thrown_31 l (σ := (ap b (wx_Z σ z) [(405, 0, 1)] [] [])) (b := b) (lyA (lyZ hK)) (rI_at 405 0 rfl)) (lKA (lKZ (hk_K hK 405 rfl rfl))) rfl (by decide) rfl (Nat.le_of_ble_eq_true rfl) (by decide) (fun r u hu => ?_)
  refine z_eqs (σ' := (ap b (wx_Z σ z) [(405, 0, 1)] [] [])) hu.2 ?_
  show zx p l e _ s m _ below meth c g 8 _ _ _ _ 1027 [(6, .int 0), (5, .int 1), (4, .int 0), (3, .ref (b + 431)), (2, .ref (b + 405)), (1, .ref (b + 0)), (0, .ref bS)] _
  refine z_seti (y := 1) hu.1 ?_
  refine z_iload B dL_law_1027 1 rfl ?_
  refine z_icmp_eq (tgt := 1034) B dL_law_1029 (by decide) (fun _ => ?_) (fun h => absurd (by decide) h)
  refine z_iload B dL_law_1034 1 rfl ?_
  refine z_if_ne (tgt := 1051) B dL_law_1036 (by decide) (fun _ => ?_) (fun h => absurd h (by decide))
  refine z_goto (tgt := 1395) B dL_law_1051 (by decide) ?_
  exact z_widen (Nat.le_of_ble_eq_true rfl) (Nat.le_of_ble_eq_true rfl) (z_sub _ [2, 6] rfl (kk _))
set_option maxRecDepth 100000 in
set_option maxHeartbeats 4000000 in
theorem lf_16_398 {p : Program} {l : Launch} {e : Env} {s : State} {m : MethodId} {args : Array Value} {below : List Frame} {meth : Method} {c : Code} {g : gx_T} {Q : State → Prop} {σ : sx_T} {b t bS : Nat} {xs : Nat → Int32} (hlt : l.stackTraces = false) (B : zx_B p s m args meth c code RL 8 g) (hX : va_X bS 6 xs s s.heap) (hbl : bS < s.heap.size) (hbA : ¬ gx_b g ≤ bS) (hF : fz_P b t σ) {x1 : Int32} (h_x1 : xs 1 = x1) (q1_x1 : (-2147483648 : Int) ≤ x1.toInt) (q2_x1 : x1.toInt ≤ (-1 : Int)) (kk : ∀ σ', zx p l e room_1 s m args below meth c g 8 600002 7302232 Q σ' 1395 [(4, .int 0), (0, .ref bS)] []) : zx p l e room_1 s m args below meth c g 8 500 100000 Q σ 1054 [(4, .int 0), (3, .ref (b + 431)), (2, .ref (b + 405)), (1, .ref (b + 0)), (0, .ref bS)] [] := by
  have hK := fz_lay hF
  refine z_eqs (σ' := (ap b σ [] [] [])) rfl ?_
  refine z_aload_n B dL_law_1054 rfl 3 rfl ?_
  refine z_aload_n B dL_law_1055 rfl 4 rfl ?_
  refine z_iload B dL_law_1056 0 rfl ?_
  refine z_iconst (v := 1) B dL_law_1058 (by decide) ?_
  refine z_iadd B dL_law_1059 ?_
  refine z_seti (y := 1) (by decide) ?_
  refine z_sld (j := 1) (x := x1) B hX hbl hbA (by decide) (show ¬ ((1 : Int32) < 0 ∨ 6 ≤ (1 : Int32).toNatClampNeg) by decide) h_x1 dL_law_1060 ?_
  refine z_aload_n B dL_law_1061 rfl 1 rfl ?_
  refine z_cSWi (As := [.ref (b + 0), .int x1, .ref (b + 431)]) (rest := []) B cw_L_137 dL_law_1062 (ci_L_parent_1215 l hlt (σ := (ap b σ [] [] [])) (b := b) (lyA hK) x1 q1_x1 q2_x1) rfl (by decide) rfl (Nat.le_of_ble_eq_true rfl) (by decide) (fun r u hu => ?_)
  obtain ⟨hu1, z, hu⟩ := hu
  refine z_eqs (σ' := (ap b (wx_Z σ z) [] [] [])) (hu.trans az_ap) ?_
  show zx p l e _ s m _ below meth c g 8 _ _ _ _ 1065 [(4, .int 0), (3, .ref (b + 431)), (2, .ref (b + 405)), (1, .ref (b + 0)), (0, .ref bS)] _
  refine z_seti (y := 1) hu1 ?_
  refine z_istore (lv' := [(5, .int 1), (4, .int 0), (3, .ref (b + 431)), (2, .ref (b + 405)), (1, .ref (b + 0)), (0, .ref bS)]) B dL_law_1065 (by decide) rfl ?_
  refine z_aload_n B dL_law_1067 rfl 3 rfl ?_
  refine z_aload_n B dL_law_1068 rfl 5 rfl ?_
  refine z_iload B dL_law_1069 1 rfl ?_
  refine z_iconst (v := 1) B dL_law_1071 (by decide) ?_
  refine z_iadd B dL_law_1072 ?_
  refine z_seti (y := 1) (by decide) ?_
  refine z_sld (j := 1) (x := x1) B hX hbl hbA (by decide) (show ¬ ((1 : Int32) < 0 ∨ 6 ≤ (1 : Int32).toNatClampNeg) by decide) h_x1 dL_law_1073 ?_
  refine z_cVi (As := [.int x1]) (rest := []) B cw_L_139 cx_10 dL_law_1074 (ci_X9_parent_1216 l (σ := (ap b (wx_Z σ z) [] [] [])) (b := b) (lyA (lyZ hK)) x1 q1_x1 q2_x1 (rI_at 405 6 (lIZ (fz_I hF 405 6 rfl rfl)))) (lKA (lKZ (hk_K hK 405 rfl rfl))) rfl (by decide) rfl (Nat.le_of_ble_eq_true rfl) (by decide) (fun r u hu => ?_)
  refine z_eqs (σ' := (ap b (wx_Z σ z) [(405, 0, 1)] [] [])) (hu.2.trans ap_ap) ?_
  show zx p l e _ s m _ below meth c g 8 _ _ _ _ 1077 [(5, .int 1), (4, .int 0), (3, .ref (b + 431)), (2, .ref (b + 405)), (1, .ref (b + 0)), (0, .ref bS)] _
  refine z_seti (y := 0) hu.1 ?_
  refine z_istore (lv' := [(6, .int 0), (5, .int 1), (4, .int 0), (3, .ref (b + 431)), (2, .ref (b + 405)), (1, .ref (b + 0)), (0, .ref bS)]) B dL_law_1077 (by decide) rfl ?_
  refine z_aload_n B dL_law_1079 rfl 4 rfl ?_
  refine z_cVi (As := []) (rest := []) B cw_L_80 cx_10 dL_law_1080 (ci_X9_thrown_31 l (σ := (ap b (wx_Z σ z) [(405, 0, 1)] [] [])) (b := b) (lyA (lyZ hK)) (rI_at 405 0 rfl)) (lKA (lKZ (hk_K hK 405 rfl rfl))) rfl (by decide) rfl (Nat.le_of_ble_eq_true rfl) (by decide) (fun r u hu => ?_)
  refine z_eqs (σ' := (ap b (wx_Z σ z) [(405, 0, 1)] [] [])) hu.2 ?_
  show zx p l e _ s m _ below meth c g 8 _ _ _ _ 1083 [(6, .int 0), (5, .int 1), (4, .int 0), (3, .ref (b + 431)), (2, .ref (b + 405)), (1, .ref (b + 0)), (0, .ref bS)] _
  refine z_seti (y := 1) hu.1 ?_
  refine z_iload B dL_law_1083 1 rfl ?_
  refine z_icmp_eq (tgt := 1090) B dL_law_1085 (by decide) (fun _ => ?_) (fun h => absurd (by decide) h)
  refine z_iload B dL_law_1090 1 rfl ?_
  refine z_if_ne (tgt := 1107) B dL_law_1092 (by decide) (fun _ => ?_) (fun h => absurd h (by decide))
  refine z_goto (tgt := 1395) B dL_law_1107 (by decide) ?_
  exact z_widen (Nat.le_of_ble_eq_true rfl) (Nat.le_of_ble_eq_true rfl) (z_sub _ [2, 6] rfl (kk _))
set_option maxRecDepth 100000 in
set_option maxHeartbeats 4000000 in
theorem lf_16_399 {p : Program} {l : Launch} {e : Env} {s : State} {m : MethodId} {args : Array Value} {below : List Frame} {meth : Method} {c : Code} {g : gx_T} {Q : State → Prop} {σ : sx_T} {b t bS : Nat} {xs : Nat → Int32} (hlt : l.stackTraces = false) (B : zx_B p s m args meth c code RL 8 g) (hX : va_X bS 6 xs s s.heap) (hbl : bS < s.heap.size) (hbA : ¬ gx_b g ≤ bS) (hF : fz_P b t σ) {x1 : Int32} (h_x1 : xs 1 = x1) (q1_x1 : (0 : Int) ≤ x1.toInt) (q2_x1 : x1.toInt ≤ (2147483647 : Int)) (kk : ∀ σ', zx p l e room_1 s m args below meth c g 8 600002 7302232 Q σ' 1395 [(4, .int 0), (0, .ref bS)] []) : zx p l e room_1 s m args below meth c g 8 500 100000 Q σ 1054 [(4, .int 0), (3, .ref (b + 431)), (2, .ref (b + 405)), (1, .ref (b + 0)), (0, .ref bS)] [] := by
  have hK := fz_lay hF
  refine z_eqs (σ' := (ap b σ [] [] [])) rfl ?_
  refine z_aload_n B dL_law_1054 rfl 3 rfl ?_
  refine z_aload_n B dL_law_1055 rfl 4 rfl ?_
  refine z_iload B dL_law_1056 0 rfl ?_
  refine z_iconst (v := 1) B dL_law_1058 (by decide) ?_
  refine z_iadd B dL_law_1059 ?_
  refine z_seti (y := 1) (by decide) ?_
  refine z_sld (j := 1) (x := x1) B hX hbl hbA (by decide) (show ¬ ((1 : Int32) < 0 ∨ 6 ≤ (1 : Int32).toNatClampNeg) by decide) h_x1 dL_law_1060 ?_
  refine z_aload_n B dL_law_1061 rfl 1 rfl ?_
  refine z_cSWi (As := [.ref (b + 0), .int x1, .ref (b + 431)]) (rest := []) B cw_L_137 dL_law_1062 (ci_L_parent_1218 l hlt (σ := (ap b σ [] [] [])) (b := b) (lyA hK) x1 q1_x1 q2_x1 (rI_at 0 7 (fz_I hF 0 7 rfl rfl))) rfl (by decide) rfl (Nat.le_of_ble_eq_true rfl) (by decide) (fun r u hu => ?_)
  obtain ⟨hu1, z, hu⟩ := hu
  refine z_eqs (σ' := (ap b (wx_Z σ z) [] [] [])) (hu.trans az_ap) ?_
  show zx p l e _ s m _ below meth c g 8 _ _ _ _ 1065 [(4, .int 0), (3, .ref (b + 431)), (2, .ref (b + 405)), (1, .ref (b + 0)), (0, .ref bS)] _
  refine z_seti (y := 1) hu1 ?_
  refine z_istore (lv' := [(5, .int 1), (4, .int 0), (3, .ref (b + 431)), (2, .ref (b + 405)), (1, .ref (b + 0)), (0, .ref bS)]) B dL_law_1065 (by decide) rfl ?_
  refine z_aload_n B dL_law_1067 rfl 3 rfl ?_
  refine z_aload_n B dL_law_1068 rfl 5 rfl ?_
  refine z_iload B dL_law_1069 1 rfl ?_
  refine z_iconst (v := 1) B dL_law_1071 (by decide) ?_
  refine z_iadd B dL_law_1072 ?_
  refine z_seti (y := 1) (by decide) ?_
  refine z_sld (j := 1) (x := x1) B hX hbl hbA (by decide) (show ¬ ((1 : Int32) < 0 ∨ 6 ≤ (1 : Int32).toNatClampNeg) by decide) h_x1 dL_law_1073 ?_
  refine z_cVi (As := [.int x1]) (rest := []) B cw_L_139 cx_10 dL_law_1074 (ci_X9_parent_1219 l (σ := (ap b (wx_Z σ z) [] [] [])) (b := b) (lyA (lyZ hK)) x1 q1_x1 q2_x1 (rI_at 405 6 (lIZ (fz_I hF 405 6 rfl rfl)))) (lKA (lKZ (hk_K hK 405 rfl rfl))) rfl (by decide) rfl (Nat.le_of_ble_eq_true rfl) (by decide) (fun r u hu => ?_)
  refine z_eqs (σ' := (ap b (wx_Z σ z) [(405, 0, 1)] [] [])) (hu.2.trans ap_ap) ?_
  show zx p l e _ s m _ below meth c g 8 _ _ _ _ 1077 [(5, .int 1), (4, .int 0), (3, .ref (b + 431)), (2, .ref (b + 405)), (1, .ref (b + 0)), (0, .ref bS)] _
  refine z_seti (y := 0) hu.1 ?_
  refine z_istore (lv' := [(6, .int 0), (5, .int 1), (4, .int 0), (3, .ref (b + 431)), (2, .ref (b + 405)), (1, .ref (b + 0)), (0, .ref bS)]) B dL_law_1077 (by decide) rfl ?_
  refine z_aload_n B dL_law_1079 rfl 4 rfl ?_
  refine z_cVi (As := []) (rest := []) B cw_L_80 cx_10 dL_law_1080 (ci_X9_thrown_31 l (σ := (ap b (wx_Z σ z) [(405, 0, 1)] [] [])) (b := b) (lyA (lyZ hK)) (rI_at 405 0 rfl)) (lKA (lKZ (hk_K hK 405 rfl rfl))) rfl (by decide) rfl (Nat.le_of_ble_eq_true rfl) (by decide) (fun r u hu => ?_)
  refine z_eqs (σ' := (ap b (wx_Z σ z) [(405, 0, 1)] [] [])) hu.2 ?_
  show zx p l e _ s m _ below meth c g 8 _ _ _ _ 1083 [(6, .int 0), (5, .int 1), (4, .int 0), (3, .ref (b + 431)), (2, .ref (b + 405)), (1, .ref (b + 0)), (0, .ref bS)] _
  refine z_seti (y := 1) hu.1 ?_
  refine z_iload B dL_law_1083 1 rfl ?_
  refine z_icmp_eq (tgt := 1090) B dL_law_1085 (by decide) (fun _ => ?_) (fun h => absurd (by decide) h)
  refine z_iload B dL_law_1090 1 rfl ?_
  refine z_if_ne (tgt := 1107) B dL_law_1092 (by decide) (fun _ => ?_) (fun h => absurd h (by decide))
  refine z_goto (tgt := 1395) B dL_law_1107 (by decide) ?_
  exact z_widen (Nat.le_of_ble_eq_true rfl) (Nat.le_of_ble_eq_true rfl) (z_sub _ [2, 6] rfl (kk _))
set_option maxRecDepth 100000 in
set_option maxHeartbeats 4000000 in
theorem lf_17_400 {p : Program} {l : Launch} {e : Env} {s : State} {m : MethodId} {args : Array Value} {below : List Frame} {meth : Method} {c : Code} {g : gx_T} {Q : State → Prop} {σ : sx_T} {b t bS : Nat} {xs : Nat → Int32} (hlt : l.stackTraces = false) (B : zx_B p s m args meth c code RL 8 g) (hX : va_X bS 6 xs s s.heap) (hbl : bS < s.heap.size) (hbA : ¬ gx_b g ≤ bS) (hF : fz_P b t σ) {x1 : Int32} (h_x1 : xs 1 = x1) (q1_x1 : (-2147483648 : Int) ≤ x1.toInt) (q2_x1 : x1.toInt ≤ (-1 : Int)) (kk : ∀ σ', zx p l e room_1 s m args below meth c g 8 600002 7302232 Q σ' 1395 [(4, .int 0), (0, .ref bS)] []) : zx p l e room_1 s m args below meth c g 8 500 100000 Q σ 1110 [(4, .int 0), (3, .ref (b + 431)), (2, .ref (b + 405)), (1, .ref (b + 0)), (0, .ref bS)] [] := by
  have hK := fz_lay hF
  refine z_eqs (σ' := (ap b σ [] [] [])) rfl ?_
  refine z_aload_n B dL_law_1110 rfl 3 rfl ?_
  refine z_aload_n B dL_law_1111 rfl 4 rfl ?_
  refine z_iload B dL_law_1112 0 rfl ?_
  refine z_iconst (v := 1) B dL_law_1114 (by decide) ?_
  refine z_iadd B dL_law_1115 ?_
  refine z_seti (y := 1) (by decide) ?_
  refine z_sld (j := 1) (x := x1) B hX hbl hbA (by decide) (show ¬ ((1 : Int32) < 0 ∨ 6 ≤ (1 : Int32).toNatClampNeg) by decide) h_x1 dL_law_1116 ?_
  refine z_aload_n B dL_law_1117 rfl 1 rfl ?_
  refine z_cSWi (As := [.ref (b + 0), .int x1, .ref (b + 431)]) (rest := []) B cw_L_140 dL_law_1118 (ci_L_events_1221 l hlt (σ := (ap b σ [] [] [])) (b := b) (lyA hK) x1 q1_x1 q2_x1) rfl (by decide) rfl (Nat.le_of_ble_eq_true rfl) (by decide) (fun r u hu => ?_)
  obtain ⟨hu1, z, hu⟩ := hu
  refine z_eqs (σ' := (ap b (wx_Z σ z) [] [] [])) (hu.trans az_ap) ?_
  show zx p l e _ s m _ below meth c g 8 _ _ _ _ 1121 [(4, .int 0), (3, .ref (b + 431)), (2, .ref (b + 405)), (1, .ref (b + 0)), (0, .ref bS)] _
  refine z_seti (y := 1) hu1 ?_
  refine z_istore (lv' := [(5, .int 1), (4, .int 0), (3, .ref (b + 431)), (2, .ref (b + 405)), (1, .ref (b + 0)), (0, .ref bS)]) B dL_law_1121 (by decide) rfl ?_
  refine z_aload_n B dL_law_1123 rfl 3 rfl ?_
  refine z_aload_n B dL_law_1124 rfl 5 rfl ?_
  refine z_iload B dL_law_1125 1 rfl ?_
  refine z_iconst (v := 1) B dL_law_1127 (by decide) ?_
  refine z_iadd B dL_law_1128 ?_
  refine z_seti (y := 1) (by decide) ?_
  refine z_sld (j := 1) (x := x1) B hX hbl hbA (by decide) (show ¬ ((1 : Int32) < 0 ∨ 6 ≤ (1 : Int32).toNatClampNeg) by decide) h_x1 dL_law_1129 ?_
  refine z_cVi (As := [.int x1]) (rest := []) B cw_L_142 cx_10 dL_law_1130 (ci_X9_events_1222 l (σ := (ap b (wx_Z σ z) [] [] [])) (b := b) (lyA (lyZ hK)) x1 q1_x1 q2_x1 (rI_at 405 6 (lIZ (fz_I hF 405 6 rfl rfl)))) (lKA (lKZ (hk_K hK 405 rfl rfl))) rfl (by decide) rfl (Nat.le_of_ble_eq_true rfl) (by decide) (fun r u hu => ?_)
  refine z_eqs (σ' := (ap b (wx_Z σ z) [(405, 0, 1)] [] [])) (hu.2.trans ap_ap) ?_
  show zx p l e _ s m _ below meth c g 8 _ _ _ _ 1133 [(5, .int 1), (4, .int 0), (3, .ref (b + 431)), (2, .ref (b + 405)), (1, .ref (b + 0)), (0, .ref bS)] _
  refine z_seti (y := 0) hu.1 ?_
  refine z_istore (lv' := [(6, .int 0), (5, .int 1), (4, .int 0), (3, .ref (b + 431)), (2, .ref (b + 405)), (1, .ref (b + 0)), (0, .ref bS)]) B dL_law_1133 (by decide) rfl ?_
  refine z_aload_n B dL_law_1135 rfl 4 rfl ?_
  refine z_cVi (As := []) (rest := []) B cw_L_80 cx_10 dL_law_1136 (ci_X9_thrown_31 l (σ := (ap b (wx_Z σ z) [(405, 0, 1)] [] [])) (b := b) (lyA (lyZ hK)) (rI_at 405 0 rfl)) (lKA (lKZ (hk_K hK 405 rfl rfl))) rfl (by decide) rfl (Nat.le_of_ble_eq_true rfl) (by decide) (fun r u hu => ?_)
  refine z_eqs (σ' := (ap b (wx_Z σ z) [(405, 0, 1)] [] [])) hu.2 ?_
  show zx p l e _ s m _ below meth c g 8 _ _ _ _ 1139 [(6, .int 0), (5, .int 1), (4, .int 0), (3, .ref (b + 431)), (2, .ref (b + 405)), (1, .ref (b + 0)), (0, .ref bS)] _
  refine z_seti (y := 1) hu.1 ?_
  refine z_iload B dL_law_1139 1 rfl ?_
  refine z_icmp_eq (tgt := 1146) B dL_law_1141 (by decide) (fun _ => ?_) (fun h => absurd (by decide) h)
  refine z_iload B dL_law_1146 1 rfl ?_
  refine z_if_ne (tgt := 1163) B dL_law_1148 (by decide) (fun _ => ?_) (fun h => absurd h (by decide))
  refine z_goto (tgt := 1395) B dL_law_1163 (by decide) ?_
  exact z_widen (Nat.le_of_ble_eq_true rfl) (Nat.le_of_ble_eq_true rfl) (z_sub _ [2, 6] rfl (kk _))
set_option maxRecDepth 100000 in
set_option maxHeartbeats 4000000 in
theorem lf_17_401 {p : Program} {l : Launch} {e : Env} {s : State} {m : MethodId} {args : Array Value} {below : List Frame} {meth : Method} {c : Code} {g : gx_T} {Q : State → Prop} {σ : sx_T} {b t bS : Nat} {xs : Nat → Int32} (hlt : l.stackTraces = false) (B : zx_B p s m args meth c code RL 8 g) (hX : va_X bS 6 xs s s.heap) (hbl : bS < s.heap.size) (hbA : ¬ gx_b g ≤ bS) (hF : fz_P b t σ) {x1 : Int32} (h_x1 : xs 1 = x1) (q1_x1 : (0 : Int) ≤ x1.toInt) (q2_x1 : x1.toInt ≤ (2147483647 : Int)) (kk : ∀ σ', zx p l e room_1 s m args below meth c g 8 600002 7302232 Q σ' 1395 [(4, .int 0), (0, .ref bS)] []) : zx p l e room_1 s m args below meth c g 8 500 100000 Q σ 1110 [(4, .int 0), (3, .ref (b + 431)), (2, .ref (b + 405)), (1, .ref (b + 0)), (0, .ref bS)] [] := by
  have hK := fz_lay hF
  refine z_eqs (σ' := (ap b σ [] [] [])) rfl ?_
  refine z_aload_n B dL_law_1110 rfl 3 rfl ?_
  refine z_aload_n B dL_law_1111 rfl 4 rfl ?_
  refine z_iload B dL_law_1112 0 rfl ?_
  refine z_iconst (v := 1) B dL_law_1114 (by decide) ?_
  refine z_iadd B dL_law_1115 ?_
  refine z_seti (y := 1) (by decide) ?_
  refine z_sld (j := 1) (x := x1) B hX hbl hbA (by decide) (show ¬ ((1 : Int32) < 0 ∨ 6 ≤ (1 : Int32).toNatClampNeg) by decide) h_x1 dL_law_1116 ?_
  refine z_aload_n B dL_law_1117 rfl 1 rfl ?_
  refine z_cSWi (As := [.ref (b + 0), .int x1, .ref (b + 431)]) (rest := []) B cw_L_140 dL_law_1118 (ci_L_events_1224 l hlt (σ := (ap b σ [] [] [])) (b := b) (lyA hK) x1 q1_x1 q2_x1 (rI_at 0 7 (fz_I hF 0 7 rfl rfl))) rfl (by decide) rfl (Nat.le_of_ble_eq_true rfl) (by decide) (fun r u hu => ?_)
  obtain ⟨hu1, z, hu⟩ := hu
  refine z_eqs (σ' := (ap b (wx_Z σ z) [] [] [])) (hu.trans az_ap) ?_
  show zx p l e _ s m _ below meth c g 8 _ _ _ _ 1121 [(4, .int 0), (3, .ref (b + 431)), (2, .ref (b + 405)), (1, .ref (b + 0)), (0, .ref bS)] _
  refine z_seti (y := 1) hu1 ?_
  refine z_istore (lv' := [(5, .int 1), (4, .int 0), (3, .ref (b + 431)), (2, .ref (b + 405)), (1, .ref (b + 0)), (0, .ref bS)]) B dL_law_1121 (by decide) rfl ?_
  refine z_aload_n B dL_law_1123 rfl 3 rfl ?_
  refine z_aload_n B dL_law_1124 rfl 5 rfl ?_
  refine z_iload B dL_law_1125 1 rfl ?_
  refine z_iconst (v := 1) B dL_law_1127 (by decide) ?_
  refine z_iadd B dL_law_1128 ?_
  refine z_seti (y := 1) (by decide) ?_
  refine z_sld (j := 1) (x := x1) B hX hbl hbA (by decide) (show ¬ ((1 : Int32) < 0 ∨ 6 ≤ (1 : Int32).toNatClampNeg) by decide) h_x1 dL_law_1129 ?_
  refine z_cVi (As := [.int x1]) (rest := []) B cw_L_142 cx_10 dL_law_1130 (ci_X9_events_1225 l (σ := (ap b (wx_Z σ z) [] [] [])) (b := b) (lyA (lyZ hK)) x1 q1_x1 q2_x1 (rI_at 405 6 (lIZ (fz_I hF 405 6 rfl rfl)))) (lKA (lKZ (hk_K hK 405 rfl rfl))) rfl (by decide) rfl (Nat.le_of_ble_eq_true rfl) (by decide) (fun r u hu => ?_)
  refine z_eqs (σ' := (ap b (wx_Z σ z) [(405, 0, 1)] [] [])) (hu.2.trans ap_ap) ?_
  show zx p l e _ s m _ below meth c g 8 _ _ _ _ 1133 [(5, .int 1), (4, .int 0), (3, .ref (b + 431)), (2, .ref (b + 405)), (1, .ref (b + 0)), (0, .ref bS)] _
  refine z_seti (y := 0) hu.1 ?_
  refine z_istore (lv' := [(6, .int 0), (5, .int 1), (4, .int 0), (3, .ref (b + 431)), (2, .ref (b + 405)), (1, .ref (b + 0)), (0, .ref bS)]) B dL_law_1133 (by decide) rfl ?_
  refine z_aload_n B dL_law_1135 rfl 4 rfl ?_
  refine z_cVi (As := []) (rest := []) B cw_L_80 cx_10 dL_law_1136 (ci_X9_thrown_31 l (σ := (ap b (wx_Z σ z) [(405, 0, 1)] [] [])) (b := b) (lyA (lyZ hK)) (rI_at 405 0 rfl)) (lKA (lKZ (hk_K hK 405 rfl rfl))) rfl (by decide) rfl (Nat.le_of_ble_eq_true rfl) (by decide) (fun r u hu => ?_)
  refine z_eqs (σ' := (ap b (wx_Z σ z) [(405, 0, 1)] [] [])) hu.2 ?_
  show zx p l e _ s m _ below meth c g 8 _ _ _ _ 1139 [(6, .int 0), (5, .int 1), (4, .int 0), (3, .ref (b + 431)), (2, .ref (b + 405)), (1, .ref (b + 0)), (0, .ref bS)] _
  refine z_seti (y := 1) hu.1 ?_
  refine z_iload B dL_law_1139 1 rfl ?_
  refine z_icmp_eq (tgt := 1146) B dL_law_1141 (by decide) (fun _ => ?_) (fun h => absurd (by decide) h)
  refine z_iload B dL_law_1146 1 rfl ?_
  refine z_if_ne (tgt := 1163) B dL_law_1148 (by decide) (fun _ => ?_) (fun h => absurd h (by decide))
  refine z_goto (tgt := 1395) B dL_law_1163 (by decide) ?_
  exact z_widen (Nat.le_of_ble_eq_true rfl) (Nat.le_of_ble_eq_true rfl) (z_sub _ [2, 6] rfl (kk _))
set_option maxRecDepth 100000 in
set_option maxHeartbeats 4000000 in
theorem lf_18_402 {p : Program} {l : Launch} {e : Env} {s : State} {m : MethodId} {args : Array Value} {below : List Frame} {meth : Method} {c : Code} {g : gx_T} {Q : State → Prop} {σ : sx_T} {b t bS : Nat} {xs : Nat → Int32} (hlt : l.stackTraces = false) (B : zx_B p s m args meth c code RL 8 g) (hX : va_X bS 6 xs s s.heap) (hbl : bS < s.heap.size) (hbA : ¬ gx_b g ≤ bS) (hF : fz_P b t σ) {x1 : Int32} (h_x1 : xs 1 = x1) (q1_x1 : (-2147483648 : Int) ≤ x1.toInt) (q2_x1 : x1.toInt ≤ (-1 : Int)) {x2 : Int32} (h_x2 : xs 2 = x2) (q1_x2 : (-2147483648 : Int) ≤ x2.toInt) (q2_x2 : x2.toInt ≤ (2147483647 : Int)) (kk : ∀ σ', zx p l e room_1 s m args below meth c g 8 600002 7302232 Q σ' 1395 [(4, .int 0), (0, .ref bS)] []) : zx p l e room_1 s m args below meth c g 8 500 100000 Q σ 1166 [(4, .int 0), (3, .ref (b + 431)), (2, .ref (b + 405)), (1, .ref (b + 0)), (0, .ref bS)] [] := by
  have hK := fz_lay hF
  refine z_eqs (σ' := (ap b σ [] [] [])) rfl ?_
  refine z_aload_n B dL_law_1166 rfl 3 rfl ?_
  refine z_aload_n B dL_law_1167 rfl 4 rfl ?_
  refine z_iload B dL_law_1168 0 rfl ?_
  refine z_iconst (v := 1) B dL_law_1170 (by decide) ?_
  refine z_iadd B dL_law_1171 ?_
  refine z_seti (y := 1) (by decide) ?_
  refine z_sld (j := 1) (x := x1) B hX hbl hbA (by decide) (show ¬ ((1 : Int32) < 0 ∨ 6 ≤ (1 : Int32).toNatClampNeg) by decide) h_x1 dL_law_1172 ?_
  refine z_aload_n B dL_law_1173 rfl 4 rfl ?_
  refine z_iload B dL_law_1174 0 rfl ?_
  refine z_iconst (v := 2) B dL_law_1176 (by decide) ?_
  refine z_iadd B dL_law_1177 ?_
  refine z_seti (y := 2) (by decide) ?_
  refine z_sld (j := 2) (x := x2) B hX hbl hbA (by decide) (show ¬ ((2 : Int32) < 0 ∨ 6 ≤ (2 : Int32).toNatClampNeg) by decide) h_x2 dL_law_1178 ?_
  refine z_aload_n B dL_law_1179 rfl 1 rfl ?_
  refine z_cSWi (As := [.ref (b + 0), .int x1, .int x2, .ref (b + 431)]) (rest := []) B cw_L_143 dL_law_1180 (ci_L_kind_1227 l hlt (σ := (ap b σ [] [] [])) (b := b) (lyA hK) x1 x2 q1_x1 q2_x1) rfl (by decide) rfl (Nat.le_of_ble_eq_true rfl) (by decide) (fun r u hu => ?_)
  obtain ⟨hu1, z, hu⟩ := hu
  refine z_eqs (σ' := (ap b (wx_Z σ z) [] [] [])) (hu.trans az_ap) ?_
  show zx p l e _ s m _ below meth c g 8 _ _ _ _ 1183 [(4, .int 0), (3, .ref (b + 431)), (2, .ref (b + 405)), (1, .ref (b + 0)), (0, .ref bS)] _
  refine z_seti (y := 1) hu1 ?_
  refine z_istore (lv' := [(5, .int 1), (4, .int 0), (3, .ref (b + 431)), (2, .ref (b + 405)), (1, .ref (b + 0)), (0, .ref bS)]) B dL_law_1183 (by decide) rfl ?_
  refine z_aload_n B dL_law_1185 rfl 3 rfl ?_
  refine z_aload_n B dL_law_1186 rfl 5 rfl ?_
  refine z_iload B dL_law_1187 1 rfl ?_
  refine z_iconst (v := 1) B dL_law_1189 (by decide) ?_
  refine z_iadd B dL_law_1190 ?_
  refine z_seti (y := 1) (by decide) ?_
  refine z_sld (j := 1) (x := x1) B hX hbl hbA (by decide) (show ¬ ((1 : Int32) < 0 ∨ 6 ≤ (1 : Int32).toNatClampNeg) by decide) h_x1 dL_law_1191 ?_
  refine z_aload_n B dL_law_1192 rfl 5 rfl ?_
  refine z_iload B dL_law_1193 1 rfl ?_
  refine z_iconst (v := 2) B dL_law_1195 (by decide) ?_
  refine z_iadd B dL_law_1196 ?_
  refine z_seti (y := 2) (by decide) ?_
  refine z_sld (j := 2) (x := x2) B hX hbl hbA (by decide) (show ¬ ((2 : Int32) < 0 ∨ 6 ≤ (2 : Int32).toNatClampNeg) by decide) h_x2 dL_law_1197 ?_
  refine z_cVi (As := [.int x1, .int x2]) (rest := []) B cw_L_145 cx_10 dL_law_1198 (ci_X9_kind_1229 l (σ := (ap b (wx_Z σ z) [] [] [])) (b := b) (lyA (lyZ hK)) x1 x2 q1_x1 q2_x1 (rI_at 405 6 (lIZ (fz_I hF 405 6 rfl rfl)))) (lKA (lKZ (hk_K hK 405 rfl rfl))) rfl (by decide) rfl (Nat.le_of_ble_eq_true rfl) (by decide) (fun r u hu => ?_)
  refine z_eqs (σ' := (ap b (wx_Z σ z) [(405, 0, 1)] [] [])) (hu.2.trans ap_ap) ?_
  show zx p l e _ s m _ below meth c g 8 _ _ _ _ 1201 [(5, .int 1), (4, .int 0), (3, .ref (b + 431)), (2, .ref (b + 405)), (1, .ref (b + 0)), (0, .ref bS)] _
  refine z_seti (y := 0) hu.1 ?_
  refine z_istore (lv' := [(6, .int 0), (5, .int 1), (4, .int 0), (3, .ref (b + 431)), (2, .ref (b + 405)), (1, .ref (b + 0)), (0, .ref bS)]) B dL_law_1201 (by decide) rfl ?_
  refine z_aload_n B dL_law_1203 rfl 4 rfl ?_
  refine z_cVi (As := []) (rest := []) B cw_L_80 cx_10 dL_law_1204 (ci_X9_thrown_31 l (σ := (ap b (wx_Z σ z) [(405, 0, 1)] [] [])) (b := b) (lyA (lyZ hK)) (rI_at 405 0 rfl)) (lKA (lKZ (hk_K hK 405 rfl rfl))) rfl (by decide) rfl (Nat.le_of_ble_eq_true rfl) (by decide) (fun r u hu => ?_)
  refine z_eqs (σ' := (ap b (wx_Z σ z) [(405, 0, 1)] [] [])) hu.2 ?_
  show zx p l e _ s m _ below meth c g 8 _ _ _ _ 1207 [(6, .int 0), (5, .int 1), (4, .int 0), (3, .ref (b + 431)), (2, .ref (b + 405)), (1, .ref (b + 0)), (0, .ref bS)] _
  refine z_seti (y := 1) hu.1 ?_
  refine z_iload B dL_law_1207 1 rfl ?_
  refine z_icmp_eq (tgt := 1214) B dL_law_1209 (by decide) (fun _ => ?_) (fun h => absurd (by decide) h)
  refine z_iload B dL_law_1214 1 rfl ?_
  refine z_if_ne (tgt := 1231) B dL_law_1216 (by decide) (fun _ => ?_) (fun h => absurd h (by decide))
  refine z_goto (tgt := 1395) B dL_law_1231 (by decide) ?_
  exact z_widen (Nat.le_of_ble_eq_true rfl) (Nat.le_of_ble_eq_true rfl) (z_sub _ [2, 6] rfl (kk _))
set_option maxRecDepth 100000 in
set_option maxHeartbeats 4000000 in
theorem lf_18_403 {p : Program} {l : Launch} {e : Env} {s : State} {m : MethodId} {args : Array Value} {below : List Frame} {meth : Method} {c : Code} {g : gx_T} {Q : State → Prop} {σ : sx_T} {b t bS : Nat} {xs : Nat → Int32} (hlt : l.stackTraces = false) (B : zx_B p s m args meth c code RL 8 g) (hX : va_X bS 6 xs s s.heap) (hbl : bS < s.heap.size) (hbA : ¬ gx_b g ≤ bS) (hF : fz_P b t σ) {x1 : Int32} (h_x1 : xs 1 = x1) (q1_x1 : (0 : Int) ≤ x1.toInt) (q2_x1 : x1.toInt ≤ (2147483647 : Int)) {x2 : Int32} (h_x2 : xs 2 = x2) (q1_x2 : (-2147483648 : Int) ≤ x2.toInt) (q2_x2 : x2.toInt ≤ (2147483647 : Int)) (kk : ∀ σ', zx p l e room_1 s m args below meth c g 8 600002 7302232 Q σ' 1395 [(4, .int 0), (0, .ref bS)] []) : zx p l e room_1 s m args below meth c g 8 500 100000 Q σ 1166 [(4, .int 0), (3, .ref (b + 431)), (2, .ref (b + 405)), (1, .ref (b + 0)), (0, .ref bS)] [] := by
  have hK := fz_lay hF
  refine z_eqs (σ' := (ap b σ [] [] [])) rfl ?_
  refine z_aload_n B dL_law_1166 rfl 3 rfl ?_
  refine z_aload_n B dL_law_1167 rfl 4 rfl ?_
  refine z_iload B dL_law_1168 0 rfl ?_
  refine z_iconst (v := 1) B dL_law_1170 (by decide) ?_
  refine z_iadd B dL_law_1171 ?_
  refine z_seti (y := 1) (by decide) ?_
  refine z_sld (j := 1) (x := x1) B hX hbl hbA (by decide) (show ¬ ((1 : Int32) < 0 ∨ 6 ≤ (1 : Int32).toNatClampNeg) by decide) h_x1 dL_law_1172 ?_
  refine z_aload_n B dL_law_1173 rfl 4 rfl ?_
  refine z_iload B dL_law_1174 0 rfl ?_
  refine z_iconst (v := 2) B dL_law_1176 (by decide) ?_
  refine z_iadd B dL_law_1177 ?_
  refine z_seti (y := 2) (by decide) ?_
  refine z_sld (j := 2) (x := x2) B hX hbl hbA (by decide) (show ¬ ((2 : Int32) < 0 ∨ 6 ≤ (2 : Int32).toNatClampNeg) by decide) h_x2 dL_law_1178 ?_
  refine z_aload_n B dL_law_1179 rfl 1 rfl ?_
  refine z_cSWi (As := [.ref (b + 0), .int x1, .int x2, .ref (b + 431)]) (rest := []) B cw_L_143 dL_law_1180 (ci_L_kind_1231 l hlt (σ := (ap b σ [] [] [])) (b := b) (lyA hK) x1 x2 q1_x1 q2_x1 (rI_at 0 7 (fz_I hF 0 7 rfl rfl))) rfl (by decide) rfl (Nat.le_of_ble_eq_true rfl) (by decide) (fun r u hu => ?_)
  obtain ⟨hu1, z, hu⟩ := hu
  refine z_eqs (σ' := (ap b (wx_Z σ z) [] [] [])) (hu.trans az_ap) ?_
  show zx p l e _ s m _ below meth c g 8 _ _ _ _ 1183 [(4, .int 0), (3, .ref (b + 431)), (2, .ref (b + 405)), (1, .ref (b + 0)), (0, .ref bS)] _
  refine z_seti (y := 1) hu1 ?_
  refine z_istore (lv' := [(5, .int 1), (4, .int 0), (3, .ref (b + 431)), (2, .ref (b + 405)), (1, .ref (b + 0)), (0, .ref bS)]) B dL_law_1183 (by decide) rfl ?_
  refine z_aload_n B dL_law_1185 rfl 3 rfl ?_
  refine z_aload_n B dL_law_1186 rfl 5 rfl ?_
  refine z_iload B dL_law_1187 1 rfl ?_
  refine z_iconst (v := 1) B dL_law_1189 (by decide) ?_
  refine z_iadd B dL_law_1190 ?_
  refine z_seti (y := 1) (by decide) ?_
  refine z_sld (j := 1) (x := x1) B hX hbl hbA (by decide) (show ¬ ((1 : Int32) < 0 ∨ 6 ≤ (1 : Int32).toNatClampNeg) by decide) h_x1 dL_law_1191 ?_
  refine z_aload_n B dL_law_1192 rfl 5 rfl ?_
  refine z_iload B dL_law_1193 1 rfl ?_
  refine z_iconst (v := 2) B dL_law_1195 (by decide) ?_
  refine z_iadd B dL_law_1196 ?_
  refine z_seti (y := 2) (by decide) ?_
  refine z_sld (j := 2) (x := x2) B hX hbl hbA (by decide) (show ¬ ((2 : Int32) < 0 ∨ 6 ≤ (2 : Int32).toNatClampNeg) by decide) h_x2 dL_law_1197 ?_
  refine z_cVi (As := [.int x1, .int x2]) (rest := []) B cw_L_145 cx_10 dL_law_1198 (ci_X9_kind_1233 l (σ := (ap b (wx_Z σ z) [] [] [])) (b := b) (lyA (lyZ hK)) x1 x2 q1_x1 q2_x1 (rI_at 405 6 (lIZ (fz_I hF 405 6 rfl rfl)))) (lKA (lKZ (hk_K hK 405 rfl rfl))) rfl (by decide) rfl (Nat.le_of_ble_eq_true rfl) (by decide) (fun r u hu => ?_)
  refine z_eqs (σ' := (ap b (wx_Z σ z) [(405, 0, 1)] [] [])) (hu.2.trans ap_ap) ?_
  show zx p l e _ s m _ below meth c g 8 _ _ _ _ 1201 [(5, .int 1), (4, .int 0), (3, .ref (b + 431)), (2, .ref (b + 405)), (1, .ref (b + 0)), (0, .ref bS)] _
  refine z_seti (y := 0) hu.1 ?_
  refine z_istore (lv' := [(6, .int 0), (5, .int 1), (4, .int 0), (3, .ref (b + 431)), (2, .ref (b + 405)), (1, .ref (b + 0)), (0, .ref bS)]) B dL_law_1201 (by decide) rfl ?_
  refine z_aload_n B dL_law_1203 rfl 4 rfl ?_
  refine z_cVi (As := []) (rest := []) B cw_L_80 cx_10 dL_law_1204 (ci_X9_thrown_31 l (σ := (ap b (wx_Z σ z) [(405, 0, 1)] [] [])) (b := b) (lyA (lyZ hK)) (rI_at 405 0 rfl)) (lKA (lKZ (hk_K hK 405 rfl rfl))) rfl (by decide) rfl (Nat.le_of_ble_eq_true rfl) (by decide) (fun r u hu => ?_)
  refine z_eqs (σ' := (ap b (wx_Z σ z) [(405, 0, 1)] [] [])) hu.2 ?_
  show zx p l e _ s m _ below meth c g 8 _ _ _ _ 1207 [(6, .int 0), (5, .int 1), (4, .int 0), (3, .ref (b + 431)), (2, .ref (b + 405)), (1, .ref (b + 0)), (0, .ref bS)] _
  refine z_seti (y := 1) hu.1 ?_
  refine z_iload B dL_law_1207 1 rfl ?_
  refine z_icmp_eq (tgt := 1214) B dL_law_1209 (by decide) (fun _ => ?_) (fun h => absurd (by decide) h)
  refine z_iload B dL_law_1214 1 rfl ?_
  refine z_if_ne (tgt := 1231) B dL_law_1216 (by decide) (fun _ => ?_) (fun h => absurd h (by decide))
  refine z_goto (tgt := 1395) B dL_law_1231 (by decide) ?_
  exact z_widen (Nat.le_of_ble_eq_true rfl) (Nat.le_of_ble_eq_true rfl) (z_sub _ [2, 6] rfl (kk _))
set_option maxRecDepth 100000 in
set_option maxHeartbeats 4000000 in
theorem lf_19_404 {p : Program} {l : Launch} {e : Env} {s : State} {m : MethodId} {args : Array Value} {below : List Frame} {meth : Method} {c : Code} {g : gx_T} {Q : State → Prop} {σ : sx_T} {b t bS : Nat} {xs : Nat → Int32} (hlt : l.stackTraces = false) (B : zx_B p s m args meth c code RL 8 g) (hX : va_X bS 6 xs s s.heap) (hbl : bS < s.heap.size) (hbA : ¬ gx_b g ≤ bS) (hF : fz_P b t σ) {x1 : Int32} (h_x1 : xs 1 = x1) (q1_x1 : (-2147483648 : Int) ≤ x1.toInt) (q2_x1 : x1.toInt ≤ (-1 : Int)) {x2 : Int32} (h_x2 : xs 2 = x2) (q1_x2 : (-2147483648 : Int) ≤ x2.toInt) (q2_x2 : x2.toInt ≤ (2147483647 : Int)) (kk : ∀ σ', zx p l e room_1 s m args below meth c g 8 600002 7302232 Q σ' 1395 [(4, .int 0), (0, .ref bS)] []) : zx p l e room_1 s m args below meth c g 8 500 100000 Q σ 1234 [(4, .int 0), (3, .ref (b + 431)), (2, .ref (b + 405)), (1, .ref (b + 0)), (0, .ref bS)] [] := by
  have hK := fz_lay hF
  refine z_eqs (σ' := (ap b σ [] [] [])) rfl ?_
  refine z_aload_n B dL_law_1234 rfl 3 rfl ?_
  refine z_aload_n B dL_law_1235 rfl 4 rfl ?_
  refine z_iload B dL_law_1236 0 rfl ?_
  refine z_iconst (v := 1) B dL_law_1238 (by decide) ?_
  refine z_iadd B dL_law_1239 ?_
  refine z_seti (y := 1) (by decide) ?_
  refine z_sld (j := 1) (x := x1) B hX hbl hbA (by decide) (show ¬ ((1 : Int32) < 0 ∨ 6 ≤ (1 : Int32).toNatClampNeg) by decide) h_x1 dL_law_1240 ?_
  refine z_aload_n B dL_law_1241 rfl 4 rfl ?_
  refine z_iload B dL_law_1242 0 rfl ?_
  refine z_iconst (v := 2) B dL_law_1244 (by decide) ?_
  refine z_iadd B dL_law_1245 ?_
  refine z_seti (y := 2) (by decide) ?_
  refine z_sld (j := 2) (x := x2) B hX hbl hbA (by decide) (show ¬ ((2 : Int32) < 0 ∨ 6 ≤ (2 : Int32).toNatClampNeg) by decide) h_x2 dL_law_1246 ?_
  refine z_aload_n B dL_law_1247 rfl 1 rfl ?_
  refine z_cSWi (As := [.ref (b + 0), .int x1, .int x2, .ref (b + 431)]) (rest := []) B cw_L_146 dL_law_1248 (ci_L_number_1235 l hlt (σ := (ap b σ [] [] [])) (b := b) (lyA hK) x1 x2 q1_x1 q2_x1) rfl (by decide) rfl (Nat.le_of_ble_eq_true rfl) (by decide) (fun r u hu => ?_)
  obtain ⟨hu1, z, hu⟩ := hu
  refine z_eqs (σ' := (ap b (wx_Z σ z) [] [] [])) (hu.trans az_ap) ?_
  show zx p l e _ s m _ below meth c g 8 _ _ _ _ 1251 [(4, .int 0), (3, .ref (b + 431)), (2, .ref (b + 405)), (1, .ref (b + 0)), (0, .ref bS)] _
  refine z_seti (y := 1) hu1 ?_
  refine z_istore (lv' := [(5, .int 1), (4, .int 0), (3, .ref (b + 431)), (2, .ref (b + 405)), (1, .ref (b + 0)), (0, .ref bS)]) B dL_law_1251 (by decide) rfl ?_
  refine z_aload_n B dL_law_1253 rfl 3 rfl ?_
  refine z_aload_n B dL_law_1254 rfl 5 rfl ?_
  refine z_iload B dL_law_1255 1 rfl ?_
  refine z_iconst (v := 1) B dL_law_1257 (by decide) ?_
  refine z_iadd B dL_law_1258 ?_
  refine z_seti (y := 1) (by decide) ?_
  refine z_sld (j := 1) (x := x1) B hX hbl hbA (by decide) (show ¬ ((1 : Int32) < 0 ∨ 6 ≤ (1 : Int32).toNatClampNeg) by decide) h_x1 dL_law_1259 ?_
  refine z_aload_n B dL_law_1260 rfl 5 rfl ?_
  refine z_iload B dL_law_1261 1 rfl ?_
  refine z_iconst (v := 2) B dL_law_1263 (by decide) ?_
  refine z_iadd B dL_law_1264 ?_
  refine z_seti (y := 2) (by decide) ?_
  refine z_sld (j := 2) (x := x2) B hX hbl hbA (by decide) (show ¬ ((2 : Int32) < 0 ∨ 6 ≤ (2 : Int32).toNatClampNeg) by decide) h_x2 dL_law_1265 ?_
  refine z_cVl (As := [.int x1, .int x2]) (rest := []) B cw_L_148 cx_10 dL_law_1266 (ci_X9_number_1236 l (σ := (ap b (wx_Z σ z) [] [] [])) (b := b) (lyA (lyZ hK)) x1 x2 q1_x1 q2_x1 (rI_at 405 6 (lIZ (fz_I hF 405 6 rfl rfl)))) (lKA (lKZ (hk_K hK 405 rfl rfl))) rfl (by decide) rfl (Nat.le_of_ble_eq_true rfl) (by decide) (fun r u hu => ?_)
  refine z_eqs (σ' := (ap b (wx_Z σ z) [(405, 0, 1)] [] [])) (hu.2.trans ap_ap) ?_
  show zx p l e _ s m _ below meth c g 8 _ _ _ _ 1269 [(5, .int 1), (4, .int 0), (3, .ref (b + 431)), (2, .ref (b + 405)), (1, .ref (b + 0)), (0, .ref bS)] _
  refine z_setl (y := 0) hu.1 ?_
  refine z_lstore (lv' := [(6, .long 0), (5, .int 1), (4, .int 0), (3, .ref (b + 431)), (2, .ref (b + 405)), (1, .ref (b + 0)), (0, .ref bS)]) B dL_law_1269 (by decide) rfl ?_
  refine z_aload_n B dL_law_1271 rfl 4 rfl ?_
  refine z_cVi (As := []) (rest := []) B cw_L_80 cx_10 dL_law_1272 (ci_X9_thrown_31 l (σ := (ap b (wx_Z σ z) [(405, 0, 1)] [] [])) (b := b) (lyA (lyZ hK)) (rI_at 405 0 rfl)) (lKA (lKZ (hk_K hK 405 rfl rfl))) rfl (by decide) rfl (Nat.le_of_ble_eq_true rfl) (by decide) (fun r u hu => ?_)
  refine z_eqs (σ' := (ap b (wx_Z σ z) [(405, 0, 1)] [] [])) hu.2 ?_
  show zx p l e _ s m _ below meth c g 8 _ _ _ _ 1275 [(6, .long 0), (5, .int 1), (4, .int 0), (3, .ref (b + 431)), (2, .ref (b + 405)), (1, .ref (b + 0)), (0, .ref bS)] _
  refine z_seti (y := 1) hu.1 ?_
  refine z_iload B dL_law_1275 1 rfl ?_
  refine z_icmp_eq (tgt := 1282) B dL_law_1277 (by decide) (fun _ => ?_) (fun h => absurd (by decide) h)
  refine z_iload B dL_law_1282 1 rfl ?_
  refine z_if_ne (tgt := 1298) B dL_law_1284 (by decide) (fun _ => ?_) (fun h => absurd h (by decide))
  refine z_goto (tgt := 1395) B dL_law_1298 (by decide) ?_
  exact z_widen (Nat.le_of_ble_eq_true rfl) (Nat.le_of_ble_eq_true rfl) (z_sub _ [2, 6] rfl (kk _))
set_option maxRecDepth 100000 in
set_option maxHeartbeats 4000000 in
theorem lf_19_405 {p : Program} {l : Launch} {e : Env} {s : State} {m : MethodId} {args : Array Value} {below : List Frame} {meth : Method} {c : Code} {g : gx_T} {Q : State → Prop} {σ : sx_T} {b t bS : Nat} {xs : Nat → Int32} (hlt : l.stackTraces = false) (B : zx_B p s m args meth c code RL 8 g) (hX : va_X bS 6 xs s s.heap) (hbl : bS < s.heap.size) (hbA : ¬ gx_b g ≤ bS) (hF : fz_P b t σ) {x1 : Int32} (h_x1 : xs 1 = x1) (q1_x1 : (0 : Int) ≤ x1.toInt) (q2_x1 : x1.toInt ≤ (2147483647 : Int)) {x2 : Int32} (h_x2 : xs 2 = x2) (q1_x2 : (-2147483648 : Int) ≤ x2.toInt) (q2_x2 : x2.toInt ≤ (2147483647 : Int)) (kk : ∀ σ', zx p l e room_1 s m args below meth c g 8 600002 7302232 Q σ' 1395 [(4, .int 0), (0, .ref bS)] []) : zx p l e room_1 s m args below meth c g 8 500 100000 Q σ 1234 [(4, .int 0), (3, .ref (b + 431)), (2, .ref (b + 405)), (1, .ref (b + 0)), (0, .ref bS)] [] := by
  have hK := fz_lay hF
  refine z_eqs (σ' := (ap b σ [] [] [])) rfl ?_
  refine z_aload_n B dL_law_1234 rfl 3 rfl ?_
  refine z_aload_n B dL_law_1235 rfl 4 rfl ?_
  refine z_iload B dL_law_1236 0 rfl ?_
  refine z_iconst (v := 1) B dL_law_1238 (by decide) ?_
  refine z_iadd B dL_law_1239 ?_
  refine z_seti (y := 1) (by decide) ?_
  refine z_sld (j := 1) (x := x1) B hX hbl hbA (by decide) (show ¬ ((1 : Int32) < 0 ∨ 6 ≤ (1 : Int32).toNatClampNeg) by decide) h_x1 dL_law_1240 ?_
  refine z_aload_n B dL_law_1241 rfl 4 rfl ?_
  refine z_iload B dL_law_1242 0 rfl ?_
  refine z_iconst (v := 2) B dL_law_1244 (by decide) ?_
  refine z_iadd B dL_law_1245 ?_
  refine z_seti (y := 2) (by decide) ?_
  refine z_sld (j := 2) (x := x2) B hX hbl hbA (by decide) (show ¬ ((2 : Int32) < 0 ∨ 6 ≤ (2 : Int32).toNatClampNeg) by decide) h_x2 dL_law_1246 ?_
  refine z_aload_n B dL_law_1247 rfl 1 rfl ?_
  refine z_cSWi (As := [.ref (b + 0), .int x1, .int x2, .ref (b + 431)]) (rest := []) B cw_L_146 dL_law_1248 (ci_L_number_1238 l hlt (σ := (ap b σ [] [] [])) (b := b) (lyA hK) x1 x2 q1_x1 q2_x1 (rI_at 0 7 (fz_I hF 0 7 rfl rfl))) rfl (by decide) rfl (Nat.le_of_ble_eq_true rfl) (by decide) (fun r u hu => ?_)
  obtain ⟨hu1, z, hu⟩ := hu
  refine z_eqs (σ' := (ap b (wx_Z σ z) [] [] [])) (hu.trans az_ap) ?_
  show zx p l e _ s m _ below meth c g 8 _ _ _ _ 1251 [(4, .int 0), (3, .ref (b + 431)), (2, .ref (b + 405)), (1, .ref (b + 0)), (0, .ref bS)] _
  refine z_seti (y := 1) hu1 ?_
  refine z_istore (lv' := [(5, .int 1), (4, .int 0), (3, .ref (b + 431)), (2, .ref (b + 405)), (1, .ref (b + 0)), (0, .ref bS)]) B dL_law_1251 (by decide) rfl ?_
  refine z_aload_n B dL_law_1253 rfl 3 rfl ?_
  refine z_aload_n B dL_law_1254 rfl 5 rfl ?_
  refine z_iload B dL_law_1255 1 rfl ?_
  refine z_iconst (v := 1) B dL_law_1257 (by decide) ?_
  refine z_iadd B dL_law_1258 ?_
  refine z_seti (y := 1) (by decide) ?_
  refine z_sld (j := 1) (x := x1) B hX hbl hbA (by decide) (show ¬ ((1 : Int32) < 0 ∨ 6 ≤ (1 : Int32).toNatClampNeg) by decide) h_x1 dL_law_1259 ?_
  refine z_aload_n B dL_law_1260 rfl 5 rfl ?_
  refine z_iload B dL_law_1261 1 rfl ?_
  refine z_iconst (v := 2) B dL_law_1263 (by decide) ?_
  refine z_iadd B dL_law_1264 ?_
  refine z_seti (y := 2) (by decide) ?_
  refine z_sld (j := 2) (x := x2) B hX hbl hbA (by decide) (show ¬ ((2 : Int32) < 0 ∨ 6 ≤ (2 : Int32).toNatClampNeg) by decide) h_x2 dL_law_1265 ?_
  refine z_cVl (As := [.int x1, .int x2]) (rest := []) B cw_L_148 cx_10 dL_law_1266 (ci_X9_number_1239 l (σ := (ap b (wx_Z σ z) [] [] [])) (b := b) (lyA (lyZ hK)) x1 x2 q1_x1 q2_x1 (rI_at 405 6 (lIZ (fz_I hF 405 6 rfl rfl)))) (lKA (lKZ (hk_K hK 405 rfl rfl))) rfl (by decide) rfl (Nat.le_of_ble_eq_true rfl) (by decide) (fun r u hu => ?_)
  refine z_eqs (σ' := (ap b (wx_Z σ z) [(405, 0, 1)] [] [])) (hu.2.trans ap_ap) ?_
  show zx p l e _ s m _ below meth c g 8 _ _ _ _ 1269 [(5, .int 1), (4, .int 0), (3, .ref (b + 431)), (2, .ref (b + 405)), (1, .ref (b + 0)), (0, .ref bS)] _
  refine z_setl (y := 0) hu.1 ?_
  refine z_lstore (lv' := [(6, .long 0), (5, .int 1), (4, .int 0), (3, .ref (b + 431)), (2, .ref (b + 405)), (1, .ref (b + 0)), (0, .ref bS)]) B dL_law_1269 (by decide) rfl ?_
  refine z_aload_n B dL_law_1271 rfl 4 rfl ?_
  refine z_cVi (As := []) (rest := []) B cw_L_80 cx_10 dL_law_1272 (ci_X9_thrown_31 l (σ := (ap b (wx_Z σ z) [(405, 0, 1)] [] [])) (b := b) (lyA (lyZ hK)) (rI_at 405 0 rfl)) (lKA (lKZ (hk_K hK 405 rfl rfl))) rfl (by decide) rfl (Nat.le_of_ble_eq_true rfl) (by decide) (fun r u hu => ?_)
  refine z_eqs (σ' := (ap b (wx_Z σ z) [(405, 0, 1)] [] [])) hu.2 ?_
  show zx p l e _ s m _ below meth c g 8 _ _ _ _ 1275 [(6, .long 0), (5, .int 1), (4, .int 0), (3, .ref (b + 431)), (2, .ref (b + 405)), (1, .ref (b + 0)), (0, .ref bS)] _
  refine z_seti (y := 1) hu.1 ?_
  refine z_iload B dL_law_1275 1 rfl ?_
  refine z_icmp_eq (tgt := 1282) B dL_law_1277 (by decide) (fun _ => ?_) (fun h => absurd (by decide) h)
  refine z_iload B dL_law_1282 1 rfl ?_
  refine z_if_ne (tgt := 1298) B dL_law_1284 (by decide) (fun _ => ?_) (fun h => absurd h (by decide))
  refine z_goto (tgt := 1395) B dL_law_1298 (by decide) ?_
  exact z_widen (Nat.le_of_ble_eq_true rfl) (Nat.le_of_ble_eq_true rfl) (z_sub _ [2, 6] rfl (kk _))
set_option maxRecDepth 100000 in
set_option maxHeartbeats 4000000 in
theorem lf_20_406 {p : Program} {l : Launch} {e : Env} {s : State} {m : MethodId} {args : Array Value} {below : List Frame} {meth : Method} {c : Code} {g : gx_T} {Q : State → Prop} {σ : sx_T} {b t bS : Nat} {xs : Nat → Int32} (hlt : l.stackTraces = false) (B : zx_B p s m args meth c code RL 8 g) (hX : va_X bS 6 xs s s.heap) (hbl : bS < s.heap.size) (hbA : ¬ gx_b g ≤ bS) (hF : fz_P b t σ)  (kk : ∀ σ', zx p l e room_1 s m args below meth c g 8 600002 7302232 Q σ' 1395 [(4, .int 0), (0, .ref bS)] []) : zx p l e room_1 s m args below meth c g 8 500 100000 Q σ 1301 [(4, .int 0), (3, .ref (b + 431)), (2, .ref (b + 405)), (1, .ref (b + 0)), (0, .ref bS)] [] := by
  have hK := fz_lay hF
  refine z_eqs (σ' := (ap b σ [] [] [])) rfl ?_
  refine z_aload_n B dL_law_1301 rfl 3 rfl ?_
  refine z_cVi (As := []) (rest := []) B cw_L_149 cx_9 dL_law_1302 (ci_X8_tasks_1240 l (σ := (ap b σ [] [] [])) (b := b) (lyA hK) (rI_at 4 2 (fz_I hF 4 2 rfl rfl)) (rR_at 0 3 (fz_R hF 0 3 rfl rfl))) (lKA (hk_K hK 0 rfl rfl)) rfl (by decide) rfl (Nat.le_of_ble_eq_true rfl) (by decide) (fun r u hu => ?_)
  refine z_eqs (σ' := (ap b σ [] [] [])) hu.2 ?_
  show zx p l e _ s m _ below meth c g 8 _ _ _ _ 1305 [(4, .int 0), (3, .ref (b + 431)), (2, .ref (b + 405)), (1, .ref (b + 0)), (0, .ref bS)] _
  refine z_seti (y := 0) hu.1 ?_
  refine z_aload_n B dL_law_1305 rfl 2 rfl ?_
  refine z_cVi (As := []) (rest := [.int 0]) B cw_L_152 cx_10 dL_law_1306 (ci_X9_tasks_1241 l (σ := (ap b σ [] [] [])) (b := b) (lyA hK) (rI_at 405 16 (fz_I hF 405 16 rfl rfl))) (lKA (hk_K hK 405 rfl rfl)) rfl (by decide) rfl (Nat.le_of_ble_eq_true rfl) (by decide) (fun r u hu => ?_)
  refine z_eqs (σ' := (ap b σ [(405, 0, 0)] [] [])) (hu.2.trans ap_ap) ?_
  show zx p l e _ s m _ below meth c g 8 _ _ _ _ 1309 [(4, .int 0), (3, .ref (b + 431)), (2, .ref (b + 405)), (1, .ref (b + 0)), (0, .ref bS)] _
  refine z_seti (y := 0) hu.1 ?_
  refine z_icmp_eq (tgt := 1395) B dL_law_1309 (by decide) (fun _ => ?_) (fun h => absurd (by decide) h)
  exact z_widen (Nat.le_of_ble_eq_true rfl) (Nat.le_of_ble_eq_true rfl) (z_sub _ [0, 4] rfl (kk _))
set_option maxRecDepth 100000 in
set_option maxHeartbeats 4000000 in
theorem lf_21_407 {p : Program} {l : Launch} {e : Env} {s : State} {m : MethodId} {args : Array Value} {below : List Frame} {meth : Method} {c : Code} {g : gx_T} {Q : State → Prop} {σ : sx_T} {b t bS : Nat} {xs : Nat → Int32} (hlt : l.stackTraces = false) (B : zx_B p s m args meth c code RL 8 g) (hX : va_X bS 6 xs s s.heap) (hbl : bS < s.heap.size) (hbA : ¬ gx_b g ≤ bS) (hF : fz_P b t σ) {x1 : Int32} (h_x1 : xs 1 = x1) (q1_x1 : (-2147483648 : Int) ≤ x1.toInt) (q2_x1 : x1.toInt ≤ (-1 : Int)) {x2 : Int32} (h_x2 : xs 2 = x2) (q1_x2 : (-2147483648 : Int) ≤ x2.toInt) (q2_x2 : x2.toInt ≤ (-1 : Int)) (kk : ∀ σ', zx p l e room_1 s m args below meth c g 8 600002 7302232 Q σ' 1395 [(4, .int 0), (0, .ref bS)] []) : zx p l e room_1 s m args below meth c g 8 500 100000 Q σ 1314 [(4, .int 0), (3, .ref (b + 431)), (2, .ref (b + 405)), (1, .ref (b + 0)), (0, .ref bS)] [] := by
  have hK := fz_lay hF
  refine z_eqs (σ' := (ap b σ [] [] [])) rfl ?_
  refine z_aload_n B dL_law_1314 rfl 3 rfl ?_
  refine z_aload_n B dL_law_1315 rfl 4 rfl ?_
  refine z_iload B dL_law_1316 0 rfl ?_
  refine z_iconst (v := 1) B dL_law_1318 (by decide) ?_
  refine z_iadd B dL_law_1319 ?_
  refine z_seti (y := 1) (by decide) ?_
  refine z_sld (j := 1) (x := x1) B hX hbl hbA (by decide) (show ¬ ((1 : Int32) < 0 ∨ 6 ≤ (1 : Int32).toNatClampNeg) by decide) h_x1 dL_law_1320 ?_
  refine z_aload_n B dL_law_1321 rfl 4 rfl ?_
  refine z_iload B dL_law_1322 0 rfl ?_
  refine z_iconst (v := 2) B dL_law_1324 (by decide) ?_
  refine z_iadd B dL_law_1325 ?_
  refine z_seti (y := 2) (by decide) ?_
  refine z_sld (j := 2) (x := x2) B hX hbl hbA (by decide) (show ¬ ((2 : Int32) < 0 ∨ 6 ≤ (2 : Int32).toNatClampNeg) by decide) h_x2 dL_law_1326 ?_
  refine z_aload_n B dL_law_1327 rfl 1 rfl ?_
  refine z_cSWi (As := [.ref (b + 0), .int x1, .int x2, .ref (b + 431)]) (rest := []) B cw_L_153 dL_law_1328 (ci_L_task_1244 l hlt (σ := (ap b σ [] [] [])) (b := b) (lyA hK) x1 x2 q1_x1 q2_x1) rfl (by decide) rfl (Nat.le_of_ble_eq_true rfl) (by decide) (fun r u hu => ?_)
  obtain ⟨hu1, z, hu⟩ := hu
  refine z_eqs (σ' := (ap b (wx_Z σ z) [] [] [])) (hu.trans az_ap) ?_
  show zx p l e _ s m _ below meth c g 8 _ _ _ _ 1331 [(4, .int 0), (3, .ref (b + 431)), (2, .ref (b + 405)), (1, .ref (b + 0)), (0, .ref bS)] _
  refine z_seti (y := 1) hu1 ?_
  refine z_istore (lv' := [(5, .int 1), (4, .int 0), (3, .ref (b + 431)), (2, .ref (b + 405)), (1, .ref (b + 0)), (0, .ref bS)]) B dL_law_1331 (by decide) rfl ?_
  refine z_aload_n B dL_law_1333 rfl 3 rfl ?_
  refine z_aload_n B dL_law_1334 rfl 5 rfl ?_
  refine z_iload B dL_law_1335 1 rfl ?_
  refine z_iconst (v := 1) B dL_law_1337 (by decide) ?_
  refine z_iadd B dL_law_1338 ?_
  refine z_seti (y := 1) (by decide) ?_
  refine z_sld (j := 1) (x := x1) B hX hbl hbA (by decide) (show ¬ ((1 : Int32) < 0 ∨ 6 ≤ (1 : Int32).toNatClampNeg) by decide) h_x1 dL_law_1339 ?_
  refine z_aload_n B dL_law_1340 rfl 5 rfl ?_
  refine z_iload B dL_law_1341 1 rfl ?_
  refine z_iconst (v := 2) B dL_law_1343 (by decide) ?_
  refine z_iadd B dL_law_1344 ?_
  refine z_seti (y := 2) (by decide) ?_
  refine z_sld (j := 2) (x := x2) B hX hbl hbA (by decide) (show ¬ ((2 : Int32) < 0 ∨ 6 ≤ (2 : Int32).toNatClampNeg) by decide) h_x2 dL_law_1345 ?_
  refine z_cVi (As := [.int x1, .int x2]) (rest := []) B cw_L_155 cx_10 dL_law_1346 (ci_X9_task_1245 l (σ := (ap b (wx_Z σ z) [] [] [])) (b := b) (lyA (lyZ hK)) x1 x2 q1_x1 q2_x1 q1_x2 q2_x2 (rI_at 405 16 (lIZ (fz_I hF 405 16 rfl rfl)))) (lKA (lKZ (hk_K hK 405 rfl rfl))) rfl (by decide) rfl (Nat.le_of_ble_eq_true rfl) (by decide) (fun r u hu => ?_)
  refine z_eqs (σ' := (ap b (wx_Z σ z) [(405, 0, 1)] [] [])) (hu.2.trans ap_ap) ?_
  show zx p l e _ s m _ below meth c g 8 _ _ _ _ 1349 [(5, .int 1), (4, .int 0), (3, .ref (b + 431)), (2, .ref (b + 405)), (1, .ref (b + 0)), (0, .ref bS)] _
  refine z_seti (y := 0) hu.1 ?_
  refine z_istore (lv' := [(6, .int 0), (5, .int 1), (4, .int 0), (3, .ref (b + 431)), (2, .ref (b + 405)), (1, .ref (b + 0)), (0, .ref bS)]) B dL_law_1349 (by decide) rfl ?_
  refine z_aload_n B dL_law_1351 rfl 4 rfl ?_
  refine z_cVi (As := []) (rest := []) B cw_L_80 cx_10 dL_law_1352 (ci_X9_thrown_31 l (σ := (ap b (wx_Z σ z) [(405, 0, 1)] [] [])) (b := b) (lyA (lyZ hK)) (rI_at 405 0 rfl)) (lKA (lKZ (hk_K hK 405 rfl rfl))) rfl (by decide) rfl (Nat.le_of_ble_eq_true rfl) (by decide) (fun r u hu => ?_)
  refine z_eqs (σ' := (ap b (wx_Z σ z) [(405, 0, 1)] [] [])) hu.2 ?_
  show zx p l e _ s m _ below meth c g 8 _ _ _ _ 1355 [(6, .int 0), (5, .int 1), (4, .int 0), (3, .ref (b + 431)), (2, .ref (b + 405)), (1, .ref (b + 0)), (0, .ref bS)] _
  refine z_seti (y := 1) hu.1 ?_
  refine z_iload B dL_law_1355 1 rfl ?_
  refine z_icmp_eq (tgt := 1362) B dL_law_1357 (by decide) (fun _ => ?_) (fun h => absurd (by decide) h)
  refine z_iload B dL_law_1362 1 rfl ?_
  refine z_if_ne (tgt := 1379) B dL_law_1364 (by decide) (fun _ => ?_) (fun h => absurd h (by decide))
  refine z_goto (tgt := 1395) B dL_law_1379 (by decide) ?_
  exact z_widen (Nat.le_of_ble_eq_true rfl) (Nat.le_of_ble_eq_true rfl) (z_sub _ [2, 6] rfl (kk _))
set_option maxRecDepth 100000 in
set_option maxHeartbeats 4000000 in
theorem lf_21_408 {p : Program} {l : Launch} {e : Env} {s : State} {m : MethodId} {args : Array Value} {below : List Frame} {meth : Method} {c : Code} {g : gx_T} {Q : State → Prop} {σ : sx_T} {b t bS : Nat} {xs : Nat → Int32} (hlt : l.stackTraces = false) (B : zx_B p s m args meth c code RL 8 g) (hX : va_X bS 6 xs s s.heap) (hbl : bS < s.heap.size) (hbA : ¬ gx_b g ≤ bS) (hF : fz_P b t σ) {x1 : Int32} (h_x1 : xs 1 = x1) (q1_x1 : (-2147483648 : Int) ≤ x1.toInt) (q2_x1 : x1.toInt ≤ (-1 : Int)) {x2 : Int32} (h_x2 : xs 2 = x2) (q1_x2 : (0 : Int) ≤ x2.toInt) (q2_x2 : x2.toInt ≤ (5 : Int)) (kk : ∀ σ', zx p l e room_1 s m args below meth c g 8 600002 7302232 Q σ' 1395 [(4, .int 0), (0, .ref bS)] []) : zx p l e room_1 s m args below meth c g 8 500 100000 Q σ 1314 [(4, .int 0), (3, .ref (b + 431)), (2, .ref (b + 405)), (1, .ref (b + 0)), (0, .ref bS)] [] := by
  have hK := fz_lay hF
  refine z_eqs (σ' := (ap b σ [] [] [])) rfl ?_
  refine z_aload_n B dL_law_1314 rfl 3 rfl ?_
  refine z_aload_n B dL_law_1315 rfl 4 rfl ?_
  refine z_iload B dL_law_1316 0 rfl ?_
  refine z_iconst (v := 1) B dL_law_1318 (by decide) ?_
  refine z_iadd B dL_law_1319 ?_
  refine z_seti (y := 1) (by decide) ?_
  refine z_sld (j := 1) (x := x1) B hX hbl hbA (by decide) (show ¬ ((1 : Int32) < 0 ∨ 6 ≤ (1 : Int32).toNatClampNeg) by decide) h_x1 dL_law_1320 ?_
  refine z_aload_n B dL_law_1321 rfl 4 rfl ?_
  refine z_iload B dL_law_1322 0 rfl ?_
  refine z_iconst (v := 2) B dL_law_1324 (by decide) ?_
  refine z_iadd B dL_law_1325 ?_
  refine z_seti (y := 2) (by decide) ?_
  refine z_sld (j := 2) (x := x2) B hX hbl hbA (by decide) (show ¬ ((2 : Int32) < 0 ∨ 6 ≤ (2 : Int32).toNatClampNeg) by decide) h_x2 dL_law_1326 ?_
  refine z_aload_n B dL_law_1327 rfl 1 rfl ?_
  refine z_cSWi (As := [.ref (b + 0), .int x1, .int x2, .ref (b + 431)]) (rest := []) B cw_L_153 dL_law_1328 (ci_L_task_1244 l hlt (σ := (ap b σ [] [] [])) (b := b) (lyA hK) x1 x2 q1_x1 q2_x1) rfl (by decide) rfl (Nat.le_of_ble_eq_true rfl) (by decide) (fun r u hu => ?_)
  obtain ⟨hu1, z, hu⟩ := hu
  refine z_eqs (σ' := (ap b (wx_Z σ z) [] [] [])) (hu.trans az_ap) ?_
  show zx p l e _ s m _ below meth c g 8 _ _ _ _ 1331 [(4, .int 0), (3, .ref (b + 431)), (2, .ref (b + 405)), (1, .ref (b + 0)), (0, .ref bS)] _
  refine z_seti (y := 1) hu1 ?_
  refine z_istore (lv' := [(5, .int 1), (4, .int 0), (3, .ref (b + 431)), (2, .ref (b + 405)), (1, .ref (b + 0)), (0, .ref bS)]) B dL_law_1331 (by decide) rfl ?_
  refine z_aload_n B dL_law_1333 rfl 3 rfl ?_
  refine z_aload_n B dL_law_1334 rfl 5 rfl ?_
  refine z_iload B dL_law_1335 1 rfl ?_
  refine z_iconst (v := 1) B dL_law_1337 (by decide) ?_
  refine z_iadd B dL_law_1338 ?_
  refine z_seti (y := 1) (by decide) ?_
  refine z_sld (j := 1) (x := x1) B hX hbl hbA (by decide) (show ¬ ((1 : Int32) < 0 ∨ 6 ≤ (1 : Int32).toNatClampNeg) by decide) h_x1 dL_law_1339 ?_
  refine z_aload_n B dL_law_1340 rfl 5 rfl ?_
  refine z_iload B dL_law_1341 1 rfl ?_
  refine z_iconst (v := 2) B dL_law_1343 (by decide) ?_
  refine z_iadd B dL_law_1344 ?_
  refine z_seti (y := 2) (by decide) ?_
  refine z_sld (j := 2) (x := x2) B hX hbl hbA (by decide) (show ¬ ((2 : Int32) < 0 ∨ 6 ≤ (2 : Int32).toNatClampNeg) by decide) h_x2 dL_law_1345 ?_
  refine z_cVi (As := [.int x1, .int x2]) (rest := []) B cw_L_155 cx_10 dL_law_1346 (ci_X9_task_1247 l (σ := (ap b (wx_Z σ z) [] [] [])) (b := b) (lyA (lyZ hK)) x1 x2 q1_x1 q2_x1 q1_x2 q2_x2 (rI_at 405 16 (lIZ (fz_I hF 405 16 rfl rfl)))) (lKA (lKZ (hk_K hK 405 rfl rfl))) rfl (by decide) rfl (Nat.le_of_ble_eq_true rfl) (by decide) (fun r u hu => ?_)
  refine z_eqs (σ' := (ap b (wx_Z σ z) [(405, 0, 1)] [] [])) (hu.2.trans ap_ap) ?_
  show zx p l e _ s m _ below meth c g 8 _ _ _ _ 1349 [(5, .int 1), (4, .int 0), (3, .ref (b + 431)), (2, .ref (b + 405)), (1, .ref (b + 0)), (0, .ref bS)] _
  refine z_seti (y := 0) hu.1 ?_
  refine z_istore (lv' := [(6, .int 0), (5, .int 1), (4, .int 0), (3, .ref (b + 431)), (2, .ref (b + 405)), (1, .ref (b + 0)), (0, .ref bS)]) B dL_law_1349 (by decide) rfl ?_
  refine z_aload_n B dL_law_1351 rfl 4 rfl ?_
  refine z_cVi (As := []) (rest := []) B cw_L_80 cx_10 dL_law_1352 (ci_X9_thrown_31 l (σ := (ap b (wx_Z σ z) [(405, 0, 1)] [] [])) (b := b) (lyA (lyZ hK)) (rI_at 405 0 rfl)) (lKA (lKZ (hk_K hK 405 rfl rfl))) rfl (by decide) rfl (Nat.le_of_ble_eq_true rfl) (by decide) (fun r u hu => ?_)
  refine z_eqs (σ' := (ap b (wx_Z σ z) [(405, 0, 1)] [] [])) hu.2 ?_
  show zx p l e _ s m _ below meth c g 8 _ _ _ _ 1355 [(6, .int 0), (5, .int 1), (4, .int 0), (3, .ref (b + 431)), (2, .ref (b + 405)), (1, .ref (b + 0)), (0, .ref bS)] _
  refine z_seti (y := 1) hu.1 ?_
  refine z_iload B dL_law_1355 1 rfl ?_
  refine z_icmp_eq (tgt := 1362) B dL_law_1357 (by decide) (fun _ => ?_) (fun h => absurd (by decide) h)
  refine z_iload B dL_law_1362 1 rfl ?_
  refine z_if_ne (tgt := 1379) B dL_law_1364 (by decide) (fun _ => ?_) (fun h => absurd h (by decide))
  refine z_goto (tgt := 1395) B dL_law_1379 (by decide) ?_
  exact z_widen (Nat.le_of_ble_eq_true rfl) (Nat.le_of_ble_eq_true rfl) (z_sub _ [2, 6] rfl (kk _))
set_option maxRecDepth 100000 in
set_option maxHeartbeats 4000000 in
theorem lf_21_409 {p : Program} {l : Launch} {e : Env} {s : State} {m : MethodId} {args : Array Value} {below : List Frame} {meth : Method} {c : Code} {g : gx_T} {Q : State → Prop} {σ : sx_T} {b t bS : Nat} {xs : Nat → Int32} (hlt : l.stackTraces = false) (B : zx_B p s m args meth c code RL 8 g) (hX : va_X bS 6 xs s s.heap) (hbl : bS < s.heap.size) (hbA : ¬ gx_b g ≤ bS) (hF : fz_P b t σ) {x1 : Int32} (h_x1 : xs 1 = x1) (q1_x1 : (-2147483648 : Int) ≤ x1.toInt) (q2_x1 : x1.toInt ≤ (-1 : Int)) {x2 : Int32} (h_x2 : xs 2 = x2) (q1_x2 : (6 : Int) ≤ x2.toInt) (q2_x2 : x2.toInt ≤ (2147483647 : Int)) (kk : ∀ σ', zx p l e room_1 s m args below meth c g 8 600002 7302232 Q σ' 1395 [(4, .int 0), (0, .ref bS)] []) : zx p l e room_1 s m args below meth c g 8 500 100000 Q σ 1314 [(4, .int 0), (3, .ref (b + 431)), (2, .ref (b + 405)), (1, .ref (b + 0)), (0, .ref bS)] [] := by
  have hK := fz_lay hF
  refine z_eqs (σ' := (ap b σ [] [] [])) rfl ?_
  refine z_aload_n B dL_law_1314 rfl 3 rfl ?_
  refine z_aload_n B dL_law_1315 rfl 4 rfl ?_
  refine z_iload B dL_law_1316 0 rfl ?_
  refine z_iconst (v := 1) B dL_law_1318 (by decide) ?_
  refine z_iadd B dL_law_1319 ?_
  refine z_seti (y := 1) (by decide) ?_
  refine z_sld (j := 1) (x := x1) B hX hbl hbA (by decide) (show ¬ ((1 : Int32) < 0 ∨ 6 ≤ (1 : Int32).toNatClampNeg) by decide) h_x1 dL_law_1320 ?_
  refine z_aload_n B dL_law_1321 rfl 4 rfl ?_
  refine z_iload B dL_law_1322 0 rfl ?_
  refine z_iconst (v := 2) B dL_law_1324 (by decide) ?_
  refine z_iadd B dL_law_1325 ?_
  refine z_seti (y := 2) (by decide) ?_
  refine z_sld (j := 2) (x := x2) B hX hbl hbA (by decide) (show ¬ ((2 : Int32) < 0 ∨ 6 ≤ (2 : Int32).toNatClampNeg) by decide) h_x2 dL_law_1326 ?_
  refine z_aload_n B dL_law_1327 rfl 1 rfl ?_
  refine z_cSWi (As := [.ref (b + 0), .int x1, .int x2, .ref (b + 431)]) (rest := []) B cw_L_153 dL_law_1328 (ci_L_task_1244 l hlt (σ := (ap b σ [] [] [])) (b := b) (lyA hK) x1 x2 q1_x1 q2_x1) rfl (by decide) rfl (Nat.le_of_ble_eq_true rfl) (by decide) (fun r u hu => ?_)
  obtain ⟨hu1, z, hu⟩ := hu
  refine z_eqs (σ' := (ap b (wx_Z σ z) [] [] [])) (hu.trans az_ap) ?_
  show zx p l e _ s m _ below meth c g 8 _ _ _ _ 1331 [(4, .int 0), (3, .ref (b + 431)), (2, .ref (b + 405)), (1, .ref (b + 0)), (0, .ref bS)] _
  refine z_seti (y := 1) hu1 ?_
  refine z_istore (lv' := [(5, .int 1), (4, .int 0), (3, .ref (b + 431)), (2, .ref (b + 405)), (1, .ref (b + 0)), (0, .ref bS)]) B dL_law_1331 (by decide) rfl ?_
  refine z_aload_n B dL_law_1333 rfl 3 rfl ?_
  refine z_aload_n B dL_law_1334 rfl 5 rfl ?_
  refine z_iload B dL_law_1335 1 rfl ?_
  refine z_iconst (v := 1) B dL_law_1337 (by decide) ?_
  refine z_iadd B dL_law_1338 ?_
  refine z_seti (y := 1) (by decide) ?_
  refine z_sld (j := 1) (x := x1) B hX hbl hbA (by decide) (show ¬ ((1 : Int32) < 0 ∨ 6 ≤ (1 : Int32).toNatClampNeg) by decide) h_x1 dL_law_1339 ?_
  refine z_aload_n B dL_law_1340 rfl 5 rfl ?_
  refine z_iload B dL_law_1341 1 rfl ?_
  refine z_iconst (v := 2) B dL_law_1343 (by decide) ?_
  refine z_iadd B dL_law_1344 ?_
  refine z_seti (y := 2) (by decide) ?_
  refine z_sld (j := 2) (x := x2) B hX hbl hbA (by decide) (show ¬ ((2 : Int32) < 0 ∨ 6 ≤ (2 : Int32).toNatClampNeg) by decide) h_x2 dL_law_1345 ?_
  refine z_cVi (As := [.int x1, .int x2]) (rest := []) B cw_L_155 cx_10 dL_law_1346 (ci_X9_task_1248 l (σ := (ap b (wx_Z σ z) [] [] [])) (b := b) (lyA (lyZ hK)) x1 x2 q1_x1 q2_x1 q1_x2 q2_x2 (rI_at 405 16 (lIZ (fz_I hF 405 16 rfl rfl)))) (lKA (lKZ (hk_K hK 405 rfl rfl))) rfl (by decide) rfl (Nat.le_of_ble_eq_true rfl) (by decide) (fun r u hu => ?_)
  refine z_eqs (σ' := (ap b (wx_Z σ z) [(405, 0, 1)] [] [])) (hu.2.trans ap_ap) ?_
  show zx p l e _ s m _ below meth c g 8 _ _ _ _ 1349 [(5, .int 1), (4, .int 0), (3, .ref (b + 431)), (2, .ref (b + 405)), (1, .ref (b + 0)), (0, .ref bS)] _
  refine z_seti (y := 0) hu.1 ?_
  refine z_istore (lv' := [(6, .int 0), (5, .int 1), (4, .int 0), (3, .ref (b + 431)), (2, .ref (b + 405)), (1, .ref (b + 0)), (0, .ref bS)]) B dL_law_1349 (by decide) rfl ?_
  refine z_aload_n B dL_law_1351 rfl 4 rfl ?_
  refine z_cVi (As := []) (rest := []) B cw_L_80 cx_10 dL_law_1352 (ci_X9_thrown_31 l (σ := (ap b (wx_Z σ z) [(405, 0, 1)] [] [])) (b := b) (lyA (lyZ hK)) (rI_at 405 0 rfl)) (lKA (lKZ (hk_K hK 405 rfl rfl))) rfl (by decide) rfl (Nat.le_of_ble_eq_true rfl) (by decide) (fun r u hu => ?_)
  refine z_eqs (σ' := (ap b (wx_Z σ z) [(405, 0, 1)] [] [])) hu.2 ?_
  show zx p l e _ s m _ below meth c g 8 _ _ _ _ 1355 [(6, .int 0), (5, .int 1), (4, .int 0), (3, .ref (b + 431)), (2, .ref (b + 405)), (1, .ref (b + 0)), (0, .ref bS)] _
  refine z_seti (y := 1) hu.1 ?_
  refine z_iload B dL_law_1355 1 rfl ?_
  refine z_icmp_eq (tgt := 1362) B dL_law_1357 (by decide) (fun _ => ?_) (fun h => absurd (by decide) h)
  refine z_iload B dL_law_1362 1 rfl ?_
  refine z_if_ne (tgt := 1379) B dL_law_1364 (by decide) (fun _ => ?_) (fun h => absurd h (by decide))
  refine z_goto (tgt := 1395) B dL_law_1379 (by decide) ?_
  exact z_widen (Nat.le_of_ble_eq_true rfl) (Nat.le_of_ble_eq_true rfl) (z_sub _ [2, 6] rfl (kk _))
set_option maxRecDepth 100000 in
set_option maxHeartbeats 4000000 in
theorem lf_21_410 {p : Program} {l : Launch} {e : Env} {s : State} {m : MethodId} {args : Array Value} {below : List Frame} {meth : Method} {c : Code} {g : gx_T} {Q : State → Prop} {σ : sx_T} {b t bS : Nat} {xs : Nat → Int32} (hlt : l.stackTraces = false) (B : zx_B p s m args meth c code RL 8 g) (hX : va_X bS 6 xs s s.heap) (hbl : bS < s.heap.size) (hbA : ¬ gx_b g ≤ bS) (hF : fz_P b t σ) {x1 : Int32} (h_x1 : xs 1 = x1) (q1_x1 : (0 : Int) ≤ x1.toInt) (q2_x1 : x1.toInt ≤ (2147483647 : Int)) {x2 : Int32} (h_x2 : xs 2 = x2) (q1_x2 : (-2147483648 : Int) ≤ x2.toInt) (q2_x2 : x2.toInt ≤ (-1 : Int)) (kk : ∀ σ', zx p l e room_1 s m args below meth c g 8 600002 7302232 Q σ' 1395 [(4, .int 0), (0, .ref bS)] []) : zx p l e room_1 s m args below meth c g 8 500 100000 Q σ 1314 [(4, .int 0), (3, .ref (b + 431)), (2, .ref (b + 405)), (1, .ref (b + 0)), (0, .ref bS)] [] := by
  have hK := fz_lay hF
  refine z_eqs (σ' := (ap b σ [] [] [])) rfl ?_
  refine z_aload_n B dL_law_1314 rfl 3 rfl ?_
  refine z_aload_n B dL_law_1315 rfl 4 rfl ?_
  refine z_iload B dL_law_1316 0 rfl ?_
  refine z_iconst (v := 1) B dL_law_1318 (by decide) ?_
  refine z_iadd B dL_law_1319 ?_
  refine z_seti (y := 1) (by decide) ?_
  refine z_sld (j := 1) (x := x1) B hX hbl hbA (by decide) (show ¬ ((1 : Int32) < 0 ∨ 6 ≤ (1 : Int32).toNatClampNeg) by decide) h_x1 dL_law_1320 ?_
  refine z_aload_n B dL_law_1321 rfl 4 rfl ?_
  refine z_iload B dL_law_1322 0 rfl ?_
  refine z_iconst (v := 2) B dL_law_1324 (by decide) ?_
  refine z_iadd B dL_law_1325 ?_
  refine z_seti (y := 2) (by decide) ?_
  refine z_sld (j := 2) (x := x2) B hX hbl hbA (by decide) (show ¬ ((2 : Int32) < 0 ∨ 6 ≤ (2 : Int32).toNatClampNeg) by decide) h_x2 dL_law_1326 ?_
  refine z_aload_n B dL_law_1327 rfl 1 rfl ?_
  refine z_cSWi (As := [.ref (b + 0), .int x1, .int x2, .ref (b + 431)]) (rest := []) B cw_L_153 dL_law_1328 (ci_L_task_1251 l hlt (σ := (ap b σ [] [] [])) (b := b) (lyA hK) x1 x2 q1_x1 q2_x1 (rI_at 4 2 (fz_I hF 4 2 rfl rfl)) (rR_at 0 3 (fz_R hF 0 3 rfl rfl))) rfl (by decide) rfl (Nat.le_of_ble_eq_true rfl) (by decide) (fun r u hu => ?_)
  obtain ⟨hu1, z, hu⟩ := hu
  refine z_eqs (σ' := (ap b (wx_Z σ z) [] [] [])) (hu.trans az_ap) ?_
  show zx p l e _ s m _ below meth c g 8 _ _ _ _ 1331 [(4, .int 0), (3, .ref (b + 431)), (2, .ref (b + 405)), (1, .ref (b + 0)), (0, .ref bS)] _
  refine z_seti (y := 1) hu1 ?_
  refine z_istore (lv' := [(5, .int 1), (4, .int 0), (3, .ref (b + 431)), (2, .ref (b + 405)), (1, .ref (b + 0)), (0, .ref bS)]) B dL_law_1331 (by decide) rfl ?_
  refine z_aload_n B dL_law_1333 rfl 3 rfl ?_
  refine z_aload_n B dL_law_1334 rfl 5 rfl ?_
  refine z_iload B dL_law_1335 1 rfl ?_
  refine z_iconst (v := 1) B dL_law_1337 (by decide) ?_
  refine z_iadd B dL_law_1338 ?_
  refine z_seti (y := 1) (by decide) ?_
  refine z_sld (j := 1) (x := x1) B hX hbl hbA (by decide) (show ¬ ((1 : Int32) < 0 ∨ 6 ≤ (1 : Int32).toNatClampNeg) by decide) h_x1 dL_law_1339 ?_
  refine z_aload_n B dL_law_1340 rfl 5 rfl ?_
  refine z_iload B dL_law_1341 1 rfl ?_
  refine z_iconst (v := 2) B dL_law_1343 (by decide) ?_
  refine z_iadd B dL_law_1344 ?_
  refine z_seti (y := 2) (by decide) ?_
  refine z_sld (j := 2) (x := x2) B hX hbl hbA (by decide) (show ¬ ((2 : Int32) < 0 ∨ 6 ≤ (2 : Int32).toNatClampNeg) by decide) h_x2 dL_law_1345 ?_
  refine z_cVi (As := [.int x1, .int x2]) (rest := []) B cw_L_155 cx_10 dL_law_1346 (ci_X9_task_1252 l (σ := (ap b (wx_Z σ z) [] [] [])) (b := b) (lyA (lyZ hK)) x1 x2 q1_x1 q2_x1 q1_x2 q2_x2 (rI_at 405 16 (lIZ (fz_I hF 405 16 rfl rfl)))) (lKA (lKZ (hk_K hK 405 rfl rfl))) rfl (by decide) rfl (Nat.le_of_ble_eq_true rfl) (by decide) (fun r u hu => ?_)
  refine z_eqs (σ' := (ap b (wx_Z σ z) [(405, 0, 1)] [] [])) (hu.2.trans ap_ap) ?_
  show zx p l e _ s m _ below meth c g 8 _ _ _ _ 1349 [(5, .int 1), (4, .int 0), (3, .ref (b + 431)), (2, .ref (b + 405)), (1, .ref (b + 0)), (0, .ref bS)] _
  refine z_seti (y := 0) hu.1 ?_
  refine z_istore (lv' := [(6, .int 0), (5, .int 1), (4, .int 0), (3, .ref (b + 431)), (2, .ref (b + 405)), (1, .ref (b + 0)), (0, .ref bS)]) B dL_law_1349 (by decide) rfl ?_
  refine z_aload_n B dL_law_1351 rfl 4 rfl ?_
  refine z_cVi (As := []) (rest := []) B cw_L_80 cx_10 dL_law_1352 (ci_X9_thrown_31 l (σ := (ap b (wx_Z σ z) [(405, 0, 1)] [] [])) (b := b) (lyA (lyZ hK)) (rI_at 405 0 rfl)) (lKA (lKZ (hk_K hK 405 rfl rfl))) rfl (by decide) rfl (Nat.le_of_ble_eq_true rfl) (by decide) (fun r u hu => ?_)
  refine z_eqs (σ' := (ap b (wx_Z σ z) [(405, 0, 1)] [] [])) hu.2 ?_
  show zx p l e _ s m _ below meth c g 8 _ _ _ _ 1355 [(6, .int 0), (5, .int 1), (4, .int 0), (3, .ref (b + 431)), (2, .ref (b + 405)), (1, .ref (b + 0)), (0, .ref bS)] _
  refine z_seti (y := 1) hu.1 ?_
  refine z_iload B dL_law_1355 1 rfl ?_
  refine z_icmp_eq (tgt := 1362) B dL_law_1357 (by decide) (fun _ => ?_) (fun h => absurd (by decide) h)
  refine z_iload B dL_law_1362 1 rfl ?_
  refine z_if_ne (tgt := 1379) B dL_law_1364 (by decide) (fun _ => ?_) (fun h => absurd h (by decide))
  refine z_goto (tgt := 1395) B dL_law_1379 (by decide) ?_
  exact z_widen (Nat.le_of_ble_eq_true rfl) (Nat.le_of_ble_eq_true rfl) (z_sub _ [2, 6] rfl (kk _))
set_option maxRecDepth 100000 in
set_option maxHeartbeats 4000000 in
theorem lf_21_411 {p : Program} {l : Launch} {e : Env} {s : State} {m : MethodId} {args : Array Value} {below : List Frame} {meth : Method} {c : Code} {g : gx_T} {Q : State → Prop} {σ : sx_T} {b t bS : Nat} {xs : Nat → Int32} (hlt : l.stackTraces = false) (B : zx_B p s m args meth c code RL 8 g) (hX : va_X bS 6 xs s s.heap) (hbl : bS < s.heap.size) (hbA : ¬ gx_b g ≤ bS) (hF : fz_P b t σ) {x1 : Int32} (h_x1 : xs 1 = x1) (q1_x1 : (0 : Int) ≤ x1.toInt) (q2_x1 : x1.toInt ≤ (2147483647 : Int)) {x2 : Int32} (h_x2 : xs 2 = x2) (q1_x2 : (0 : Int) ≤ x2.toInt) (q2_x2 : x2.toInt ≤ (5 : Int)) (kk : ∀ σ', zx p l e room_1 s m args below meth c g 8 600002 7302232 Q σ' 1395 [(4, .int 0), (0, .ref bS)] []) : zx p l e room_1 s m args below meth c g 8 500 100000 Q σ 1314 [(4, .int 0), (3, .ref (b + 431)), (2, .ref (b + 405)), (1, .ref (b + 0)), (0, .ref bS)] [] := by
  have hK := fz_lay hF
  refine z_eqs (σ' := (ap b σ [] [] [])) rfl ?_
  refine z_aload_n B dL_law_1314 rfl 3 rfl ?_
  refine z_aload_n B dL_law_1315 rfl 4 rfl ?_
  refine z_iload B dL_law_1316 0 rfl ?_
  refine z_iconst (v := 1) B dL_law_1318 (by decide) ?_
  refine z_iadd B dL_law_1319 ?_
  refine z_seti (y := 1) (by decide) ?_
  refine z_sld (j := 1) (x := x1) B hX hbl hbA (by decide) (show ¬ ((1 : Int32) < 0 ∨ 6 ≤ (1 : Int32).toNatClampNeg) by decide) h_x1 dL_law_1320 ?_
  refine z_aload_n B dL_law_1321 rfl 4 rfl ?_
  refine z_iload B dL_law_1322 0 rfl ?_
  refine z_iconst (v := 2) B dL_law_1324 (by decide) ?_
  refine z_iadd B dL_law_1325 ?_
  refine z_seti (y := 2) (by decide) ?_
  refine z_sld (j := 2) (x := x2) B hX hbl hbA (by decide) (show ¬ ((2 : Int32) < 0 ∨ 6 ≤ (2 : Int32).toNatClampNeg) by decide) h_x2 dL_law_1326 ?_
  refine z_aload_n B dL_law_1327 rfl 1 rfl ?_
  refine z_cSWi (As := [.ref (b + 0), .int x1, .int x2, .ref (b + 431)]) (rest := []) B cw_L_153 dL_law_1328 (ci_L_task_1251 l hlt (σ := (ap b σ [] [] [])) (b := b) (lyA hK) x1 x2 q1_x1 q2_x1 (rI_at 4 2 (fz_I hF 4 2 rfl rfl)) (rR_at 0 3 (fz_R hF 0 3 rfl rfl))) rfl (by decide) rfl (Nat.le_of_ble_eq_true rfl) (by decide) (fun r u hu => ?_)
  obtain ⟨hu1, z, hu⟩ := hu
  refine z_eqs (σ' := (ap b (wx_Z σ z) [] [] [])) (hu.trans az_ap) ?_
  show zx p l e _ s m _ below meth c g 8 _ _ _ _ 1331 [(4, .int 0), (3, .ref (b + 431)), (2, .ref (b + 405)), (1, .ref (b + 0)), (0, .ref bS)] _
  refine z_seti (y := 1) hu1 ?_
  refine z_istore (lv' := [(5, .int 1), (4, .int 0), (3, .ref (b + 431)), (2, .ref (b + 405)), (1, .ref (b + 0)), (0, .ref bS)]) B dL_law_1331 (by decide) rfl ?_
  refine z_aload_n B dL_law_1333 rfl 3 rfl ?_
  refine z_aload_n B dL_law_1334 rfl 5 rfl ?_
  refine z_iload B dL_law_1335 1 rfl ?_
  refine z_iconst (v := 1) B dL_law_1337 (by decide) ?_
  refine z_iadd B dL_law_1338 ?_
  refine z_seti (y := 1) (by decide) ?_
  refine z_sld (j := 1) (x := x1) B hX hbl hbA (by decide) (show ¬ ((1 : Int32) < 0 ∨ 6 ≤ (1 : Int32).toNatClampNeg) by decide) h_x1 dL_law_1339 ?_
  refine z_aload_n B dL_law_1340 rfl 5 rfl ?_
  refine z_iload B dL_law_1341 1 rfl ?_
  refine z_iconst (v := 2) B dL_law_1343 (by decide) ?_
  refine z_iadd B dL_law_1344 ?_
  refine z_seti (y := 2) (by decide) ?_
  refine z_sld (j := 2) (x := x2) B hX hbl hbA (by decide) (show ¬ ((2 : Int32) < 0 ∨ 6 ≤ (2 : Int32).toNatClampNeg) by decide) h_x2 dL_law_1345 ?_
  refine z_cVi (As := [.int x1, .int x2]) (rest := []) B cw_L_155 cx_10 dL_law_1346 (ci_X9_task_1253 l (σ := (ap b (wx_Z σ z) [] [] [])) (b := b) (lyA (lyZ hK)) x1 x2 q1_x1 q2_x1 q1_x2 q2_x2 (rI_at 405 16 (lIZ (fz_I hF 405 16 rfl rfl)))) (lKA (lKZ (hk_K hK 405 rfl rfl))) rfl (by decide) rfl (Nat.le_of_ble_eq_true rfl) (by decide) (fun r u hu => ?_)
  refine z_eqs (σ' := (ap b (wx_Z σ z) [(405, 0, 1)] [] [])) (hu.2.trans ap_ap) ?_
  show zx p l e _ s m _ below meth c g 8 _ _ _ _ 1349 [(5, .int 1), (4, .int 0), (3, .ref (b + 431)), (2, .ref (b + 405)), (1, .ref (b + 0)), (0, .ref bS)] _
  refine z_seti (y := 0) hu.1 ?_
  refine z_istore (lv' := [(6, .int 0), (5, .int 1), (4, .int 0), (3, .ref (b + 431)), (2, .ref (b + 405)), (1, .ref (b + 0)), (0, .ref bS)]) B dL_law_1349 (by decide) rfl ?_
  refine z_aload_n B dL_law_1351 rfl 4 rfl ?_
  refine z_cVi (As := []) (rest := []) B cw_L_80 cx_10 dL_law_1352 (ci_X9_thrown_31 l (σ := (ap b (wx_Z σ z) [(405, 0, 1)] [] [])) (b := b) (lyA (lyZ hK)) (rI_at 405 0 rfl)) (lKA (lKZ (hk_K hK 405 rfl rfl))) rfl (by decide) rfl (Nat.le_of_ble_eq_true rfl) (by decide) (fun r u hu => ?_)
  refine z_eqs (σ' := (ap b (wx_Z σ z) [(405, 0, 1)] [] [])) hu.2 ?_
  show zx p l e _ s m _ below meth c g 8 _ _ _ _ 1355 [(6, .int 0), (5, .int 1), (4, .int 0), (3, .ref (b + 431)), (2, .ref (b + 405)), (1, .ref (b + 0)), (0, .ref bS)] _
  refine z_seti (y := 1) hu.1 ?_
  refine z_iload B dL_law_1355 1 rfl ?_
  refine z_icmp_eq (tgt := 1362) B dL_law_1357 (by decide) (fun _ => ?_) (fun h => absurd (by decide) h)
  refine z_iload B dL_law_1362 1 rfl ?_
  refine z_if_ne (tgt := 1379) B dL_law_1364 (by decide) (fun _ => ?_) (fun h => absurd h (by decide))
  refine z_goto (tgt := 1395) B dL_law_1379 (by decide) ?_
  exact z_widen (Nat.le_of_ble_eq_true rfl) (Nat.le_of_ble_eq_true rfl) (z_sub _ [2, 6] rfl (kk _))
set_option maxRecDepth 100000 in
set_option maxHeartbeats 4000000 in
theorem lf_21_412 {p : Program} {l : Launch} {e : Env} {s : State} {m : MethodId} {args : Array Value} {below : List Frame} {meth : Method} {c : Code} {g : gx_T} {Q : State → Prop} {σ : sx_T} {b t bS : Nat} {xs : Nat → Int32} (hlt : l.stackTraces = false) (B : zx_B p s m args meth c code RL 8 g) (hX : va_X bS 6 xs s s.heap) (hbl : bS < s.heap.size) (hbA : ¬ gx_b g ≤ bS) (hF : fz_P b t σ) {x1 : Int32} (h_x1 : xs 1 = x1) (q1_x1 : (0 : Int) ≤ x1.toInt) (q2_x1 : x1.toInt ≤ (2147483647 : Int)) {x2 : Int32} (h_x2 : xs 2 = x2) (q1_x2 : (6 : Int) ≤ x2.toInt) (q2_x2 : x2.toInt ≤ (2147483647 : Int)) (kk : ∀ σ', zx p l e room_1 s m args below meth c g 8 600002 7302232 Q σ' 1395 [(4, .int 0), (0, .ref bS)] []) : zx p l e room_1 s m args below meth c g 8 500 100000 Q σ 1314 [(4, .int 0), (3, .ref (b + 431)), (2, .ref (b + 405)), (1, .ref (b + 0)), (0, .ref bS)] [] := by
  have hK := fz_lay hF
  refine z_eqs (σ' := (ap b σ [] [] [])) rfl ?_
  refine z_aload_n B dL_law_1314 rfl 3 rfl ?_
  refine z_aload_n B dL_law_1315 rfl 4 rfl ?_
  refine z_iload B dL_law_1316 0 rfl ?_
  refine z_iconst (v := 1) B dL_law_1318 (by decide) ?_
  refine z_iadd B dL_law_1319 ?_
  refine z_seti (y := 1) (by decide) ?_
  refine z_sld (j := 1) (x := x1) B hX hbl hbA (by decide) (show ¬ ((1 : Int32) < 0 ∨ 6 ≤ (1 : Int32).toNatClampNeg) by decide) h_x1 dL_law_1320 ?_
  refine z_aload_n B dL_law_1321 rfl 4 rfl ?_
  refine z_iload B dL_law_1322 0 rfl ?_
  refine z_iconst (v := 2) B dL_law_1324 (by decide) ?_
  refine z_iadd B dL_law_1325 ?_
  refine z_seti (y := 2) (by decide) ?_
  refine z_sld (j := 2) (x := x2) B hX hbl hbA (by decide) (show ¬ ((2 : Int32) < 0 ∨ 6 ≤ (2 : Int32).toNatClampNeg) by decide) h_x2 dL_law_1326 ?_
  refine z_aload_n B dL_law_1327 rfl 1 rfl ?_
  refine z_cSWi (As := [.ref (b + 0), .int x1, .int x2, .ref (b + 431)]) (rest := []) B cw_L_153 dL_law_1328 (ci_L_task_1251 l hlt (σ := (ap b σ [] [] [])) (b := b) (lyA hK) x1 x2 q1_x1 q2_x1 (rI_at 4 2 (fz_I hF 4 2 rfl rfl)) (rR_at 0 3 (fz_R hF 0 3 rfl rfl))) rfl (by decide) rfl (Nat.le_of_ble_eq_true rfl) (by decide) (fun r u hu => ?_)
  obtain ⟨hu1, z, hu⟩ := hu
  refine z_eqs (σ' := (ap b (wx_Z σ z) [] [] [])) (hu.trans az_ap) ?_
  show zx p l e _ s m _ below meth c g 8 _ _ _ _ 1331 [(4, .int 0), (3, .ref (b + 431)), (2, .ref (b + 405)), (1, .ref (b + 0)), (0, .ref bS)] _
  refine z_seti (y := 1) hu1 ?_
  refine z_istore (lv' := [(5, .int 1), (4, .int 0), (3, .ref (b + 431)), (2, .ref (b + 405)), (1, .ref (b + 0)), (0, .ref bS)]) B dL_law_1331 (by decide) rfl ?_
  refine z_aload_n B dL_law_1333 rfl 3 rfl ?_
  refine z_aload_n B dL_law_1334 rfl 5 rfl ?_
  refine z_iload B dL_law_1335 1 rfl ?_
  refine z_iconst (v := 1) B dL_law_1337 (by decide) ?_
  refine z_iadd B dL_law_1338 ?_
  refine z_seti (y := 1) (by decide) ?_
  refine z_sld (j := 1) (x := x1) B hX hbl hbA (by decide) (show ¬ ((1 : Int32) < 0 ∨ 6 ≤ (1 : Int32).toNatClampNeg) by decide) h_x1 dL_law_1339 ?_
  refine z_aload_n B dL_law_1340 rfl 5 rfl ?_
  refine z_iload B dL_law_1341 1 rfl ?_
  refine z_iconst (v := 2) B dL_law_1343 (by decide) ?_
  refine z_iadd B dL_law_1344 ?_
  refine z_seti (y := 2) (by decide) ?_
  refine z_sld (j := 2) (x := x2) B hX hbl hbA (by decide) (show ¬ ((2 : Int32) < 0 ∨ 6 ≤ (2 : Int32).toNatClampNeg) by decide) h_x2 dL_law_1345 ?_
  refine z_cVi (As := [.int x1, .int x2]) (rest := []) B cw_L_155 cx_10 dL_law_1346 (ci_X9_task_1254 l (σ := (ap b (wx_Z σ z) [] [] [])) (b := b) (lyA (lyZ hK)) x1 x2 q1_x1 q2_x1 q1_x2 q2_x2 (rI_at 405 16 (lIZ (fz_I hF 405 16 rfl rfl)))) (lKA (lKZ (hk_K hK 405 rfl rfl))) rfl (by decide) rfl (Nat.le_of_ble_eq_true rfl) (by decide) (fun r u hu => ?_)
  refine z_eqs (σ' := (ap b (wx_Z σ z) [(405, 0, 1)] [] [])) (hu.2.trans ap_ap) ?_
  show zx p l e _ s m _ below meth c g 8 _ _ _ _ 1349 [(5, .int 1), (4, .int 0), (3, .ref (b + 431)), (2, .ref (b + 405)), (1, .ref (b + 0)), (0, .ref bS)] _
  refine z_seti (y := 0) hu.1 ?_
  refine z_istore (lv' := [(6, .int 0), (5, .int 1), (4, .int 0), (3, .ref (b + 431)), (2, .ref (b + 405)), (1, .ref (b + 0)), (0, .ref bS)]) B dL_law_1349 (by decide) rfl ?_
  refine z_aload_n B dL_law_1351 rfl 4 rfl ?_
  refine z_cVi (As := []) (rest := []) B cw_L_80 cx_10 dL_law_1352 (ci_X9_thrown_31 l (σ := (ap b (wx_Z σ z) [(405, 0, 1)] [] [])) (b := b) (lyA (lyZ hK)) (rI_at 405 0 rfl)) (lKA (lKZ (hk_K hK 405 rfl rfl))) rfl (by decide) rfl (Nat.le_of_ble_eq_true rfl) (by decide) (fun r u hu => ?_)
  refine z_eqs (σ' := (ap b (wx_Z σ z) [(405, 0, 1)] [] [])) hu.2 ?_
  show zx p l e _ s m _ below meth c g 8 _ _ _ _ 1355 [(6, .int 0), (5, .int 1), (4, .int 0), (3, .ref (b + 431)), (2, .ref (b + 405)), (1, .ref (b + 0)), (0, .ref bS)] _
  refine z_seti (y := 1) hu.1 ?_
  refine z_iload B dL_law_1355 1 rfl ?_
  refine z_icmp_eq (tgt := 1362) B dL_law_1357 (by decide) (fun _ => ?_) (fun h => absurd (by decide) h)
  refine z_iload B dL_law_1362 1 rfl ?_
  refine z_if_ne (tgt := 1379) B dL_law_1364 (by decide) (fun _ => ?_) (fun h => absurd h (by decide))
  refine z_goto (tgt := 1395) B dL_law_1379 (by decide) ?_
  exact z_widen (Nat.le_of_ble_eq_true rfl) (Nat.le_of_ble_eq_true rfl) (z_sub _ [2, 6] rfl (kk _))
set_option maxRecDepth 100000 in
set_option maxHeartbeats 4000000 in
theorem lf_22_413 {p : Program} {l : Launch} {e : Env} {s : State} {m : MethodId} {args : Array Value} {below : List Frame} {meth : Method} {c : Code} {g : gx_T} {Q : State → Prop} {σ : sx_T} {b t bS : Nat} {xs : Nat → Int32} (hlt : l.stackTraces = false) (B : zx_B p s m args meth c code RL 8 g) (hX : va_X bS 6 xs s s.heap) (hbl : bS < s.heap.size) (hbA : ¬ gx_b g ≤ bS) (hF : fz_P b t σ)  (kk : ∀ σ', zx p l e room_1 s m args below meth c g 8 600002 7302232 Q σ' 1395 [(4, .int 0), (0, .ref bS)] []) : zx p l e room_1 s m args below meth c g 8 500 100000 Q σ 1382 [(4, .int 0), (3, .ref (b + 431)), (2, .ref (b + 405)), (1, .ref (b + 0)), (0, .ref bS)] [] := by
  have hK := fz_lay hF
  refine z_eqs (σ' := (ap b σ [] [] [])) rfl ?_
  refine z_aload_n B dL_law_1382 rfl 3 rfl ?_
  refine z_cVi (As := []) (rest := []) B cw_L_156 cx_9 dL_law_1383 (ci_X8_now_1255 l (σ := (ap b σ [] [] [])) (b := b) (lyA hK) (rI_at 0 8 (fz_I hF 0 8 rfl rfl))) (lKA (hk_K hK 0 rfl rfl)) rfl (by decide) rfl (Nat.le_of_ble_eq_true rfl) (by decide) (fun r u hu => ?_)
  refine z_eqs (σ' := (ap b σ [] [] [])) hu.2 ?_
  show zx p l e _ s m _ below meth c g 8 _ _ _ _ 1386 [(4, .int 0), (3, .ref (b + 431)), (2, .ref (b + 405)), (1, .ref (b + 0)), (0, .ref bS)] _
  refine z_seti (y := 0) hu.1 ?_
  refine z_aload_n B dL_law_1386 rfl 2 rfl ?_
  refine z_cVi (As := []) (rest := [.int 0]) B cw_L_159 cx_10 dL_law_1387 (ci_X9_now_1256 l (σ := (ap b σ [] [] [])) (b := b) (lyA hK) (rI_at 405 1 (fz_I hF 405 1 rfl rfl))) (lKA (hk_K hK 405 rfl rfl)) rfl (by decide) rfl (Nat.le_of_ble_eq_true rfl) (by decide) (fun r u hu => ?_)
  refine z_eqs (σ' := (ap b σ [(405, 0, 0)] [] [])) (hu.2.trans ap_ap) ?_
  show zx p l e _ s m _ below meth c g 8 _ _ _ _ 1390 [(4, .int 0), (3, .ref (b + 431)), (2, .ref (b + 405)), (1, .ref (b + 0)), (0, .ref bS)] _
  refine z_seti (y := 0) hu.1 ?_
  refine z_icmp_eq (tgt := 1395) B dL_law_1390 (by decide) (fun _ => ?_) (fun h => absurd (by decide) h)
  exact z_widen (Nat.le_of_ble_eq_true rfl) (Nat.le_of_ble_eq_true rfl) (z_sub _ [0, 4] rfl (kk _))
