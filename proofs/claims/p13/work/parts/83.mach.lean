set_option maxRecDepth 100000 in
set_option maxHeartbeats 4000000 in
theorem xl_loop {p : Program} {l : Launch} {e : Env} {s : State} {m : MethodId} {args : Array Value} {below : List Frame} {meth : Method} {c : Code} {g : gx_T} {Q : State → Prop} {b t : Nat} (B : zx_B p s m args meth c cX8_init RX8 4 g) (kk : ∀ σ, xl_P b t 40 σ → zx p l e { frames := 4, cells := 404, slots := 18242, locals := 72 } s m args below meth c g 4 396 17805 Q σ 158 [(1, .ref (b + 33)), (0, .ref b)] []) : ∀ (n i : Nat), i + n = 40 → ∀ σ, xl_P b t i σ → zx p l e { frames := 4, cells := 404, slots := 18242, locals := 72 } s m args below meth c g 4 (36 + 9 * i) (765 + 426 * i) Q σ 110 [(2, .int (nI i)), (1, .ref (b + 33)), (0, .ref b)] [] := by
  intro n
  induction n with
  | zero =>
    intro i hi σ hP
    obtain rfl : i = 40 := by omega
    have hP0 := hP
    obtain ⟨hz, h1, h2, h3⟩ := hP
    have hc0 := h1 0 (by decide) (by decide)
    refine z_iload_n B dX8_init_110 rfl 0 rfl ?_
    refine z_aload_n B dX8_init_111 rfl 2 rfl ?_
    refine gf_X8_21 (x := some (b + 3)) B hc0.1 (hc0.2.2.2.2 2) dX8_init_112 ?_
    refine z_alen (kd := 15) (ti := 3) (v := 40) B h2.1 (by decide) rfl (congrArg Int32.ofNat h2.2.1) dX8_init_115 ?_
    refine z_icmp_ge (tgt := 158) B dX8_init_116 (by decide) (fun _ => ?_) (fun h => absurd (by decide) h)
    exact z_sub _ [1, 2] rfl (kk σ hP0)
  | succ n ih =>
    intro i hi σ hP
    have hi40 : i < 40 := by omega
    have hP0 := hP
    obtain ⟨hz', h1, h2, h3⟩ := hP
    have hc0 := h1 0 (by decide) (by decide)
    refine z_iload_n B dX8_init_110 rfl 0 rfl ?_
    refine z_aload_n B dX8_init_111 rfl 2 rfl ?_
    refine gf_X8_21 (x := some (b + 3)) B hc0.1 (hc0.2.2.2.2 2) dX8_init_112 ?_
    refine z_alen (kd := 15) (ti := 3) (v := 40) B h2.1 (by decide) rfl (congrArg Int32.ofNat h2.2.1) dX8_init_115 ?_
    refine z_icmp_ge (tgt := 158) B dX8_init_116 (by decide) (fun h => absurd h (show ¬ nI 40 ≤ nI i from nI_ge hi40 (by decide))) (fun _ => ?_)
    obtain ⟨z, hzz⟩ : ∃ z, z = b + (37 + 9 * i) := ⟨_, rfl⟩
    obtain ⟨xb, hxb⟩ : ∃ xb, xb = b := ⟨_, rfl⟩
    obtain ⟨pa, hpa⟩ : ∃ pa, pa = b + 33 := ⟨_, rfl⟩
    obtain ⟨fa, hfa⟩ : ∃ fa, fa = b + 3 := ⟨_, rfl⟩
    have hz : sx_Z σ = z + 0 := by rw [hzz]; exact hz'
    have h_xb : xb < z := by omega
    have h_fa : fa < z := by omega
    have k_xb : sx_K σ xb = 10 := by rw [hxb]; exact hc0.1
    have hR_xb_2 : sx_R σ xb 2 = some fa := by rw [hxb, hfa]; exact hc0.2.2.2.2 2
    have k_fa : sx_K σ fa = 15 := by rw [hfa]; exact h2.1
    have n_fa : sx_N σ fa = 40 := by rw [hfa]; exact h2.2.1
    rw [← hpa, show (Value.ref b) = .ref xb by rw [hxb]]
    refine z_eqs (σ' := (ap z (al σ []) [] [] [])) rfl ?_
    refine z_newo (a := (z + 0)) (σ' := (ap z (al σ [(3, 0)]) [] [] [])) B cx_2 df_2 wg_101 (by show _ ≤ 404; omega) (by show _ ≤ 18242; omega) dX8_init_119 (ap_Z hz rfl) (nw_al hz rfl rfl rfl rfl) ?_
    refine z_dup B dX8_init_122 rfl ?_
    refine z_cD (As := []) (rest := [.ref (z + 0)]) B cw_X8_51 dX8_init_123 (ct_X1_init_12 l (σ := (ap z (al σ [(3, 0)]) [] [] [])) (b := z) (ap_Z hz rfl) (apK (alK (j := 0) (kd := 3) (n := 0) (ks := [(3, 0)]) hz 0 rfl rfl).1)) rfl (by decide) rfl (Nat.le_of_ble_eq_true rfl) ⟨(by show _ ≤ 404; omega), (by show _ ≤ 18242; omega)⟩ (fun u hu => ?_)
    refine z_eqs (σ' := (ap z (al σ [(3, 0), (12, 140), (14, 140)]) [] [] [(0, 1, (some (z + 2))), (0, 0, (some (z + 1)))])) (hu.trans (ct_ct hz rfl rfl rfl rfl)) ?_
    show zx p l e _ s m _ below meth c g 4 _ _ _ _ 126 [(2, .int (nI i)), (1, .ref pa), (0, .ref xb)] _
    refine z_astore_n (lv' := [(3, .ref (z + 0)), (2, .int (nI i)), (1, .ref pa), (0, .ref xb)]) B dX8_init_126 rfl (by decide) rfl ?_
    refine z_aload_n B dX8_init_127 rfl 3 rfl ?_
    refine gf_X8_21 (x := (some fa)) B ((xx_old hz h_xb).1.trans k_xb) (rR_old hz h_xb hR_xb_2) dX8_init_128 ?_
    refine z_iload_n B dX8_init_131 rfl 1 rfl ?_
    refine z_newo (a := (z + 3)) (σ' := (ap z (al σ [(3, 0), (12, 140), (14, 140), (2, 0)]) [] [] [(0, 1, (some (z + 2))), (0, 0, (some (z + 1)))])) B cx_1 df_1 wg_36 (by show _ ≤ 404; omega) (by show _ ≤ 18242; omega) dX8_init_132 (ap_Z hz rfl) (nw_al hz rfl rfl rfl rfl) ?_
    refine z_dup B dX8_init_135 rfl ?_
    refine z_iload_n B dX8_init_136 rfl 1 rfl ?_
    refine z_aload_n B dX8_init_137 rfl 2 rfl ?_
    refine z_aload_n B dX8_init_138 rfl 0 rfl ?_
    refine z_newo (a := (z + 4)) (σ' := (ap z (al σ [(3, 0), (12, 140), (14, 140), (2, 0), (7, 0)]) [] [] [(0, 1, (some (z + 2))), (0, 0, (some (z + 1)))])) B cx_6 df_6 wg_120 (by show _ ≤ 404; omega) (by show _ ≤ 18242; omega) dX8_init_139 (ap_Z hz rfl) (nw_al hz rfl rfl rfl rfl) ?_
    refine z_dup B dX8_init_142 rfl ?_
    refine z_aload_n B dX8_init_143 rfl 2 rfl ?_
    refine z_aload_n B dX8_init_144 rfl 0 rfl ?_
    refine z_cI (As := [.ref pa, .ref (z + 0)]) (rest := [.ref (z + 4), .ref (z + 0), .ref pa, .int (nI i), .ref (z + 3), .ref (z + 3), .int (nI i), .ref fa]) B cw_X8_54 dX8_init_145 (ct_X5_init_15 l (σ := (ap z (al σ [(3, 0), (12, 140), (14, 140), (2, 0), (7, 0)]) [] [] [(0, 1, (some (z + 2))), (0, 0, (some (z + 1)))])) (b := z) (ap_Z hz rfl) (apK (alK (j := 4) (kd := 7) (n := 0) (ks := [(3, 0), (12, 140), (14, 140), (2, 0), (7, 0)]) hz 4 rfl rfl).1)) rfl (by decide) rfl (Nat.le_of_ble_eq_true rfl) ⟨(by show _ ≤ 404; omega), (by show _ ≤ 18242; omega)⟩ (fun u hu => ?_)
    refine z_eqs (σ' := (ap z (al σ [(3, 0), (12, 140), (14, 140), (2, 0), (7, 0), (5, 0), (13, 20), (8, 0), (13, 90)]) [] [] [(4, 3, (some (z + 0))), (4, 2, (some pa)), (4, 1, (some (z + 7))), (7, 0, (some (z + 8))), (4, 0, (some (z + 5))), (5, 0, (some (z + 6))), (0, 1, (some (z + 2))), (0, 0, (some (z + 1)))])) (hu.trans (ct_ct hz rfl rfl rfl rfl)) ?_
    show zx p l e _ s m _ below meth c g 4 _ _ _ _ 148 [(3, .ref (z + 0)), (2, .int (nI i)), (1, .ref pa), (0, .ref xb)] _
    refine z_cI (As := [.int (nI i), .ref pa, .ref (z + 0), .ref (z + 4)]) (rest := [.ref (z + 3), .int (nI i), .ref fa]) B cw_X8_57 dX8_init_148 (ct_X0_init_16 l (σ := (ap z (al σ [(3, 0), (12, 140), (14, 140), (2, 0), (7, 0), (5, 0), (13, 20), (8, 0), (13, 90)]) [] [] [(4, 3, (some (z + 0))), (4, 2, (some pa)), (4, 1, (some (z + 7))), (7, 0, (some (z + 8))), (4, 0, (some (z + 5))), (5, 0, (some (z + 6))), (0, 1, (some (z + 2))), (0, 0, (some (z + 1)))])) (b := z) (ap_Z hz rfl) (nI i) (apK (alK (j := 3) (kd := 2) (n := 0) (ks := [(3, 0), (12, 140), (14, 140), (2, 0), (7, 0), (5, 0), (13, 20), (8, 0), (13, 90)]) hz 3 rfl rfl).1)) rfl (by decide) rfl (Nat.le_of_ble_eq_true rfl) ⟨(by show _ ≤ 404; omega), (by show _ ≤ 18242; omega)⟩ (fun u hu => ?_)
    refine z_eqs (σ' := (ap z (al σ [(3, 0), (12, 140), (14, 140), (2, 0), (7, 0), (5, 0), (13, 20), (8, 0), (13, 90)]) [(3, 0, nI i), (3, 6, (-1)), (3, 5, (-1)), (3, 4, (-1))] [] [(3, 2, (some (z + 4))), (3, 1, (some (z + 0))), (3, 3, (some pa)), (4, 3, (some (z + 0))), (4, 2, (some pa)), (4, 1, (some (z + 7))), (7, 0, (some (z + 8))), (4, 0, (some (z + 5))), (5, 0, (some (z + 6))), (0, 1, (some (z + 2))), (0, 0, (some (z + 1)))])) (hu.trans (ct_ct hz rfl rfl rfl rfl)) ?_
    show zx p l e _ s m _ below meth c g 4 _ _ _ _ 151 [(3, .ref (z + 0)), (2, .int (nI i)), (1, .ref pa), (0, .ref xb)] _
    refine z_qast (j := i) (kd := 15) (ti := 3) (σ' := (wx_R (ap z (al σ [(3, 0), (12, 140), (14, 140), (2, 0), (7, 0), (5, 0), (13, 20), (8, 0), (13, 90)]) [(3, 0, nI i), (3, 6, (-1)), (3, 5, (-1)), (3, 4, (-1))] [] [(3, 2, (some (z + 4))), (3, 1, (some (z + 0))), (3, 3, (some pa)), (4, 3, (some (z + 0))), (4, 2, (some pa)), (4, 1, (some (z + 7))), (7, 0, (some (z + 8))), (4, 0, (some (z + 5))), (5, 0, (some (z + 6))), (0, 1, (some (z + 2))), (0, 0, (some (z + 1)))]) fa i (some (z + 3)))) B cx_1 (apK (alK (j := 3) (kd := 2) (n := 0) (ks := [(3, 0), (12, 140), (14, 140), (2, 0), (7, 0), (5, 0), (13, 20), (8, 0), (13, 90)]) hz 3 rfl rfl).1) ((xx_old hz h_fa).1.trans k_fa) (by decide) rfl (nI_clamp (by omega)) (in_of ((xx_old hz h_fa).2.1.trans n_fa) (vp_in_nI hi40 (by decide))) rfl dX8_init_151 ?_
    refine z_iinc (v := nI (i + 1)) (lv' := [(2, .int (nI (i + 1))), (3, .ref (z + 0)), (1, .ref pa), (0, .ref xb)]) B dX8_init_152 1 rfl (nI_1 i) (by decide) rfl ?_
    refine z_goto (tgt := 110) B dX8_init_155 (by decide) ?_
    refine z_widen (k := 36 + 9 * (i + 1)) (n := 765 + 426 * (i + 1)) (by show _ ≤ _; omega) (by show _ ≤ _; omega) ?_
    refine z_sub _ [0, 2, 3] rfl ?_
    have hst := xl_step hP0 hz'
    rw [fl_R_eq b t (37 + 9 * i) z pa hzz hpa, ← hzz, ← hfa] at hst
    have := ih (i + 1) (by omega) _ hst
    rw [← hpa, show (Value.ref b) = .ref xb by rw [hxb]] at this
    exact this
