set_option maxRecDepth 100000 in
set_option maxHeartbeats 4000000 in
theorem tb_X9_steps_1085 {l : Launch} {g : gx_T} {σ : sx_T} {u : sx_T} {r : Int32} {As : Array Value} {n0 : Nat} {t : Nat} {x8 : Int32} {x10 : Int32} (h : fb_X9_steps_1085 n0 σ t x8 x10 = some (r, u)) (hT : TS g σ) (hk_t : sx_K σ t = 11) (hz_x10 : x10 = 0 ∨ x10 = 1) : ZY l g cX9_steps RX9 "steps" (some .boolean) 12 3 78 0 0 false As (QM g As (Qxi g r u)) (r = 0 ∨ r = 1) u σ 1085 [(0, .ref t), (8, .int x8), (10, .int x10)] [] := by
  unfold fb_X9_steps_1085 at h
  refine ym 1087 (fun B k => z_iload B dX9_steps_1085 2 rfl k) ?_
  by_cases c1 : x10 = 0
  · replace h := ite_p c1 h
    refine ym 1090 (fun B k => z_if_ne (tgt := 1113) B dX9_steps_1087 (by decide) (fun q => absurd c1 q) (fun _ => k)) ?_
    refine ym 1091 (fun B k => z_aload_n B dX9_steps_1090 rfl 0 rfl k) ?_
    refine ym 1094 (fun B k => gf_X9_103 (x := (sx_I σ t 26)) B hk_t rfl dX9_steps_1091 k) ?_
    by_cases c2 : (sx_I σ t 26) = 0
    · replace h := ite_p c2 h
      refine ym 1113 (fun B k => z_if_eq (tgt := 1113) B dX9_steps_1094 (by decide) (fun _ => k) (fun q => absurd c2 q)) ?_
      refine ym 1115 (fun B k => z_iload B dX9_steps_1113 2 rfl k) ?_
      obtain ⟨rfl, rfl⟩ := Prod.mk.inj (Option.some.inj h)
      exact yr_z hT hz_x10 rfl hz_x10 dX9_steps_1115
    · replace h := ite_n c2 h
      refine ym 1097 (fun B k => z_if_eq (tgt := 1113) B dX9_steps_1094 (by decide) (fun q => absurd q c2) (fun _ => k)) ?_
      refine ym 1098 (fun B k => z_aload_n B dX9_steps_1097 rfl 0 rfl k) ?_
      refine ym 1100 (fun B k => z_iload B dX9_steps_1098 1 rfl k) ?_
      have j3 := hk_t
      refine ymw (σ' := (wx_I σ t 28 x8)) 1103 e_I (fun B hin k => pf_X9_110 (x := x8) B hk_t rfl dX9_steps_1100 k) ?_
      have hT := TS_I (k := 28) (x := x8) hT hk_t (Or.inl rfl)
      have hk_t := kk_I (σ := σ) (a := t) (k := 28) (x := x8) hk_t
      refine ym 1104 (fun B k => z_aload_n B dX9_steps_1103 rfl 0 rfl k) ?_
      refine ym 1105 (fun B k => z_dup B dX9_steps_1104 rfl k) ?_
      refine ym 1108 (fun B k => gf_X9_137 (x := (sx_I σ t 38)) B hk_t (rI_n (by decide) rfl) dX9_steps_1105 k) ?_
      refine ym 1109 (fun B k => z_iconst (v := 1) B dX9_steps_1108 (by decide) k) ?_
      refine ym 1110 (fun B k => z_isub B dX9_steps_1109 k) ?_
      have j4 := hk_t
      refine ymw (σ' := (wx_I (wx_I σ t 28 x8) t 38 ((sx_I σ t 38) - 1))) 1113 e_I (fun B hin k => pf_X9_137 (x := ((sx_I σ t 38) - 1)) B hk_t rfl dX9_steps_1110 k) ?_
      have hT := TS_I (k := 38) (x := ((sx_I σ t 38) - 1)) hT hk_t (Or.inl rfl)
      have hk_t := kk_I (σ := (wx_I σ t 28 x8)) (a := t) (k := 38) (x := ((sx_I σ t 38) - 1)) hk_t
      refine ym 1115 (fun B k => z_iload B dX9_steps_1113 2 rfl k) ?_
      obtain ⟨rfl, rfl⟩ := Prod.mk.inj (Option.some.inj h)
      exact yr_z hT hz_x10 rfl hz_x10 dX9_steps_1115
  · replace h := ite_n c1 h
    refine ym 1113 (fun B k => z_if_ne (tgt := 1113) B dX9_steps_1087 (by decide) (fun _ => k) (fun q => absurd q c1)) ?_
    refine ym 1115 (fun B k => z_iload B dX9_steps_1113 2 rfl k) ?_
    obtain ⟨rfl, rfl⟩ := Prod.mk.inj (Option.some.inj h)
    exact yr_z hT hz_x10 rfl hz_x10 dX9_steps_1115
set_option maxRecDepth 100000 in
set_option maxHeartbeats 4000000 in
theorem tb_X9_steps_1082 {l : Launch} {g : gx_T} {σ : sx_T} {u : sx_T} {r : Int32} {As : Array Value} {n0 : Nat} {t : Nat} {x8 : Int32} {x10 : Int32} {y0 : Int32} (h : fb_X9_steps_1082 n0 σ t x8 x10 y0 = some (r, u)) (hT : TS g σ) (hk_t : sx_K σ t = 11) (hz_x10 : x10 = 0 ∨ x10 = 1) : ZY l g cX9_steps RX9 "steps" (some .boolean) 12 3 78 0 0 false As (QM g As (Qxi g r u)) (r = 0 ∨ r = 1) u σ 1082 [(0, .ref t), (8, .int x8), (10, .int x10)] [.int y0, .ref t] := by
  unfold fb_X9_steps_1082 at h
  have j1 := hk_t
  refine ymw (σ' := (wx_I σ t 36 y0)) 1085 e_I (fun B hin k => pf_X9_131 (x := y0) B hk_t rfl dX9_steps_1082 k) ?_
  have hT := TS_I (k := 36) (x := y0) hT hk_t (Or.inl rfl)
  have hk_t := kk_I (σ := σ) (a := t) (k := 36) (x := y0) hk_t
  refine y_sub [(0, .ref t), (8, .int x8), (10, .int x10)] [0, 1, 2] rfl ?_
  exact tb_X9_steps_1085 h hT hk_t hz_x10
set_option maxRecDepth 100000 in
set_option maxHeartbeats 4000000 in
theorem tb_X9_steps_1049 {l : Launch} {g : gx_T} {σ : sx_T} {u : sx_T} {r : Int32} {As : Array Value} {n0 : Nat} {t : Nat} {x1 : Int32} {x8 : Int32} {y0 : Int32} {y1 : Int32} {y2 : Int32} {y3 : Int32} {y4 : Int32} {y5 : Int32} {y6 : Int32} (h : fb_X9_steps_1049 n0 σ t x1 x8 y0 y1 y2 y3 y4 y5 y6 = some (r, u)) (hT : TS g σ) (hk_t : sx_K σ t = 11) (hz_y4 : y4 = 0 ∨ y4 = 1) : ZY l g cX9_steps RX9 "steps" (some .boolean) 12 3 78 0 0 false As (QM g As (Qxi g r u)) (r = 0 ∨ r = 1) u σ 1049 [(0, .ref t), (1, .int x1), (8, .int x8)] [.int y0, .int y1, .int y2, .int y3, .int y4, .int y5, .int y6, .ref t] := by
  unfold fb_X9_steps_1049 at h
  replace h := bd_e h
  obtain ⟨r2, u3, h1, h⟩ := h
  have m4 := ct_X9_starts l (g := g) h1 hT hk_t hz_y4
  refine yc_Vi (Al := [.int y6, .int y5, .int y4, .int y3, .int y2, .int y1, .int y0]) (rest := []) 1052 rfl cw_X9_207 cx_10 dX9_steps_1049 m4 hk_t rfl (by decide) rfl (Nat.le_of_ble_eq_true rfl) ?_
  have hk_t := k_G m4.1.1 (by decide) hk_t
  have hT := m4.1.1.2.2.2
  have hz_r2 := m4.1.2
  refine ym 1054 (fun B k => z_istore (lv' := [(10, .int r2), (0, .ref t), (1, .int x1), (8, .int x8)]) B dX9_steps_1052 (by decide) rfl k) ?_
  refine ym 1055 (fun B k => z_aload_n B dX9_steps_1054 rfl 1 rfl k) ?_
  refine ym 1057 (fun B k => z_iload B dX9_steps_1055 0 rfl k) ?_
  by_cases c5 : r2 = 0
  · replace h := ite_p c5 h
    refine ym 1060 (fun B k => z_if_ne (tgt := 1067) B dX9_steps_1057 (by decide) (fun q => absurd c5 q) (fun _ => k)) ?_
    refine ym 1061 (fun B k => z_aload_n B dX9_steps_1060 rfl 1 rfl k) ?_
    refine ym 1064 (fun B k => gf_X9_131 (x := (sx_I u3 t 36)) B hk_t rfl dX9_steps_1061 k) ?_
    refine ym 1082 (fun B k => z_goto (tgt := 1082) B dX9_steps_1064 (by decide) k) ?_
    refine y_sub [(0, .ref t), (8, .int x8), (10, .int r2)] [1, 3, 0] rfl ?_
    exact tb_X9_steps_1082 h hT hk_t hz_r2
  · replace h := ite_n c5 h
    refine ym 1067 (fun B k => z_if_ne (tgt := 1067) B dX9_steps_1057 (by decide) (fun _ => k) (fun q => absurd q c5)) ?_
    refine ym 1068 (fun B k => z_aload_n B dX9_steps_1067 rfl 1 rfl k) ?_
    refine ym 1069 (fun B k => z_iload_n B dX9_steps_1068 rfl 2 rfl k) ?_
    replace h := br_e h
    obtain ⟨r7, h6, h⟩ := h
    have m8 := ct_X9_latestNumber l (g := g) h6 hT hk_t
    refine yc_Vl (Al := [.int x1]) (rest := [.ref t]) 1072 rfl cw_X9_200 cx_10 dX9_steps_1069 m8 hk_t rfl (by decide) rfl (Nat.le_of_ble_eq_true rfl) ?_
    refine ym 1073 (fun B k => z_lconst (v := 0) B dX9_steps_1072 (by decide) k) ?_
    refine ym 1074 (fun B k => z_lcmp (v := lg_cmp r7 0) B dX9_steps_1073 rfl k) ?_
    by_cases c9 : 0 ≤ (lg_cmp r7 0)
    · replace h := ite_p c9 h
      refine ym 1081 (fun B k => z_if_ge (tgt := 1081) B dX9_steps_1074 (by decide) (fun _ => k) (fun q => absurd c9 q)) ?_
      refine ym 1082 (fun B k => z_iconst (v := 4) B dX9_steps_1081 (by decide) k) ?_
      refine y_sub [(0, .ref t), (8, .int x8), (10, .int r2)] [1, 3, 0] rfl ?_
      exact tb_X9_steps_1082 h hT hk_t hz_r2
    · replace h := ite_n c9 h
      refine ym 1077 (fun B k => z_if_ge (tgt := 1081) B dX9_steps_1074 (by decide) (fun q => absurd q c9) (fun _ => k)) ?_
      refine ym 1078 (fun B k => z_iconst (v := 2) B dX9_steps_1077 (by decide) k) ?_
      refine ym 1082 (fun B k => z_goto (tgt := 1082) B dX9_steps_1078 (by decide) k) ?_
      refine y_sub [(0, .ref t), (8, .int x8), (10, .int r2)] [1, 3, 0] rfl ?_
      exact tb_X9_steps_1082 h hT hk_t hz_r2
set_option maxRecDepth 100000 in
set_option maxHeartbeats 4000000 in
theorem tb_X9_steps_1000 {l : Launch} {g : gx_T} {σ : sx_T} {u : sx_T} {r : Int32} {As : Array Value} {n0 : Nat} {t : Nat} {x8 : Int32} {x10 : Int32} {y0 : Int32} (h : fb_X9_steps_1000 n0 σ t x8 x10 y0 = some (r, u)) (hT : TS g σ) (hk_t : sx_K σ t = 11) (hz_x10 : x10 = 0 ∨ x10 = 1) : ZY l g cX9_steps RX9 "steps" (some .boolean) 12 3 78 0 0 false As (QM g As (Qxi g r u)) (r = 0 ∨ r = 1) u σ 1000 [(0, .ref t), (8, .int x8), (10, .int x10)] [.int y0, .ref t] := by
  unfold fb_X9_steps_1000 at h
  have j1 := hk_t
  refine ymw (σ' := (wx_I σ t 36 y0)) 1003 e_I (fun B hin k => pf_X9_131 (x := y0) B hk_t rfl dX9_steps_1000 k) ?_
  have hT := TS_I (k := 36) (x := y0) hT hk_t (Or.inl rfl)
  have hk_t := kk_I (σ := σ) (a := t) (k := 36) (x := y0) hk_t
  refine ym 1004 (fun B k => z_aload_n B dX9_steps_1003 rfl 0 rfl k) ?_
  refine ym 1005 (fun B k => z_iconst (v := 0) B dX9_steps_1004 (by decide) k) ?_
  have j2 := hk_t
  refine ymw (σ' := (wx_I (wx_I σ t 36 y0) t 35 0)) 1008 e_I (fun B hin k => pf_X9_128 (x := 0) B (Or.inl rfl) hk_t rfl dX9_steps_1005 k) ?_
  have hT := TS_I (k := 35) (x := 0) hT hk_t (Or.inr (Or.inl rfl))
  have hk_t := kk_I (σ := (wx_I σ t 36 y0)) (a := t) (k := 35) (x := 0) hk_t
  refine ym 1085 (fun B k => z_goto (tgt := 1085) B dX9_steps_1008 (by decide) k) ?_
  refine y_sub [(0, .ref t), (8, .int x8), (10, .int x10)] [0, 1, 2] rfl ?_
  exact tb_X9_steps_1085 h hT hk_t hz_x10
set_option maxRecDepth 100000 in
set_option maxHeartbeats 4000000 in
theorem tb_X9_steps_965 {l : Launch} {g : gx_T} {σ : sx_T} {u : sx_T} {r : Int32} {As : Array Value} {n0 : Nat} {t : Nat} {x8 : Int32} {x10 : Int32} {y0 : Int32} (h : fb_X9_steps_965 n0 σ t x8 x10 y0 = some (r, u)) (hT : TS g σ) (hk_t : sx_K σ t = 11) (hz_x10 : x10 = 0 ∨ x10 = 1) : ZY l g cX9_steps RX9 "steps" (some .boolean) 12 3 78 0 0 false As (QM g As (Qxi g r u)) (r = 0 ∨ r = 1) u σ 965 [(0, .ref t), (8, .int x8), (10, .int x10)] [.int y0, .ref t] := by
  unfold fb_X9_steps_965 at h
  have j1 := hk_t
  refine ymw (σ' := (wx_I σ t 29 y0)) 968 e_I (fun B hin k => pf_X9_113 (x := y0) B hk_t rfl dX9_steps_965 k) ?_
  have hT := TS_I (k := 29) (x := y0) hT hk_t (Or.inl rfl)
  have hk_t := kk_I (σ := σ) (a := t) (k := 29) (x := y0) hk_t
  refine ym 1085 (fun B k => z_goto (tgt := 1085) B dX9_steps_968 (by decide) k) ?_
  refine y_sub [(0, .ref t), (8, .int x8), (10, .int x10)] [0, 1, 2] rfl ?_
  exact tb_X9_steps_1085 h hT hk_t hz_x10
set_option maxRecDepth 100000 in
set_option maxHeartbeats 4000000 in
theorem tb_X9_steps_930 {l : Launch} {g : gx_T} {σ : sx_T} {u : sx_T} {r : Int32} {As : Array Value} {n0 : Nat} {t : Nat} {x8 : Int32} {x10 : Int32} {y0 : Int32} (h : fb_X9_steps_930 n0 σ t x8 x10 y0 = some (r, u)) (hT : TS g σ) (hk_t : sx_K σ t = 11) (hz_x10 : x10 = 0 ∨ x10 = 1) (hz_y0 : y0 = 0 ∨ y0 = 1) : ZY l g cX9_steps RX9 "steps" (some .boolean) 12 3 78 0 0 false As (QM g As (Qxi g r u)) (r = 0 ∨ r = 1) u σ 930 [(0, .ref t), (8, .int x8), (10, .int x10)] [.int y0, .ref t] := by
  unfold fb_X9_steps_930 at h
  have j1 := hk_t
  refine ymw (σ' := (wx_I σ t 29 y0)) 933 e_I (fun B hin k => pf_X9_113 (x := y0) B hk_t rfl dX9_steps_930 k) ?_
  have hT := TS_I (k := 29) (x := y0) hT hk_t (Or.inl rfl)
  have hk_t := kk_I (σ := σ) (a := t) (k := 29) (x := y0) hk_t
  refine ym 1085 (fun B k => z_goto (tgt := 1085) B dX9_steps_933 (by decide) k) ?_
  refine y_sub [(0, .ref t), (8, .int x8), (10, .int x10)] [0, 1, 2] rfl ?_
  exact tb_X9_steps_1085 h hT hk_t hz_x10
set_option maxRecDepth 100000 in
set_option maxHeartbeats 4000000 in
theorem tb_X9_steps_915 {l : Launch} {g : gx_T} {σ : sx_T} {u : sx_T} {r : Int32} {As : Array Value} {n0 : Nat} {t : Nat} {x8 : Int32} {x10 : Int32} {x11 : Int32} {y0 : Int32} {y1 : Int32} (h : fb_X9_steps_915 n0 σ t x8 x10 x11 y0 y1 = some (r, u)) (hT : TS g σ) (hk_t : sx_K σ t = 11) (hz_x10 : x10 = 0 ∨ x10 = 1) (hz_x11 : x11 = 0 ∨ x11 = 1) (hz_y0 : y0 = 0 ∨ y0 = 1) : ZY l g cX9_steps RX9 "steps" (some .boolean) 12 3 78 0 0 false As (QM g As (Qxi g r u)) (r = 0 ∨ r = 1) u σ 915 [(0, .ref t), (8, .int x8), (10, .int x10), (11, .int x11)] [.int y0, .int y1, .ref t] := by
  unfold fb_X9_steps_915 at h
  refine ym 916 (fun B k => z_iadd B dX9_steps_915 k) ?_
  have j1 := hk_t
  refine ymw (σ' := (wx_I σ t 27 (y1 + y0))) 919 e_I (fun B hin k => pf_X9_107 (x := (y1 + y0)) B hk_t rfl dX9_steps_916 k) ?_
  have hT := TS_I (k := 27) (x := (y1 + y0)) hT hk_t (Or.inl rfl)
  have hk_t := kk_I (σ := σ) (a := t) (k := 27) (x := (y1 + y0)) hk_t
  refine ym 920 (fun B k => z_aload_n B dX9_steps_919 rfl 0 rfl k) ?_
  refine ym 922 (fun B k => z_iload B dX9_steps_920 3 rfl k) ?_
  by_cases c2 : x11 = 0
  · replace h := ite_p c2 h
    refine ym 929 (fun B k => z_if_eq (tgt := 929) B dX9_steps_922 (by decide) (fun _ => k) (fun q => absurd c2 q)) ?_
    refine ym 930 (fun B k => z_iconst (v := 0) B dX9_steps_929 (by decide) k) ?_
    refine y_sub [(0, .ref t), (8, .int x8), (10, .int x10)] [0, 1, 2] rfl ?_
    exact tb_X9_steps_930 h hT hk_t hz_x10 (Or.inl rfl)
  · replace h := ite_n c2 h
    refine ym 925 (fun B k => z_if_eq (tgt := 929) B dX9_steps_922 (by decide) (fun q => absurd q c2) (fun _ => k)) ?_
    refine ym 926 (fun B k => z_iconst (v := 1) B dX9_steps_925 (by decide) k) ?_
    refine ym 930 (fun B k => z_goto (tgt := 930) B dX9_steps_926 (by decide) k) ?_
    refine y_sub [(0, .ref t), (8, .int x8), (10, .int x10)] [0, 1, 2] rfl ?_
    exact tb_X9_steps_930 h hT hk_t hz_x10 (Or.inr rfl)
set_option maxRecDepth 100000 in
set_option maxHeartbeats 4000000 in
theorem tb_X9_steps_898 {l : Launch} {g : gx_T} {σ : sx_T} {u : sx_T} {r : Int32} {As : Array Value} {n0 : Nat} {t : Nat} {x8 : Int32} {x10 : Int32} {y0 : Int32} (h : fb_X9_steps_898 n0 σ t x8 x10 y0 = some (r, u)) (hT : TS g σ) (hk_t : sx_K σ t = 11) (hz_x10 : x10 = 0 ∨ x10 = 1) (hz_y0 : y0 = 0 ∨ y0 = 1) : ZY l g cX9_steps RX9 "steps" (some .boolean) 12 3 78 0 0 false As (QM g As (Qxi g r u)) (r = 0 ∨ r = 1) u σ 898 [(0, .ref t), (8, .int x8), (10, .int x10)] [.int y0] := by
  unfold fb_X9_steps_898 at h
  refine ym 900 (fun B k => z_istore (lv' := [(11, .int y0), (0, .ref t), (8, .int x8), (10, .int x10)]) B dX9_steps_898 (by decide) rfl k) ?_
  refine ym 901 (fun B k => z_aload_n B dX9_steps_900 rfl 1 rfl k) ?_
  refine ym 902 (fun B k => z_dup B dX9_steps_901 rfl k) ?_
  refine ym 905 (fun B k => gf_X9_107 (x := (sx_I σ t 27)) B hk_t rfl dX9_steps_902 k) ?_
  refine ym 907 (fun B k => z_iload B dX9_steps_905 0 rfl k) ?_
  by_cases c1 : y0 = 0
  · replace h := ite_p c1 h
    refine ym 914 (fun B k => z_if_eq (tgt := 914) B dX9_steps_907 (by decide) (fun _ => k) (fun q => absurd c1 q)) ?_
    refine ym 915 (fun B k => z_iconst (v := 0) B dX9_steps_914 (by decide) k) ?_
    refine y_sub [(0, .ref t), (8, .int x8), (10, .int x10), (11, .int y0)] [1, 2, 3, 0] rfl ?_
    exact tb_X9_steps_915 h hT hk_t hz_x10 hz_y0 (Or.inl rfl)
  · replace h := ite_n c1 h
    refine ym 910 (fun B k => z_if_eq (tgt := 914) B dX9_steps_907 (by decide) (fun q => absurd q c1) (fun _ => k)) ?_
    refine ym 911 (fun B k => z_iconst (v := 1) B dX9_steps_910 (by decide) k) ?_
    refine ym 915 (fun B k => z_goto (tgt := 915) B dX9_steps_911 (by decide) k) ?_
    refine y_sub [(0, .ref t), (8, .int x8), (10, .int x10), (11, .int y0)] [1, 2, 3, 0] rfl ?_
    exact tb_X9_steps_915 h hT hk_t hz_x10 hz_y0 (Or.inr rfl)
set_option maxRecDepth 100000 in
set_option maxHeartbeats 4000000 in
theorem tb_X9_steps_897 {l : Launch} {g : gx_T} {σ : sx_T} {u : sx_T} {r : Int32} {As : Array Value} {n0 : Nat} {t : Nat} {x8 : Int32} {x10 : Int32} (h : fb_X9_steps_897 n0 σ t x8 x10 = some (r, u)) (hT : TS g σ) (hk_t : sx_K σ t = 11) (hz_x10 : x10 = 0 ∨ x10 = 1) : ZY l g cX9_steps RX9 "steps" (some .boolean) 12 3 78 0 0 false As (QM g As (Qxi g r u)) (r = 0 ∨ r = 1) u σ 897 [(0, .ref t), (8, .int x8), (10, .int x10)] [] := by
  unfold fb_X9_steps_897 at h
  refine ym 898 (fun B k => z_iconst (v := 0) B dX9_steps_897 (by decide) k) ?_
  refine y_sub [(0, .ref t), (8, .int x8), (10, .int x10)] [0, 1, 2] rfl ?_
  exact tb_X9_steps_898 h hT hk_t hz_x10 (Or.inl rfl)
set_option maxRecDepth 100000 in
set_option maxHeartbeats 4000000 in
theorem tb_X9_steps_791 {l : Launch} {g : gx_T} {σ : sx_T} {u : sx_T} {r : Int32} {As : Array Value} {n0 : Nat} {t : Nat} {x8 : Int32} {x10 : Int32} {y0 : Int32} (h : fb_X9_steps_791 n0 σ t x8 x10 y0 = some (r, u)) (hT : TS g σ) (hk_t : sx_K σ t = 11) (hz_x10 : x10 = 0 ∨ x10 = 1) : ZY l g cX9_steps RX9 "steps" (some .boolean) 12 3 78 0 0 false As (QM g As (Qxi g r u)) (r = 0 ∨ r = 1) u σ 791 [(0, .ref t), (8, .int x8), (10, .int x10)] [.int y0, .ref t] := by
  unfold fb_X9_steps_791 at h
  have j1 := hk_t
  refine ymw (σ' := (wx_I σ t 29 y0)) 794 e_I (fun B hin k => pf_X9_113 (x := y0) B hk_t rfl dX9_steps_791 k) ?_
  have hT := TS_I (k := 29) (x := y0) hT hk_t (Or.inl rfl)
  have hk_t := kk_I (σ := σ) (a := t) (k := 29) (x := y0) hk_t
  refine ym 1085 (fun B k => z_goto (tgt := 1085) B dX9_steps_794 (by decide) k) ?_
  refine y_sub [(0, .ref t), (8, .int x8), (10, .int x10)] [0, 1, 2] rfl ?_
  exact tb_X9_steps_1085 h hT hk_t hz_x10
set_option maxRecDepth 100000 in
set_option maxHeartbeats 4000000 in
theorem tb_X9_steps_787 {l : Launch} {g : gx_T} {σ : sx_T} {u : sx_T} {r : Int32} {As : Array Value} {n0 : Nat} {t : Nat} {x8 : Int32} {x10 : Int32} (h : fb_X9_steps_787 n0 σ t x8 x10 = some (r, u)) (hT : TS g σ) (hk_t : sx_K σ t = 11) (hz_x10 : x10 = 0 ∨ x10 = 1) : ZY l g cX9_steps RX9 "steps" (some .boolean) 12 3 78 0 0 false As (QM g As (Qxi g r u)) (r = 0 ∨ r = 1) u σ 787 [(0, .ref t), (8, .int x8), (10, .int x10)] [.ref t] := by
  unfold fb_X9_steps_787 at h
  refine ym 788 (fun B k => z_aload_n B dX9_steps_787 rfl 0 rfl k) ?_
  refine ym 791 (fun B k => gf_X9_113 (x := (sx_I σ t 29)) B hk_t rfl dX9_steps_788 k) ?_
  refine y_sub [(0, .ref t), (8, .int x8), (10, .int x10)] [0, 1, 2] rfl ?_
  exact tb_X9_steps_791 h hT hk_t hz_x10
set_option maxRecDepth 100000 in
set_option maxHeartbeats 4000000 in
theorem tb_X9_steps_759 {l : Launch} {g : gx_T} {σ : sx_T} {u : sx_T} {r : Int32} {As : Array Value} {n0 : Nat} {t : Nat} {x1 : Int32} {x8 : Int32} {x10 : Int32} {y0 : Int32} (h : fb_X9_steps_759 n0 σ t x1 x8 x10 y0 = some (r, u)) (hT : TS g σ) (hk_t : sx_K σ t = 11) (hz_x10 : x10 = 0 ∨ x10 = 1) : ZY l g cX9_steps RX9 "steps" (some .boolean) 12 3 78 0 0 false As (QM g As (Qxi g r u)) (r = 0 ∨ r = 1) u σ 759 [(0, .ref t), (1, .int x1), (8, .int x8), (10, .int x10)] [.int y0, .ref t] := by
  unfold fb_X9_steps_759 at h
  have j1 := hk_t
  refine ymw (σ' := (wx_I σ t 36 y0)) 762 e_I (fun B hin k => pf_X9_131 (x := y0) B hk_t rfl dX9_steps_759 k) ?_
  have hT := TS_I (k := 36) (x := y0) hT hk_t (Or.inl rfl)
  have hk_t := kk_I (σ := σ) (a := t) (k := 36) (x := y0) hk_t
  refine ym 763 (fun B k => z_aload_n B dX9_steps_762 rfl 0 rfl k) ?_
  refine ym 765 (fun B k => z_iload B dX9_steps_763 3 rfl k) ?_
  by_cases c2 : x10 = 0
  · replace h := ite_p c2 h
    refine ym 787 (fun B k => z_if_eq (tgt := 787) B dX9_steps_765 (by decide) (fun _ => k) (fun q => absurd c2 q)) ?_
    refine y_sub [(0, .ref t), (8, .int x8), (10, .int x10)] [0, 2, 3] rfl ?_
    exact tb_X9_steps_787 h hT hk_t hz_x10
  · replace h := ite_n c2 h
    refine ym 768 (fun B k => z_if_eq (tgt := 787) B dX9_steps_765 (by decide) (fun q => absurd q c2) (fun _ => k)) ?_
    refine ym 769 (fun B k => z_aload_n B dX9_steps_768 rfl 0 rfl k) ?_
    refine ym 770 (fun B k => z_iload_n B dX9_steps_769 rfl 1 rfl k) ?_
    replace h := br_e h
    obtain ⟨r4, h3, h⟩ := h
    have m5 := ct_X9_latestNumber l (g := g) h3 hT hk_t
    refine yc_Vl (Al := [.int x1]) (rest := [.ref t]) 773 rfl cw_X9_200 cx_10 dX9_steps_770 m5 hk_t rfl (by decide) rfl (Nat.le_of_ble_eq_true rfl) ?_
    refine ym 774 (fun B k => z_lconst (v := 0) B dX9_steps_773 (by decide) k) ?_
    refine ym 775 (fun B k => z_lcmp (v := lg_cmp r4 0) B dX9_steps_774 rfl k) ?_
    by_cases c6 : (lg_cmp r4 0) < 0
    · replace h := ite_p c6 h
      refine ym 787 (fun B k => z_if_lt (tgt := 787) B dX9_steps_775 (by decide) (fun _ => k) (fun q => absurd c6 q)) ?_
      refine y_sub [(0, .ref t), (8, .int x8), (10, .int x10)] [0, 2, 3] rfl ?_
      exact tb_X9_steps_787 h hT hk_t hz_x10
    · replace h := ite_n c6 h
      refine ym 778 (fun B k => z_if_lt (tgt := 787) B dX9_steps_775 (by decide) (fun q => absurd q c6) (fun _ => k)) ?_
      refine ym 779 (fun B k => z_aload_n B dX9_steps_778 rfl 0 rfl k) ?_
      refine ym 780 (fun B k => z_iload_n B dX9_steps_779 rfl 1 rfl k) ?_
      replace h := br_e h
      obtain ⟨r8, h7, h⟩ := h
      have m9 := ct_X9_latestNumber l (g := g) h7 hT hk_t
      refine yc_Vl (Al := [.int x1]) (rest := [.ref t]) 783 rfl cw_X9_200 cx_10 dX9_steps_780 m9 hk_t rfl (by decide) rfl (Nat.le_of_ble_eq_true rfl) ?_
      refine ym 784 (fun B k => z_l2i (v := r8.toInt32) B dX9_steps_783 rfl k) ?_
      refine ym 791 (fun B k => z_goto (tgt := 791) B dX9_steps_784 (by decide) k) ?_
      refine y_sub [(0, .ref t), (8, .int x8), (10, .int x10)] [0, 2, 3] rfl ?_
      exact tb_X9_steps_791 h hT hk_t hz_x10
set_option maxRecDepth 100000 in
set_option maxHeartbeats 4000000 in
theorem tb_X9_steps_755 {l : Launch} {g : gx_T} {σ : sx_T} {u : sx_T} {r : Int32} {As : Array Value} {n0 : Nat} {t : Nat} {x1 : Int32} {x8 : Int32} {x10 : Int32} (h : fb_X9_steps_755 n0 σ t x1 x8 x10 = some (r, u)) (hT : TS g σ) (hk_t : sx_K σ t = 11) (hz_x10 : x10 = 0 ∨ x10 = 1) : ZY l g cX9_steps RX9 "steps" (some .boolean) 12 3 78 0 0 false As (QM g As (Qxi g r u)) (r = 0 ∨ r = 1) u σ 755 [(0, .ref t), (1, .int x1), (8, .int x8), (10, .int x10)] [.ref t] := by
  unfold fb_X9_steps_755 at h
  refine ym 756 (fun B k => z_aload_n B dX9_steps_755 rfl 0 rfl k) ?_
  refine ym 759 (fun B k => gf_X9_131 (x := (sx_I σ t 36)) B hk_t rfl dX9_steps_756 k) ?_
  refine y_sub [(0, .ref t), (1, .int x1), (8, .int x8), (10, .int x10)] [0, 1, 2, 3] rfl ?_
  exact tb_X9_steps_759 h hT hk_t hz_x10
set_option maxRecDepth 100000 in
set_option maxHeartbeats 4000000 in
theorem tb_X9_steps_711 {l : Launch} {g : gx_T} {σ : sx_T} {u : sx_T} {r : Int32} {As : Array Value} {n0 : Nat} {t : Nat} {x8 : Int32} {x10 : Int32} {y0 : Int32} (h : fb_X9_steps_711 n0 σ t x8 x10 y0 = some (r, u)) (hT : TS g σ) (hk_t : sx_K σ t = 11) (hz_x10 : x10 = 0 ∨ x10 = 1) : ZY l g cX9_steps RX9 "steps" (some .boolean) 12 3 78 0 0 false As (QM g As (Qxi g r u)) (r = 0 ∨ r = 1) u σ 711 [(0, .ref t), (8, .int x8), (10, .int x10)] [.int y0, .ref t] := by
  unfold fb_X9_steps_711 at h
  have j1 := hk_t
  refine ymw (σ' := (wx_I σ t 31 y0)) 714 e_I (fun B hin k => pf_X9_119 (x := y0) B hk_t rfl dX9_steps_711 k) ?_
  have hT := TS_I (k := 31) (x := y0) hT hk_t (Or.inl rfl)
  have hk_t := kk_I (σ := σ) (a := t) (k := 31) (x := y0) hk_t
  refine ym 1085 (fun B k => z_goto (tgt := 1085) B dX9_steps_714 (by decide) k) ?_
  refine y_sub [(0, .ref t), (8, .int x8), (10, .int x10)] [0, 1, 2] rfl ?_
  exact tb_X9_steps_1085 h hT hk_t hz_x10
set_option maxRecDepth 100000 in
set_option maxHeartbeats 4000000 in
theorem tb_X9_steps_692 {l : Launch} {g : gx_T} {σ : sx_T} {u : sx_T} {r : Int32} {As : Array Value} {n0 : Nat} {t : Nat} {x1 : Int32} {x8 : Int32} {x10 : Int32} {y0 : Int32} (h : fb_X9_steps_692 n0 σ t x1 x8 x10 y0 = some (r, u)) (hT : TS g σ) (hk_t : sx_K σ t = 11) (hz_x10 : x10 = 0 ∨ x10 = 1) : ZY l g cX9_steps RX9 "steps" (some .boolean) 12 3 78 0 0 false As (QM g As (Qxi g r u)) (r = 0 ∨ r = 1) u σ 692 [(0, .ref t), (1, .int x1), (8, .int x8), (10, .int x10)] [.int y0, .ref t] := by
  unfold fb_X9_steps_692 at h
  have j1 := hk_t
  refine ymw (σ' := (wx_I σ t 36 y0)) 695 e_I (fun B hin k => pf_X9_131 (x := y0) B hk_t rfl dX9_steps_692 k) ?_
  have hT := TS_I (k := 36) (x := y0) hT hk_t (Or.inl rfl)
  have hk_t := kk_I (σ := σ) (a := t) (k := 36) (x := y0) hk_t
  refine ym 696 (fun B k => z_aload_n B dX9_steps_695 rfl 0 rfl k) ?_
  refine ym 698 (fun B k => z_iload B dX9_steps_696 3 rfl k) ?_
  by_cases c2 : x10 = 0
  · replace h := ite_p c2 h
    refine ym 710 (fun B k => z_if_eq (tgt := 710) B dX9_steps_698 (by decide) (fun _ => k) (fun q => absurd c2 q)) ?_
    refine ym 711 (fun B k => z_iconst (v := 0) B dX9_steps_710 (by decide) k) ?_
    refine y_sub [(0, .ref t), (8, .int x8), (10, .int x10)] [0, 2, 3] rfl ?_
    exact tb_X9_steps_711 h hT hk_t hz_x10
  · replace h := ite_n c2 h
    refine ym 701 (fun B k => z_if_eq (tgt := 710) B dX9_steps_698 (by decide) (fun q => absurd q c2) (fun _ => k)) ?_
    refine ym 702 (fun B k => z_aload_n B dX9_steps_701 rfl 0 rfl k) ?_
    refine ym 703 (fun B k => z_iload_n B dX9_steps_702 rfl 1 rfl k) ?_
    replace h := br_e h
    obtain ⟨r4, h3, h⟩ := h
    have m5 := ct_X9_latestNumber l (g := g) h3 hT hk_t
    refine yc_Vl (Al := [.int x1]) (rest := [.ref t]) 706 rfl cw_X9_200 cx_10 dX9_steps_703 m5 hk_t rfl (by decide) rfl (Nat.le_of_ble_eq_true rfl) ?_
    refine ym 707 (fun B k => z_l2i (v := r4.toInt32) B dX9_steps_706 rfl k) ?_
    refine ym 711 (fun B k => z_goto (tgt := 711) B dX9_steps_707 (by decide) k) ?_
    refine y_sub [(0, .ref t), (8, .int x8), (10, .int x10)] [0, 2, 3] rfl ?_
    exact tb_X9_steps_711 h hT hk_t hz_x10
set_option maxRecDepth 100000 in
set_option maxHeartbeats 4000000 in
theorem tb_X9_steps_688 {l : Launch} {g : gx_T} {σ : sx_T} {u : sx_T} {r : Int32} {As : Array Value} {n0 : Nat} {t : Nat} {x1 : Int32} {x8 : Int32} {x10 : Int32} (h : fb_X9_steps_688 n0 σ t x1 x8 x10 = some (r, u)) (hT : TS g σ) (hk_t : sx_K σ t = 11) (hz_x10 : x10 = 0 ∨ x10 = 1) : ZY l g cX9_steps RX9 "steps" (some .boolean) 12 3 78 0 0 false As (QM g As (Qxi g r u)) (r = 0 ∨ r = 1) u σ 688 [(0, .ref t), (1, .int x1), (8, .int x8), (10, .int x10)] [.ref t] := by
  unfold fb_X9_steps_688 at h
  refine ym 689 (fun B k => z_aload_n B dX9_steps_688 rfl 0 rfl k) ?_
  refine ym 692 (fun B k => gf_X9_131 (x := (sx_I σ t 36)) B hk_t rfl dX9_steps_689 k) ?_
  refine y_sub [(0, .ref t), (1, .int x1), (8, .int x8), (10, .int x10)] [0, 1, 2, 3] rfl ?_
  exact tb_X9_steps_692 h hT hk_t hz_x10
set_option maxRecDepth 100000 in
set_option maxHeartbeats 4000000 in
theorem tb_X9_steps_665 {l : Launch} {g : gx_T} {σ : sx_T} {u : sx_T} {r : Int32} {As : Array Value} {n0 : Nat} {t : Nat} {x1 : Int32} {x8 : Int32} {x10 : Int32} {y0 : Int32} (h : fb_X9_steps_665 n0 σ t x1 x8 x10 y0 = some (r, u)) (hT : TS g σ) (hk_t : sx_K σ t = 11) (hz_x10 : x10 = 0 ∨ x10 = 1) : ZY l g cX9_steps RX9 "steps" (some .boolean) 12 3 78 0 0 false As (QM g As (Qxi g r u)) (r = 0 ∨ r = 1) u σ 665 [(0, .ref t), (1, .int x1), (8, .int x8), (10, .int x10)] [.int y0, .ref t] := by
  unfold fb_X9_steps_665 at h
  have j1 := hk_t
  refine ymw (σ' := (wx_I σ t 30 y0)) 668 e_I (fun B hin k => pf_X9_116 (x := y0) B hk_t rfl dX9_steps_665 k) ?_
  have hT := TS_I (k := 30) (x := y0) hT hk_t (Or.inl rfl)
  have hk_t := kk_I (σ := σ) (a := t) (k := 30) (x := y0) hk_t
  refine ym 669 (fun B k => z_aload_n B dX9_steps_668 rfl 0 rfl k) ?_
  refine ym 671 (fun B k => z_iload B dX9_steps_669 3 rfl k) ?_
  by_cases c2 : x10 = 0
  · replace h := ite_p c2 h
    refine ym 688 (fun B k => z_if_eq (tgt := 688) B dX9_steps_671 (by decide) (fun _ => k) (fun q => absurd c2 q)) ?_
    refine y_sub [(0, .ref t), (1, .int x1), (8, .int x8), (10, .int x10)] [0, 1, 2, 3] rfl ?_
    exact tb_X9_steps_688 h hT hk_t hz_x10
  · replace h := ite_n c2 h
    refine ym 674 (fun B k => z_if_eq (tgt := 688) B dX9_steps_671 (by decide) (fun q => absurd q c2) (fun _ => k)) ?_
    refine ym 675 (fun B k => z_aload_n B dX9_steps_674 rfl 0 rfl k) ?_
    refine ym 676 (fun B k => z_iload_n B dX9_steps_675 rfl 1 rfl k) ?_
    replace h := br_e h
    obtain ⟨r4, h3, h⟩ := h
    have m5 := ct_X9_latestNumber l (g := g) h3 hT hk_t
    refine yc_Vl (Al := [.int x1]) (rest := [.ref t]) 679 rfl cw_X9_200 cx_10 dX9_steps_676 m5 hk_t rfl (by decide) rfl (Nat.le_of_ble_eq_true rfl) ?_
    refine ym 680 (fun B k => z_lconst (v := 0) B dX9_steps_679 (by decide) k) ?_
    refine ym 681 (fun B k => z_lcmp (v := lg_cmp r4 0) B dX9_steps_680 rfl k) ?_
    by_cases c6 : 0 ≤ (lg_cmp r4 0)
    · replace h := ite_p c6 h
      refine ym 688 (fun B k => z_if_ge (tgt := 688) B dX9_steps_681 (by decide) (fun _ => k) (fun q => absurd c6 q)) ?_
      refine y_sub [(0, .ref t), (1, .int x1), (8, .int x8), (10, .int x10)] [0, 1, 2, 3] rfl ?_
      exact tb_X9_steps_688 h hT hk_t hz_x10
    · replace h := ite_n c6 h
      refine ym 684 (fun B k => z_if_ge (tgt := 688) B dX9_steps_681 (by decide) (fun q => absurd q c6) (fun _ => k)) ?_
      refine ym 685 (fun B k => z_iconst (v := 2) B dX9_steps_684 (by decide) k) ?_
      refine ym 692 (fun B k => z_goto (tgt := 692) B dX9_steps_685 (by decide) k) ?_
      refine y_sub [(0, .ref t), (1, .int x1), (8, .int x8), (10, .int x10)] [0, 1, 2, 3] rfl ?_
      exact tb_X9_steps_692 h hT hk_t hz_x10
set_option maxRecDepth 100000 in
set_option maxHeartbeats 4000000 in
theorem tb_X9_steps_664 {l : Launch} {g : gx_T} {σ : sx_T} {u : sx_T} {r : Int32} {As : Array Value} {n0 : Nat} {t : Nat} {x1 : Int32} {x8 : Int32} {x10 : Int32} (h : fb_X9_steps_664 n0 σ t x1 x8 x10 = some (r, u)) (hT : TS g σ) (hk_t : sx_K σ t = 11) (hz_x10 : x10 = 0 ∨ x10 = 1) : ZY l g cX9_steps RX9 "steps" (some .boolean) 12 3 78 0 0 false As (QM g As (Qxi g r u)) (r = 0 ∨ r = 1) u σ 664 [(0, .ref t), (1, .int x1), (8, .int x8), (10, .int x10)] [.ref t] := by
  unfold fb_X9_steps_664 at h
  refine ym 665 (fun B k => z_iconst (v := 0) B dX9_steps_664 (by decide) k) ?_
  refine y_sub [(0, .ref t), (1, .int x1), (8, .int x8), (10, .int x10)] [0, 1, 2, 3] rfl ?_
  exact tb_X9_steps_665 h hT hk_t hz_x10
set_option maxRecDepth 100000 in
set_option maxHeartbeats 4000000 in
theorem tb_X9_steps_580 {l : Launch} {g : gx_T} {σ : sx_T} {u : sx_T} {r : Int32} {As : Array Value} {n0 : Nat} {t : Nat} {x8 : Int32} {x10 : Int32} {y0 : Int32} (h : fb_X9_steps_580 n0 σ t x8 x10 y0 = some (r, u)) (hT : TS g σ) (hk_t : sx_K σ t = 11) (hz_x10 : x10 = 0 ∨ x10 = 1) : ZY l g cX9_steps RX9 "steps" (some .boolean) 12 3 78 0 0 false As (QM g As (Qxi g r u)) (r = 0 ∨ r = 1) u σ 580 [(0, .ref t), (8, .int x8), (10, .int x10)] [.int y0, .ref t] := by
  unfold fb_X9_steps_580 at h
  have j1 := hk_t
  refine ymw (σ' := (wx_I σ t 28 y0)) 583 e_I (fun B hin k => pf_X9_110 (x := y0) B hk_t rfl dX9_steps_580 k) ?_
  have hT := TS_I (k := 28) (x := y0) hT hk_t (Or.inl rfl)
  have hk_t := kk_I (σ := σ) (a := t) (k := 28) (x := y0) hk_t
  refine ym 1085 (fun B k => z_goto (tgt := 1085) B dX9_steps_583 (by decide) k) ?_
  refine y_sub [(0, .ref t), (8, .int x8), (10, .int x10)] [0, 1, 2] rfl ?_
  exact tb_X9_steps_1085 h hT hk_t hz_x10
set_option maxRecDepth 100000 in
set_option maxHeartbeats 4000000 in
theorem tb_X9_steps_548 {l : Launch} {g : gx_T} {σ : sx_T} {u : sx_T} {r : Int32} {As : Array Value} {n0 : Nat} {t : Nat} {x6 : Int32} {x8 : Int32} {x10 : Int32} {y0 : Int32} (h : fb_X9_steps_548 n0 σ t x6 x8 x10 y0 = some (r, u)) (hT : TS g σ) (hk_t : sx_K σ t = 11) (hz_x10 : x10 = 0 ∨ x10 = 1) : ZY l g cX9_steps RX9 "steps" (some .boolean) 12 3 78 0 0 false As (QM g As (Qxi g r u)) (r = 0 ∨ r = 1) u σ 548 [(0, .ref t), (6, .int x6), (8, .int x8), (10, .int x10)] [.int y0, .ref t] := by
  unfold fb_X9_steps_548 at h
  have j1 := hk_t
  refine ymw (σ' := (wx_I σ t 49 y0)) 551 e_I (fun B hin k => pf_X9_204 (x := y0) B hk_t rfl dX9_steps_548 k) ?_
  have hT := TS_I (k := 49) (x := y0) hT hk_t (Or.inl rfl)
  have hk_t := kk_I (σ := σ) (a := t) (k := 49) (x := y0) hk_t
  refine ym 552 (fun B k => z_aload_n B dX9_steps_551 rfl 0 rfl k) ?_
  refine ym 554 (fun B k => z_iload B dX9_steps_552 1 rfl k) ?_
  have j2 := hk_t
  refine ymw (σ' := (wx_I (wx_I σ t 49 y0) t 31 x6)) 557 e_I (fun B hin k => pf_X9_119 (x := x6) B hk_t rfl dX9_steps_554 k) ?_
  have hT := TS_I (k := 31) (x := x6) hT hk_t (Or.inl rfl)
  have hk_t := kk_I (σ := (wx_I σ t 49 y0)) (a := t) (k := 31) (x := x6) hk_t
  refine ym 1085 (fun B k => z_goto (tgt := 1085) B dX9_steps_557 (by decide) k) ?_
  refine y_sub [(0, .ref t), (8, .int x8), (10, .int x10)] [0, 2, 3] rfl ?_
  exact tb_X9_steps_1085 h hT hk_t hz_x10
set_option maxRecDepth 100000 in
set_option maxHeartbeats 4000000 in
theorem tb_X9_steps_529 {l : Launch} {g : gx_T} {σ : sx_T} {u : sx_T} {r : Int32} {As : Array Value} {n0 : Nat} {t : Nat} {x1 : Int32} {x6 : Int32} {x8 : Int32} {x10 : Int32} {y0 : Int32} (h : fb_X9_steps_529 n0 σ t x1 x6 x8 x10 y0 = some (r, u)) (hT : TS g σ) (hk_t : sx_K σ t = 11) (hz_x10 : x10 = 0 ∨ x10 = 1) : ZY l g cX9_steps RX9 "steps" (some .boolean) 12 3 78 0 0 false As (QM g As (Qxi g r u)) (r = 0 ∨ r = 1) u σ 529 [(0, .ref t), (1, .int x1), (6, .int x6), (8, .int x8), (10, .int x10)] [.int y0, .ref t] := by
  unfold fb_X9_steps_529 at h
  have j1 := hk_t
  refine ymw (σ' := (wx_I σ t 30 y0)) 532 e_I (fun B hin k => pf_X9_116 (x := y0) B hk_t rfl dX9_steps_529 k) ?_
  have hT := TS_I (k := 30) (x := y0) hT hk_t (Or.inl rfl)
  have hk_t := kk_I (σ := σ) (a := t) (k := 30) (x := y0) hk_t
  refine ym 533 (fun B k => z_aload_n B dX9_steps_532 rfl 0 rfl k) ?_
  refine ym 535 (fun B k => z_iload B dX9_steps_533 4 rfl k) ?_
  by_cases c2 : x10 = 0
  · replace h := ite_p c2 h
    refine ym 547 (fun B k => z_if_eq (tgt := 547) B dX9_steps_535 (by decide) (fun _ => k) (fun q => absurd c2 q)) ?_
    refine ym 548 (fun B k => z_iconst (v := 0) B dX9_steps_547 (by decide) k) ?_
    refine y_sub [(0, .ref t), (6, .int x6), (8, .int x8), (10, .int x10)] [0, 2, 3, 4] rfl ?_
    exact tb_X9_steps_548 h hT hk_t hz_x10
  · replace h := ite_n c2 h
    refine ym 538 (fun B k => z_if_eq (tgt := 547) B dX9_steps_535 (by decide) (fun q => absurd q c2) (fun _ => k)) ?_
    refine ym 539 (fun B k => z_aload_n B dX9_steps_538 rfl 0 rfl k) ?_
    refine ym 540 (fun B k => z_iload_n B dX9_steps_539 rfl 1 rfl k) ?_
    replace h := br_e h
    obtain ⟨r4, h3, h⟩ := h
    have m5 := ct_X9_latestNumber l (g := g) h3 hT hk_t
    refine yc_Vl (Al := [.int x1]) (rest := [.ref t]) 543 rfl cw_X9_200 cx_10 dX9_steps_540 m5 hk_t rfl (by decide) rfl (Nat.le_of_ble_eq_true rfl) ?_
    refine ym 544 (fun B k => z_l2i (v := r4.toInt32) B dX9_steps_543 rfl k) ?_
    refine ym 548 (fun B k => z_goto (tgt := 548) B dX9_steps_544 (by decide) k) ?_
    refine y_sub [(0, .ref t), (6, .int x6), (8, .int x8), (10, .int x10)] [0, 2, 3, 4] rfl ?_
    exact tb_X9_steps_548 h hT hk_t hz_x10
set_option maxRecDepth 100000 in
set_option maxHeartbeats 4000000 in
theorem tb_X9_steps_510 {l : Launch} {g : gx_T} {σ : sx_T} {u : sx_T} {r : Int32} {As : Array Value} {n0 : Nat} {t : Nat} {x1 : Int32} {x6 : Int32} {x8 : Int32} {y0 : Int32} {y1 : Int32} {y2 : Int32} {y3 : Int32} {y4 : Int32} {y5 : Int32} (h : fb_X9_steps_510 n0 σ t x1 x6 x8 y0 y1 y2 y3 y4 y5 = some (r, u)) (hT : TS g σ) (hk_t : sx_K σ t = 11) (hz_y3 : y3 = 0 ∨ y3 = 1) : ZY l g cX9_steps RX9 "steps" (some .boolean) 12 3 78 0 0 false As (QM g As (Qxi g r u)) (r = 0 ∨ r = 1) u σ 510 [(0, .ref t), (1, .int x1), (6, .int x6), (8, .int x8)] [.int y0, .int y1, .int y2, .int y3, .int y4, .int y5, .ref t] := by
  unfold fb_X9_steps_510 at h
  refine ym 511 (fun B k => z_iadd B dX9_steps_510 k) ?_
  refine ym 512 (fun B k => z_i2l (v := (y1 + y0).toInt64) B dX9_steps_511 rfl k) ?_
  refine ym 513 (fun B k => z_iconst (v := 1) B dX9_steps_512 (by decide) k) ?_
  replace h := bd_e h
  obtain ⟨r2, u3, h1, h⟩ := h
  have m4 := ct_X9_meets l (g := g) h1 hT hk_t hz_y3 (Or.inr rfl)
  refine yc_Vi (Al := [.int y5, .int y4, .int y3, .int y2, .long ((y1 + y0).toInt64), .int 1]) (rest := []) 516 rfl cw_X9_164 cx_10 dX9_steps_513 m4 hk_t rfl (by decide) rfl (Nat.le_of_ble_eq_true rfl) ?_
  have hk_t := k_G m4.1.1 (by decide) hk_t
  have hT := m4.1.1.2.2.2
  have hz_r2 := m4.1.2
  refine ym 518 (fun B k => z_istore (lv' := [(10, .int r2), (0, .ref t), (1, .int x1), (6, .int x6), (8, .int x8)]) B dX9_steps_516 (by decide) rfl k) ?_
  refine ym 519 (fun B k => z_aload_n B dX9_steps_518 rfl 1 rfl k) ?_
  refine ym 521 (fun B k => z_iload B dX9_steps_519 0 rfl k) ?_
  by_cases c5 : r2 = 0
  · replace h := ite_p c5 h
    refine ym 528 (fun B k => z_if_eq (tgt := 528) B dX9_steps_521 (by decide) (fun _ => k) (fun q => absurd c5 q)) ?_
    refine ym 529 (fun B k => z_iconst (v := 0) B dX9_steps_528 (by decide) k) ?_
    refine y_sub [(0, .ref t), (1, .int x1), (6, .int x6), (8, .int x8), (10, .int r2)] [1, 2, 3, 4, 0] rfl ?_
    exact tb_X9_steps_529 h hT hk_t hz_r2
  · replace h := ite_n c5 h
    refine ym 524 (fun B k => z_if_eq (tgt := 528) B dX9_steps_521 (by decide) (fun q => absurd q c5) (fun _ => k)) ?_
    refine ym 525 (fun B k => z_iconst (v := 4) B dX9_steps_524 (by decide) k) ?_
    refine ym 529 (fun B k => z_goto (tgt := 529) B dX9_steps_525 (by decide) k) ?_
    refine y_sub [(0, .ref t), (1, .int x1), (6, .int x6), (8, .int x8), (10, .int r2)] [1, 2, 3, 4, 0] rfl ?_
    exact tb_X9_steps_529 h hT hk_t hz_r2
set_option maxRecDepth 100000 in
set_option maxHeartbeats 4000000 in
theorem tb_X9_steps_446 {l : Launch} {g : gx_T} {σ : sx_T} {u : sx_T} {r : Int32} {As : Array Value} {n0 : Nat} {t : Nat} {x6 : Int32} {x8 : Int32} {x10 : Int32} {y0 : Int32} (h : fb_X9_steps_446 n0 σ t x6 x8 x10 y0 = some (r, u)) (hT : TS g σ) (hk_t : sx_K σ t = 11) (hz_x10 : x10 = 0 ∨ x10 = 1) : ZY l g cX9_steps RX9 "steps" (some .boolean) 12 3 78 0 0 false As (QM g As (Qxi g r u)) (r = 0 ∨ r = 1) u σ 446 [(0, .ref t), (6, .int x6), (8, .int x8), (10, .int x10)] [.int y0, .ref t] := by
  unfold fb_X9_steps_446 at h
  have j1 := hk_t
  refine ymw (σ' := (wx_I σ t 30 y0)) 449 e_I (fun B hin k => pf_X9_116 (x := y0) B hk_t rfl dX9_steps_446 k) ?_
  have hT := TS_I (k := 30) (x := y0) hT hk_t (Or.inl rfl)
  have hk_t := kk_I (σ := σ) (a := t) (k := 30) (x := y0) hk_t
  refine ym 450 (fun B k => z_aload_n B dX9_steps_449 rfl 0 rfl k) ?_
  refine ym 452 (fun B k => z_iload B dX9_steps_450 1 rfl k) ?_
  have j2 := hk_t
  refine ymw (σ' := (wx_I (wx_I σ t 30 y0) t 31 x6)) 455 e_I (fun B hin k => pf_X9_119 (x := x6) B hk_t rfl dX9_steps_452 k) ?_
  have hT := TS_I (k := 31) (x := x6) hT hk_t (Or.inl rfl)
  have hk_t := kk_I (σ := (wx_I σ t 30 y0)) (a := t) (k := 31) (x := x6) hk_t
  refine ym 1085 (fun B k => z_goto (tgt := 1085) B dX9_steps_455 (by decide) k) ?_
  refine y_sub [(0, .ref t), (8, .int x8), (10, .int x10)] [0, 2, 3] rfl ?_
  exact tb_X9_steps_1085 h hT hk_t hz_x10
set_option maxRecDepth 100000 in
set_option maxHeartbeats 4000000 in
theorem tb_X9_steps_431 {l : Launch} {g : gx_T} {σ : sx_T} {u : sx_T} {r : Int32} {As : Array Value} {n0 : Nat} {t : Nat} {x6 : Int32} {x8 : Int32} {x9 : Int32} {x10 : Int32} {y0 : Int32} (h : fb_X9_steps_431 n0 σ t x6 x8 x9 x10 y0 = some (r, u)) (hT : TS g σ) (hk_t : sx_K σ t = 11) (hz_x10 : x10 = 0 ∨ x10 = 1) : ZY l g cX9_steps RX9 "steps" (some .boolean) 12 3 78 0 0 false As (QM g As (Qxi g r u)) (r = 0 ∨ r = 1) u σ 431 [(0, .ref t), (6, .int x6), (8, .int x8), (9, .int x9), (10, .int x10)] [.int y0, .ref t] := by
  unfold fb_X9_steps_431 at h
  have j1 := hk_t
  refine ymw (σ' := (wx_I σ t 29 y0)) 434 e_I (fun B hin k => pf_X9_113 (x := y0) B hk_t rfl dX9_steps_431 k) ?_
  have hT := TS_I (k := 29) (x := y0) hT hk_t (Or.inl rfl)
  have hk_t := kk_I (σ := σ) (a := t) (k := 29) (x := y0) hk_t
  refine ym 435 (fun B k => z_aload_n B dX9_steps_434 rfl 0 rfl k) ?_
  refine ym 437 (fun B k => z_iload B dX9_steps_435 3 rfl k) ?_
  refine ym 438 (fun B k => z_iconst (v := (-1)) B dX9_steps_437 (by decide) k) ?_
  by_cases c2 : x9 = (-1)
  · replace h := ite_p c2 h
    refine ym 441 (fun B k => z_icmp_ne (tgt := 445) B dX9_steps_438 (by decide) (fun q => absurd c2 q) (fun _ => k)) ?_
    refine ym 442 (fun B k => z_iconst (v := 3) B dX9_steps_441 (by decide) k) ?_
    refine ym 446 (fun B k => z_goto (tgt := 446) B dX9_steps_442 (by decide) k) ?_
    refine y_sub [(0, .ref t), (6, .int x6), (8, .int x8), (10, .int x10)] [0, 1, 2, 4] rfl ?_
    exact tb_X9_steps_446 h hT hk_t hz_x10
  · replace h := ite_n c2 h
    refine ym 445 (fun B k => z_icmp_ne (tgt := 445) B dX9_steps_438 (by decide) (fun _ => k) (fun q => absurd q c2)) ?_
    refine ym 446 (fun B k => z_iconst (v := 0) B dX9_steps_445 (by decide) k) ?_
    refine y_sub [(0, .ref t), (6, .int x6), (8, .int x8), (10, .int x10)] [0, 1, 2, 4] rfl ?_
    exact tb_X9_steps_446 h hT hk_t hz_x10
set_option maxRecDepth 100000 in
set_option maxHeartbeats 4000000 in
theorem tb_X9_steps_397 {l : Launch} {g : gx_T} {σ : sx_T} {u : sx_T} {r : Int32} {As : Array Value} {n0 : Nat} {t : Nat} {x8 : Int32} {x10 : Int32} {y0 : Int32} (h : fb_X9_steps_397 n0 σ t x8 x10 y0 = some (r, u)) (hT : TS g σ) (hk_t : sx_K σ t = 11) (hz_x10 : x10 = 0 ∨ x10 = 1) : ZY l g cX9_steps RX9 "steps" (some .boolean) 12 3 78 0 0 false As (QM g As (Qxi g r u)) (r = 0 ∨ r = 1) u σ 397 [(0, .ref t), (8, .int x8), (10, .int x10)] [.int y0, .ref t] := by
  unfold fb_X9_steps_397 at h
  have j1 := hk_t
  refine ymw (σ' := (wx_I σ t 31 y0)) 400 e_I (fun B hin k => pf_X9_119 (x := y0) B hk_t rfl dX9_steps_397 k) ?_
  have hT := TS_I (k := 31) (x := y0) hT hk_t (Or.inl rfl)
  have hk_t := kk_I (σ := σ) (a := t) (k := 31) (x := y0) hk_t
  refine ym 401 (fun B k => z_aload_n B dX9_steps_400 rfl 0 rfl k) ?_
  refine ym 402 (fun B k => z_aload_n B dX9_steps_401 rfl 0 rfl k) ?_
  refine ym 405 (fun B k => gf_X9_119 (x := y0) B hk_t rI_s dX9_steps_402 k) ?_
  have j2 := hk_t
  refine ymw (σ' := (wx_I (wx_I σ t 31 y0) t 49 y0)) 408 e_I (fun B hin k => pf_X9_204 (x := y0) B hk_t rfl dX9_steps_405 k) ?_
  have hT := TS_I (k := 49) (x := y0) hT hk_t (Or.inl rfl)
  have hk_t := kk_I (σ := (wx_I σ t 31 y0)) (a := t) (k := 49) (x := y0) hk_t
  refine ym 1085 (fun B k => z_goto (tgt := 1085) B dX9_steps_408 (by decide) k) ?_
  refine y_sub [(0, .ref t), (8, .int x8), (10, .int x10)] [0, 1, 2] rfl ?_
  exact tb_X9_steps_1085 h hT hk_t hz_x10
set_option maxRecDepth 100000 in
set_option maxHeartbeats 4000000 in
theorem tb_X9_steps_378 {l : Launch} {g : gx_T} {σ : sx_T} {u : sx_T} {r : Int32} {As : Array Value} {n0 : Nat} {t : Nat} {x1 : Int32} {x8 : Int32} {x10 : Int32} {y0 : Int32} (h : fb_X9_steps_378 n0 σ t x1 x8 x10 y0 = some (r, u)) (hT : TS g σ) (hk_t : sx_K σ t = 11) (hz_x10 : x10 = 0 ∨ x10 = 1) : ZY l g cX9_steps RX9 "steps" (some .boolean) 12 3 78 0 0 false As (QM g As (Qxi g r u)) (r = 0 ∨ r = 1) u σ 378 [(0, .ref t), (1, .int x1), (8, .int x8), (10, .int x10)] [.int y0, .ref t] := by
  unfold fb_X9_steps_378 at h
  have j1 := hk_t
  refine ymw (σ' := (wx_I σ t 30 y0)) 381 e_I (fun B hin k => pf_X9_116 (x := y0) B hk_t rfl dX9_steps_378 k) ?_
  have hT := TS_I (k := 30) (x := y0) hT hk_t (Or.inl rfl)
  have hk_t := kk_I (σ := σ) (a := t) (k := 30) (x := y0) hk_t
  refine ym 382 (fun B k => z_aload_n B dX9_steps_381 rfl 0 rfl k) ?_
  refine ym 384 (fun B k => z_iload B dX9_steps_382 3 rfl k) ?_
  by_cases c2 : x10 = 0
  · replace h := ite_p c2 h
    refine ym 396 (fun B k => z_if_eq (tgt := 396) B dX9_steps_384 (by decide) (fun _ => k) (fun q => absurd c2 q)) ?_
    refine ym 397 (fun B k => z_iconst (v := 0) B dX9_steps_396 (by decide) k) ?_
    refine y_sub [(0, .ref t), (8, .int x8), (10, .int x10)] [0, 2, 3] rfl ?_
    exact tb_X9_steps_397 h hT hk_t hz_x10
  · replace h := ite_n c2 h
    refine ym 387 (fun B k => z_if_eq (tgt := 396) B dX9_steps_384 (by decide) (fun q => absurd q c2) (fun _ => k)) ?_
    refine ym 388 (fun B k => z_aload_n B dX9_steps_387 rfl 0 rfl k) ?_
    refine ym 389 (fun B k => z_iload_n B dX9_steps_388 rfl 1 rfl k) ?_
    replace h := br_e h
    obtain ⟨r4, h3, h⟩ := h
    have m5 := ct_X9_latestNumber l (g := g) h3 hT hk_t
    refine yc_Vl (Al := [.int x1]) (rest := [.ref t]) 392 rfl cw_X9_200 cx_10 dX9_steps_389 m5 hk_t rfl (by decide) rfl (Nat.le_of_ble_eq_true rfl) ?_
    refine ym 393 (fun B k => z_l2i (v := r4.toInt32) B dX9_steps_392 rfl k) ?_
    refine ym 397 (fun B k => z_goto (tgt := 397) B dX9_steps_393 (by decide) k) ?_
    refine y_sub [(0, .ref t), (8, .int x8), (10, .int x10)] [0, 2, 3] rfl ?_
    exact tb_X9_steps_397 h hT hk_t hz_x10
set_option maxRecDepth 100000 in
set_option maxHeartbeats 4000000 in
theorem tb_X9_steps_359 {l : Launch} {g : gx_T} {σ : sx_T} {u : sx_T} {r : Int32} {As : Array Value} {n0 : Nat} {t : Nat} {x1 : Int32} {x8 : Int32} {y0 : Int32} {y1 : Int32} {y2 : Int32} {y3 : Int32} {y4 : Int32} {y5 : Int32} (h : fb_X9_steps_359 n0 σ t x1 x8 y0 y1 y2 y3 y4 y5 = some (r, u)) (hT : TS g σ) (hk_t : sx_K σ t = 11) (hz_y3 : y3 = 0 ∨ y3 = 1) : ZY l g cX9_steps RX9 "steps" (some .boolean) 12 3 78 0 0 false As (QM g As (Qxi g r u)) (r = 0 ∨ r = 1) u σ 359 [(0, .ref t), (1, .int x1), (8, .int x8)] [.int y0, .int y1, .int y2, .int y3, .int y4, .int y5, .ref t] := by
  unfold fb_X9_steps_359 at h
  refine ym 360 (fun B k => z_iadd B dX9_steps_359 k) ?_
  refine ym 361 (fun B k => z_i2l (v := (y1 + y0).toInt64) B dX9_steps_360 rfl k) ?_
  refine ym 362 (fun B k => z_iconst (v := 1) B dX9_steps_361 (by decide) k) ?_
  replace h := bd_e h
  obtain ⟨r2, u3, h1, h⟩ := h
  have m4 := ct_X9_meets l (g := g) h1 hT hk_t hz_y3 (Or.inr rfl)
  refine yc_Vi (Al := [.int y5, .int y4, .int y3, .int y2, .long ((y1 + y0).toInt64), .int 1]) (rest := []) 365 rfl cw_X9_164 cx_10 dX9_steps_362 m4 hk_t rfl (by decide) rfl (Nat.le_of_ble_eq_true rfl) ?_
  have hk_t := k_G m4.1.1 (by decide) hk_t
  have hT := m4.1.1.2.2.2
  have hz_r2 := m4.1.2
  refine ym 367 (fun B k => z_istore (lv' := [(10, .int r2), (0, .ref t), (1, .int x1), (8, .int x8)]) B dX9_steps_365 (by decide) rfl k) ?_
  refine ym 368 (fun B k => z_aload_n B dX9_steps_367 rfl 1 rfl k) ?_
  refine ym 370 (fun B k => z_iload B dX9_steps_368 0 rfl k) ?_
  by_cases c5 : r2 = 0
  · replace h := ite_p c5 h
    refine ym 377 (fun B k => z_if_eq (tgt := 377) B dX9_steps_370 (by decide) (fun _ => k) (fun q => absurd c5 q)) ?_
    refine ym 378 (fun B k => z_iconst (v := 0) B dX9_steps_377 (by decide) k) ?_
    refine y_sub [(0, .ref t), (1, .int x1), (8, .int x8), (10, .int r2)] [1, 2, 3, 0] rfl ?_
    exact tb_X9_steps_378 h hT hk_t hz_r2
  · replace h := ite_n c5 h
    refine ym 373 (fun B k => z_if_eq (tgt := 377) B dX9_steps_370 (by decide) (fun q => absurd q c5) (fun _ => k)) ?_
    refine ym 374 (fun B k => z_iconst (v := 2) B dX9_steps_373 (by decide) k) ?_
    refine ym 378 (fun B k => z_goto (tgt := 378) B dX9_steps_374 (by decide) k) ?_
    refine y_sub [(0, .ref t), (1, .int x1), (8, .int x8), (10, .int r2)] [1, 2, 3, 0] rfl ?_
    exact tb_X9_steps_378 h hT hk_t hz_r2
set_option maxRecDepth 100000 in
set_option maxHeartbeats 4000000 in
theorem tb_X9_steps_286 {l : Launch} {g : gx_T} {σ : sx_T} {u : sx_T} {r : Int32} {As : Array Value} {n0 : Nat} {t : Nat} {x8 : Int32} {x10 : Int32} {y0 : Int32} (h : fb_X9_steps_286 n0 σ t x8 x10 y0 = some (r, u)) (hT : TS g σ) (hk_t : sx_K σ t = 11) (hz_x10 : x10 = 0 ∨ x10 = 1) (hz_y0 : y0 = 0 ∨ y0 = 1) : ZY l g cX9_steps RX9 "steps" (some .boolean) 12 3 78 0 0 false As (QM g As (Qxi g r u)) (r = 0 ∨ r = 1) u σ 286 [(0, .ref t), (8, .int x8), (10, .int x10)] [.int y0, .ref t] := by
  unfold fb_X9_steps_286 at h
  have j1 := hk_t
  refine ymw (σ' := (wx_I σ t 37 y0)) 289 e_I (fun B hin k => pf_X9_134 (x := y0) B hk_t rfl dX9_steps_286 k) ?_
  have hT := TS_I (k := 37) (x := y0) hT hk_t (Or.inl rfl)
  have hk_t := kk_I (σ := σ) (a := t) (k := 37) (x := y0) hk_t
  refine ym 1085 (fun B k => z_goto (tgt := 1085) B dX9_steps_289 (by decide) k) ?_
  refine y_sub [(0, .ref t), (8, .int x8), (10, .int x10)] [0, 1, 2] rfl ?_
  exact tb_X9_steps_1085 h hT hk_t hz_x10
set_option maxRecDepth 100000 in
set_option maxHeartbeats 4000000 in
theorem tb_X9_steps_164 {l : Launch} {g : gx_T} {σ : sx_T} {u : sx_T} {r : Int32} {As : Array Value} {n0 : Nat} {t : Nat} {x1 : Int32} {x2 : Int32} {x3 : Int32} {x4 : Int32} {x5 : Int32} {x6 : Int32} {x7 : Int32} {x8 : Int32} {x9 : Int32} (h : fb_X9_steps_164 n0 σ t x1 x2 x3 x4 x5 x6 x7 x8 x9 = some (r, u)) (hT : TS g σ) (hk_t : sx_K σ t = 11) (hz_x3 : x3 = 0 ∨ x3 = 1) (hz_x7 : x7 = 0 ∨ x7 = 1) : ZY l g cX9_steps RX9 "steps" (some .boolean) 12 3 78 0 0 false As (QM g As (Qxi g r u)) (r = 0 ∨ r = 1) u σ 164 [(0, .ref t), (1, .int x1), (2, .int x2), (3, .int x3), (4, .int x4), (5, .int x5), (6, .int x6), (7, .int x7), (8, .int x8), (9, .int x9)] [] := by
  unfold fb_X9_steps_164 at h
  refine ym 165 (fun B k => z_iconst (v := 1) B dX9_steps_164 (by decide) k) ?_
  refine ym 167 (fun B k => z_istore (lv' := [(10, .int 1), (0, .ref t), (1, .int x1), (2, .int x2), (3, .int x3), (4, .int x4), (5, .int x5), (6, .int x6), (7, .int x7), (8, .int x8), (9, .int x9)]) B dX9_steps_165 (by decide) rfl k) ?_
  refine ym 169 (fun B k => z_iload B dX9_steps_167 6 rfl k) ?_
  by_cases c1 : x5 = 0
  · replace h := ite_p c1 h
    refine ym 252 (fun B k => z_tableIn (tgt := 252) B dX9_steps_169 (by rw [c1]; decide) (by rw [c1]; decide) (show _ = some (83 : Int) by rw [c1]; decide) (by decide) k) ?_
    refine ym 253 (fun B k => z_aload_n B dX9_steps_252 rfl 1 rfl k) ?_
    refine ym 254 (fun B k => z_iload_n B dX9_steps_253 rfl 2 rfl k) ?_
    refine ym 255 (fun B k => z_iload_n B dX9_steps_254 rfl 3 rfl k) ?_
    refine ym 256 (fun B k => z_iload_n B dX9_steps_255 rfl 4 rfl k) ?_
    refine ym 258 (fun B k => z_bipush (v := 13) B dX9_steps_256 (by decide) k) ?_
    refine ym 261 (fun B k => z_ldc2 (v := 10) B dX9_steps_258 wg_1247 k) ?_
    refine ym 262 (fun B k => z_aload_n B dX9_steps_261 rfl 1 rfl k) ?_
    refine ym 265 (fun B k => gf_X9_113 (x := (sx_I σ t 29)) B hk_t rfl dX9_steps_262 k) ?_
    refine ym 266 (fun B k => z_i2l (v := (sx_I σ t 29).toInt64) B dX9_steps_265 rfl k) ?_
    refine ym 267 (fun B k => z_lmul B dX9_steps_266 k) ?_
    refine ym 268 (fun B k => z_lconst (v := 1) B dX9_steps_267 (by decide) k) ?_
    refine ym 269 (fun B k => z_ladd B dX9_steps_268 k) ?_
    refine ym 270 (fun B k => z_iconst (v := 0) B dX9_steps_269 (by decide) k) ?_
    replace h := bd_e h
    obtain ⟨r3, u4, h2, h⟩ := h
    have m5 := ct_X9_meets l (g := g) h2 hT hk_t hz_x3 (Or.inl rfl)
    refine yc_Vi (Al := [.int x1, .int x2, .int x3, .int 13, .long ((10 * ((sx_I σ t 29).toInt64)) + 1), .int 0]) (rest := []) 273 rfl cw_X9_164 cx_10 dX9_steps_270 m5 hk_t rfl (by decide) rfl (Nat.le_of_ble_eq_true rfl) ?_
    have hk_t := k_G m5.1.1 (by decide) hk_t
    have hT := m5.1.1.2.2.2
    have hz_r3 := m5.1.2
    refine ym 275 (fun B k => z_istore (lv' := [(10, .int r3), (0, .ref t), (1, .int x1), (2, .int x2), (3, .int x3), (4, .int x4), (5, .int x5), (6, .int x6), (7, .int x7), (8, .int x8), (9, .int x9)]) B dX9_steps_273 (by decide) rfl k) ?_
    refine ym 276 (fun B k => z_aload_n B dX9_steps_275 rfl 1 rfl k) ?_
    refine ym 278 (fun B k => z_iload B dX9_steps_276 0 rfl k) ?_
    by_cases c6 : r3 = 0
    · replace h := ite_p c6 h
      refine ym 285 (fun B k => z_if_eq (tgt := 285) B dX9_steps_278 (by decide) (fun _ => k) (fun q => absurd c6 q)) ?_
      refine ym 286 (fun B k => z_iconst (v := 0) B dX9_steps_285 (by decide) k) ?_
      refine y_sub [(0, .ref t), (8, .int x8), (10, .int r3)] [1, 9, 0] rfl ?_
      exact tb_X9_steps_286 h hT hk_t hz_r3 (Or.inl rfl)
    · replace h := ite_n c6 h
      refine ym 281 (fun B k => z_if_eq (tgt := 285) B dX9_steps_278 (by decide) (fun q => absurd q c6) (fun _ => k)) ?_
      refine ym 282 (fun B k => z_iconst (v := 1) B dX9_steps_281 (by decide) k) ?_
      refine ym 286 (fun B k => z_goto (tgt := 286) B dX9_steps_282 (by decide) k) ?_
      refine y_sub [(0, .ref t), (8, .int x8), (10, .int r3)] [1, 9, 0] rfl ?_
      exact tb_X9_steps_286 h hT hk_t hz_r3 (Or.inr rfl)
  replace h := ite_n c1 h
  by_cases c7 : x5 = 1
  · replace h := ite_p c7 h
    refine ym 292 (fun B k => z_tableIn (tgt := 292) B dX9_steps_169 (by rw [c7]; decide) (by rw [c7]; decide) (show _ = some (123 : Int) by rw [c7]; decide) (by decide) k) ?_
    refine ym 293 (fun B k => z_aload_n B dX9_steps_292 rfl 1 rfl k) ?_
    refine ym 294 (fun B k => z_iload_n B dX9_steps_293 rfl 2 rfl k) ?_
    refine ym 295 (fun B k => z_iload_n B dX9_steps_294 rfl 3 rfl k) ?_
    refine ym 296 (fun B k => z_iload_n B dX9_steps_295 rfl 4 rfl k) ?_
    refine ym 297 (fun B k => z_iconst (v := 1) B dX9_steps_296 (by decide) k) ?_
    refine ym 299 (fun B k => z_iload B dX9_steps_297 7 rfl k) ?_
    refine ym 300 (fun B k => z_i2l (v := x6.toInt64) B dX9_steps_299 rfl k) ?_
    refine ym 301 (fun B k => z_iconst (v := 0) B dX9_steps_300 (by decide) k) ?_
    replace h := bd_e h
    obtain ⟨r9, u10, h8, h⟩ := h
    have m11 := ct_X9_meets l (g := g) h8 hT hk_t hz_x3 (Or.inl rfl)
    refine yc_Vi (Al := [.int x1, .int x2, .int x3, .int 1, .long x6.toInt64, .int 0]) (rest := []) 304 rfl cw_X9_164 cx_10 dX9_steps_301 m11 hk_t rfl (by decide) rfl (Nat.le_of_ble_eq_true rfl) ?_
    have hk_t := k_G m11.1.1 (by decide) hk_t
    have hT := m11.1.1.2.2.2
    have hz_r9 := m11.1.2
    refine ym 306 (fun B k => z_istore (lv' := [(10, .int r9), (0, .ref t), (1, .int x1), (2, .int x2), (3, .int x3), (4, .int x4), (5, .int x5), (6, .int x6), (7, .int x7), (8, .int x8), (9, .int x9)]) B dX9_steps_304 (by decide) rfl k) ?_
    refine ym 308 (fun B k => z_iload B dX9_steps_306 0 rfl k) ?_
    by_cases c12 : r9 = 0
    · replace h := ite_p c12 h
      refine ym 1085 (fun B k => z_if_eq (tgt := 1085) B dX9_steps_308 (by decide) (fun _ => k) (fun q => absurd c12 q)) ?_
      refine y_sub [(0, .ref t), (8, .int x8), (10, .int r9)] [1, 9, 0] rfl ?_
      exact tb_X9_steps_1085 h hT hk_t hz_r9
    · replace h := ite_n c12 h
      refine ym 311 (fun B k => z_if_eq (tgt := 1085) B dX9_steps_308 (by decide) (fun q => absurd q c12) (fun _ => k)) ?_
      refine ym 312 (fun B k => z_aload_n B dX9_steps_311 rfl 1 rfl k) ?_
      refine ym 313 (fun B k => z_iconst (v := 1) B dX9_steps_312 (by decide) k) ?_
      have j13 := hk_t
      refine ymw (σ' := (wx_I u10 t 30 1)) 316 e_I (fun B hin k => pf_X9_116 (x := 1) B hk_t rfl dX9_steps_313 k) ?_
      have hT := TS_I (k := 30) (x := 1) hT hk_t (Or.inl rfl)
      have hk_t := kk_I (σ := u10) (a := t) (k := 30) (x := 1) hk_t
      refine ym 317 (fun B k => z_aload_n B dX9_steps_316 rfl 1 rfl k) ?_
      refine ym 319 (fun B k => z_iload B dX9_steps_317 7 rfl k) ?_
      have j14 := hk_t
      refine ymw (σ' := (wx_I (wx_I u10 t 30 1) t 31 x6)) 322 e_I (fun B hin k => pf_X9_119 (x := x6) B hk_t rfl dX9_steps_319 k) ?_
      have hT := TS_I (k := 31) (x := x6) hT hk_t (Or.inl rfl)
      have hk_t := kk_I (σ := (wx_I u10 t 30 1)) (a := t) (k := 31) (x := x6) hk_t
      refine ym 324 (fun B k => z_iload B dX9_steps_322 8 rfl k) ?_
      by_cases c15 : x7 = 0
      · replace h := ite_p c15 h
        refine ym 1085 (fun B k => z_if_eq (tgt := 1085) B dX9_steps_324 (by decide) (fun _ => k) (fun q => absurd c15 q)) ?_
        refine y_sub [(0, .ref t), (8, .int x8), (10, .int r9)] [1, 9, 0] rfl ?_
        exact tb_X9_steps_1085 h hT hk_t hz_r9
      · replace h := ite_n c15 h
        refine ym 327 (fun B k => z_if_eq (tgt := 1085) B dX9_steps_324 (by decide) (fun q => absurd q c15) (fun _ => k)) ?_
        refine ym 328 (fun B k => z_aload_n B dX9_steps_327 rfl 1 rfl k) ?_
        refine ym 329 (fun B k => z_iload_n B dX9_steps_328 rfl 2 rfl k) ?_
        refine ym 331 (fun B k => z_iload B dX9_steps_329 7 rfl k) ?_
        replace h := bd_e h
        obtain ⟨r17, u18, h16, h⟩ := h
        have m19 := ct_X9_makesTask l (g := g) h16 hT hk_t
        refine yc_Vi (Al := [.int x1, .int x6]) (rest := []) 334 rfl cw_X9_189 cx_10 dX9_steps_331 m19 hk_t rfl (by decide) rfl (Nat.le_of_ble_eq_true rfl) ?_
        have hk_t := k_G m19.1.1 (by decide) hk_t
        have hT := m19.1.1.2.2.2
        refine ym 335 (fun B k => z_pop B dX9_steps_334 rfl k) ?_
        refine ym 1085 (fun B k => z_goto (tgt := 1085) B dX9_steps_335 (by decide) k) ?_
        refine y_sub [(0, .ref t), (8, .int x8), (10, .int r9)] [1, 9, 0] rfl ?_
        exact tb_X9_steps_1085 h hT hk_t hz_r9
  replace h := ite_n c7 h
  by_cases c20 : x5 = 2
  · replace h := ite_p c20 h
    refine ym 338 (fun B k => z_tableIn (tgt := 338) B dX9_steps_169 (by rw [c20]; decide) (by rw [c20]; decide) (show _ = some (169 : Int) by rw [c20]; decide) (by decide) k) ?_
    refine ym 339 (fun B k => z_aload_n B dX9_steps_338 rfl 1 rfl k) ?_
    refine ym 340 (fun B k => z_iload_n B dX9_steps_339 rfl 2 rfl k) ?_
    refine ym 341 (fun B k => z_iload_n B dX9_steps_340 rfl 3 rfl k) ?_
    refine ym 342 (fun B k => z_iload_n B dX9_steps_341 rfl 4 rfl k) ?_
    refine ym 343 (fun B k => z_iconst (v := 4) B dX9_steps_342 (by decide) k) ?_
    refine ym 344 (fun B k => z_aload_n B dX9_steps_343 rfl 1 rfl k) ?_
    refine ym 347 (fun B k => gf_X9_197 (x := (sx_I σ t 1)) B hk_t rfl dX9_steps_344 k) ?_
    refine ym 349 (fun B k => z_iload B dX9_steps_347 7 rfl k) ?_
    refine ym 350 (fun B k => z_iconst (v := 1) B dX9_steps_349 (by decide) k) ?_
    by_cases c21 : 1 ≤ x6
    · replace h := ite_p c21 h
      refine ym 357 (fun B k => z_icmp_ge (tgt := 357) B dX9_steps_350 (by decide) (fun _ => k) (fun q => absurd c21 q)) ?_
      refine ym 359 (fun B k => z_iload B dX9_steps_357 7 rfl k) ?_
      refine y_sub [(0, .ref t), (1, .int x1), (8, .int x8)] [1, 2, 9] rfl ?_
      exact tb_X9_steps_359 h hT hk_t hz_x3
    · replace h := ite_n c21 h
      refine ym 353 (fun B k => z_icmp_ge (tgt := 357) B dX9_steps_350 (by decide) (fun q => absurd q c21) (fun _ => k)) ?_
      refine ym 354 (fun B k => z_iconst (v := 1) B dX9_steps_353 (by decide) k) ?_
      refine ym 359 (fun B k => z_goto (tgt := 359) B dX9_steps_354 (by decide) k) ?_
      refine y_sub [(0, .ref t), (1, .int x1), (8, .int x8)] [1, 2, 9] rfl ?_
      exact tb_X9_steps_359 h hT hk_t hz_x3
  replace h := ite_n c20 h
  by_cases c22 : x5 = 3
  · replace h := ite_p c22 h
    refine ym 411 (fun B k => z_tableIn (tgt := 411) B dX9_steps_169 (by rw [c22]; decide) (by rw [c22]; decide) (show _ = some (242 : Int) by rw [c22]; decide) (by decide) k) ?_
    refine ym 412 (fun B k => z_aload_n B dX9_steps_411 rfl 1 rfl k) ?_
    refine ym 414 (fun B k => z_iload B dX9_steps_412 10 rfl k) ?_
    refine ym 415 (fun B k => z_iconst (v := (-1)) B dX9_steps_414 (by decide) k) ?_
    by_cases c23 : x9 = (-1)
    · replace h := ite_p c23 h
      refine ym 418 (fun B k => z_icmp_ne (tgt := 425) B dX9_steps_415 (by decide) (fun q => absurd c23 q) (fun _ => k)) ?_
      refine ym 419 (fun B k => z_aload_n B dX9_steps_418 rfl 1 rfl k) ?_
      refine ym 422 (fun B k => gf_X9_113 (x := (sx_I σ t 29)) B hk_t rfl dX9_steps_419 k) ?_
      refine ym 431 (fun B k => z_goto (tgt := 431) B dX9_steps_422 (by decide) k) ?_
      refine y_sub [(0, .ref t), (6, .int x6), (8, .int x8), (9, .int x9), (10, .int 1)] [1, 7, 9, 10, 0] rfl ?_
      exact tb_X9_steps_431 h hT hk_t (Or.inr rfl)
    · replace h := ite_n c23 h
      refine ym 425 (fun B k => z_icmp_ne (tgt := 425) B dX9_steps_415 (by decide) (fun _ => k) (fun q => absurd q c23)) ?_
      refine ym 426 (fun B k => z_aload_n B dX9_steps_425 rfl 1 rfl k) ?_
      refine ym 428 (fun B k => z_iload B dX9_steps_426 10 rfl k) ?_
      replace h := bd_e h
      obtain ⟨r25, u26, h24, h⟩ := h
      have m27 := ct_X9_uses l (g := g) h24 hT hk_t
      refine yc_Vi (Al := [.int x9]) (rest := [.ref t]) 431 rfl cw_X9_153 cx_10 dX9_steps_428 m27 hk_t rfl (by decide) rfl (Nat.le_of_ble_eq_true rfl) ?_
      have hk_t := k_G m27.1.1 (by decide) hk_t
      have hT := m27.1.1.2.2.2
      refine y_sub [(0, .ref t), (6, .int x6), (8, .int x8), (9, .int x9), (10, .int 1)] [1, 7, 9, 10, 0] rfl ?_
      exact tb_X9_steps_431 h hT hk_t (Or.inr rfl)
  replace h := ite_n c22 h
  by_cases c28 : x5 = 4
  · replace h := ite_p c28 h
    refine ym 458 (fun B k => z_tableIn (tgt := 458) B dX9_steps_169 (by rw [c28]; decide) (by rw [c28]; decide) (show _ = some (289 : Int) by rw [c28]; decide) (by decide) k) ?_
    refine ym 460 (fun B k => z_iload B dX9_steps_458 10 rfl k) ?_
    refine ym 461 (fun B k => z_iconst (v := (-1)) B dX9_steps_460 (by decide) k) ?_
    by_cases c29 : x9 = (-1)
    · replace h := ite_p c29 h
      refine ym 479 (fun B k => z_icmp_eq (tgt := 479) B dX9_steps_461 (by decide) (fun _ => k) (fun q => absurd c29 q)) ?_
      refine ym 480 (fun B k => z_aload_n B dX9_steps_479 rfl 1 rfl k) ?_
      refine ym 481 (fun B k => z_iload_n B dX9_steps_480 rfl 2 rfl k) ?_
      refine ym 482 (fun B k => z_iload_n B dX9_steps_481 rfl 3 rfl k) ?_
      refine ym 483 (fun B k => z_iload_n B dX9_steps_482 rfl 4 rfl k) ?_
      refine ym 484 (fun B k => z_iconst (v := 4) B dX9_steps_483 (by decide) k) ?_
      refine ym 485 (fun B k => z_aload_n B dX9_steps_484 rfl 1 rfl k) ?_
      refine ym 488 (fun B k => gf_X9_197 (x := (sx_I σ t 1)) B hk_t rfl dX9_steps_485 k) ?_
      refine ym 489 (fun B k => z_aload_n B dX9_steps_488 rfl 1 rfl k) ?_
      replace h := qv_e h
      obtain ⟨w30, e_w30, h⟩ := h
      have hq_w30 : rk σ w30 13 := rk_T hT hk_t rfl (by decide) e_w30
      refine ym 492 (fun B k => gf_X9_20 (x := w30) B hk_t e_w30 dX9_steps_489 k) ?_
      refine ym 494 (fun B k => z_iload B dX9_steps_492 5 rfl k) ?_
      replace h := bq_e h
      obtain ⟨a31, rfl, h⟩ := h
      have hk_a31 := hq_w30 a31 rfl
      replace h := ck_e h
      obtain ⟨hi_32, h⟩ := h
      refine ym 495 (fun B k => z_iald (j := (ti x4)) (x := (sx_I σ a31 (ti x4))) B hk_a31 rfl hi_32 rfl dX9_steps_494 k) ?_
      refine ym 496 (fun B k => z_iconst (v := 1) B dX9_steps_495 (by decide) k) ?_
      by_cases c33 : 1 ≤ (sx_I σ a31 (ti x4))
      · replace h := ite_p c33 h
        refine ym 503 (fun B k => z_icmp_ge (tgt := 503) B dX9_steps_496 (by decide) (fun _ => k) (fun q => absurd c33 q)) ?_
        refine ym 504 (fun B k => z_aload_n B dX9_steps_503 rfl 1 rfl k) ?_
        replace h := qv_e h
        obtain ⟨w34, e_w34, h⟩ := h
        have hq_w34 : rk σ w34 13 := rk_T hT hk_t rfl (by decide) e_w34
        refine ym 507 (fun B k => gf_X9_20 (x := w34) B hk_t e_w34 dX9_steps_504 k) ?_
        refine ym 509 (fun B k => z_iload B dX9_steps_507 5 rfl k) ?_
        replace h := bq_e h
        obtain ⟨a35, rfl, h⟩ := h
        have hk_a35 := hq_w34 a35 rfl
        replace h := ck_e h
        obtain ⟨hi_36, h⟩ := h
        refine ym 510 (fun B k => z_iald (j := (ti x4)) (x := (sx_I σ a35 (ti x4))) B hk_a35 rfl hi_36 rfl dX9_steps_509 k) ?_
        refine y_sub [(0, .ref t), (1, .int x1), (6, .int x6), (8, .int x8)] [1, 2, 7, 9] rfl ?_
        exact tb_X9_steps_510 h hT hk_t hz_x3
      · replace h := ite_n c33 h
        refine ym 499 (fun B k => z_icmp_ge (tgt := 503) B dX9_steps_496 (by decide) (fun q => absurd q c33) (fun _ => k)) ?_
        refine ym 500 (fun B k => z_iconst (v := 1) B dX9_steps_499 (by decide) k) ?_
        refine ym 510 (fun B k => z_goto (tgt := 510) B dX9_steps_500 (by decide) k) ?_
        refine y_sub [(0, .ref t), (1, .int x1), (6, .int x6), (8, .int x8)] [1, 2, 7, 9] rfl ?_
        exact tb_X9_steps_510 h hT hk_t hz_x3
    · replace h := ite_n c29 h
      refine ym 464 (fun B k => z_icmp_eq (tgt := 479) B dX9_steps_461 (by decide) (fun q => absurd q c29) (fun _ => k)) ?_
      refine ym 465 (fun B k => z_aload_n B dX9_steps_464 rfl 1 rfl k) ?_
      refine ym 467 (fun B k => z_iload B dX9_steps_465 10 rfl k) ?_
      replace h := bd_e h
      obtain ⟨r38, u39, h37, h⟩ := h
      have m40 := ct_X9_uses l (g := g) h37 hT hk_t
      refine yc_Vi (Al := [.int x9]) (rest := []) 470 rfl cw_X9_153 cx_10 dX9_steps_467 m40 hk_t rfl (by decide) rfl (Nat.le_of_ble_eq_true rfl) ?_
      have hk_t := k_G m40.1.1 (by decide) hk_t
      have hT := m40.1.1.2.2.2
      refine ym 471 (fun B k => z_pop B dX9_steps_470 rfl k) ?_
      refine ym 472 (fun B k => z_aload_n B dX9_steps_471 rfl 1 rfl k) ?_
      refine ym 473 (fun B k => z_iconst (v := 1) B dX9_steps_472 (by decide) k) ?_
      have j41 := hk_t
      refine ymw (σ' := (wx_I u39 t 29 1)) 476 e_I (fun B hin k => pf_X9_113 (x := 1) B hk_t rfl dX9_steps_473 k) ?_
      have hT := TS_I (k := 29) (x := 1) hT hk_t (Or.inl rfl)
      have hk_t := kk_I (σ := u39) (a := t) (k := 29) (x := 1) hk_t
      refine ym 1085 (fun B k => z_goto (tgt := 1085) B dX9_steps_476 (by decide) k) ?_
      refine ym 1087 (fun B k => z_iload B dX9_steps_1085 0 rfl k) ?_
      refine ym 1113 (fun B k => z_if_ne (tgt := 1113) B dX9_steps_1087 (by decide) (fun _ => k) (fun q => absurd q (by decide))) ?_
      refine ym 1115 (fun B k => z_iload B dX9_steps_1113 0 rfl k) ?_
      obtain ⟨rfl, rfl⟩ := Prod.mk.inj (Option.some.inj h)
      exact yr_z hT (Or.inr rfl) rfl (Or.inr rfl) dX9_steps_1115
  replace h := ite_n c28 h
  by_cases c42 : x5 = 5
  · replace h := ite_p c42 h
    refine ym 560 (fun B k => z_tableIn (tgt := 560) B dX9_steps_169 (by rw [c42]; decide) (by rw [c42]; decide) (show _ = some (391 : Int) by rw [c42]; decide) (by decide) k) ?_
    refine ym 561 (fun B k => z_aload_n B dX9_steps_560 rfl 1 rfl k) ?_
    refine ym 562 (fun B k => z_aload_n B dX9_steps_561 rfl 1 rfl k) ?_
    refine ym 565 (fun B k => gf_X9_113 (x := (sx_I σ t 29)) B hk_t rfl dX9_steps_562 k) ?_
    by_cases c43 : (sx_I σ t 29) = 0
    · replace h := ite_p c43 h
      refine ym 568 (fun B k => z_if_ne (tgt := 576) B dX9_steps_565 (by decide) (fun q => absurd c43 q) (fun _ => k)) ?_
      refine ym 570 (fun B k => z_iload B dX9_steps_568 7 rfl k) ?_
      refine ym 572 (fun B k => z_bipush (v := 20) B dX9_steps_570 (by decide) k) ?_
      refine ym 573 (fun B k => z_irem B dX9_steps_572 (by decide) k) ?_
      refine ym 580 (fun B k => z_goto (tgt := 580) B dX9_steps_573 (by decide) k) ?_
      refine y_sub [(0, .ref t), (8, .int x8), (10, .int 1)] [1, 9, 0] rfl ?_
      exact tb_X9_steps_580 h hT hk_t (Or.inr rfl)
    · replace h := ite_n c43 h
      refine ym 576 (fun B k => z_if_ne (tgt := 576) B dX9_steps_565 (by decide) (fun _ => k) (fun q => absurd q c43)) ?_
      refine ym 577 (fun B k => z_aload_n B dX9_steps_576 rfl 1 rfl k) ?_
      refine ym 580 (fun B k => gf_X9_110 (x := (sx_I σ t 28)) B hk_t rfl dX9_steps_577 k) ?_
      refine y_sub [(0, .ref t), (8, .int x8), (10, .int 1)] [1, 9, 0] rfl ?_
      exact tb_X9_steps_580 h hT hk_t (Or.inr rfl)
  replace h := ite_n c42 h
  by_cases c44 : x5 = 6
  · replace h := ite_p c44 h
    refine ym 586 (fun B k => z_tableIn (tgt := 586) B dX9_steps_169 (by rw [c44]; decide) (by rw [c44]; decide) (show _ = some (417 : Int) by rw [c44]; decide) (by decide) k) ?_
    refine ym 587 (fun B k => z_aload_n B dX9_steps_586 rfl 1 rfl k) ?_
    refine ym 589 (fun B k => z_iload B dX9_steps_587 7 rfl k) ?_
    refine ym 591 (fun B k => z_bipush (v := 20) B dX9_steps_589 (by decide) k) ?_
    refine ym 592 (fun B k => z_irem B dX9_steps_591 (by decide) k) ?_
    have j45 := hk_t
    refine ymw (σ' := (wx_I σ t 28 (jrem x6 20))) 595 e_I (fun B hin k => pf_X9_110 (x := (jrem x6 20)) B hk_t rfl dX9_steps_592 k) ?_
    have hT := TS_I (k := 28) (x := (jrem x6 20)) hT hk_t (Or.inl rfl)
    have hk_t := kk_I (σ := σ) (a := t) (k := 28) (x := (jrem x6 20)) hk_t
    refine ym 1085 (fun B k => z_goto (tgt := 1085) B dX9_steps_595 (by decide) k) ?_
    refine ym 1087 (fun B k => z_iload B dX9_steps_1085 0 rfl k) ?_
    refine ym 1113 (fun B k => z_if_ne (tgt := 1113) B dX9_steps_1087 (by decide) (fun _ => k) (fun q => absurd q (by decide))) ?_
    refine ym 1115 (fun B k => z_iload B dX9_steps_1113 0 rfl k) ?_
    obtain ⟨rfl, rfl⟩ := Prod.mk.inj (Option.some.inj h)
    exact yr_z hT (Or.inr rfl) rfl (Or.inr rfl) dX9_steps_1115
  replace h := ite_n c44 h
  by_cases c46 : x5 = 7
  · replace h := ite_p c46 h
    refine ym 598 (fun B k => z_tableIn (tgt := 598) B dX9_steps_169 (by rw [c46]; decide) (by rw [c46]; decide) (show _ = some (429 : Int) by rw [c46]; decide) (by decide) k) ?_
    refine ym 599 (fun B k => z_aload_n B dX9_steps_598 rfl 1 rfl k) ?_
    refine ym 600 (fun B k => z_dup B dX9_steps_599 rfl k) ?_
    refine ym 603 (fun B k => gf_X9_113 (x := (sx_I σ t 29)) B hk_t rfl dX9_steps_600 k) ?_
    refine ym 605 (fun B k => z_iload B dX9_steps_603 7 rfl k) ?_
    refine ym 606 (fun B k => z_iadd B dX9_steps_605 k) ?_
    have j47 := hk_t
    refine ymw (σ' := (wx_I σ t 29 ((sx_I σ t 29) + x6))) 609 e_I (fun B hin k => pf_X9_113 (x := ((sx_I σ t 29) + x6)) B hk_t rfl dX9_steps_606 k) ?_
    have hT := TS_I (k := 29) (x := ((sx_I σ t 29) + x6)) hT hk_t (Or.inl rfl)
    have hk_t := kk_I (σ := σ) (a := t) (k := 29) (x := ((sx_I σ t 29) + x6)) hk_t
    refine ym 1085 (fun B k => z_goto (tgt := 1085) B dX9_steps_609 (by decide) k) ?_
    refine ym 1087 (fun B k => z_iload B dX9_steps_1085 0 rfl k) ?_
    refine ym 1113 (fun B k => z_if_ne (tgt := 1113) B dX9_steps_1087 (by decide) (fun _ => k) (fun q => absurd q (by decide))) ?_
    refine ym 1115 (fun B k => z_iload B dX9_steps_1113 0 rfl k) ?_
    obtain ⟨rfl, rfl⟩ := Prod.mk.inj (Option.some.inj h)
    exact yr_z hT (Or.inr rfl) rfl (Or.inr rfl) dX9_steps_1115
  replace h := ite_n c46 h
  by_cases c48 : x5 = 8
  · replace h := ite_p c48 h
    refine ym 612 (fun B k => z_tableIn (tgt := 612) B dX9_steps_169 (by rw [c48]; decide) (by rw [c48]; decide) (show _ = some (443 : Int) by rw [c48]; decide) (by decide) k) ?_
    refine ym 613 (fun B k => z_aload_n B dX9_steps_612 rfl 1 rfl k) ?_
    refine ym 614 (fun B k => z_dup B dX9_steps_613 rfl k) ?_
    refine ym 617 (fun B k => gf_X9_113 (x := (sx_I σ t 29)) B hk_t rfl dX9_steps_614 k) ?_
    refine ym 619 (fun B k => z_iload B dX9_steps_617 7 rfl k) ?_
    refine ym 620 (fun B k => z_isub B dX9_steps_619 k) ?_
    have j49 := hk_t
    refine ymw (σ' := (wx_I σ t 29 ((sx_I σ t 29) - x6))) 623 e_I (fun B hin k => pf_X9_113 (x := ((sx_I σ t 29) - x6)) B hk_t rfl dX9_steps_620 k) ?_
    have hT := TS_I (k := 29) (x := ((sx_I σ t 29) - x6)) hT hk_t (Or.inl rfl)
    have hk_t := kk_I (σ := σ) (a := t) (k := 29) (x := ((sx_I σ t 29) - x6)) hk_t
    refine ym 1085 (fun B k => z_goto (tgt := 1085) B dX9_steps_623 (by decide) k) ?_
    refine ym 1087 (fun B k => z_iload B dX9_steps_1085 0 rfl k) ?_
    refine ym 1113 (fun B k => z_if_ne (tgt := 1113) B dX9_steps_1087 (by decide) (fun _ => k) (fun q => absurd q (by decide))) ?_
    refine ym 1115 (fun B k => z_iload B dX9_steps_1113 0 rfl k) ?_
    obtain ⟨rfl, rfl⟩ := Prod.mk.inj (Option.some.inj h)
    exact yr_z hT (Or.inr rfl) rfl (Or.inr rfl) dX9_steps_1115
  replace h := ite_n c48 h
  by_cases c50 : x5 = 9
  · replace h := ite_p c50 h
    refine ym 626 (fun B k => z_tableIn (tgt := 626) B dX9_steps_169 (by rw [c50]; decide) (by rw [c50]; decide) (show _ = some (457 : Int) by rw [c50]; decide) (by decide) k) ?_
    refine ym 627 (fun B k => z_aload_n B dX9_steps_626 rfl 1 rfl k) ?_
    refine ym 628 (fun B k => z_iload_n B dX9_steps_627 rfl 2 rfl k) ?_
    refine ym 629 (fun B k => z_iload_n B dX9_steps_628 rfl 3 rfl k) ?_
    refine ym 630 (fun B k => z_iload_n B dX9_steps_629 rfl 4 rfl k) ?_
    refine ym 632 (fun B k => z_bipush (v := 7) B dX9_steps_630 (by decide) k) ?_
    refine ym 634 (fun B k => z_iload B dX9_steps_632 7 rfl k) ?_
    refine ym 636 (fun B k => z_bipush (v := 6) B dX9_steps_634 (by decide) k) ?_
    refine ym 637 (fun B k => z_irem B dX9_steps_636 (by decide) k) ?_
    refine ym 638 (fun B k => z_iload_n B dX9_steps_637 rfl 2 rfl k) ?_
    refine ym 639 (fun B k => z_iconst (v := (-1)) B dX9_steps_638 (by decide) k) ?_
    replace h := bd_e h
    obtain ⟨r52, u53, h51, h⟩ := h
    have m54 := ct_X9_starts l (g := g) h51 hT hk_t hz_x3
    refine yc_Vi (Al := [.int x1, .int x2, .int x3, .int 7, .int (jrem x6 6), .int x1, .int (-1)]) (rest := []) 642 rfl cw_X9_207 cx_10 dX9_steps_639 m54 hk_t rfl (by decide) rfl (Nat.le_of_ble_eq_true rfl) ?_
    have hk_t := k_G m54.1.1 (by decide) hk_t
    have hT := m54.1.1.2.2.2
    have hz_r52 := m54.1.2
    refine ym 644 (fun B k => z_istore (lv' := [(10, .int r52), (0, .ref t), (1, .int x1), (2, .int x2), (3, .int x3), (4, .int x4), (5, .int x5), (6, .int x6), (7, .int x7), (8, .int x8), (9, .int x9)]) B dX9_steps_642 (by decide) rfl k) ?_
    refine ym 645 (fun B k => z_aload_n B dX9_steps_644 rfl 1 rfl k) ?_
    refine ym 647 (fun B k => z_iload B dX9_steps_645 0 rfl k) ?_
    by_cases c55 : r52 = 0
    · replace h := ite_p c55 h
      refine ym 664 (fun B k => z_if_eq (tgt := 664) B dX9_steps_647 (by decide) (fun _ => k) (fun q => absurd c55 q)) ?_
      refine y_sub [(0, .ref t), (1, .int x1), (8, .int x8), (10, .int r52)] [1, 2, 9, 0] rfl ?_
      exact tb_X9_steps_664 h hT hk_t hz_r52
    · replace h := ite_n c55 h
      refine ym 650 (fun B k => z_if_eq (tgt := 664) B dX9_steps_647 (by decide) (fun q => absurd q c55) (fun _ => k)) ?_
      refine ym 651 (fun B k => z_aload_n B dX9_steps_650 rfl 1 rfl k) ?_
      refine ym 652 (fun B k => z_iload_n B dX9_steps_651 rfl 2 rfl k) ?_
      replace h := br_e h
      obtain ⟨r57, h56, h⟩ := h
      have m58 := ct_X9_latestNumber l (g := g) h56 hT hk_t
      refine yc_Vl (Al := [.int x1]) (rest := [.ref t]) 655 rfl cw_X9_200 cx_10 dX9_steps_652 m58 hk_t rfl (by decide) rfl (Nat.le_of_ble_eq_true rfl) ?_
      refine ym 656 (fun B k => z_lconst (v := 0) B dX9_steps_655 (by decide) k) ?_
      refine ym 657 (fun B k => z_lcmp (v := lg_cmp r57 0) B dX9_steps_656 rfl k) ?_
      by_cases c59 : (lg_cmp r57 0) < 0
      · replace h := ite_p c59 h
        refine ym 664 (fun B k => z_if_lt (tgt := 664) B dX9_steps_657 (by decide) (fun _ => k) (fun q => absurd c59 q)) ?_
        refine y_sub [(0, .ref t), (1, .int x1), (8, .int x8), (10, .int r52)] [1, 2, 9, 0] rfl ?_
        exact tb_X9_steps_664 h hT hk_t hz_r52
      · replace h := ite_n c59 h
        refine ym 660 (fun B k => z_if_lt (tgt := 664) B dX9_steps_657 (by decide) (fun q => absurd q c59) (fun _ => k)) ?_
        refine ym 661 (fun B k => z_iconst (v := 5) B dX9_steps_660 (by decide) k) ?_
        refine ym 665 (fun B k => z_goto (tgt := 665) B dX9_steps_661 (by decide) k) ?_
        refine y_sub [(0, .ref t), (1, .int x1), (8, .int x8), (10, .int r52)] [1, 2, 9, 0] rfl ?_
        exact tb_X9_steps_665 h hT hk_t hz_r52
  replace h := ite_n c50 h
  by_cases c60 : x5 = 10
  · replace h := ite_p c60 h
    refine ym 717 (fun B k => z_tableIn (tgt := 717) B dX9_steps_169 (by rw [c60]; decide) (by rw [c60]; decide) (show _ = some (548 : Int) by rw [c60]; decide) (by decide) k) ?_
    refine ym 718 (fun B k => z_aload_n B dX9_steps_717 rfl 1 rfl k) ?_
    refine ym 719 (fun B k => z_iload_n B dX9_steps_718 rfl 2 rfl k) ?_
    refine ym 720 (fun B k => z_iload_n B dX9_steps_719 rfl 3 rfl k) ?_
    refine ym 721 (fun B k => z_iload_n B dX9_steps_720 rfl 4 rfl k) ?_
    refine ym 723 (fun B k => z_bipush (v := 14) B dX9_steps_721 (by decide) k) ?_
    refine ym 725 (fun B k => z_iload B dX9_steps_723 7 rfl k) ?_
    refine ym 727 (fun B k => z_bipush (v := 6) B dX9_steps_725 (by decide) k) ?_
    refine ym 728 (fun B k => z_irem B dX9_steps_727 (by decide) k) ?_
    refine ym 729 (fun B k => z_iconst (v := (-1)) B dX9_steps_728 (by decide) k) ?_
    refine ym 730 (fun B k => z_iconst (v := (-1)) B dX9_steps_729 (by decide) k) ?_
    replace h := bd_e h
    obtain ⟨r62, u63, h61, h⟩ := h
    have m64 := ct_X9_starts l (g := g) h61 hT hk_t hz_x3
    refine yc_Vi (Al := [.int x1, .int x2, .int x3, .int 14, .int (jrem x6 6), .int (-1), .int (-1)]) (rest := []) 733 rfl cw_X9_207 cx_10 dX9_steps_730 m64 hk_t rfl (by decide) rfl (Nat.le_of_ble_eq_true rfl) ?_
    have hk_t := k_G m64.1.1 (by decide) hk_t
    have hT := m64.1.1.2.2.2
    have hz_r62 := m64.1.2
    refine ym 735 (fun B k => z_istore (lv' := [(10, .int r62), (0, .ref t), (1, .int x1), (2, .int x2), (3, .int x3), (4, .int x4), (5, .int x5), (6, .int x6), (7, .int x7), (8, .int x8), (9, .int x9)]) B dX9_steps_733 (by decide) rfl k) ?_
    refine ym 736 (fun B k => z_aload_n B dX9_steps_735 rfl 1 rfl k) ?_
    refine ym 738 (fun B k => z_iload B dX9_steps_736 0 rfl k) ?_
    by_cases c65 : r62 = 0
    · replace h := ite_p c65 h
      refine ym 755 (fun B k => z_if_eq (tgt := 755) B dX9_steps_738 (by decide) (fun _ => k) (fun q => absurd c65 q)) ?_
      refine y_sub [(0, .ref t), (1, .int x1), (8, .int x8), (10, .int r62)] [1, 2, 9, 0] rfl ?_
      exact tb_X9_steps_755 h hT hk_t hz_r62
    · replace h := ite_n c65 h
      refine ym 741 (fun B k => z_if_eq (tgt := 755) B dX9_steps_738 (by decide) (fun q => absurd q c65) (fun _ => k)) ?_
      refine ym 742 (fun B k => z_aload_n B dX9_steps_741 rfl 1 rfl k) ?_
      refine ym 743 (fun B k => z_iload_n B dX9_steps_742 rfl 2 rfl k) ?_
      replace h := br_e h
      obtain ⟨r67, h66, h⟩ := h
      have m68 := ct_X9_latestNumber l (g := g) h66 hT hk_t
      refine yc_Vl (Al := [.int x1]) (rest := [.ref t]) 746 rfl cw_X9_200 cx_10 dX9_steps_743 m68 hk_t rfl (by decide) rfl (Nat.le_of_ble_eq_true rfl) ?_
      refine ym 747 (fun B k => z_lconst (v := 0) B dX9_steps_746 (by decide) k) ?_
      refine ym 748 (fun B k => z_lcmp (v := lg_cmp r67 0) B dX9_steps_747 rfl k) ?_
      by_cases c69 : 0 ≤ (lg_cmp r67 0)
      · replace h := ite_p c69 h
        refine ym 755 (fun B k => z_if_ge (tgt := 755) B dX9_steps_748 (by decide) (fun _ => k) (fun q => absurd c69 q)) ?_
        refine y_sub [(0, .ref t), (1, .int x1), (8, .int x8), (10, .int r62)] [1, 2, 9, 0] rfl ?_
        exact tb_X9_steps_755 h hT hk_t hz_r62
      · replace h := ite_n c69 h
        refine ym 751 (fun B k => z_if_ge (tgt := 755) B dX9_steps_748 (by decide) (fun q => absurd q c69) (fun _ => k)) ?_
        refine ym 752 (fun B k => z_iconst (v := 2) B dX9_steps_751 (by decide) k) ?_
        refine ym 759 (fun B k => z_goto (tgt := 759) B dX9_steps_752 (by decide) k) ?_
        refine y_sub [(0, .ref t), (1, .int x1), (8, .int x8), (10, .int r62)] [1, 2, 9, 0] rfl ?_
        exact tb_X9_steps_759 h hT hk_t hz_r62
  replace h := ite_n c60 h
  by_cases c70 : x5 = 11
  · replace h := ite_p c70 h
    refine ym 797 (fun B k => z_tableIn (tgt := 797) B dX9_steps_169 (by rw [c70]; decide) (by rw [c70]; decide) (show _ = some (628 : Int) by rw [c70]; decide) (by decide) k) ?_
    refine ym 798 (fun B k => z_aload_n B dX9_steps_797 rfl 1 rfl k) ?_
    refine ym 799 (fun B k => z_iload_n B dX9_steps_798 rfl 2 rfl k) ?_
    refine ym 800 (fun B k => z_iload_n B dX9_steps_799 rfl 3 rfl k) ?_
    refine ym 801 (fun B k => z_iload_n B dX9_steps_800 rfl 4 rfl k) ?_
    refine ym 803 (fun B k => z_iload B dX9_steps_801 7 rfl k) ?_
    replace h := bd_e h
    obtain ⟨r72, u73, h71, h⟩ := h
    have m74 := ct_X9_draws l (g := g) h71 hT hk_t hz_x3
    refine yc_Vi (Al := [.int x1, .int x2, .int x3, .int x6]) (rest := []) 806 rfl cw_X9_211 cx_10 dX9_steps_803 m74 hk_t rfl (by decide) rfl (Nat.le_of_ble_eq_true rfl) ?_
    have hk_t := k_G m74.1.1 (by decide) hk_t
    have hT := m74.1.1.2.2.2
    have hz_r72 := m74.1.2
    refine ym 808 (fun B k => z_istore (lv' := [(10, .int r72), (0, .ref t), (1, .int x1), (2, .int x2), (3, .int x3), (4, .int x4), (5, .int x5), (6, .int x6), (7, .int x7), (8, .int x8), (9, .int x9)]) B dX9_steps_806 (by decide) rfl k) ?_
    refine ym 1085 (fun B k => z_goto (tgt := 1085) B dX9_steps_808 (by decide) k) ?_
    refine y_sub [(0, .ref t), (8, .int x8), (10, .int r72)] [1, 9, 0] rfl ?_
    exact tb_X9_steps_1085 h hT hk_t hz_r72
  replace h := ite_n c70 h
  by_cases c75 : x5 = 12
  · replace h := ite_p c75 h
    refine ym 811 (fun B k => z_tableIn (tgt := 811) B dX9_steps_169 (by rw [c75]; decide) (by rw [c75]; decide) (show _ = some (642 : Int) by rw [c75]; decide) (by decide) k) ?_
    refine ym 812 (fun B k => z_aload_n B dX9_steps_811 rfl 1 rfl k) ?_
    replace h := qv_e h
    obtain ⟨w76, e_w76, h⟩ := h
    have hq_w76 : rk σ w76 13 := rk_T hT hk_t rfl (by decide) e_w76
    refine ym 815 (fun B k => gf_X9_72 (x := w76) B hk_t e_w76 dX9_steps_812 k) ?_
    refine ym 816 (fun B k => z_aload_n B dX9_steps_815 rfl 1 rfl k) ?_
    refine ym 819 (fun B k => gf_X9_122 (x := (sx_I σ t 32)) B hk_t rfl dX9_steps_816 k) ?_
    refine ym 821 (fun B k => z_iload B dX9_steps_819 7 rfl k) ?_
    replace h := bq_e h
    obtain ⟨a77, rfl, h⟩ := h
    have hk_a77 := hq_w76 a77 rfl
    replace h := ck_e h
    obtain ⟨hi_78, h⟩ := h
    have j79 := hk_a77
    refine ymw (σ' := (wx_I σ a77 (ti (sx_I σ t 32)) x6)) 822 e_I (fun B _ k => z_iast (j := (ti (sx_I σ t 32))) B hk_a77 rfl hi_78 rfl dX9_steps_821 k) ?_
    have hT := TS_I (k := (ti (sx_I σ t 32))) (x := x6) hT hk_a77 (Or.inl rfl)
    have hk_t := kk_I (σ := σ) (a := a77) (k := (ti (sx_I σ t 32))) (x := x6) hk_t
    refine ym 823 (fun B k => z_aload_n B dX9_steps_822 rfl 1 rfl k) ?_
    refine ym 824 (fun B k => z_dup B dX9_steps_823 rfl k) ?_
    refine ym 827 (fun B k => gf_X9_122 (x := (sx_I σ t 32)) B hk_t (rI_k (by decide) j79 (kd_I hk_t) rfl) dX9_steps_824 k) ?_
    refine ym 828 (fun B k => z_iconst (v := 1) B dX9_steps_827 (by decide) k) ?_
    refine ym 829 (fun B k => z_iadd B dX9_steps_828 k) ?_
    have j80 := hk_t
    refine ymw (σ' := (wx_I (wx_I σ a77 (ti (sx_I σ t 32)) x6) t 32 ((sx_I σ t 32) + 1))) 832 e_I (fun B hin k => pf_X9_122 (x := ((sx_I σ t 32) + 1)) B hk_t rfl dX9_steps_829 k) ?_
    have hT := TS_I (k := 32) (x := ((sx_I σ t 32) + 1)) hT hk_t (Or.inl rfl)
    have hk_t := kk_I (σ := (wx_I σ a77 (ti (sx_I σ t 32)) x6)) (a := t) (k := 32) (x := ((sx_I σ t 32) + 1)) hk_t
    refine ym 1085 (fun B k => z_goto (tgt := 1085) B dX9_steps_832 (by decide) k) ?_
    refine ym 1087 (fun B k => z_iload B dX9_steps_1085 0 rfl k) ?_
    refine ym 1113 (fun B k => z_if_ne (tgt := 1113) B dX9_steps_1087 (by decide) (fun _ => k) (fun q => absurd q (by decide))) ?_
    refine ym 1115 (fun B k => z_iload B dX9_steps_1113 0 rfl k) ?_
    obtain ⟨rfl, rfl⟩ := Prod.mk.inj (Option.some.inj h)
    exact yr_z hT (Or.inr rfl) rfl (Or.inr rfl) dX9_steps_1115
  replace h := ite_n c75 h
  by_cases c81 : x5 = 13
  · replace h := ite_p c81 h
    refine ym 835 (fun B k => z_tableIn (tgt := 835) B dX9_steps_169 (by rw [c81]; decide) (by rw [c81]; decide) (show _ = some (666 : Int) by rw [c81]; decide) (by decide) k) ?_
    refine ym 836 (fun B k => z_aload_n B dX9_steps_835 rfl 1 rfl k) ?_
    refine ym 837 (fun B k => z_iconst (v := 2) B dX9_steps_836 (by decide) k) ?_
    have j82 := hk_t
    refine ymw (σ' := (wx_I σ t 36 2)) 840 e_I (fun B hin k => pf_X9_131 (x := 2) B hk_t rfl dX9_steps_837 k) ?_
    have hT := TS_I (k := 36) (x := 2) hT hk_t (Or.inl rfl)
    have hk_t := kk_I (σ := σ) (a := t) (k := 36) (x := 2) hk_t
    refine ym 1085 (fun B k => z_goto (tgt := 1085) B dX9_steps_840 (by decide) k) ?_
    refine ym 1087 (fun B k => z_iload B dX9_steps_1085 0 rfl k) ?_
    refine ym 1113 (fun B k => z_if_ne (tgt := 1113) B dX9_steps_1087 (by decide) (fun _ => k) (fun q => absurd q (by decide))) ?_
    refine ym 1115 (fun B k => z_iload B dX9_steps_1113 0 rfl k) ?_
    obtain ⟨rfl, rfl⟩ := Prod.mk.inj (Option.some.inj h)
    exact yr_z hT (Or.inr rfl) rfl (Or.inr rfl) dX9_steps_1115
  replace h := ite_n c81 h
  by_cases c83 : x5 = 14
  · replace h := ite_p c83 h
    refine ym 843 (fun B k => z_tableIn (tgt := 843) B dX9_steps_169 (by rw [c83]; decide) (by rw [c83]; decide) (show _ = some (674 : Int) by rw [c83]; decide) (by decide) k) ?_
    refine ym 844 (fun B k => z_aload_n B dX9_steps_843 rfl 1 rfl k) ?_
    refine ym 847 (fun B k => gf_X9_107 (x := (sx_I σ t 27)) B hk_t rfl dX9_steps_844 k) ?_
    refine ym 848 (fun B k => z_iload_n B dX9_steps_847 rfl 3 rfl k) ?_
    by_cases c84 : x2 ≤ (sx_I σ t 27)
    · replace h := ite_p c84 h
      refine ym 936 (fun B k => z_icmp_ge (tgt := 936) B dX9_steps_848 (by decide) (fun _ => k) (fun q => absurd c84 q)) ?_
      refine ym 937 (fun B k => z_aload_n B dX9_steps_936 rfl 1 rfl k) ?_
      refine ym 938 (fun B k => z_iload_n B dX9_steps_937 rfl 2 rfl k) ?_
      refine ym 939 (fun B k => z_iload_n B dX9_steps_938 rfl 3 rfl k) ?_
      refine ym 940 (fun B k => z_iload_n B dX9_steps_939 rfl 4 rfl k) ?_
      refine ym 942 (fun B k => z_bipush (v := 10) B dX9_steps_940 (by decide) k) ?_
      refine ym 944 (fun B k => z_iload B dX9_steps_942 7 rfl k) ?_
      refine ym 945 (fun B k => z_i2l (v := x6.toInt64) B dX9_steps_944 rfl k) ?_
      refine ym 946 (fun B k => z_iconst (v := 0) B dX9_steps_945 (by decide) k) ?_
      replace h := bd_e h
      obtain ⟨r86, u87, h85, h⟩ := h
      have m88 := ct_X9_meets l (g := g) h85 hT hk_t hz_x3 (Or.inl rfl)
      refine yc_Vi (Al := [.int x1, .int x2, .int x3, .int 10, .long x6.toInt64, .int 0]) (rest := []) 949 rfl cw_X9_164 cx_10 dX9_steps_946 m88 hk_t rfl (by decide) rfl (Nat.le_of_ble_eq_true rfl) ?_
      have hk_t := k_G m88.1.1 (by decide) hk_t
      have hT := m88.1.1.2.2.2
      have hz_r86 := m88.1.2
      refine ym 951 (fun B k => z_istore (lv' := [(10, .int r86), (0, .ref t), (1, .int x1), (2, .int x2), (3, .int x3), (4, .int x4), (5, .int x5), (6, .int x6), (7, .int x7), (8, .int x8), (9, .int x9)]) B dX9_steps_949 (by decide) rfl k) ?_
      refine ym 952 (fun B k => z_aload_n B dX9_steps_951 rfl 1 rfl k) ?_
      refine ym 954 (fun B k => z_iload B dX9_steps_952 0 rfl k) ?_
      by_cases c89 : r86 = 0
      · replace h := ite_p c89 h
        refine ym 961 (fun B k => z_if_eq (tgt := 961) B dX9_steps_954 (by decide) (fun _ => k) (fun q => absurd c89 q)) ?_
        refine ym 962 (fun B k => z_aload_n B dX9_steps_961 rfl 1 rfl k) ?_
        refine ym 965 (fun B k => gf_X9_113 (x := (sx_I u87 t 29)) B hk_t rfl dX9_steps_962 k) ?_
        refine y_sub [(0, .ref t), (8, .int x8), (10, .int r86)] [1, 9, 0] rfl ?_
        exact tb_X9_steps_965 h hT hk_t hz_r86
      · replace h := ite_n c89 h
        refine ym 957 (fun B k => z_if_eq (tgt := 961) B dX9_steps_954 (by decide) (fun q => absurd q c89) (fun _ => k)) ?_
        refine ym 958 (fun B k => z_iconst (v := 1) B dX9_steps_957 (by decide) k) ?_
        refine ym 965 (fun B k => z_goto (tgt := 965) B dX9_steps_958 (by decide) k) ?_
        refine y_sub [(0, .ref t), (8, .int x8), (10, .int r86)] [1, 9, 0] rfl ?_
        exact tb_X9_steps_965 h hT hk_t hz_r86
    · replace h := ite_n c84 h
      refine ym 851 (fun B k => z_icmp_ge (tgt := 936) B dX9_steps_848 (by decide) (fun q => absurd q c84) (fun _ => k)) ?_
      refine ym 852 (fun B k => z_aload_n B dX9_steps_851 rfl 1 rfl k) ?_
      replace h := qv_e h
      obtain ⟨w90, e_w90, h⟩ := h
      have hq_w90 : rk σ w90 13 := rk_T hT hk_t rfl (by decide) e_w90
      refine ym 855 (fun B k => gf_X9_44 (x := w90) B hk_t e_w90 dX9_steps_852 k) ?_
      refine ym 858 (fun B k => z_sipush (v := 160) B dX9_steps_855 (by decide) k) ?_
      refine ym 859 (fun B k => z_iload_n B dX9_steps_858 rfl 2 rfl k) ?_
      refine ym 860 (fun B k => z_imul B dX9_steps_859 k) ?_
      refine ym 861 (fun B k => z_aload_n B dX9_steps_860 rfl 1 rfl k) ?_
      refine ym 864 (fun B k => gf_X9_107 (x := (sx_I σ t 27)) B hk_t rfl dX9_steps_861 k) ?_
      refine ym 865 (fun B k => z_iadd B dX9_steps_864 k) ?_
      replace h := bq_e h
      obtain ⟨a91, rfl, h⟩ := h
      have hk_a91 := hq_w90 a91 rfl
      replace h := ck_e h
      obtain ⟨hi_92, h⟩ := h
      refine ym 866 (fun B k => z_iald (j := (ti ((160 * x1) + (sx_I σ t 27)))) (x := (sx_I σ a91 (ti ((160 * x1) + (sx_I σ t 27))))) B hk_a91 rfl hi_92 rfl dX9_steps_865 k) ?_
      refine ym 868 (fun B k => z_bipush (v := 10) B dX9_steps_866 (by decide) k) ?_
      by_cases c93 : (sx_I σ a91 (ti ((160 * x1) + (sx_I σ t 27)))) = 10
      · replace h := ite_p c93 h
        refine ym 871 (fun B k => z_icmp_ne (tgt := 897) B dX9_steps_868 (by decide) (fun q => absurd c93 q) (fun _ => k)) ?_
        refine ym 872 (fun B k => z_aload_n B dX9_steps_871 rfl 1 rfl k) ?_
        replace h := qv_e h
        obtain ⟨w94, e_w94, h⟩ := h
        have hq_w94 : rk σ w94 14 := rk_T hT hk_t rfl (by decide) e_w94
        refine ym 875 (fun B k => gf_X9_47 (x := w94) B hk_t e_w94 dX9_steps_872 k) ?_
        refine ym 878 (fun B k => z_sipush (v := 160) B dX9_steps_875 (by decide) k) ?_
        refine ym 879 (fun B k => z_iload_n B dX9_steps_878 rfl 2 rfl k) ?_
        refine ym 880 (fun B k => z_imul B dX9_steps_879 k) ?_
        refine ym 881 (fun B k => z_aload_n B dX9_steps_880 rfl 1 rfl k) ?_
        refine ym 884 (fun B k => gf_X9_107 (x := (sx_I σ t 27)) B hk_t rfl dX9_steps_881 k) ?_
        refine ym 885 (fun B k => z_iadd B dX9_steps_884 k) ?_
        replace h := bq_e h
        obtain ⟨a95, rfl, h⟩ := h
        have hk_a95 := hq_w94 a95 rfl
        replace h := ck_e h
        obtain ⟨hi_96, h⟩ := h
        refine ym 886 (fun B k => z_lald (j := (ti ((160 * x1) + (sx_I σ t 27)))) (x := (sx_J σ a95 (ti ((160 * x1) + (sx_I σ t 27))))) B hk_a95 rfl hi_96 rfl dX9_steps_885 k) ?_
        refine ym 888 (fun B k => z_iload B dX9_steps_886 7 rfl k) ?_
        refine ym 889 (fun B k => z_i2l (v := x6.toInt64) B dX9_steps_888 rfl k) ?_
        refine ym 890 (fun B k => z_lcmp (v := lg_cmp (sx_J σ a95 (ti ((160 * x1) + (sx_I σ t 27)))) x6.toInt64) B dX9_steps_889 rfl k) ?_
        by_cases c97 : (lg_cmp (sx_J σ a95 (ti ((160 * x1) + (sx_I σ t 27)))) x6.toInt64) = 0
        · replace h := ite_p c97 h
          refine ym 893 (fun B k => z_if_ne (tgt := 897) B dX9_steps_890 (by decide) (fun q => absurd c97 q) (fun _ => k)) ?_
          refine ym 894 (fun B k => z_iconst (v := 1) B dX9_steps_893 (by decide) k) ?_
          refine ym 898 (fun B k => z_goto (tgt := 898) B dX9_steps_894 (by decide) k) ?_
          refine y_sub [(0, .ref t), (8, .int x8), (10, .int 1)] [1, 9, 0] rfl ?_
          exact tb_X9_steps_898 h hT hk_t (Or.inr rfl) (Or.inr rfl)
        · replace h := ite_n c97 h
          refine ym 897 (fun B k => z_if_ne (tgt := 897) B dX9_steps_890 (by decide) (fun _ => k) (fun q => absurd q c97)) ?_
          refine y_sub [(0, .ref t), (8, .int x8), (10, .int 1)] [1, 9, 0] rfl ?_
          exact tb_X9_steps_897 h hT hk_t (Or.inr rfl)
      · replace h := ite_n c93 h
        refine ym 897 (fun B k => z_icmp_ne (tgt := 897) B dX9_steps_868 (by decide) (fun _ => k) (fun q => absurd q c93)) ?_
        refine y_sub [(0, .ref t), (8, .int x8), (10, .int 1)] [1, 9, 0] rfl ?_
        exact tb_X9_steps_897 h hT hk_t (Or.inr rfl)
  replace h := ite_n c83 h
  by_cases c98 : x5 = 15
  · replace h := ite_p c98 h
    refine ym 971 (fun B k => z_tableIn (tgt := 971) B dX9_steps_169 (by rw [c98]; decide) (by rw [c98]; decide) (show _ = some (802 : Int) by rw [c98]; decide) (by decide) k) ?_
    refine ym 972 (fun B k => z_aload_n B dX9_steps_971 rfl 1 rfl k) ?_
    refine ym 973 (fun B k => z_iconst (v := 1) B dX9_steps_972 (by decide) k) ?_
    have j99 := hk_t
    refine ymw (σ' := (wx_I σ t 34 1)) 976 e_I (fun B hin k => pf_X9_125 (x := 1) B (Or.inr rfl) hk_t rfl dX9_steps_973 k) ?_
    have hT := TS_I (k := 34) (x := 1) hT hk_t (Or.inr (Or.inr rfl))
    have hk_t := kk_I (σ := σ) (a := t) (k := 34) (x := 1) hk_t
    refine ym 1085 (fun B k => z_goto (tgt := 1085) B dX9_steps_976 (by decide) k) ?_
    refine ym 1087 (fun B k => z_iload B dX9_steps_1085 0 rfl k) ?_
    refine ym 1113 (fun B k => z_if_ne (tgt := 1113) B dX9_steps_1087 (by decide) (fun _ => k) (fun q => absurd q (by decide))) ?_
    refine ym 1115 (fun B k => z_iload B dX9_steps_1113 0 rfl k) ?_
    obtain ⟨rfl, rfl⟩ := Prod.mk.inj (Option.some.inj h)
    exact yr_z hT (Or.inr rfl) rfl (Or.inr rfl) dX9_steps_1115
  replace h := ite_n c98 h
  by_cases c100 : x5 = 16
  · replace h := ite_p c100 h
    refine ym 979 (fun B k => z_tableIn (tgt := 979) B dX9_steps_169 (by rw [c100]; decide) (by rw [c100]; decide) (show _ = some (810 : Int) by rw [c100]; decide) (by decide) k) ?_
    refine ym 980 (fun B k => z_aload_n B dX9_steps_979 rfl 1 rfl k) ?_
    refine ym 981 (fun B k => z_iconst (v := 0) B dX9_steps_980 (by decide) k) ?_
    have j101 := hk_t
    refine ymw (σ' := (wx_I σ t 34 0)) 984 e_I (fun B hin k => pf_X9_125 (x := 0) B (Or.inl rfl) hk_t rfl dX9_steps_981 k) ?_
    have hT := TS_I (k := 34) (x := 0) hT hk_t (Or.inr (Or.inl rfl))
    have hk_t := kk_I (σ := σ) (a := t) (k := 34) (x := 0) hk_t
    refine ym 985 (fun B k => z_aload_n B dX9_steps_984 rfl 1 rfl k) ?_
    refine ym 986 (fun B k => z_aload_n B dX9_steps_985 rfl 1 rfl k) ?_
    refine ym 989 (fun B k => gf_X9_128 (x := (sx_I σ t 35)) B hk_t (rI_n (by decide) rfl) dX9_steps_986 k) ?_
    by_cases c102 : (sx_I σ t 35) = 0
    · replace h := ite_p c102 h
      refine ym 996 (fun B k => z_if_eq (tgt := 996) B dX9_steps_989 (by decide) (fun _ => k) (fun q => absurd c102 q)) ?_
      refine ym 997 (fun B k => z_aload_n B dX9_steps_996 rfl 1 rfl k) ?_
      refine ym 1000 (fun B k => gf_X9_131 (x := (sx_I σ t 36)) B hk_t (rI_n (by decide) rfl) dX9_steps_997 k) ?_
      refine y_sub [(0, .ref t), (8, .int x8), (10, .int 1)] [1, 9, 0] rfl ?_
      exact tb_X9_steps_1000 h hT hk_t (Or.inr rfl)
    · replace h := ite_n c102 h
      refine ym 992 (fun B k => z_if_eq (tgt := 996) B dX9_steps_989 (by decide) (fun q => absurd q c102) (fun _ => k)) ?_
      refine ym 993 (fun B k => z_iconst (v := 3) B dX9_steps_992 (by decide) k) ?_
      refine ym 1000 (fun B k => z_goto (tgt := 1000) B dX9_steps_993 (by decide) k) ?_
      refine y_sub [(0, .ref t), (8, .int x8), (10, .int 1)] [1, 9, 0] rfl ?_
      exact tb_X9_steps_1000 h hT hk_t (Or.inr rfl)
  replace h := ite_n c100 h
  refine ym 1011 (fun B k => z_tabDf (tgt := 1011) (vs := [0, 1, 2, 3, 4, 5, 6, 7, 8, 9, 10, 11, 12, 13, 14, 15, 16]) B dX9_steps_169 (by decide) (by decide) (by decide) (by intro v hv; simp only [List.mem_cons, List.not_mem_nil, or_false] at hv; rcases hv with rfl | rfl | rfl | rfl | rfl | rfl | rfl | rfl | rfl | rfl | rfl | rfl | rfl | rfl | rfl | rfl | rfl; all_goals assumption) k) ?_
  refine ym 1012 (fun B k => z_aload_n B dX9_steps_1011 rfl 1 rfl k) ?_
  refine ym 1013 (fun B k => z_iload_n B dX9_steps_1012 rfl 2 rfl k) ?_
  refine ym 1014 (fun B k => z_iload_n B dX9_steps_1013 rfl 3 rfl k) ?_
  refine ym 1015 (fun B k => z_iload_n B dX9_steps_1014 rfl 4 rfl k) ?_
  refine ym 1017 (fun B k => z_bipush (v := 14) B dX9_steps_1015 (by decide) k) ?_
  refine ym 1018 (fun B k => z_aload_n B dX9_steps_1017 rfl 1 rfl k) ?_
  replace h := qv_e h
  obtain ⟨w103, e_w103, h⟩ := h
  have hq_w103 : rk σ w103 13 := rk_T hT hk_t rfl (by decide) e_w103
  refine ym 1021 (fun B k => gf_X9_23 (x := w103) B hk_t e_w103 dX9_steps_1018 k) ?_
  refine ym 1022 (fun B k => z_iload_n B dX9_steps_1021 rfl 2 rfl k) ?_
  replace h := bq_e h
  obtain ⟨a104, rfl, h⟩ := h
  have hk_a104 := hq_w103 a104 rfl
  replace h := ck_e h
  obtain ⟨hi_105, h⟩ := h
  refine ym 1023 (fun B k => z_iald (j := (ti x1)) (x := (sx_I σ a104 (ti x1))) B hk_a104 rfl hi_105 rfl dX9_steps_1022 k) ?_
  refine ym 1024 (fun B k => z_aload_n B dX9_steps_1023 rfl 1 rfl k) ?_
  replace h := qv_e h
  obtain ⟨w106, e_w106, h⟩ := h
  have hq_w106 : rk σ w106 13 := rk_T hT hk_t rfl (by decide) e_w106
  refine ym 1027 (fun B k => gf_X9_26 (x := w106) B hk_t e_w106 dX9_steps_1024 k) ?_
  refine ym 1028 (fun B k => z_iload_n B dX9_steps_1027 rfl 2 rfl k) ?_
  replace h := bq_e h
  obtain ⟨a107, rfl, h⟩ := h
  have hk_a107 := hq_w106 a107 rfl
  replace h := ck_e h
  obtain ⟨hi_108, h⟩ := h
  refine ym 1029 (fun B k => z_iald (j := (ti x1)) (x := (sx_I σ a107 (ti x1))) B hk_a107 rfl hi_108 rfl dX9_steps_1028 k) ?_
  refine ym 1030 (fun B k => z_aload_n B dX9_steps_1029 rfl 1 rfl k) ?_
  replace h := qv_e h
  obtain ⟨w109, e_w109, h⟩ := h
  have hq_w109 : rk σ w109 13 := rk_T hT hk_t rfl (by decide) e_w109
  refine ym 1033 (fun B k => gf_X9_26 (x := w109) B hk_t e_w109 dX9_steps_1030 k) ?_
  refine ym 1034 (fun B k => z_iload_n B dX9_steps_1033 rfl 2 rfl k) ?_
  replace h := bq_e h
  obtain ⟨a110, rfl, h⟩ := h
  have hk_a110 := hq_w109 a110 rfl
  replace h := ck_e h
  obtain ⟨hi_111, h⟩ := h
  refine ym 1035 (fun B k => z_iald (j := (ti x1)) (x := (sx_I σ a110 (ti x1))) B hk_a110 rfl hi_111 rfl dX9_steps_1034 k) ?_
  refine ym 1036 (fun B k => z_iconst (v := (-1)) B dX9_steps_1035 (by decide) k) ?_
  by_cases c112 : (sx_I σ a110 (ti x1)) = (-1)
  · replace h := ite_p c112 h
    refine ym 1039 (fun B k => z_icmp_ne (tgt := 1043) B dX9_steps_1036 (by decide) (fun q => absurd c112 q) (fun _ => k)) ?_
    refine ym 1040 (fun B k => z_iconst (v := (-1)) B dX9_steps_1039 (by decide) k) ?_
    refine ym 1049 (fun B k => z_goto (tgt := 1049) B dX9_steps_1040 (by decide) k) ?_
    refine y_sub [(0, .ref t), (1, .int x1), (8, .int x8)] [1, 2, 9] rfl ?_
    exact tb_X9_steps_1049 h hT hk_t hz_x3
  · replace h := ite_n c112 h
    refine ym 1043 (fun B k => z_icmp_ne (tgt := 1043) B dX9_steps_1036 (by decide) (fun _ => k) (fun q => absurd q c112)) ?_
    refine ym 1044 (fun B k => z_aload_n B dX9_steps_1043 rfl 1 rfl k) ?_
    replace h := qv_e h
    obtain ⟨w113, e_w113, h⟩ := h
    have hq_w113 : rk σ w113 13 := rk_T hT hk_t rfl (by decide) e_w113
    refine ym 1047 (fun B k => gf_X9_29 (x := w113) B hk_t e_w113 dX9_steps_1044 k) ?_
    refine ym 1048 (fun B k => z_iload_n B dX9_steps_1047 rfl 2 rfl k) ?_
    replace h := bq_e h
    obtain ⟨a114, rfl, h⟩ := h
    have hk_a114 := hq_w113 a114 rfl
    replace h := ck_e h
    obtain ⟨hi_115, h⟩ := h
    refine ym 1049 (fun B k => z_iald (j := (ti x1)) (x := (sx_I σ a114 (ti x1))) B hk_a114 rfl hi_115 rfl dX9_steps_1048 k) ?_
    refine y_sub [(0, .ref t), (1, .int x1), (8, .int x8)] [1, 2, 9] rfl ?_
    exact tb_X9_steps_1049 h hT hk_t hz_x3
set_option maxRecDepth 100000 in
set_option maxHeartbeats 4000000 in
theorem tb_X9_steps_157 {l : Launch} {g : gx_T} {σ : sx_T} {u : sx_T} {r : Int32} {As : Array Value} {n0 : Nat} {t : Nat} (h : fb_X9_steps_157 n0 σ t = some (r, u)) (hT : TS g σ) (hk_t : sx_K σ t = 11) : ZY l g cX9_steps RX9 "steps" (some .boolean) 12 3 78 0 0 false As (QM g As (Qxi g r u)) (r = 0 ∨ r = 1) u σ 157 [(0, .ref t)] [] := by
  unfold fb_X9_steps_157 at h
  refine ym 158 (fun B k => z_aload_n B dX9_steps_157 rfl 0 rfl k) ?_
  refine ym 159 (fun B k => z_iconst (v := 2) B dX9_steps_158 (by decide) k) ?_
  have j1 := hk_t
  refine ymw (σ' := (wx_I σ t 36 2)) 162 e_I (fun B hin k => pf_X9_131 (x := 2) B hk_t rfl dX9_steps_159 k) ?_
  have hT := TS_I (k := 36) (x := 2) hT hk_t (Or.inl rfl)
  have hk_t := kk_I (σ := σ) (a := t) (k := 36) (x := 2) hk_t
  refine ym 163 (fun B k => z_iconst (v := 1) B dX9_steps_162 (by decide) k) ?_
  obtain ⟨rfl, rfl⟩ := Prod.mk.inj (Option.some.inj h)
  exact yr_z hT (Or.inr rfl) rfl (Or.inr rfl) dX9_steps_163
set_option maxRecDepth 100000 in
set_option maxHeartbeats 4000000 in
theorem tb_X9_steps_141 {l : Launch} {g : gx_T} {σ : sx_T} {u : sx_T} {r : Int32} {As : Array Value} {n0 : Nat} {t : Nat} {x1 : Int32} {x2 : Int32} {x3 : Int32} {x4 : Int32} {x5 : Int32} {x6 : Int32} {x7 : Int32} {x8 : Int32} {x9 : Int32} (h : fb_X9_steps_141 n0 σ t x1 x2 x3 x4 x5 x6 x7 x8 x9 = some (r, u)) (hT : TS g σ) (hk_t : sx_K σ t = 11) (hz_x3 : x3 = 0 ∨ x3 = 1) (hz_x7 : x7 = 0 ∨ x7 = 1) : ZY l g cX9_steps RX9 "steps" (some .boolean) 12 3 78 0 0 false As (QM g As (Qxi g r u)) (r = 0 ∨ r = 1) u σ 141 [(0, .ref t), (1, .int x1), (2, .int x2), (3, .int x3), (4, .int x4), (5, .int x5), (6, .int x6), (7, .int x7), (8, .int x8), (9, .int x9)] [] := by
  unfold fb_X9_steps_141 at h
  refine ym 143 (fun B k => z_iload B dX9_steps_141 5 rfl k) ?_
  refine ym 145 (fun B k => z_bipush (v := 12) B dX9_steps_143 (by decide) k) ?_
  by_cases c1 : x5 = 12
  · replace h := ite_p c1 h
    refine ym 148 (fun B k => z_icmp_ne (tgt := 164) B dX9_steps_145 (by decide) (fun q => absurd c1 q) (fun _ => k)) ?_
    refine ym 149 (fun B k => z_aload_n B dX9_steps_148 rfl 0 rfl k) ?_
    refine ym 152 (fun B k => gf_X9_122 (x := (sx_I σ t 32)) B hk_t rfl dX9_steps_149 k) ?_
    refine ym 154 (fun B k => z_bipush (v := 20) B dX9_steps_152 (by decide) k) ?_
    by_cases c2 : (sx_I σ t 32) = 20
    · replace h := ite_p c2 h
      refine ym 157 (fun B k => z_icmp_ne (tgt := 164) B dX9_steps_154 (by decide) (fun q => absurd c2 q) (fun _ => k)) ?_
      refine y_sub [(0, .ref t)] [0] rfl ?_
      exact tb_X9_steps_157 h hT hk_t
    · replace h := ite_n c2 h
      refine ym 164 (fun B k => z_icmp_ne (tgt := 164) B dX9_steps_154 (by decide) (fun _ => k) (fun q => absurd q c2)) ?_
      refine y_sub [(0, .ref t), (1, .int x1), (2, .int x2), (3, .int x3), (4, .int x4), (5, .int x5), (6, .int x6), (7, .int x7), (8, .int x8), (9, .int x9)] [0, 1, 2, 3, 4, 5, 6, 7, 8, 9] rfl ?_
      exact tb_X9_steps_164 h hT hk_t hz_x3 hz_x7
  · replace h := ite_n c1 h
    refine ym 164 (fun B k => z_icmp_ne (tgt := 164) B dX9_steps_145 (by decide) (fun _ => k) (fun q => absurd q c1)) ?_
    refine y_sub [(0, .ref t), (1, .int x1), (2, .int x2), (3, .int x3), (4, .int x4), (5, .int x5), (6, .int x6), (7, .int x7), (8, .int x8), (9, .int x9)] [0, 1, 2, 3, 4, 5, 6, 7, 8, 9] rfl ?_
    exact tb_X9_steps_164 h hT hk_t hz_x3 hz_x7
set_option maxRecDepth 100000 in
set_option maxHeartbeats 4000000 in
theorem tb_X9_steps_116 {l : Launch} {g : gx_T} {σ : sx_T} {u : sx_T} {r : Int32} {As : Array Value} {n0 : Nat} {t : Nat} {x1 : Int32} {x2 : Int32} {x3 : Int32} {x4 : Int32} {x5 : Int32} {x6 : Int32} {x7 : Int32} {x8 : Int32} {y0 : Int32} (h : fb_X9_steps_116 n0 σ t x1 x2 x3 x4 x5 x6 x7 x8 y0 = some (r, u)) (hT : TS g σ) (hk_t : sx_K σ t = 11) (hz_x3 : x3 = 0 ∨ x3 = 1) (hz_x7 : x7 = 0 ∨ x7 = 1) : ZY l g cX9_steps RX9 "steps" (some .boolean) 12 3 78 0 0 false As (QM g As (Qxi g r u)) (r = 0 ∨ r = 1) u σ 116 [(0, .ref t), (1, .int x1), (2, .int x2), (3, .int x3), (4, .int x4), (5, .int x5), (6, .int x6), (7, .int x7), (8, .int x8)] [.int y0] := by
  unfold fb_X9_steps_116 at h
  refine ym 118 (fun B k => z_istore (lv' := [(9, .int y0), (0, .ref t), (1, .int x1), (2, .int x2), (3, .int x3), (4, .int x4), (5, .int x5), (6, .int x6), (7, .int x7), (8, .int x8)]) B dX9_steps_116 (by decide) rfl k) ?_
  refine ym 120 (fun B k => z_iload B dX9_steps_118 6 rfl k) ?_
  replace h := br_e h
  obtain ⟨r2, h1, h⟩ := h
  have m3 := ct_X9_isBounded l (g := g) h1 hT
  refine yc_Si (Al := [.int x5]) (rest := []) 123 rfl cw_X9_193 dX9_steps_120 m3 rfl (by decide) rfl (Nat.le_of_ble_eq_true rfl) ?_
  have hz_r2 := m3.1.2
  by_cases c4 : r2 = 0
  · replace h := ite_p c4 h
    refine ym 141 (fun B k => z_if_eq (tgt := 141) B dX9_steps_123 (by decide) (fun _ => k) (fun q => absurd c4 q)) ?_
    refine y_sub [(0, .ref t), (1, .int x1), (2, .int x2), (3, .int x3), (4, .int x4), (5, .int x5), (6, .int x6), (7, .int x7), (8, .int x8), (9, .int y0)] [1, 2, 3, 4, 5, 6, 7, 8, 9, 0] rfl ?_
    exact tb_X9_steps_141 h hT hk_t hz_x3 hz_x7
  · replace h := ite_n c4 h
    refine ym 126 (fun B k => z_if_eq (tgt := 141) B dX9_steps_123 (by decide) (fun q => absurd q c4) (fun _ => k)) ?_
    refine ym 128 (fun B k => z_iload B dX9_steps_126 0 rfl k) ?_
    refine ym 129 (fun B k => z_iconst (v := (-1)) B dX9_steps_128 (by decide) k) ?_
    by_cases c5 : y0 = (-1)
    · replace h := ite_p c5 h
      refine ym 132 (fun B k => z_icmp_ne (tgt := 141) B dX9_steps_129 (by decide) (fun q => absurd c5 q) (fun _ => k)) ?_
      refine ym 133 (fun B k => z_aload_n B dX9_steps_132 rfl 1 rfl k) ?_
      refine ym 136 (fun B k => gf_X9_107 (x := (sx_I σ t 27)) B hk_t rfl dX9_steps_133 k) ?_
      refine ym 138 (fun B k => z_bipush (v := 60) B dX9_steps_136 (by decide) k) ?_
      by_cases c6 : 60 ≤ (sx_I σ t 27)
      · replace h := ite_p c6 h
        refine ym 157 (fun B k => z_icmp_ge (tgt := 157) B dX9_steps_138 (by decide) (fun _ => k) (fun q => absurd c6 q)) ?_
        refine y_sub [(0, .ref t)] [1] rfl ?_
        exact tb_X9_steps_157 h hT hk_t
      · replace h := ite_n c6 h
        refine ym 141 (fun B k => z_icmp_ge (tgt := 157) B dX9_steps_138 (by decide) (fun q => absurd q c6) (fun _ => k)) ?_
        refine y_sub [(0, .ref t), (1, .int x1), (2, .int x2), (3, .int x3), (4, .int x4), (5, .int x5), (6, .int x6), (7, .int x7), (8, .int x8), (9, .int y0)] [1, 2, 3, 4, 5, 6, 7, 8, 9, 0] rfl ?_
        exact tb_X9_steps_141 h hT hk_t hz_x3 hz_x7
    · replace h := ite_n c5 h
      refine ym 141 (fun B k => z_icmp_ne (tgt := 141) B dX9_steps_129 (by decide) (fun _ => k) (fun q => absurd q c5)) ?_
      refine y_sub [(0, .ref t), (1, .int x1), (2, .int x2), (3, .int x3), (4, .int x4), (5, .int x5), (6, .int x6), (7, .int x7), (8, .int x8), (9, .int y0)] [1, 2, 3, 4, 5, 6, 7, 8, 9, 0] rfl ?_
      exact tb_X9_steps_141 h hT hk_t hz_x3 hz_x7
set_option maxRecDepth 100000 in
set_option maxHeartbeats 4000000 in
theorem tb_X9_steps_106 {l : Launch} {g : gx_T} {σ : sx_T} {u : sx_T} {r : Int32} {As : Array Value} {n0 : Nat} {t : Nat} {x1 : Int32} {x2 : Int32} {x3 : Int32} {x4 : Int32} {x5 : Int32} {x6 : Int32} {x7 : Int32} {x8 : Int32} (h : fb_X9_steps_106 n0 σ t x1 x2 x3 x4 x5 x6 x7 x8 = some (r, u)) (hT : TS g σ) (hk_t : sx_K σ t = 11) (hz_x3 : x3 = 0 ∨ x3 = 1) (hz_x7 : x7 = 0 ∨ x7 = 1) : ZY l g cX9_steps RX9 "steps" (some .boolean) 12 3 78 0 0 false As (QM g As (Qxi g r u)) (r = 0 ∨ r = 1) u σ 106 [(0, .ref t), (1, .int x1), (2, .int x2), (3, .int x3), (4, .int x4), (5, .int x5), (6, .int x6), (7, .int x7), (8, .int x8)] [] := by
  unfold fb_X9_steps_106 at h
  refine ym 107 (fun B k => z_aload_n B dX9_steps_106 rfl 0 rfl k) ?_
  refine ym 109 (fun B k => z_iload B dX9_steps_107 6 rfl k) ?_
  replace h := br_e h
  obtain ⟨r2, h1, h⟩ := h
  have m3 := ct_X9_keptOf l (g := g) h1 hT hk_t
  refine yc_Vi (Al := [.int x6]) (rest := []) 112 rfl cw_X9_149 cx_10 dX9_steps_109 m3 hk_t rfl (by decide) rfl (Nat.le_of_ble_eq_true rfl) ?_
  refine ym 116 (fun B k => z_goto (tgt := 116) B dX9_steps_112 (by decide) k) ?_
  refine y_sub [(0, .ref t), (1, .int x1), (2, .int x2), (3, .int x3), (4, .int x4), (5, .int x5), (6, .int x6), (7, .int x7), (8, .int x8)] [0, 1, 2, 3, 4, 5, 6, 7, 8] rfl ?_
  exact tb_X9_steps_116 h hT hk_t hz_x3 hz_x7
set_option maxRecDepth 100000 in
set_option maxHeartbeats 4000000 in
theorem tb_X9_steps_63 {l : Launch} {g : gx_T} {σ : sx_T} {u : sx_T} {r : Int32} {As : Array Value} {n0 : Nat} {t : Nat} {x1 : Int32} {x2 : Int32} {x3 : Int32} {x4 : Int32} {x5 : Int32} {x6 : Int32} {y0 : Int32} (h : fb_X9_steps_63 n0 σ t x1 x2 x3 x4 x5 x6 y0 = some (r, u)) (hT : TS g σ) (hk_t : sx_K σ t = 11) (hz_x3 : x3 = 0 ∨ x3 = 1) (hz_y0 : y0 = 0 ∨ y0 = 1) : ZY l g cX9_steps RX9 "steps" (some .boolean) 12 3 78 0 0 false As (QM g As (Qxi g r u)) (r = 0 ∨ r = 1) u σ 63 [(0, .ref t), (1, .int x1), (2, .int x2), (3, .int x3), (4, .int x4), (5, .int x5), (6, .int x6)] [.int y0] := by
  unfold fb_X9_steps_63 at h
  refine ym 65 (fun B k => z_istore (lv' := [(7, .int y0), (0, .ref t), (1, .int x1), (2, .int x2), (3, .int x3), (4, .int x4), (5, .int x5), (6, .int x6)]) B dX9_steps_63 (by decide) rfl k) ?_
  refine ym 66 (fun B k => z_aload_n B dX9_steps_65 rfl 1 rfl k) ?_
  refine ym 69 (fun B k => gf_X9_110 (x := (sx_I σ t 28)) B hk_t rfl dX9_steps_66 k) ?_
  refine ym 71 (fun B k => z_istore (lv' := [(8, .int (sx_I σ t 28)), (7, .int y0), (0, .ref t), (1, .int x1), (2, .int x2), (3, .int x3), (4, .int x4), (5, .int x5), (6, .int x6)]) B dX9_steps_69 (by decide) rfl k) ?_
  refine ym 72 (fun B k => z_aload_n B dX9_steps_71 rfl 2 rfl k) ?_
  refine ym 73 (fun B k => z_dup B dX9_steps_72 rfl k) ?_
  refine ym 76 (fun B k => gf_X9_137 (x := (sx_I σ t 38)) B hk_t rfl dX9_steps_73 k) ?_
  refine ym 77 (fun B k => z_iconst (v := 1) B dX9_steps_76 (by decide) k) ?_
  refine ym 78 (fun B k => z_iadd B dX9_steps_77 k) ?_
  have j1 := hk_t
  refine ymw (σ' := (wx_I σ t 38 ((sx_I σ t 38) + 1))) 81 e_I (fun B hin k => pf_X9_137 (x := ((sx_I σ t 38) + 1)) B hk_t rfl dX9_steps_78 k) ?_
  have hT := TS_I (k := 38) (x := ((sx_I σ t 38) + 1)) hT hk_t (Or.inl rfl)
  have hk_t := kk_I (σ := σ) (a := t) (k := 38) (x := ((sx_I σ t 38) + 1)) hk_t
  refine ym 82 (fun B k => z_aload_n B dX9_steps_81 rfl 2 rfl k) ?_
  refine ym 83 (fun B k => z_aload_n B dX9_steps_82 rfl 2 rfl k) ?_
  refine ym 86 (fun B k => gf_X9_110 (x := (sx_I σ t 28)) B hk_t (rI_n (by decide) rfl) dX9_steps_83 k) ?_
  refine ym 87 (fun B k => z_iconst (v := 1) B dX9_steps_86 (by decide) k) ?_
  refine ym 88 (fun B k => z_iadd B dX9_steps_87 k) ?_
  refine ym 90 (fun B k => z_bipush (v := 20) B dX9_steps_88 (by decide) k) ?_
  refine ym 91 (fun B k => z_irem B dX9_steps_90 (by decide) k) ?_
  have j2 := hk_t
  refine ymw (σ' := (wx_I (wx_I σ t 38 ((sx_I σ t 38) + 1)) t 28 (jrem ((sx_I σ t 28) + 1) 20))) 94 e_I (fun B hin k => pf_X9_110 (x := (jrem ((sx_I σ t 28) + 1) 20)) B hk_t rfl dX9_steps_91 k) ?_
  have hT := TS_I (k := 28) (x := (jrem ((sx_I σ t 28) + 1) 20)) hT hk_t (Or.inl rfl)
  have hk_t := kk_I (σ := (wx_I σ t 38 ((sx_I σ t 38) + 1))) (a := t) (k := 28) (x := (jrem ((sx_I σ t 28) + 1) 20)) hk_t
  refine ym 96 (fun B k => z_iload B dX9_steps_94 7 rfl k) ?_
  refine ym 97 (fun B k => z_iconst (v := 3) B dX9_steps_96 (by decide) k) ?_
  by_cases c3 : x5 = 3
  · replace h := ite_p c3 h
    refine ym 106 (fun B k => z_icmp_eq (tgt := 106) B dX9_steps_97 (by decide) (fun _ => k) (fun q => absurd c3 q)) ?_
    refine y_sub [(0, .ref t), (1, .int x1), (2, .int x2), (3, .int x3), (4, .int x4), (5, .int x5), (6, .int x6), (7, .int y0), (8, .int (sx_I σ t 28))] [2, 3, 4, 5, 6, 7, 8, 1, 0] rfl ?_
    exact tb_X9_steps_106 h hT hk_t hz_x3 hz_y0
  · replace h := ite_n c3 h
    refine ym 100 (fun B k => z_icmp_eq (tgt := 106) B dX9_steps_97 (by decide) (fun q => absurd q c3) (fun _ => k)) ?_
    refine ym 102 (fun B k => z_iload B dX9_steps_100 7 rfl k) ?_
    refine ym 103 (fun B k => z_iconst (v := 4) B dX9_steps_102 (by decide) k) ?_
    by_cases c4 : x5 = 4
    · replace h := ite_p c4 h
      refine ym 106 (fun B k => z_icmp_ne (tgt := 115) B dX9_steps_103 (by decide) (fun q => absurd c4 q) (fun _ => k)) ?_
      refine y_sub [(0, .ref t), (1, .int x1), (2, .int x2), (3, .int x3), (4, .int x4), (5, .int x5), (6, .int x6), (7, .int y0), (8, .int (sx_I σ t 28))] [2, 3, 4, 5, 6, 7, 8, 1, 0] rfl ?_
      exact tb_X9_steps_106 h hT hk_t hz_x3 hz_y0
    · replace h := ite_n c4 h
      refine ym 115 (fun B k => z_icmp_ne (tgt := 115) B dX9_steps_103 (by decide) (fun _ => k) (fun q => absurd q c4)) ?_
      refine ym 116 (fun B k => z_iconst (v := (-1)) B dX9_steps_115 (by decide) k) ?_
      refine y_sub [(0, .ref t), (1, .int x1), (2, .int x2), (3, .int x3), (4, .int x4), (5, .int x5), (6, .int x6), (7, .int y0), (8, .int (sx_I σ t 28))] [2, 3, 4, 5, 6, 7, 8, 1, 0] rfl ?_
      exact tb_X9_steps_116 h hT hk_t hz_x3 hz_y0
set_option maxRecDepth 100000 in
set_option maxHeartbeats 4000000 in
theorem ct_X9_steps (l : Launch) {g : gx_T} {σ : sx_T} {u : sx_T} {r : Int32} {n0 : Nat} {t : Nat} {x1 : Int32} {x2 : Int32} {x3 : Int32} (h : f_X9_steps n0 σ t x1 x2 x3 = some (r, u)) (hT : TS g σ) (hk_t : sx_K σ t = 11) (hz_x3 : x3 = 0 ∨ x3 = 1) : CT l g yX9_steps cX9_steps 12 (some .boolean) 3 78 [.ref t, .int x1, .int x2, .int x3] (r = 0 ∨ r = 1) u σ (Qxi g r u) := by
  refine yc_met (by decide) (Nat.le_of_ble_eq_true rfl) ?_
  refine yc_lv (show lv_args 0 [.ref t, .int x1, .int x2, .int x3] = [(0, .ref t), (1, .int x1), (2, .int x2), (3, .int x3)] from rfl) ?_
  show ZY l g _ _ _ _ _ _ _ _ _ _ _ _ _ _ σ 0 [(0, .ref t), (1, .int x1), (2, .int x2), (3, .int x3)] []
  unfold f_X9_steps at h
  refine ym 1 (fun B k => z_aload_n B dX9_steps_0 rfl 0 rfl k) ?_
  refine ym 4 (fun B k => gf_X9_137 (x := (sx_I σ t 38)) B hk_t rfl dX9_steps_1 k) ?_
  refine ym 6 (fun B k => z_bipush (v := 60) B dX9_steps_4 (by decide) k) ?_
  by_cases c1 : (sx_I σ t 38) = 60
  · replace h := ite_p c1 h
    refine ym 9 (fun B k => z_icmp_ne (tgt := 16) B dX9_steps_6 (by decide) (fun q => absurd c1 q) (fun _ => k)) ?_
    refine ym 10 (fun B k => z_aload_n B dX9_steps_9 rfl 0 rfl k) ?_
    refine ym 11 (fun B k => z_iconst (v := 2) B dX9_steps_10 (by decide) k) ?_
    have j2 := hk_t
    refine ymw (σ' := (wx_I σ t 36 2)) 14 e_I (fun B hin k => pf_X9_131 (x := 2) B hk_t rfl dX9_steps_11 k) ?_
    have hT := TS_I (k := 36) (x := 2) hT hk_t (Or.inl rfl)
    have hk_t := kk_I (σ := σ) (a := t) (k := 36) (x := 2) hk_t
    refine ym 15 (fun B k => z_iconst (v := 1) B dX9_steps_14 (by decide) k) ?_
    obtain ⟨rfl, rfl⟩ := Prod.mk.inj (Option.some.inj h)
    exact yr_z hT (Or.inr rfl) rfl (Or.inr rfl) dX9_steps_15
  · replace h := ite_n c1 h
    refine ym 16 (fun B k => z_icmp_ne (tgt := 16) B dX9_steps_6 (by decide) (fun _ => k) (fun q => absurd q c1)) ?_
    refine ym 18 (fun B k => z_bipush (v := 20) B dX9_steps_16 (by decide) k) ?_
    refine ym 19 (fun B k => z_aload_n B dX9_steps_18 rfl 0 rfl k) ?_
    replace h := qv_e h
    obtain ⟨w3, e_w3, h⟩ := h
    have hq_w3 : rk σ w3 13 := rk_T hT hk_t rfl (by decide) e_w3
    refine ym 22 (fun B k => gf_X9_23 (x := w3) B hk_t e_w3 dX9_steps_19 k) ?_
    refine ym 23 (fun B k => z_iload_n B dX9_steps_22 rfl 1 rfl k) ?_
    replace h := bq_e h
    obtain ⟨a4, rfl, h⟩ := h
    have hk_a4 := hq_w3 a4 rfl
    replace h := ck_e h
    obtain ⟨hi_5, h⟩ := h
    refine ym 24 (fun B k => z_iald (j := (ti x1)) (x := (sx_I σ a4 (ti x1))) B hk_a4 rfl hi_5 rfl dX9_steps_23 k) ?_
    refine ym 25 (fun B k => z_imul B dX9_steps_24 k) ?_
    refine ym 26 (fun B k => z_aload_n B dX9_steps_25 rfl 0 rfl k) ?_
    refine ym 29 (fun B k => gf_X9_110 (x := (sx_I σ t 28)) B hk_t rfl dX9_steps_26 k) ?_
    refine ym 30 (fun B k => z_iadd B dX9_steps_29 k) ?_
    refine ym 32 (fun B k => z_istore (lv' := [(4, .int ((20 * (sx_I σ a4 (ti x1))) + (sx_I σ t 28))), (0, .ref t), (1, .int x1), (2, .int x2), (3, .int x3)]) B dX9_steps_30 (by decide) rfl k) ?_
    refine ym 33 (fun B k => z_aload_n B dX9_steps_32 rfl 1 rfl k) ?_
    replace h := qv_e h
    obtain ⟨w6, e_w6, h⟩ := h
    have hq_w6 : rk σ w6 13 := rk_T hT hk_t rfl (by decide) e_w6
    refine ym 36 (fun B k => gf_X9_13 (x := w6) B hk_t e_w6 dX9_steps_33 k) ?_
    refine ym 38 (fun B k => z_iload B dX9_steps_36 0 rfl k) ?_
    replace h := bq_e h
    obtain ⟨a7, rfl, h⟩ := h
    have hk_a7 := hq_w6 a7 rfl
    replace h := ck_e h
    obtain ⟨hi_8, h⟩ := h
    refine ym 39 (fun B k => z_iald (j := (ti ((20 * (sx_I σ a4 (ti x1))) + (sx_I σ t 28)))) (x := (sx_I σ a7 (ti ((20 * (sx_I σ a4 (ti x1))) + (sx_I σ t 28))))) B hk_a7 rfl hi_8 rfl dX9_steps_38 k) ?_
    refine ym 41 (fun B k => z_istore (lv' := [(5, .int (sx_I σ a7 (ti ((20 * (sx_I σ a4 (ti x1))) + (sx_I σ t 28))))), (4, .int ((20 * (sx_I σ a4 (ti x1))) + (sx_I σ t 28))), (0, .ref t), (1, .int x1), (2, .int x2), (3, .int x3)]) B dX9_steps_39 (by decide) rfl k) ?_
    refine ym 42 (fun B k => z_aload_n B dX9_steps_41 rfl 2 rfl k) ?_
    replace h := qv_e h
    obtain ⟨w9, e_w9, h⟩ := h
    have hq_w9 : rk σ w9 13 := rk_T hT hk_t rfl (by decide) e_w9
    refine ym 45 (fun B k => gf_X9_17 (x := w9) B hk_t e_w9 dX9_steps_42 k) ?_
    refine ym 47 (fun B k => z_iload B dX9_steps_45 1 rfl k) ?_
    replace h := bq_e h
    obtain ⟨a10, rfl, h⟩ := h
    have hk_a10 := hq_w9 a10 rfl
    replace h := ck_e h
    obtain ⟨hi_11, h⟩ := h
    refine ym 48 (fun B k => z_iald (j := (ti ((20 * (sx_I σ a4 (ti x1))) + (sx_I σ t 28)))) (x := (sx_I σ a10 (ti ((20 * (sx_I σ a4 (ti x1))) + (sx_I σ t 28))))) B hk_a10 rfl hi_11 rfl dX9_steps_47 k) ?_
    refine ym 50 (fun B k => z_istore (lv' := [(6, .int (sx_I σ a10 (ti ((20 * (sx_I σ a4 (ti x1))) + (sx_I σ t 28))))), (5, .int (sx_I σ a7 (ti ((20 * (sx_I σ a4 (ti x1))) + (sx_I σ t 28))))), (4, .int ((20 * (sx_I σ a4 (ti x1))) + (sx_I σ t 28))), (0, .ref t), (1, .int x1), (2, .int x2), (3, .int x3)]) B dX9_steps_48 (by decide) rfl k) ?_
    refine ym 51 (fun B k => z_aload_n B dX9_steps_50 rfl 3 rfl k) ?_
    refine ym 54 (fun B k => gf_X9_107 (x := (sx_I σ t 27)) B hk_t rfl dX9_steps_51 k) ?_
    refine ym 55 (fun B k => z_iload_n B dX9_steps_54 rfl 5 rfl k) ?_
    by_cases c12 : (sx_I σ t 27) < x2
    · replace h := ite_p c12 h
      refine ym 62 (fun B k => z_icmp_lt (tgt := 62) B dX9_steps_55 (by decide) (fun _ => k) (fun q => absurd c12 q)) ?_
      refine ym 63 (fun B k => z_iconst (v := 0) B dX9_steps_62 (by decide) k) ?_
      refine y_sub [(0, .ref t), (1, .int x1), (2, .int x2), (3, .int x3), (4, .int ((20 * (sx_I σ a4 (ti x1))) + (sx_I σ t 28))), (5, .int (sx_I σ a7 (ti ((20 * (sx_I σ a4 (ti x1))) + (sx_I σ t 28))))), (6, .int (sx_I σ a10 (ti ((20 * (sx_I σ a4 (ti x1))) + (sx_I σ t 28)))))] [3, 4, 5, 6, 2, 1, 0] rfl ?_
      exact tb_X9_steps_63 h hT hk_t hz_x3 (Or.inl rfl)
    · replace h := ite_n c12 h
      refine ym 58 (fun B k => z_icmp_lt (tgt := 62) B dX9_steps_55 (by decide) (fun q => absurd q c12) (fun _ => k)) ?_
      refine ym 59 (fun B k => z_iconst (v := 1) B dX9_steps_58 (by decide) k) ?_
      refine ym 63 (fun B k => z_goto (tgt := 63) B dX9_steps_59 (by decide) k) ?_
      refine y_sub [(0, .ref t), (1, .int x1), (2, .int x2), (3, .int x3), (4, .int ((20 * (sx_I σ a4 (ti x1))) + (sx_I σ t 28))), (5, .int (sx_I σ a7 (ti ((20 * (sx_I σ a4 (ti x1))) + (sx_I σ t 28))))), (6, .int (sx_I σ a10 (ti ((20 * (sx_I σ a4 (ti x1))) + (sx_I σ t 28)))))] [3, 4, 5, 6, 2, 1, 0] rfl ?_
      exact tb_X9_steps_63 h hT hk_t hz_x3 (Or.inr rfl)
set_option maxRecDepth 100000 in
set_option maxHeartbeats 4000000 in
theorem tb_X9_replays_131 {l : Launch} {g : gx_T} {σ : sx_T} {u : sx_T} {r : Int32} {As : Array Value} {n0 : Nat} {kl62 : sx_T → Nat → Int32 → Int32 → Int32 → Int32 → Option (Int32 × sx_T)} (hkl62 : ∀ (σ : sx_T) (t : Nat) (x1 : Int32) (x2 : Int32) (x3 : Int32) (x4 : Int32), kl62 σ t x1 x2 x3 x4 = some (r, u) → TS g σ → sx_K σ t = 11 → x3 = 0 ∨ x3 = 1 → x4 = 0 ∨ x4 = 1 → ZY l g cX9_replays RX9 "replays" (some .int) 5 4 109 0 0 false As (QM g As (Qxi g r u)) (True) u σ 62 [(0, .ref t), (1, .int x1), (2, .int x2), (3, .int x3), (4, .int x4)] []) {t : Nat} {x1 : Int32} {x2 : Int32} {x3 : Int32} {x4 : Int32} (h : fb_X9_replays_131 n0 kl62 σ t x1 x2 x3 x4 = some (r, u)) (hT : TS g σ) (hk_t : sx_K σ t = 11) (hz_x3 : x3 = 0 ∨ x3 = 1) (hz_x4 : x4 = 0 ∨ x4 = 1) : ZY l g cX9_replays RX9 "replays" (some .int) 5 4 109 0 0 false As (QM g As (Qxi g r u)) (True) u σ 131 [(0, .ref t), (1, .int x1), (2, .int x2), (3, .int x3), (4, .int x4)] [] := by
  unfold fb_X9_replays_131 at h
  refine ym 132 (fun B k => z_aload_n B dX9_replays_131 rfl 0 rfl k) ?_
  refine ym 133 (fun B k => z_iload_n B dX9_replays_132 rfl 1 rfl k) ?_
  replace h := br_e h
  obtain ⟨u2, h1, h⟩ := h
  have m3 := ct_X9_comes l (g := g) h1 hT hk_t
  refine yc_Vv (Al := [.int x1]) (rest := []) 136 rfl cw_X9_178 cx_10 dX9_replays_133 m3 hk_t rfl (by decide) rfl (Nat.le_of_ble_eq_true rfl) ?_
  have hk_t := k_G m3.1.1 (by decide) hk_t
  have hT := m3.1.1.2.2.2
  refine ym 62 (fun B k => z_goto (tgt := 62) B dX9_replays_136 (by decide) k) ?_
  refine y_sub [(0, .ref t), (1, .int x1), (2, .int x2), (3, .int x3), (4, .int x4)] [0, 1, 2, 3, 4] rfl ?_
  exact hkl62 _ _ _ _ _ _ h hT hk_t hz_x3 hz_x4
set_option maxRecDepth 100000 in
set_option maxHeartbeats 4000000 in
theorem tb_X9_replays_95 {l : Launch} {g : gx_T} {σ : sx_T} {u : sx_T} {r : Int32} {As : Array Value} {n0 : Nat} {kl62 : sx_T → Nat → Int32 → Int32 → Int32 → Int32 → Option (Int32 × sx_T)} (hkl62 : ∀ (σ : sx_T) (t : Nat) (x1 : Int32) (x2 : Int32) (x3 : Int32) (x4 : Int32), kl62 σ t x1 x2 x3 x4 = some (r, u) → TS g σ → sx_K σ t = 11 → x3 = 0 ∨ x3 = 1 → x4 = 0 ∨ x4 = 1 → ZY l g cX9_replays RX9 "replays" (some .int) 5 4 109 0 0 false As (QM g As (Qxi g r u)) (True) u σ 62 [(0, .ref t), (1, .int x1), (2, .int x2), (3, .int x3), (4, .int x4)] []) {t : Nat} {x1 : Int32} {x2 : Int32} {x3 : Int32} {y0 : Int32} (h : fb_X9_replays_95 n0 kl62 σ t x1 x2 x3 y0 = some (r, u)) (hT : TS g σ) (hk_t : sx_K σ t = 11) (hz_x3 : x3 = 0 ∨ x3 = 1) (hz_y0 : y0 = 0 ∨ y0 = 1) : ZY l g cX9_replays RX9 "replays" (some .int) 5 4 109 0 0 false As (QM g As (Qxi g r u)) (True) u σ 95 [(0, .ref t), (1, .int x1), (2, .int x2), (3, .int x3)] [.int y0, .ref t] := by
  unfold fb_X9_replays_95 at h
  have j1 := hk_t
  refine ymw (σ' := (wx_I σ t 26 y0)) 98 e_I (fun B hin k => pf_X9_103 (x := y0) B hz_y0 hk_t rfl dX9_replays_95 k) ?_
  have hT := TS_I (k := 26) (x := y0) hT hk_t (Or.inr hz_y0)
  have hk_t := kk_I (σ := σ) (a := t) (k := 26) (x := y0) hk_t
  refine ym 99 (fun B k => z_iconst (v := 0) B dX9_replays_98 (by decide) k) ?_
  refine ym 101 (fun B k => z_istore (lv' := [(4, .int 0), (0, .ref t), (1, .int x1), (2, .int x2), (3, .int x3)]) B dX9_replays_99 (by decide) rfl k) ?_
  refine ym 62 (fun B k => z_goto (tgt := 62) B dX9_replays_101 (by decide) k) ?_
  refine y_sub [(0, .ref t), (1, .int x1), (2, .int x2), (3, .int x3), (4, .int 0)] [1, 2, 3, 4, 0] rfl ?_
  exact hkl62 _ _ _ _ _ _ h hT hk_t hz_x3 (Or.inl rfl)
set_option maxRecDepth 100000 in
set_option maxHeartbeats 4000000 in
theorem tl_X9_replays_62 {l : Launch} {g : gx_T} {u : sx_T} {r : Int32} {As : Array Value} {n0 : Nat} : ∀ {n : Nat} {σ : sx_T} {t : Nat} {x1 : Int32} {x2 : Int32} {x3 : Int32} {x4 : Int32}, fl_X9_replays_62 n0 n σ t x1 x2 x3 x4 = some (r, u) → TS g σ → sx_K σ t = 11 → x3 = 0 ∨ x3 = 1 → x4 = 0 ∨ x4 = 1 → ZY l g cX9_replays RX9 "replays" (some .int) 5 4 109 0 0 false As (QM g As (Qxi g r u)) (True) u σ 62 [(0, .ref t), (1, .int x1), (2, .int x2), (3, .int x3), (4, .int x4)] [] := by
  intro n
  induction n with
  | zero =>
    intro σ t x1 x2 x3 x4 h
    exact nomatch h
  | succ n ih_ =>
    have ih := @ih_
    intro σ t x1 x2 x3 x4 h hT hk_t hz_x3 hz_x4
    unfold fl_X9_replays_62 at h
    refine ym 64 (fun B k => z_iload B dX9_replays_62 4 rfl k) ?_
    by_cases c1 : x4 = 0
    · replace h := ite_p c1 h
      refine ym 180 (fun B k => z_if_eq (tgt := 180) B dX9_replays_64 (by decide) (fun _ => k) (fun q => absurd c1 q)) ?_
      refine ym 181 (fun B k => z_iconst (v := (-1)) B dX9_replays_180 (by decide) k) ?_
      obtain ⟨rfl, rfl⟩ := Prod.mk.inj (Option.some.inj h)
      exact yr_i hT trivial rfl dX9_replays_181
    · replace h := ite_n c1 h
      refine ym 67 (fun B k => z_if_eq (tgt := 180) B dX9_replays_64 (by decide) (fun q => absurd q c1) (fun _ => k)) ?_
      refine ym 68 (fun B k => z_aload_n B dX9_replays_67 rfl 0 rfl k) ?_
      refine ym 71 (fun B k => gf_X9_103 (x := (sx_I σ t 26)) B hk_t rfl dX9_replays_68 k) ?_
      by_cases c2 : (sx_I σ t 26) = 0
      · replace h := ite_p c2 h
        refine ym 180 (fun B k => z_if_eq (tgt := 180) B dX9_replays_71 (by decide) (fun _ => k) (fun q => absurd c2 q)) ?_
        refine ym 181 (fun B k => z_iconst (v := (-1)) B dX9_replays_180 (by decide) k) ?_
        obtain ⟨rfl, rfl⟩ := Prod.mk.inj (Option.some.inj h)
        exact yr_i hT trivial rfl dX9_replays_181
      · replace h := ite_n c2 h
        refine ym 74 (fun B k => z_if_eq (tgt := 180) B dX9_replays_71 (by decide) (fun q => absurd q c2) (fun _ => k)) ?_
        refine ym 75 (fun B k => z_aload_n B dX9_replays_74 rfl 0 rfl k) ?_
        refine ym 78 (fun B k => gf_X9_134 (x := (sx_I σ t 37)) B hk_t rfl dX9_replays_75 k) ?_
        by_cases c3 : (sx_I σ t 37) ≤ 0
        · replace h := ite_p c3 h
          refine ym 104 (fun B k => z_if_le (tgt := 104) B dX9_replays_78 (by decide) (fun _ => k) (fun q => absurd c3 q)) ?_
          refine ym 105 (fun B k => z_aload_n B dX9_replays_104 rfl 0 rfl k) ?_
          refine ym 108 (fun B k => gf_X9_116 (x := (sx_I σ t 30)) B hk_t rfl dX9_replays_105 k) ?_
          by_cases c4 : (sx_I σ t 30) = 0
          · replace h := ite_p c4 h
            refine ym 139 (fun B k => z_if_eq (tgt := 139) B dX9_replays_108 (by decide) (fun _ => k) (fun q => absurd c4 q)) ?_
            refine ym 140 (fun B k => z_aload_n B dX9_replays_139 rfl 0 rfl k) ?_
            refine ym 143 (fun B k => gf_X9_131 (x := (sx_I σ t 36)) B hk_t rfl dX9_replays_140 k) ?_
            by_cases c5 : (sx_I σ t 36) ≤ 0
            · replace h := ite_p c5 h
              refine ym 158 (fun B k => z_if_le (tgt := 158) B dX9_replays_143 (by decide) (fun _ => k) (fun q => absurd c5 q)) ?_
              refine ym 159 (fun B k => z_aload_n B dX9_replays_158 rfl 0 rfl k) ?_
              refine ym 160 (fun B k => z_iload_n B dX9_replays_159 rfl 1 rfl k) ?_
              refine ym 161 (fun B k => z_iload_n B dX9_replays_160 rfl 2 rfl k) ?_
              refine ym 162 (fun B k => z_iload_n B dX9_replays_161 rfl 3 rfl k) ?_
              replace h := bd_e h
              obtain ⟨r7, u8, h6, h⟩ := h
              have m9 := ct_X9_steps l (g := g) h6 hT hk_t hz_x3
              refine yc_Vi (Al := [.int x1, .int x2, .int x3]) (rest := []) 165 rfl cw_X9_186 cx_10 dX9_replays_162 m9 hk_t rfl (by decide) rfl (Nat.le_of_ble_eq_true rfl) ?_
              have hk_t := k_G m9.1.1 (by decide) hk_t
              have hT := m9.1.1.2.2.2
              have hz_r7 := m9.1.2
              refine ym 167 (fun B k => z_istore (lv' := [(4, .int r7), (0, .ref t), (1, .int x1), (2, .int x2), (3, .int x3)]) B dX9_replays_165 (by decide) rfl k) ?_
              refine ym 168 (fun B k => z_aload_n B dX9_replays_167 rfl 1 rfl k) ?_
              refine ym 171 (fun B k => gf_X9_172 (x := (sx_I u8 t 48)) B hk_t rfl dX9_replays_168 k) ?_
              refine ym 172 (fun B k => z_iconst (v := (-1)) B dX9_replays_171 (by decide) k) ?_
              by_cases c10 : (sx_I u8 t 48) = (-1)
              · replace h := ite_p c10 h
                refine ym 62 (fun B k => z_icmp_eq (tgt := 62) B dX9_replays_172 (by decide) (fun _ => k) (fun q => absurd c10 q)) ?_
                refine y_sub [(0, .ref t), (1, .int x1), (2, .int x2), (3, .int x3), (4, .int r7)] [1, 2, 3, 4, 0] rfl ?_
                exact ih h hT hk_t hz_x3 hz_r7
              · replace h := ite_n c10 h
                refine ym 175 (fun B k => z_icmp_eq (tgt := 62) B dX9_replays_172 (by decide) (fun q => absurd q c10) (fun _ => k)) ?_
                refine ym 176 (fun B k => z_aload_n B dX9_replays_175 rfl 1 rfl k) ?_
                refine ym 179 (fun B k => gf_X9_172 (x := (sx_I u8 t 48)) B hk_t rfl dX9_replays_176 k) ?_
                obtain ⟨rfl, rfl⟩ := Prod.mk.inj (Option.some.inj h)
                exact yr_i hT trivial rfl dX9_replays_179
            · replace h := ite_n c5 h
              refine ym 146 (fun B k => z_if_le (tgt := 158) B dX9_replays_143 (by decide) (fun q => absurd q c5) (fun _ => k)) ?_
              refine ym 147 (fun B k => z_aload_n B dX9_replays_146 rfl 0 rfl k) ?_
              refine ym 148 (fun B k => z_iload_n B dX9_replays_147 rfl 1 rfl k) ?_
              refine ym 149 (fun B k => z_iload_n B dX9_replays_148 rfl 2 rfl k) ?_
              refine ym 150 (fun B k => z_iload_n B dX9_replays_149 rfl 3 rfl k) ?_
              replace h := bd_e h
              obtain ⟨r12, u13, h11, h⟩ := h
              have m14 := ct_X9_undoes l (g := g) h11 hT hk_t hz_x3
              refine yc_Vi (Al := [.int x1, .int x2, .int x3]) (rest := []) 153 rfl cw_X9_182 cx_10 dX9_replays_150 m14 hk_t rfl (by decide) rfl (Nat.le_of_ble_eq_true rfl) ?_
              have hk_t := k_G m14.1.1 (by decide) hk_t
              have hT := m14.1.1.2.2.2
              have hz_r12 := m14.1.2
              refine ym 155 (fun B k => z_istore (lv' := [(4, .int r12), (0, .ref t), (1, .int x1), (2, .int x2), (3, .int x3)]) B dX9_replays_153 (by decide) rfl k) ?_
              refine ym 62 (fun B k => z_goto (tgt := 62) B dX9_replays_155 (by decide) k) ?_
              refine y_sub [(0, .ref t), (1, .int x1), (2, .int x2), (3, .int x3), (4, .int r12)] [1, 2, 3, 4, 0] rfl ?_
              exact ih h hT hk_t hz_x3 hz_r12
          · replace h := ite_n c4 h
            refine ym 111 (fun B k => z_if_eq (tgt := 139) B dX9_replays_108 (by decide) (fun q => absurd q c4) (fun _ => k)) ?_
            refine ym 112 (fun B k => z_aload_n B dX9_replays_111 rfl 0 rfl k) ?_
            refine ym 115 (fun B k => gf_X9_107 (x := (sx_I σ t 27)) B hk_t rfl dX9_replays_112 k) ?_
            refine ym 116 (fun B k => z_iload_n B dX9_replays_115 rfl 2 rfl k) ?_
            by_cases c15 : x2 ≤ (sx_I σ t 27)
            · replace h := ite_p c15 h
              refine ym 123 (fun B k => z_icmp_ge (tgt := 123) B dX9_replays_116 (by decide) (fun _ => k) (fun q => absurd c15 q)) ?_
              refine ym 124 (fun B k => z_iconst (v := 0) B dX9_replays_123 (by decide) k) ?_
              refine ym 126 (fun B k => z_istore (lv' := [(4, .int 0), (0, .ref t), (1, .int x1), (2, .int x2), (3, .int x3)]) B dX9_replays_124 (by decide) rfl k) ?_
              refine ym 128 (fun B k => z_iload B dX9_replays_126 0 rfl k) ?_
              refine ym 62 (fun B k => z_if_eq (tgt := 62) B dX9_replays_128 (by decide) (fun _ => k) (fun q => absurd (by decide) q)) ?_
              refine y_sub [(0, .ref t), (1, .int x1), (2, .int x2), (3, .int x3), (4, .int 0)] [1, 2, 3, 4, 0] rfl ?_
              exact ih h hT hk_t hz_x3 (Or.inl rfl)
            · replace h := ite_n c15 h
              refine ym 119 (fun B k => z_icmp_ge (tgt := 123) B dX9_replays_116 (by decide) (fun q => absurd q c15) (fun _ => k)) ?_
              refine ym 120 (fun B k => z_iconst (v := 1) B dX9_replays_119 (by decide) k) ?_
              refine ym 124 (fun B k => z_goto (tgt := 124) B dX9_replays_120 (by decide) k) ?_
              refine ym 126 (fun B k => z_istore (lv' := [(4, .int 1), (0, .ref t), (1, .int x1), (2, .int x2), (3, .int x3)]) B dX9_replays_124 (by decide) rfl k) ?_
              refine ym 128 (fun B k => z_iload B dX9_replays_126 0 rfl k) ?_
              refine ym 131 (fun B k => z_if_eq (tgt := 62) B dX9_replays_128 (by decide) (fun q => absurd q (by decide)) (fun _ => k)) ?_
              refine y_sub [(0, .ref t), (1, .int x1), (2, .int x2), (3, .int x3), (4, .int 1)] [1, 2, 3, 4, 0] rfl ?_
              exact tb_X9_replays_131 (fun _ _ _ _ _ _ => ih) h hT hk_t hz_x3 (Or.inr rfl)
        · replace h := ite_n c3 h
          refine ym 81 (fun B k => z_if_le (tgt := 104) B dX9_replays_78 (by decide) (fun q => absurd q c3) (fun _ => k)) ?_
          refine ym 82 (fun B k => z_aload_n B dX9_replays_81 rfl 0 rfl k) ?_
          refine ym 83 (fun B k => z_aload_n B dX9_replays_82 rfl 0 rfl k) ?_
          refine ym 86 (fun B k => gf_X9_107 (x := (sx_I σ t 27)) B hk_t rfl dX9_replays_83 k) ?_
          refine ym 87 (fun B k => z_iload_n B dX9_replays_86 rfl 2 rfl k) ?_
          by_cases c16 : (sx_I σ t 27) < x2
          · replace h := ite_p c16 h
            refine ym 94 (fun B k => z_icmp_lt (tgt := 94) B dX9_replays_87 (by decide) (fun _ => k) (fun q => absurd c16 q)) ?_
            refine ym 95 (fun B k => z_iconst (v := 0) B dX9_replays_94 (by decide) k) ?_
            refine y_sub [(0, .ref t), (1, .int x1), (2, .int x2), (3, .int x3)] [0, 1, 2, 3] rfl ?_
            exact tb_X9_replays_95 (fun _ _ _ _ _ _ => ih) h hT hk_t hz_x3 (Or.inl rfl)
          · replace h := ite_n c16 h
            refine ym 90 (fun B k => z_icmp_lt (tgt := 94) B dX9_replays_87 (by decide) (fun q => absurd q c16) (fun _ => k)) ?_
            refine ym 91 (fun B k => z_iconst (v := 1) B dX9_replays_90 (by decide) k) ?_
            refine ym 95 (fun B k => z_goto (tgt := 95) B dX9_replays_91 (by decide) k) ?_
            refine y_sub [(0, .ref t), (1, .int x1), (2, .int x2), (3, .int x3)] [0, 1, 2, 3] rfl ?_
            exact tb_X9_replays_95 (fun _ _ _ _ _ _ => ih) h hT hk_t hz_x3 (Or.inr rfl)
set_option maxRecDepth 100000 in
set_option maxHeartbeats 4000000 in
theorem tb_X9_replays_28 {l : Launch} {g : gx_T} {σ : sx_T} {u : sx_T} {r : Int32} {As : Array Value} {n0 : Nat} {t : Nat} {x1 : Int32} {x2 : Int32} {x3 : Int32} {y0 : Int32} (h : fb_X9_replays_28 n0 σ t x1 x2 x3 y0 = some (r, u)) (hT : TS g σ) (hk_t : sx_K σ t = 11) (hz_x3 : x3 = 0 ∨ x3 = 1) (hz_y0 : y0 = 0 ∨ y0 = 1) : ZY l g cX9_replays RX9 "replays" (some .int) 5 4 109 0 0 false As (QM g As (Qxi g r u)) (True) u σ 28 [(0, .ref t), (1, .int x1), (2, .int x2), (3, .int x3)] [.int y0, .ref t] := by
  unfold fb_X9_replays_28 at h
  have j1 := hk_t
  refine ymw (σ' := (wx_I σ t 26 y0)) 31 e_I (fun B hin k => pf_X9_103 (x := y0) B hz_y0 hk_t rfl dX9_replays_28 k) ?_
  have hT := TS_I (k := 26) (x := y0) hT hk_t (Or.inr hz_y0)
  have hk_t := kk_I (σ := σ) (a := t) (k := 26) (x := y0) hk_t
  refine ym 32 (fun B k => z_aload_n B dX9_replays_31 rfl 0 rfl k) ?_
  refine ym 33 (fun B k => z_aload_n B dX9_replays_32 rfl 0 rfl k) ?_
  replace h := qv_e h
  obtain ⟨w2, e_w2, h⟩ := h
  have hq_w2 : rk (wx_I σ t 26 y0) w2 14 := rk_T hT hk_t rfl (by decide) ((rR_I rfl).trans e_w2)
  refine ym 36 (fun B k => gf_X9_47 (x := w2) B hk_t ((rR_I rfl).trans e_w2) dX9_replays_33 k) ?_
  refine ym 39 (fun B k => z_sipush (v := 160) B dX9_replays_36 (by decide) k) ?_
  refine ym 40 (fun B k => z_iload_n B dX9_replays_39 rfl 1 rfl k) ?_
  refine ym 41 (fun B k => z_imul B dX9_replays_40 k) ?_
  replace h := bq_e h
  obtain ⟨a3, rfl, h⟩ := h
  have hk_a3 := hq_w2 a3 rfl
  replace h := ck_e h
  obtain ⟨hi_4, h⟩ := h
  refine ym 42 (fun B k => z_lald (j := (ti (160 * x1))) (x := (sx_J σ a3 (ti (160 * x1)))) B hk_a3 rfl hi_4 (rJ_I rfl) dX9_replays_41 k) ?_
  refine ym 43 (fun B k => z_l2i (v := (sx_J σ a3 (ti (160 * x1))).toInt32) B dX9_replays_42 rfl k) ?_
  have j5 := hk_t
  refine ymw (σ' := (wx_I (wx_I σ t 26 y0) t 29 ((sx_J σ a3 (ti (160 * x1))).toInt32))) 46 e_I (fun B hin k => pf_X9_113 (x := ((sx_J σ a3 (ti (160 * x1))).toInt32)) B hk_t rfl dX9_replays_43 k) ?_
  have hT := TS_I (k := 29) (x := ((sx_J σ a3 (ti (160 * x1))).toInt32)) hT hk_t (Or.inl rfl)
  have hk_t := kk_I (σ := (wx_I σ t 26 y0)) (a := t) (k := 29) (x := ((sx_J σ a3 (ti (160 * x1))).toInt32)) hk_t
  refine ym 47 (fun B k => z_aload_n B dX9_replays_46 rfl 0 rfl k) ?_
  refine ym 48 (fun B k => z_iconst (v := 1) B dX9_replays_47 (by decide) k) ?_
  have j6 := hk_t
  refine ymw (σ' := (wx_I (wx_I (wx_I σ t 26 y0) t 29 ((sx_J σ a3 (ti (160 * x1))).toInt32)) t 27 1)) 51 e_I (fun B hin k => pf_X9_107 (x := 1) B hk_t rfl dX9_replays_48 k) ?_
  have hT := TS_I (k := 27) (x := 1) hT hk_t (Or.inl rfl)
  have hk_t := kk_I (σ := (wx_I (wx_I σ t 26 y0) t 29 ((sx_J σ a3 (ti (160 * x1))).toInt32))) (a := t) (k := 27) (x := 1) hk_t
  refine ym 52 (fun B k => z_aload_n B dX9_replays_51 rfl 0 rfl k) ?_
  refine ym 53 (fun B k => z_iconst (v := (-1)) B dX9_replays_52 (by decide) k) ?_
  have j7 := hk_t
  refine ymw (σ' := (wx_I (wx_I (wx_I (wx_I σ t 26 y0) t 29 ((sx_J σ a3 (ti (160 * x1))).toInt32)) t 27 1) t 48 (-1))) 56 e_I (fun B hin k => pf_X9_172 (x := (-1)) B hk_t rfl dX9_replays_53 k) ?_
  have hT := TS_I (k := 48) (x := (-1)) hT hk_t (Or.inl rfl)
  have hk_t := kk_I (σ := (wx_I (wx_I (wx_I σ t 26 y0) t 29 ((sx_J σ a3 (ti (160 * x1))).toInt32)) t 27 1)) (a := t) (k := 48) (x := (-1)) hk_t
  refine ym 57 (fun B k => z_aload_n B dX9_replays_56 rfl 0 rfl k) ?_
  refine ym 60 (fun B k => gf_X9_103 (x := y0) B hk_t (rI_n (by decide) (rI_n (by decide) (rI_n (by decide) rI_s))) dX9_replays_57 k) ?_
  refine ym 62 (fun B k => z_istore (lv' := [(4, .int y0), (0, .ref t), (1, .int x1), (2, .int x2), (3, .int x3)]) B dX9_replays_60 (by decide) rfl k) ?_
  refine y_sub [(0, .ref t), (1, .int x1), (2, .int x2), (3, .int x3), (4, .int y0)] [1, 2, 3, 4, 0] rfl ?_
  exact tl_X9_replays_62 h hT hk_t hz_x3 hz_y0
set_option maxRecDepth 100000 in
set_option maxHeartbeats 4000000 in
theorem ct_X9_replays (l : Launch) {g : gx_T} {σ : sx_T} {u : sx_T} {r : Int32} {n0 : Nat} {t : Nat} {x1 : Int32} {x2 : Int32} {x3 : Int32} (h : f_X9_replays n0 σ t x1 x2 x3 = some (r, u)) (hT : TS g σ) (hk_t : sx_K σ t = 11) (hz_x3 : x3 = 0 ∨ x3 = 1) : CT l g yX9_replays cX9_replays 5 (some .int) 4 109 [.ref t, .int x1, .int x2, .int x3] (True) u σ (Qxi g r u) := by
  refine yc_met (by decide) (Nat.le_of_ble_eq_true rfl) ?_
  refine yc_lv (show lv_args 0 [.ref t, .int x1, .int x2, .int x3] = [(0, .ref t), (1, .int x1), (2, .int x2), (3, .int x3)] from rfl) ?_
  show ZY l g _ _ _ _ _ _ _ _ _ _ _ _ _ _ σ 0 [(0, .ref t), (1, .int x1), (2, .int x2), (3, .int x3)] []
  unfold f_X9_replays at h
  refine ym 1 (fun B k => z_aload_n B dX9_replays_0 rfl 0 rfl k) ?_
  replace h := br_e h
  obtain ⟨u2, h1, h⟩ := h
  have m3 := ct_X9_begins l (g := g) h1 hT hk_t
  refine yc_Vv (Al := []) (rest := []) 4 rfl cw_X9_175 cx_10 dX9_replays_1 m3 hk_t rfl (by decide) rfl (Nat.le_of_ble_eq_true rfl) ?_
  have hk_t := k_G m3.1.1 (by decide) hk_t
  have hT := m3.1.1.2.2.2
  refine ym 5 (fun B k => z_aload_n B dX9_replays_4 rfl 0 rfl k) ?_
  refine ym 6 (fun B k => z_iload_n B dX9_replays_5 rfl 3 rfl k) ?_
  have j4 := hk_t
  refine ymw (σ' := (wx_I u2 t 47 x3)) 9 e_I (fun B hin k => pf_X9_156 (x := x3) B hz_x3 hk_t rfl dX9_replays_6 k) ?_
  have hT := TS_I (k := 47) (x := x3) hT hk_t (Or.inr hz_x3)
  have hk_t := kk_I (σ := u2) (a := t) (k := 47) (x := x3) hk_t
  refine ym 10 (fun B k => z_aload_n B dX9_replays_9 rfl 0 rfl k) ?_
  refine ym 11 (fun B k => z_aload_n B dX9_replays_10 rfl 0 rfl k) ?_
  replace h := qv_e h
  obtain ⟨w5, e_w5, h⟩ := h
  have hq_w5 : rk (wx_I u2 t 47 x3) w5 13 := rk_T hT hk_t rfl (by decide) ((rR_I rfl).trans e_w5)
  refine ym 14 (fun B k => gf_X9_44 (x := w5) B hk_t ((rR_I rfl).trans e_w5) dX9_replays_11 k) ?_
  refine ym 17 (fun B k => z_sipush (v := 160) B dX9_replays_14 (by decide) k) ?_
  refine ym 18 (fun B k => z_iload_n B dX9_replays_17 rfl 1 rfl k) ?_
  refine ym 19 (fun B k => z_imul B dX9_replays_18 k) ?_
  replace h := bq_e h
  obtain ⟨a6, rfl, h⟩ := h
  have hk_a6 := hq_w5 a6 rfl
  replace h := ck_e h
  obtain ⟨hi_7, h⟩ := h
  refine ym 20 (fun B k => z_iald (j := (ti (160 * x1))) (x := (sx_I u2 a6 (ti (160 * x1)))) B hk_a6 rfl hi_7 (rI_k (by decide) j4 (kd_I hk_a6) rfl) dX9_replays_19 k) ?_
  by_cases c8 : (sx_I u2 a6 (ti (160 * x1))) = 0
  · replace h := ite_p c8 h
    refine ym 23 (fun B k => z_if_ne (tgt := 27) B dX9_replays_20 (by decide) (fun q => absurd c8 q) (fun _ => k)) ?_
    refine ym 24 (fun B k => z_iconst (v := 1) B dX9_replays_23 (by decide) k) ?_
    refine ym 28 (fun B k => z_goto (tgt := 28) B dX9_replays_24 (by decide) k) ?_
    refine y_sub [(0, .ref t), (1, .int x1), (2, .int x2), (3, .int x3)] [0, 1, 2, 3] rfl ?_
    exact tb_X9_replays_28 h hT hk_t hz_x3 (Or.inr rfl)
  · replace h := ite_n c8 h
    refine ym 27 (fun B k => z_if_ne (tgt := 27) B dX9_replays_20 (by decide) (fun _ => k) (fun q => absurd q c8)) ?_
    refine ym 28 (fun B k => z_iconst (v := 0) B dX9_replays_27 (by decide) k) ?_
    refine y_sub [(0, .ref t), (1, .int x1), (2, .int x2), (3, .int x3)] [0, 1, 2, 3] rfl ?_
    exact tb_X9_replays_28 h hT hk_t hz_x3 (Or.inl rfl)
set_option maxRecDepth 100000 in
set_option maxHeartbeats 4000000 in
theorem ct_X9_isFit (l : Launch) {g : gx_T} {σ : sx_T} {u : sx_T} {r : Int32} {n0 : Nat} {t : Nat} {x1 : Int32} (h : f_X9_isFit n0 σ t x1 = some (r, u)) (hT : TS g σ) (hk_t : sx_K σ t = 11) : CT l g yX9_isFit cX9_isFit 2 (some .boolean) 5 133 [.ref t, .int x1] (r = 0 ∨ r = 1) u σ (Qxi g r u) := by
  refine yc_met (by decide) (Nat.le_of_ble_eq_true rfl) ?_
  refine yc_lv (show lv_args 0 [.ref t, .int x1] = [(0, .ref t), (1, .int x1)] from rfl) ?_
  show ZY l g _ _ _ _ _ _ _ _ _ _ _ _ _ _ σ 0 [(0, .ref t), (1, .int x1)] []
  unfold f_X9_isFit at h
  refine ym 1 (fun B k => z_aload_n B dX9_isFit_0 rfl 0 rfl k) ?_
  refine ym 2 (fun B k => z_iload_n B dX9_isFit_1 rfl 1 rfl k) ?_
  refine ym 3 (fun B k => z_aload_n B dX9_isFit_2 rfl 0 rfl k) ?_
  replace h := qv_e h
  obtain ⟨w1, e_w1, h⟩ := h
  have hq_w1 : rk σ w1 13 := rk_T hT hk_t rfl (by decide) e_w1
  refine ym 6 (fun B k => gf_X9_35 (x := w1) B hk_t e_w1 dX9_isFit_3 k) ?_
  refine ym 7 (fun B k => z_iload_n B dX9_isFit_6 rfl 1 rfl k) ?_
  replace h := bq_e h
  obtain ⟨a2, rfl, h⟩ := h
  have hk_a2 := hq_w1 a2 rfl
  replace h := ck_e h
  obtain ⟨hi_3, h⟩ := h
  refine ym 8 (fun B k => z_iald (j := (ti x1)) (x := (sx_I σ a2 (ti x1))) B hk_a2 rfl hi_3 rfl dX9_isFit_7 k) ?_
  refine ym 9 (fun B k => z_iconst (v := 0) B dX9_isFit_8 (by decide) k) ?_
  replace h := bd_e h
  obtain ⟨r5, u6, h4, h⟩ := h
  have m7 := ct_X9_replays l (g := g) h4 hT hk_t (Or.inl rfl)
  refine yc_Vi (Al := [.int x1, .int (sx_I σ a2 (ti x1)), .int 0]) (rest := []) 12 rfl cw_X9_216 cx_10 dX9_isFit_9 m7 hk_t rfl (by decide) rfl (Nat.le_of_ble_eq_true rfl) ?_
  have hk_t := k_G m7.1.1 (by decide) hk_t
  have hT := m7.1.1.2.2.2
  refine ym 13 (fun B k => z_pop B dX9_isFit_12 rfl k) ?_
  refine ym 14 (fun B k => z_aload_n B dX9_isFit_13 rfl 0 rfl k) ?_
  refine ym 17 (fun B k => gf_X9_103 (x := (sx_I u6 t 26)) B hk_t rfl dX9_isFit_14 k) ?_
  obtain ⟨rfl, rfl⟩ := Prod.mk.inj (Option.some.inj h)
  exact yr_z hT (bz_T hT hk_t rfl rfl) rfl (bz_T hT hk_t rfl rfl) dX9_isFit_17
set_option maxRecDepth 100000 in
set_option maxHeartbeats 4000000 in
theorem ct_X9_closes (l : Launch) {g : gx_T} {σ : sx_T} {u : sx_T}  {t : Nat} {x1 : Int32} (h : f_X9_closes σ t x1 = some u) (hT : TS g σ) (hk_t : sx_K σ t = 11) : CT l g yX9_closes cX9_closes 2 none 0 0 [.ref t, .int x1] (True) u σ (Qxv g u) := by
  refine yc_met (by decide) (Nat.le_of_ble_eq_true rfl) ?_
  refine yc_lv (show lv_args 0 [.ref t, .int x1] = [(0, .ref t), (1, .int x1)] from rfl) ?_
  show ZY l g _ _ _ _ _ _ _ _ _ _ _ _ _ _ σ 0 [(0, .ref t), (1, .int x1)] []
  unfold f_X9_closes at h
  refine ym 1 (fun B k => z_aload_n B dX9_closes_0 rfl 0 rfl k) ?_
  replace h := qv_e h
  obtain ⟨w1, e_w1, h⟩ := h
  have hq_w1 : rk σ w1 13 := rk_T hT hk_t rfl (by decide) e_w1
  refine ym 4 (fun B k => gf_X9_57 (x := w1) B hk_t e_w1 dX9_closes_1 k) ?_
  refine ym 5 (fun B k => z_iload_n B dX9_closes_4 rfl 1 rfl k) ?_
  refine ym 6 (fun B k => z_iconst (v := 3) B dX9_closes_5 (by decide) k) ?_
  replace h := bq_e h
  obtain ⟨a2, rfl, h⟩ := h
  have hk_a2 := hq_w1 a2 rfl
  replace h := ck_e h
  obtain ⟨hi_3, h⟩ := h
  have j4 := hk_a2
  refine ymw (σ' := (wx_I σ a2 (ti x1) 3)) 7 e_I (fun B _ k => z_iast (j := (ti x1)) B hk_a2 rfl hi_3 rfl dX9_closes_6 k) ?_
  have hT := TS_I (k := (ti x1)) (x := 3) hT hk_a2 (Or.inl rfl)
  have hk_t := kk_I (σ := σ) (a := a2) (k := (ti x1)) (x := 3) hk_t
  refine ym 8 (fun B k => z_aload_n B dX9_closes_7 rfl 0 rfl k) ?_
  replace h := qv_e h
  obtain ⟨w5, e_w5, h⟩ := h
  have hq_w5 : rk (wx_I σ a2 (ti x1) 3) w5 13 := rk_T hT hk_t rfl (by decide) ((rR_I rfl).trans e_w5)
  refine ym 11 (fun B k => gf_X9_66 (x := w5) B hk_t ((rR_I rfl).trans e_w5) dX9_closes_8 k) ?_
  refine ym 12 (fun B k => z_iload_n B dX9_closes_11 rfl 1 rfl k) ?_
  refine ym 13 (fun B k => z_iconst (v := 0) B dX9_closes_12 (by decide) k) ?_
  replace h := bq_e h
  obtain ⟨a6, rfl, h⟩ := h
  have hk_a6 := hq_w5 a6 rfl
  replace h := ck_e h
  obtain ⟨hi_7, h⟩ := h
  have j8 := hk_a6
  refine ymw (σ' := (wx_I (wx_I σ a2 (ti x1) 3) a6 (ti x1) 0)) 14 e_I (fun B _ k => z_iast (j := (ti x1)) B hk_a6 rfl hi_7 rfl dX9_closes_13 k) ?_
  have hT := TS_I (k := (ti x1)) (x := 0) hT hk_a6 (Or.inl rfl)
  have hk_t := kk_I (σ := (wx_I σ a2 (ti x1) 3)) (a := a6) (k := (ti x1)) (x := 0) hk_t
  obtain rfl := Option.some.inj h
  exact yr_v hT trivial rfl dX9_closes_14
