set_option maxRecDepth 100000 in
set_option maxHeartbeats 4000000 in
theorem ct_X8_fail (l : Launch) {g : gx_T} {σ : sx_T} {u : sx_T} {r : Int32} {n0 : Nat} {t : Nat} {x1 : Int32} (h : f_X8_fail n0 σ t x1 = some (r, u)) (hT : TS g σ) (hk_t : sx_K σ t = 10) : CT l g yX8_fail cX8_fail 3 (some .boolean) 11 280 [.ref t, .int x1] (r = 0 ∨ r = 1) u σ (Qxi g r u) := by
  refine yc_met (by decide) (Nat.le_of_ble_eq_true rfl) ?_
  refine yc_lv (show lv_args 0 [.ref t, .int x1] = [(0, .ref t), (1, .int x1)] from rfl) ?_
  show ZY l g _ _ _ _ _ _ _ _ _ _ _ _ _ _ σ 0 [(0, .ref t), (1, .int x1)] []
  unfold f_X8_fail at h
  refine ym 1 (fun B k => z_aload_n B dX8_fail_0 rfl 0 rfl k) ?_
  refine ym 2 (fun B k => z_iload_n B dX8_fail_1 rfl 1 rfl k) ?_
  replace h := br_e h
  obtain ⟨r2, h1, h⟩ := h
  have m3 := ct_X8_runningTask l (g := g) h1 hT hk_t
  refine yc_Vq (Al := [.int x1]) (rest := []) 5 rfl cw_X8_225 cx_9 dX8_fail_2 m3 hk_t rfl (by decide) rfl (Nat.le_of_ble_eq_true rfl) ?_
  have hq_r2 := m3.1.2
  refine ym 6 (fun B k => z_qstore_n (r := r2) (lv' := [(2, va_rf r2), (0, .ref t), (1, .int x1)]) B dX8_fail_5 rfl (by decide) rfl k) ?_
  refine ym 7 (fun B k => z_qload_n (r := r2) B dX8_fail_6 rfl 0 rfl k) ?_
  rcases r2 with _ | a4
  · replace h := oc_n h
    refine ym 10 (fun B k => z_ifnonnull (r := none) (tgt := 12) B dX8_fail_7 (by decide) (fun a h => nomatch h) (fun _ => k)) ?_
    refine ym 11 (fun B k => z_iconst (v := 0) B dX8_fail_10 (by decide) k) ?_
    obtain ⟨rfl, rfl⟩ := Prod.mk.inj (Option.some.inj h)
    exact yr_z hT (Or.inl rfl) rfl (Or.inl rfl) dX8_fail_11
  · replace h := oc_s h
    have hk_a4 := hq_r2 a4 rfl
    refine ym 12 (fun B k => z_ifnonnull (r := (some a4)) (tgt := 12) B dX8_fail_7 (by decide) (fun _ _ => k) (fun h => nomatch h)) ?_
    refine ym 13 (fun B k => z_aload_n B dX8_fail_12 rfl 0 rfl k) ?_
    refine ym 14 (fun B k => z_aload_n B dX8_fail_13 rfl 1 rfl k) ?_
    refine ym 17 (fun B k => gf_X8_206 (x := (sx_I σ t 8)) B hk_t rfl dX8_fail_14 k) ?_
    replace h := br_e h
    obtain ⟨u6, h5, h⟩ := h
    have m7 := ct_X7_loseTry l (g := g) h5 hT hk_a4
    refine yc_Vv (Al := [.int (sx_I σ t 8)]) (rest := []) 20 rfl cw_X8_232 cx_8 dX8_fail_17 m7 hk_a4 rfl (by decide) rfl (Nat.le_of_ble_eq_true rfl) ?_
    have hk_a4 := k_G m7.1.1 (by decide) hk_a4
    have hk_t := k_G m7.1.1 (by decide) hk_t
    have hT := m7.1.1.2.2.2
    refine ym 21 (fun B k => z_aload_n B dX8_fail_20 rfl 1 rfl k) ?_
    refine ym 22 (fun B k => z_aload_n B dX8_fail_21 rfl 0 rfl k) ?_
    replace h := qv_e h
    obtain ⟨w8, e_w8, h⟩ := h
    have hq_w8 : rk u6 w8 2 := rk_T hT hk_a4 rfl (by decide) e_w8
    refine ym 25 (fun B k => gf_X8_215 (x := w8) B hk_a4 e_w8 dX8_fail_22 k) ?_
    replace h := br_e h
    obtain ⟨u10, h9, h⟩ := h
    have m11 := ct_X8_goOn l (g := g) h9 hT hk_t hq_w8
    refine yc_Vv (Al := [va_rf w8]) (rest := []) 28 rfl cw_X8_111 cx_9 dX8_fail_25 m11 hk_t rfl (by decide) rfl (Nat.le_of_ble_eq_true rfl) ?_
    have hk_a4 := k_G m11.1.1 (by decide) hk_a4
    have hk_t := k_G m11.1.1 (by decide) hk_t
    have hT := m11.1.1.2.2.2
    refine ym 29 (fun B k => z_iconst (v := 1) B dX8_fail_28 (by decide) k) ?_
    obtain ⟨rfl, rfl⟩ := Prod.mk.inj (Option.some.inj h)
    exact yr_z hT (Or.inr rfl) rfl (Or.inr rfl) dX8_fail_29
set_option maxRecDepth 100000 in
set_option maxHeartbeats 4000000 in
theorem ct_X8_beat (l : Launch) {g : gx_T} {σ : sx_T} {u : sx_T} {r : Int32} {n0 : Nat} {t : Nat} {x1 : Int32} (h : f_X8_beat n0 σ t x1 = some (r, u)) (hT : TS g σ) (hk_t : sx_K σ t = 10) : CT l g yX8_beat cX8_beat 3 (some .boolean) 3 69 [.ref t, .int x1] (r = 0 ∨ r = 1) u σ (Qxi g r u) := by
  refine yc_met (by decide) (Nat.le_of_ble_eq_true rfl) ?_
  refine yc_lv (show lv_args 0 [.ref t, .int x1] = [(0, .ref t), (1, .int x1)] from rfl) ?_
  show ZY l g _ _ _ _ _ _ _ _ _ _ _ _ _ _ σ 0 [(0, .ref t), (1, .int x1)] []
  unfold f_X8_beat at h
  refine ym 1 (fun B k => z_aload_n B dX8_beat_0 rfl 0 rfl k) ?_
  refine ym 2 (fun B k => z_iload_n B dX8_beat_1 rfl 1 rfl k) ?_
  replace h := br_e h
  obtain ⟨r2, h1, h⟩ := h
  have m3 := ct_X8_runningTask l (g := g) h1 hT hk_t
  refine yc_Vq (Al := [.int x1]) (rest := []) 5 rfl cw_X8_225 cx_9 dX8_beat_2 m3 hk_t rfl (by decide) rfl (Nat.le_of_ble_eq_true rfl) ?_
  have hq_r2 := m3.1.2
  refine ym 6 (fun B k => z_qstore_n (r := r2) (lv' := [(2, va_rf r2), (0, .ref t), (1, .int x1)]) B dX8_beat_5 rfl (by decide) rfl k) ?_
  refine ym 7 (fun B k => z_qload_n (r := r2) B dX8_beat_6 rfl 0 rfl k) ?_
  rcases r2 with _ | a4
  · replace h := oc_n h
    refine ym 10 (fun B k => z_ifnonnull (r := none) (tgt := 12) B dX8_beat_7 (by decide) (fun a h => nomatch h) (fun _ => k)) ?_
    refine ym 11 (fun B k => z_iconst (v := 0) B dX8_beat_10 (by decide) k) ?_
    obtain ⟨rfl, rfl⟩ := Prod.mk.inj (Option.some.inj h)
    exact yr_z hT (Or.inl rfl) rfl (Or.inl rfl) dX8_beat_11
  · replace h := oc_s h
    have hk_a4 := hq_r2 a4 rfl
    refine ym 12 (fun B k => z_ifnonnull (r := (some a4)) (tgt := 12) B dX8_beat_7 (by decide) (fun _ _ => k) (fun h => nomatch h)) ?_
    refine ym 13 (fun B k => z_aload_n B dX8_beat_12 rfl 0 rfl k) ?_
    refine ym 14 (fun B k => z_aload_n B dX8_beat_13 rfl 1 rfl k) ?_
    refine ym 17 (fun B k => gf_X8_206 (x := (sx_I σ t 8)) B hk_t rfl dX8_beat_14 k) ?_
    refine ym 19 (fun B k => z_bipush (v := 6) B dX8_beat_17 (by decide) k) ?_
    refine ym 20 (fun B k => z_iadd B dX8_beat_19 k) ?_
    have j5 := hk_a4
    refine ymw (σ' := (wx_I σ a4 6 ((sx_I σ t 8) + 6))) 23 e_I (fun B hin k => pf_X8_235 (x := ((sx_I σ t 8) + 6)) B hk_a4 rfl dX8_beat_20 k) ?_
    have hT := TS_I (k := 6) (x := ((sx_I σ t 8) + 6)) hT hk_a4 (Or.inl rfl)
    have hk_a4 := kk_I (σ := σ) (a := a4) (k := 6) (x := ((sx_I σ t 8) + 6)) hk_a4
    have hk_t := kk_I (σ := σ) (a := a4) (k := 6) (x := ((sx_I σ t 8) + 6)) hk_t
    refine ym 24 (fun B k => z_iconst (v := 1) B dX8_beat_23 (by decide) k) ?_
    obtain ⟨rfl, rfl⟩ := Prod.mk.inj (Option.some.inj h)
    exact yr_z hT (Or.inr rfl) rfl (Or.inr rfl) dX8_beat_24
set_option maxRecDepth 100000 in
set_option maxHeartbeats 4000000 in
theorem ct_X8_workflows (l : Launch) {g : gx_T} {σ : sx_T} {r : Int32}  {t : Nat} (h : f_X8_workflows σ t = some r) (hT : TS g σ) (hk_t : sx_K σ t = 10) : CT l g yX8_workflows cX8_workflows 1 (some .int) 0 0 [.ref t] (True) σ σ (Qxi g r σ) := by
  refine yc_met (by decide) (Nat.le_of_ble_eq_true rfl) ?_
  refine yc_lv (show lv_args 0 [.ref t] = [(0, .ref t)] from rfl) ?_
  show ZY l g _ _ _ _ _ _ _ _ _ _ _ _ _ _ σ 0 [(0, .ref t)] []
  unfold f_X8_workflows at h
  refine ym 1 (fun B k => z_aload_n B dX8_workflows_0 rfl 0 rfl k) ?_
  refine ym 4 (fun B k => gf_X8_96 (x := (sx_I σ t 7)) B hk_t rfl dX8_workflows_1 k) ?_
  obtain rfl := Option.some.inj h
  exact yr_i hT trivial rfl dX8_workflows_4
set_option maxRecDepth 100000 in
set_option maxHeartbeats 4000000 in
theorem ct_X8_tasks (l : Launch) {g : gx_T} {σ : sx_T} {r : Int32}  {t : Nat} (h : f_X8_tasks σ t = some r) (hT : TS g σ) (hk_t : sx_K σ t = 10) : CT l g yX8_tasks cX8_tasks 1 (some .int) 1 20 [.ref t] (True) σ σ (Qxi g r σ) := by
  refine yc_met (by decide) (Nat.le_of_ble_eq_true rfl) ?_
  refine yc_lv (show lv_args 0 [.ref t] = [(0, .ref t)] from rfl) ?_
  show ZY l g _ _ _ _ _ _ _ _ _ _ _ _ _ _ σ 0 [(0, .ref t)] []
  unfold f_X8_tasks at h
  refine ym 1 (fun B k => z_aload_n B dX8_tasks_0 rfl 0 rfl k) ?_
  replace h := qv_e h
  obtain ⟨w1, e_w1, h⟩ := h
  have hq_w1 : rk σ w1 1 := rk_T hT hk_t rfl (by decide) e_w1
  refine ym 4 (fun B k => gf_X8_28 (x := w1) B hk_t e_w1 dX8_tasks_1 k) ?_
  replace h := bq_e h
  obtain ⟨a2, rfl, h⟩ := h
  have hk_a2 := hq_w1 a2 rfl
  replace h := br_e h
  obtain ⟨r4, h3, h⟩ := h
  have m5 := ct_Jx4a65c_size_8abf5 l (g := g) h3 hT hk_a2
  refine yc_Vi (Al := []) (rest := []) 7 rfl cw_X8_264 cx_0 dX8_tasks_4 m5 hk_a2 rfl (by decide) rfl (Nat.le_of_ble_eq_true rfl) ?_
  obtain rfl := Option.some.inj h
  exact yr_i hT trivial rfl dX8_tasks_7
set_option maxRecDepth 100000 in
set_option maxHeartbeats 4000000 in
theorem ct_X8_now (l : Launch) {g : gx_T} {σ : sx_T} {r : Int32}  {t : Nat} (h : f_X8_now σ t = some r) (hT : TS g σ) (hk_t : sx_K σ t = 10) : CT l g yX8_now cX8_now 1 (some .int) 0 0 [.ref t] (True) σ σ (Qxi g r σ) := by
  refine yc_met (by decide) (Nat.le_of_ble_eq_true rfl) ?_
  refine yc_lv (show lv_args 0 [.ref t] = [(0, .ref t)] from rfl) ?_
  show ZY l g _ _ _ _ _ _ _ _ _ _ _ _ _ _ σ 0 [(0, .ref t)] []
  unfold f_X8_now at h
  refine ym 1 (fun B k => z_aload_n B dX8_now_0 rfl 0 rfl k) ?_
  refine ym 4 (fun B k => gf_X8_206 (x := (sx_I σ t 8)) B hk_t rfl dX8_now_1 k) ?_
  obtain rfl := Option.some.inj h
  exact yr_i hT trivial rfl dX8_now_4
set_option maxRecDepth 100000 in
set_option maxHeartbeats 4000000 in
theorem ct_X8_isBelow (l : Launch) {g : gx_T} {σ : sx_T} {r : Int32}  {x0 : Int32} {x1 : Int32} (h : f_X8_isBelow σ x0 x1 = some r) (hT : TS g σ)  : CT l g yX8_isBelow cX8_isBelow 2 (some .boolean) 0 0 [.int x0, .int x1] (r = 0 ∨ r = 1) σ σ (Qxi g r σ) := by
  refine yc_met (by decide) (Nat.le_of_ble_eq_true rfl) ?_
  refine yc_lv (show lv_args 0 [.int x0, .int x1] = [(0, .int x0), (1, .int x1)] from rfl) ?_
  show ZY l g _ _ _ _ _ _ _ _ _ _ _ _ _ _ σ 0 [(0, .int x0), (1, .int x1)] []
  unfold f_X8_isBelow at h
  refine ym 1 (fun B k => z_iload_n B dX8_isBelow_0 rfl 0 rfl k) ?_
  by_cases c1 : x0 < 0
  · replace h := ite_p c1 h
    refine ym 13 (fun B k => z_if_lt (tgt := 13) B dX8_isBelow_1 (by decide) (fun _ => k) (fun q => absurd c1 q)) ?_
    refine ym 14 (fun B k => z_iconst (v := 0) B dX8_isBelow_13 (by decide) k) ?_
    obtain rfl := Option.some.inj h
    exact yr_z hT (Or.inl rfl) rfl (Or.inl rfl) dX8_isBelow_14
  · replace h := ite_n c1 h
    refine ym 4 (fun B k => z_if_lt (tgt := 13) B dX8_isBelow_1 (by decide) (fun q => absurd q c1) (fun _ => k)) ?_
    refine ym 5 (fun B k => z_iload_n B dX8_isBelow_4 rfl 0 rfl k) ?_
    refine ym 6 (fun B k => z_iload_n B dX8_isBelow_5 rfl 1 rfl k) ?_
    by_cases c2 : x1 ≤ x0
    · replace h := ite_p c2 h
      refine ym 13 (fun B k => z_icmp_ge (tgt := 13) B dX8_isBelow_6 (by decide) (fun _ => k) (fun q => absurd c2 q)) ?_
      refine ym 14 (fun B k => z_iconst (v := 0) B dX8_isBelow_13 (by decide) k) ?_
      obtain rfl := Option.some.inj h
      exact yr_z hT (Or.inl rfl) rfl (Or.inl rfl) dX8_isBelow_14
    · replace h := ite_n c2 h
      refine ym 9 (fun B k => z_icmp_ge (tgt := 13) B dX8_isBelow_6 (by decide) (fun q => absurd q c2) (fun _ => k)) ?_
      refine ym 10 (fun B k => z_iconst (v := 1) B dX8_isBelow_9 (by decide) k) ?_
      refine ym 14 (fun B k => z_goto (tgt := 14) B dX8_isBelow_10 (by decide) k) ?_
      obtain rfl := Option.some.inj h
      exact yr_z hT (Or.inr rfl) rfl (Or.inr rfl) dX8_isBelow_14
set_option maxRecDepth 100000 in
set_option maxHeartbeats 4000000 in
theorem ct_X8_isStep (l : Launch) {g : gx_T} {σ : sx_T} {r : Int32}  {x0 : Int32} {x1 : Int32} {x2 : Int32} (h : f_X8_isStep σ x0 x1 x2 = some r) (hT : TS g σ)  : CT l g yX8_isStep cX8_isStep 3 (some .boolean) 1 21 [.int x0, .int x1, .int x2] (r = 0 ∨ r = 1) σ σ (Qxi g r σ) := by
  refine yc_met (by decide) (Nat.le_of_ble_eq_true rfl) ?_
  refine yc_lv (show lv_args 0 [.int x0, .int x1, .int x2] = [(0, .int x0), (1, .int x1), (2, .int x2)] from rfl) ?_
  show ZY l g _ _ _ _ _ _ _ _ _ _ _ _ _ _ σ 0 [(0, .int x0), (1, .int x1), (2, .int x2)] []
  unfold f_X8_isStep at h
  refine ym 1 (fun B k => z_iload_n B dX8_isStep_0 rfl 0 rfl k) ?_
  refine ym 3 (fun B k => z_bipush (v := 18) B dX8_isStep_1 (by decide) k) ?_
  replace h := br_e h
  obtain ⟨r2, h1, h⟩ := h
  have m3 := ct_X8_isBelow l (g := g) h1 hT
  refine yc_Si (Al := [.int x0, .int 18]) (rest := []) 6 rfl cw_X8_68 dX8_isStep_3 m3 rfl (by decide) rfl (Nat.le_of_ble_eq_true rfl) ?_
  have hz_r2 := m3.1.2
  by_cases c4 : r2 = 0
  · replace h := ite_p c4 h
    refine ym 31 (fun B k => z_if_eq (tgt := 31) B dX8_isStep_6 (by decide) (fun _ => k) (fun q => absurd c4 q)) ?_
    refine ym 32 (fun B k => z_iconst (v := 0) B dX8_isStep_31 (by decide) k) ?_
    obtain rfl := Option.some.inj h
    exact yr_z hT (Or.inl rfl) rfl (Or.inl rfl) dX8_isStep_32
  · replace h := ite_n c4 h
    refine ym 9 (fun B k => z_if_eq (tgt := 31) B dX8_isStep_6 (by decide) (fun q => absurd q c4) (fun _ => k)) ?_
    refine ym 10 (fun B k => z_iload_n B dX8_isStep_9 rfl 1 rfl k) ?_
    refine ym 12 (fun B k => z_bipush (v := 100) B dX8_isStep_10 (by decide) k) ?_
    replace h := br_e h
    obtain ⟨r6, h5, h⟩ := h
    have m7 := ct_X8_isBelow l (g := g) h5 hT
    refine yc_Si (Al := [.int x1, .int 100]) (rest := []) 15 rfl cw_X8_68 dX8_isStep_12 m7 rfl (by decide) rfl (Nat.le_of_ble_eq_true rfl) ?_
    have hz_r6 := m7.1.2
    by_cases c8 : r6 = 0
    · replace h := ite_p c8 h
      refine ym 31 (fun B k => z_if_eq (tgt := 31) B dX8_isStep_15 (by decide) (fun _ => k) (fun q => absurd c8 q)) ?_
      refine ym 32 (fun B k => z_iconst (v := 0) B dX8_isStep_31 (by decide) k) ?_
      obtain rfl := Option.some.inj h
      exact yr_z hT (Or.inl rfl) rfl (Or.inl rfl) dX8_isStep_32
    · replace h := ite_n c8 h
      refine ym 18 (fun B k => z_if_eq (tgt := 31) B dX8_isStep_15 (by decide) (fun q => absurd q c8) (fun _ => k)) ?_
      refine ym 19 (fun B k => z_iload_n B dX8_isStep_18 rfl 2 rfl k) ?_
      refine ym 21 (fun B k => z_bipush (v := 100) B dX8_isStep_19 (by decide) k) ?_
      replace h := br_e h
      obtain ⟨r10, h9, h⟩ := h
      have m11 := ct_X8_isBelow l (g := g) h9 hT
      refine yc_Si (Al := [.int x2, .int 100]) (rest := []) 24 rfl cw_X8_68 dX8_isStep_21 m11 rfl (by decide) rfl (Nat.le_of_ble_eq_true rfl) ?_
      have hz_r10 := m11.1.2
      by_cases c12 : r10 = 0
      · replace h := ite_p c12 h
        refine ym 31 (fun B k => z_if_eq (tgt := 31) B dX8_isStep_24 (by decide) (fun _ => k) (fun q => absurd c12 q)) ?_
        refine ym 32 (fun B k => z_iconst (v := 0) B dX8_isStep_31 (by decide) k) ?_
        obtain rfl := Option.some.inj h
        exact yr_z hT (Or.inl rfl) rfl (Or.inl rfl) dX8_isStep_32
      · replace h := ite_n c12 h
        refine ym 27 (fun B k => z_if_eq (tgt := 31) B dX8_isStep_24 (by decide) (fun q => absurd q c12) (fun _ => k)) ?_
        refine ym 28 (fun B k => z_iconst (v := 1) B dX8_isStep_27 (by decide) k) ?_
        refine ym 32 (fun B k => z_goto (tgt := 32) B dX8_isStep_28 (by decide) k) ?_
        obtain rfl := Option.some.inj h
        exact yr_z hT (Or.inr rfl) rfl (Or.inr rfl) dX8_isStep_32
set_option maxRecDepth 100000 in
set_option maxHeartbeats 4000000 in
theorem ct_X4_put (l : Launch) {g : gx_T} {σ : sx_T} {u : sx_T}  {t : Nat} {x1 : Int32} {x2 : Int32} {x3 : Int32} {x4 : Int32} (h : f_X4_put σ t x1 x2 x3 x4 = some u) (hT : TS g σ) (hk_t : sx_K σ t = 6) : CT l g yX4_put cX4_put 5 none 0 0 [.ref t, .int x1, .int x2, .int x3, .int x4] (True) u σ (Qxv g u) := by
  refine yc_met (by decide) (Nat.le_of_ble_eq_true rfl) ?_
  refine yc_lv (show lv_args 0 [.ref t, .int x1, .int x2, .int x3, .int x4] = [(0, .ref t), (1, .int x1), (2, .int x2), (3, .int x3), (4, .int x4)] from rfl) ?_
  show ZY l g _ _ _ _ _ _ _ _ _ _ _ _ _ _ σ 0 [(0, .ref t), (1, .int x1), (2, .int x2), (3, .int x3), (4, .int x4)] []
  unfold f_X4_put at h
  refine ym 1 (fun B k => z_iload_n B dX4_put_0 rfl 1 rfl k) ?_
  by_cases c1 : x1 < 0
  · replace h := ite_p c1 h
    refine ym 53 (fun B k => z_if_lt (tgt := 53) B dX4_put_1 (by decide) (fun _ => k) (fun q => absurd c1 q)) ?_
    obtain rfl := Option.some.inj h
    exact yr_v hT trivial rfl dX4_put_53
  · replace h := ite_n c1 h
    refine ym 4 (fun B k => z_if_lt (tgt := 53) B dX4_put_1 (by decide) (fun q => absurd q c1) (fun _ => k)) ?_
    refine ym 5 (fun B k => z_iload_n B dX4_put_4 rfl 1 rfl k) ?_
    refine ym 6 (fun B k => z_aload_n B dX4_put_5 rfl 0 rfl k) ?_
    replace h := qv_e h
    obtain ⟨w2, e_w2, h⟩ := h
    have hq_w2 : rk σ w2 13 := rk_T hT hk_t rfl (by decide) e_w2
    refine ym 9 (fun B k => gf_X4_9 (x := w2) B hk_t e_w2 dX4_put_6 k) ?_
    replace h := bq_e h
    obtain ⟨a3, rfl, h⟩ := h
    have hk_a3 := hq_w2 a3 rfl
    refine ym 10 (fun B k => z_alen (kd := 13) (ti := 1) (v := Int32.ofNat (sx_N σ a3)) B hk_a3 (by decide) rfl rfl dX4_put_9 k) ?_
    by_cases c4 : (Int32.ofNat (sx_N σ a3)) ≤ x1
    · replace h := ite_p c4 h
      refine ym 53 (fun B k => z_icmp_ge (tgt := 53) B dX4_put_10 (by decide) (fun _ => k) (fun q => absurd c4 q)) ?_
      obtain rfl := Option.some.inj h
      exact yr_v hT trivial rfl dX4_put_53
    · replace h := ite_n c4 h
      refine ym 13 (fun B k => z_icmp_ge (tgt := 53) B dX4_put_10 (by decide) (fun q => absurd q c4) (fun _ => k)) ?_
      refine ym 14 (fun B k => z_iload_n B dX4_put_13 rfl 1 rfl k) ?_
      refine ym 15 (fun B k => z_aload_n B dX4_put_14 rfl 0 rfl k) ?_
      replace h := qv_e h
      obtain ⟨w5, e_w5, h⟩ := h
      have hq_w5 : rk σ w5 13 := rk_T hT hk_t rfl (by decide) e_w5
      refine ym 18 (fun B k => gf_X4_15 (x := w5) B hk_t e_w5 dX4_put_15 k) ?_
      replace h := bq_e h
      obtain ⟨a6, rfl, h⟩ := h
      have hk_a6 := hq_w5 a6 rfl
      refine ym 19 (fun B k => z_alen (kd := 13) (ti := 1) (v := Int32.ofNat (sx_N σ a6)) B hk_a6 (by decide) rfl rfl dX4_put_18 k) ?_
      by_cases c7 : (Int32.ofNat (sx_N σ a6)) ≤ x1
      · replace h := ite_p c7 h
        refine ym 53 (fun B k => z_icmp_ge (tgt := 53) B dX4_put_19 (by decide) (fun _ => k) (fun q => absurd c7 q)) ?_
        obtain rfl := Option.some.inj h
        exact yr_v hT trivial rfl dX4_put_53
      · replace h := ite_n c7 h
        refine ym 22 (fun B k => z_icmp_ge (tgt := 53) B dX4_put_19 (by decide) (fun q => absurd q c7) (fun _ => k)) ?_
        refine ym 23 (fun B k => z_iload_n B dX4_put_22 rfl 1 rfl k) ?_
        refine ym 24 (fun B k => z_aload_n B dX4_put_23 rfl 0 rfl k) ?_
        replace h := qv_e h
        obtain ⟨w8, e_w8, h⟩ := h
        have hq_w8 : rk σ w8 13 := rk_T hT hk_t rfl (by decide) e_w8
        refine ym 27 (fun B k => gf_X4_18 (x := w8) B hk_t e_w8 dX4_put_24 k) ?_
        replace h := bq_e h
        obtain ⟨a9, rfl, h⟩ := h
        have hk_a9 := hq_w8 a9 rfl
        refine ym 28 (fun B k => z_alen (kd := 13) (ti := 1) (v := Int32.ofNat (sx_N σ a9)) B hk_a9 (by decide) rfl rfl dX4_put_27 k) ?_
        by_cases c10 : (Int32.ofNat (sx_N σ a9)) ≤ x1
        · replace h := ite_p c10 h
          refine ym 53 (fun B k => z_icmp_ge (tgt := 53) B dX4_put_28 (by decide) (fun _ => k) (fun q => absurd c10 q)) ?_
          obtain rfl := Option.some.inj h
          exact yr_v hT trivial rfl dX4_put_53
        · replace h := ite_n c10 h
          refine ym 31 (fun B k => z_icmp_ge (tgt := 53) B dX4_put_28 (by decide) (fun q => absurd q c10) (fun _ => k)) ?_
          refine ym 32 (fun B k => z_aload_n B dX4_put_31 rfl 0 rfl k) ?_
          replace h := qv_e h
          obtain ⟨w11, e_w11, h⟩ := h
          have hq_w11 : rk σ w11 13 := rk_T hT hk_t rfl (by decide) e_w11
          refine ym 35 (fun B k => gf_X4_9 (x := w11) B hk_t e_w11 dX4_put_32 k) ?_
          refine ym 36 (fun B k => z_iload_n B dX4_put_35 rfl 1 rfl k) ?_
          refine ym 37 (fun B k => z_iload_n B dX4_put_36 rfl 2 rfl k) ?_
          replace h := bq_e h
          obtain ⟨a12, rfl, h⟩ := h
          have hk_a12 := hq_w11 a12 rfl
          replace h := ck_e h
          obtain ⟨hi_13, h⟩ := h
          have j14 := hk_a12
          refine ymw (σ' := (wx_I σ a12 (ti x1) x2)) 38 e_I (fun B _ k => z_iast (j := (ti x1)) B hk_a12 rfl hi_13 rfl dX4_put_37 k) ?_
          have hT := TS_I (k := (ti x1)) (x := x2) hT hk_a12 (Or.inl rfl)
          have hk_t := kk_I (σ := σ) (a := a12) (k := (ti x1)) (x := x2) hk_t
          refine ym 39 (fun B k => z_aload_n B dX4_put_38 rfl 0 rfl k) ?_
          replace h := qv_e h
          obtain ⟨w15, e_w15, h⟩ := h
          have hq_w15 : rk (wx_I σ a12 (ti x1) x2) w15 13 := rk_T hT hk_t rfl (by decide) ((rR_I rfl).trans e_w15)
          refine ym 42 (fun B k => gf_X4_15 (x := w15) B hk_t ((rR_I rfl).trans e_w15) dX4_put_39 k) ?_
          refine ym 43 (fun B k => z_iload_n B dX4_put_42 rfl 1 rfl k) ?_
          refine ym 44 (fun B k => z_iload_n B dX4_put_43 rfl 3 rfl k) ?_
          replace h := bq_e h
          obtain ⟨a16, rfl, h⟩ := h
          have hk_a16 := hq_w15 a16 rfl
          replace h := ck_e h
          obtain ⟨hi_17, h⟩ := h
          have j18 := hk_a16
          refine ymw (σ' := (wx_I (wx_I σ a12 (ti x1) x2) a16 (ti x1) x3)) 45 e_I (fun B _ k => z_iast (j := (ti x1)) B hk_a16 rfl hi_17 rfl dX4_put_44 k) ?_
          have hT := TS_I (k := (ti x1)) (x := x3) hT hk_a16 (Or.inl rfl)
          have hk_t := kk_I (σ := (wx_I σ a12 (ti x1) x2)) (a := a16) (k := (ti x1)) (x := x3) hk_t
          refine ym 46 (fun B k => z_aload_n B dX4_put_45 rfl 0 rfl k) ?_
          replace h := qv_e h
          obtain ⟨w19, e_w19, h⟩ := h
          have hq_w19 : rk (wx_I (wx_I σ a12 (ti x1) x2) a16 (ti x1) x3) w19 13 := rk_T hT hk_t rfl (by decide) ((rR_I (rR_I rfl)).trans e_w19)
          refine ym 49 (fun B k => gf_X4_18 (x := w19) B hk_t ((rR_I (rR_I rfl)).trans e_w19) dX4_put_46 k) ?_
          refine ym 50 (fun B k => z_iload_n B dX4_put_49 rfl 1 rfl k) ?_
          refine ym 52 (fun B k => z_iload B dX4_put_50 4 rfl k) ?_
          replace h := bq_e h
          obtain ⟨a20, rfl, h⟩ := h
          have hk_a20 := hq_w19 a20 rfl
          replace h := ck_e h
          obtain ⟨hi_21, h⟩ := h
          have j22 := hk_a20
          refine ymw (σ' := (wx_I (wx_I (wx_I σ a12 (ti x1) x2) a16 (ti x1) x3) a20 (ti x1) x4)) 53 e_I (fun B _ k => z_iast (j := (ti x1)) B hk_a20 rfl hi_21 rfl dX4_put_52 k) ?_
          have hT := TS_I (k := (ti x1)) (x := x4) hT hk_a20 (Or.inl rfl)
          have hk_t := kk_I (σ := (wx_I (wx_I σ a12 (ti x1) x2) a16 (ti x1) x3)) (a := a20) (k := (ti x1)) (x := x4) hk_t
          obtain rfl := Option.some.inj h
          exact yr_v hT trivial rfl dX4_put_53
set_option maxRecDepth 100000 in
set_option maxHeartbeats 4000000 in
theorem tl_X8_findAgain_2 {l : Launch} {g : gx_T} {u : sx_T} {As : Array Value} {n0 : Nat} : ∀ {n : Nat} {σ : sx_T} {t : Nat} {v1 : Option Nat} {x2 : Int32}, fl_X8_findAgain_2 n0 n σ t v1 x2 = some u → TS g σ → sx_K σ t = 10 → rk σ v1 6 → ZY l g cX8_findAgain RX8 "findAgain" none 4 5 115 0 0 false As (QM g As (Qxv g u)) (True) u σ 2 [(0, .ref t), (1, va_rf v1), (2, .int x2)] [] := by
  intro n
  induction n with
  | zero =>
    intro σ t v1 x2 h
    exact nomatch h
  | succ n ih_ =>
    have ih := @ih_
    intro σ t v1 x2 h hT hk_t hq_v1
    unfold fl_X8_findAgain_2 at h
    refine ym 3 (fun B k => z_iload_n B dX8_findAgain_2 rfl 2 rfl k) ?_
    refine ym 4 (fun B k => z_aload_n B dX8_findAgain_3 rfl 0 rfl k) ?_
    refine ym 7 (fun B k => gf_X8_96 (x := (sx_I σ t 7)) B hk_t rfl dX8_findAgain_4 k) ?_
    by_cases c1 : (sx_I σ t 7) ≤ x2
    · replace h := ite_p c1 h
      refine ym 45 (fun B k => z_icmp_ge (tgt := 45) B dX8_findAgain_7 (by decide) (fun _ => k) (fun q => absurd c1 q)) ?_
      obtain rfl := Option.some.inj h
      exact yr_v hT trivial rfl dX8_findAgain_45
    · replace h := ite_n c1 h
      refine ym 10 (fun B k => z_icmp_ge (tgt := 45) B dX8_findAgain_7 (by decide) (fun q => absurd q c1) (fun _ => k)) ?_
      refine ym 11 (fun B k => z_aload_n B dX8_findAgain_10 rfl 0 rfl k) ?_
      refine ym 12 (fun B k => z_iload_n B dX8_findAgain_11 rfl 2 rfl k) ?_
      replace h := br_e h
      obtain ⟨r3, h2, h⟩ := h
      have m4 := ct_X8_flowAt l (g := g) h2 hT hk_t
      refine yc_Vq (Al := [.int x2]) (rest := []) 15 rfl cw_X8_99 cx_9 dX8_findAgain_12 m4 hk_t rfl (by decide) rfl (Nat.le_of_ble_eq_true rfl) ?_
      have hq_r3 := m4.1.2
      refine ym 16 (fun B k => z_qstore_n (r := r3) (lv' := [(3, va_rf r3), (0, .ref t), (1, va_rf v1), (2, .int x2)]) B dX8_findAgain_15 rfl (by decide) rfl k) ?_
      refine ym 17 (fun B k => z_qload_n (r := r3) B dX8_findAgain_16 rfl 0 rfl k) ?_
      rcases r3 with _ | a5
      · replace h := oc_n h
        refine ym 39 (fun B k => z_ifnull (r := none) (tgt := 39) B dX8_findAgain_17 (by decide) (fun _ => k) (fun a h => nomatch h)) ?_
        refine ym 42 (fun B k => z_iinc (v := x2 + 1) (lv' := [(2, .int (x2 + 1)), (3, .null), (0, .ref t), (1, va_rf v1)]) B dX8_findAgain_39 3 rfl rfl (by decide) (by cases v1 <;> rfl) k) ?_
        refine ym 2 (fun B k => z_goto (tgt := 2) B dX8_findAgain_42 (by decide) k) ?_
        refine y_sub [(0, .ref t), (1, va_rf v1), (2, .int (x2 + 1))] [2, 3, 0] rfl ?_
        exact ih h hT hk_t hq_v1
      · replace h := oc_s h
        have hk_a5 := hq_r3 a5 rfl
        refine ym 20 (fun B k => z_ifnull (r := (some a5)) (tgt := 39) B dX8_findAgain_17 (by decide) (fun h => nomatch h) (fun _ _ => k)) ?_
        refine ym 21 (fun B k => z_aload_n B dX8_findAgain_20 rfl 0 rfl k) ?_
        replace h := qv_e h
        obtain ⟨w6, e_w6, h⟩ := h
        have hq_w6 : rk σ w6 6 := rk_T hT hk_a5 rfl (by decide) e_w6
        refine ym 24 (fun B k => gf_X8_103 (x := w6) B hk_a5 e_w6 dX8_findAgain_21 k) ?_
        refine ym 25 (fun B k => z_qload_n (r := v1) B dX8_findAgain_24 rfl 2 rfl k) ?_
        by_cases c7 : w6 = v1
        · replace h := ite_p c7 h
          refine ym 28 (fun B k => z_acmp_ne (rx := w6) (ry := v1) (tgt := 39) B dX8_findAgain_25 (by decide) (fun q => absurd c7 q) (fun _ => k)) ?_
          refine ym 29 (fun B k => z_aload_n B dX8_findAgain_28 rfl 0 rfl k) ?_
          replace h := br_e h
          obtain ⟨r9, h8, h⟩ := h
          have m10 := ct_X0_hasEnded l (g := g) h8 hT hk_a5
          refine yc_Vi (Al := []) (rest := []) 32 rfl cw_X8_107 cx_1 dX8_findAgain_29 m10 hk_a5 rfl (by decide) rfl (Nat.le_of_ble_eq_true rfl) ?_
          have hz_r9 := m10.1.2
          by_cases c11 : r9 = 0
          · replace h := ite_p c11 h
            refine ym 35 (fun B k => z_if_ne (tgt := 39) B dX8_findAgain_32 (by decide) (fun q => absurd c11 q) (fun _ => k)) ?_
            refine ym 36 (fun B k => z_aload_n B dX8_findAgain_35 rfl 0 rfl k) ?_
            replace h := br_e h
            obtain ⟨u13, h12, h⟩ := h
            have m14 := ct_X0_findAgain l (g := g) h12 hT hk_a5
            refine yc_Vv (Al := []) (rest := []) 39 rfl cw_X8_193 cx_1 dX8_findAgain_36 m14 hk_a5 rfl (by decide) rfl (Nat.le_of_ble_eq_true rfl) ?_
            have hk_a5 := k_G m14.1.1 (by decide) hk_a5
            have hk_t := k_G m14.1.1 (by decide) hk_t
            have hq_v1 := rk_G m14.1.1 (by decide) hq_v1
            have hT := m14.1.1.2.2.2
            refine ym 42 (fun B k => z_iinc (v := x2 + 1) (lv' := [(2, .int (x2 + 1)), (3, .ref a5), (0, .ref t), (1, va_rf v1)]) B dX8_findAgain_39 3 rfl rfl (by decide) (by cases v1 <;> rfl) k) ?_
            refine ym 2 (fun B k => z_goto (tgt := 2) B dX8_findAgain_42 (by decide) k) ?_
            refine y_sub [(0, .ref t), (1, va_rf v1), (2, .int (x2 + 1))] [2, 3, 0] rfl ?_
            exact ih h hT hk_t hq_v1
          · replace h := ite_n c11 h
            refine ym 39 (fun B k => z_if_ne (tgt := 39) B dX8_findAgain_32 (by decide) (fun _ => k) (fun q => absurd q c11)) ?_
            refine ym 42 (fun B k => z_iinc (v := x2 + 1) (lv' := [(2, .int (x2 + 1)), (3, .ref a5), (0, .ref t), (1, va_rf v1)]) B dX8_findAgain_39 3 rfl rfl (by decide) (by cases v1 <;> rfl) k) ?_
            refine ym 2 (fun B k => z_goto (tgt := 2) B dX8_findAgain_42 (by decide) k) ?_
            refine y_sub [(0, .ref t), (1, va_rf v1), (2, .int (x2 + 1))] [2, 3, 0] rfl ?_
            exact ih h hT hk_t hq_v1
        · replace h := ite_n c7 h
          refine ym 39 (fun B k => z_acmp_ne (rx := w6) (ry := v1) (tgt := 39) B dX8_findAgain_25 (by decide) (fun _ => k) (fun q => absurd q c7)) ?_
          refine ym 42 (fun B k => z_iinc (v := x2 + 1) (lv' := [(2, .int (x2 + 1)), (3, .ref a5), (0, .ref t), (1, va_rf v1)]) B dX8_findAgain_39 3 rfl rfl (by decide) (by cases v1 <;> rfl) k) ?_
          refine ym 2 (fun B k => z_goto (tgt := 2) B dX8_findAgain_42 (by decide) k) ?_
          refine y_sub [(0, .ref t), (1, va_rf v1), (2, .int (x2 + 1))] [2, 3, 0] rfl ?_
          exact ih h hT hk_t hq_v1
set_option maxRecDepth 100000 in
set_option maxHeartbeats 4000000 in
theorem ct_X8_findAgain (l : Launch) {g : gx_T} {σ : sx_T} {u : sx_T} {n0 : Nat} {t : Nat} {v1 : Option Nat} (h : f_X8_findAgain n0 σ t v1 = some u) (hT : TS g σ) (hk_t : sx_K σ t = 10) (hq_v1 : rk σ v1 6) : CT l g yX8_findAgain cX8_findAgain 4 none 5 115 [.ref t, va_rf v1] (True) u σ (Qxv g u) := by
  refine yc_met (by decide) (by cases v1 <;> exact Nat.le_of_ble_eq_true rfl) ?_
  refine yc_lv (show lv_args 0 [.ref t, va_rf v1] = [(0, .ref t), (1, va_rf v1)] from (by cases v1 <;> rfl)) ?_
  show ZY l g _ _ _ _ _ _ _ _ _ _ _ _ _ _ σ 0 [(0, .ref t), (1, va_rf v1)] []
  unfold f_X8_findAgain at h
  refine ym 1 (fun B k => z_iconst (v := 0) B dX8_findAgain_0 (by decide) k) ?_
  refine ym 2 (fun B k => z_istore_n (lv' := [(2, .int 0), (0, .ref t), (1, va_rf v1)]) B dX8_findAgain_1 rfl (by decide) (by cases v1 <;> rfl) k) ?_
  refine y_sub [(0, .ref t), (1, va_rf v1), (2, .int 0)] [1, 2, 0] rfl ?_
  exact tl_X8_findAgain_2 h hT hk_t hq_v1
set_option maxRecDepth 100000 in
set_option maxHeartbeats 4000000 in
theorem tl_X8_countAstray_4 {l : Launch} {g : gx_T} {r : Int32} {As : Array Value} {n0 : Nat} : ∀ {n : Nat} {σ : sx_T} {t : Nat} {v1 : Option Nat} {x2 : Int32} {x3 : Int32}, fl_X8_countAstray_4 n0 n σ t v1 x2 x3 = some r → TS g σ → sx_K σ t = 10 → rk σ v1 6 → ZY l g cX8_countAstray RX8 "countAstray" (some .int) 5 3 65 0 0 false As (QM g As (Qxi g r σ)) (True) σ σ 4 [(0, .ref t), (1, va_rf v1), (2, .int x2), (3, .int x3)] [] := by
  intro n
  induction n with
  | zero =>
    intro σ t v1 x2 x3 h
    exact nomatch h
  | succ n ih_ =>
    have ih := @ih_
    intro σ t v1 x2 x3 h hT hk_t hq_v1
    unfold fl_X8_countAstray_4 at h
    refine ym 5 (fun B k => z_iload_n B dX8_countAstray_4 rfl 3 rfl k) ?_
    refine ym 6 (fun B k => z_aload_n B dX8_countAstray_5 rfl 0 rfl k) ?_
    refine ym 9 (fun B k => gf_X8_96 (x := (sx_I σ t 7)) B hk_t rfl dX8_countAstray_6 k) ?_
    by_cases c1 : (sx_I σ t 7) ≤ x3
    · replace h := ite_p c1 h
      refine ym 61 (fun B k => z_icmp_ge (tgt := 61) B dX8_countAstray_9 (by decide) (fun _ => k) (fun q => absurd c1 q)) ?_
      refine ym 62 (fun B k => z_iload_n B dX8_countAstray_61 rfl 2 rfl k) ?_
      obtain rfl := Option.some.inj h
      exact yr_i hT trivial rfl dX8_countAstray_62
    · replace h := ite_n c1 h
      refine ym 12 (fun B k => z_icmp_ge (tgt := 61) B dX8_countAstray_9 (by decide) (fun q => absurd q c1) (fun _ => k)) ?_
      refine ym 13 (fun B k => z_aload_n B dX8_countAstray_12 rfl 0 rfl k) ?_
      refine ym 14 (fun B k => z_iload_n B dX8_countAstray_13 rfl 3 rfl k) ?_
      replace h := br_e h
      obtain ⟨r3, h2, h⟩ := h
      have m4 := ct_X8_flowAt l (g := g) h2 hT hk_t
      refine yc_Vq (Al := [.int x3]) (rest := []) 17 rfl cw_X8_99 cx_9 dX8_countAstray_14 m4 hk_t rfl (by decide) rfl (Nat.le_of_ble_eq_true rfl) ?_
      have hq_r3 := m4.1.2
      refine ym 19 (fun B k => z_qstore (r := r3) (lv' := [(4, va_rf r3), (0, .ref t), (1, va_rf v1), (2, .int x2), (3, .int x3)]) B dX8_countAstray_17 (by decide) rfl k) ?_
      refine ym 21 (fun B k => z_qload (r := r3) B dX8_countAstray_19 0 rfl k) ?_
      rcases r3 with _ | a5
      · replace h := oc_n h
        refine ym 55 (fun B k => z_ifnull (r := none) (tgt := 55) B dX8_countAstray_21 (by decide) (fun _ => k) (fun a h => nomatch h)) ?_
        refine ym 58 (fun B k => z_iinc (v := x3 + 1) (lv' := [(3, .int (x3 + 1)), (4, .null), (0, .ref t), (1, va_rf v1), (2, .int x2)]) B dX8_countAstray_55 4 rfl rfl (by decide) rfl k) ?_
        refine ym 4 (fun B k => z_goto (tgt := 4) B dX8_countAstray_58 (by decide) k) ?_
        refine y_sub [(0, .ref t), (1, va_rf v1), (2, .int x2), (3, .int (x3 + 1))] [2, 3, 4, 0] rfl ?_
        exact ih h hT hk_t hq_v1
      · replace h := oc_s h
        have hk_a5 := hq_r3 a5 rfl
        refine ym 24 (fun B k => z_ifnull (r := (some a5)) (tgt := 55) B dX8_countAstray_21 (by decide) (fun h => nomatch h) (fun _ _ => k)) ?_
        refine ym 26 (fun B k => z_aload B dX8_countAstray_24 0 rfl k) ?_
        replace h := qv_e h
        obtain ⟨w6, e_w6, h⟩ := h
        have hq_w6 : rk σ w6 6 := rk_T hT hk_a5 rfl (by decide) e_w6
        refine ym 29 (fun B k => gf_X8_103 (x := w6) B hk_a5 e_w6 dX8_countAstray_26 k) ?_
        refine ym 30 (fun B k => z_qload_n (r := v1) B dX8_countAstray_29 rfl 2 rfl k) ?_
        by_cases c7 : w6 = v1
        · replace h := ite_p c7 h
          refine ym 33 (fun B k => z_acmp_ne (rx := w6) (ry := v1) (tgt := 55) B dX8_countAstray_30 (by decide) (fun q => absurd c7 q) (fun _ => k)) ?_
          refine ym 35 (fun B k => z_aload B dX8_countAstray_33 0 rfl k) ?_
          replace h := br_e h
          obtain ⟨r9, h8, h⟩ := h
          have m10 := ct_X0_hasEnded l (g := g) h8 hT hk_a5
          refine yc_Vi (Al := []) (rest := []) 38 rfl cw_X8_107 cx_1 dX8_countAstray_35 m10 hk_a5 rfl (by decide) rfl (Nat.le_of_ble_eq_true rfl) ?_
          have hz_r9 := m10.1.2
          by_cases c11 : r9 = 0
          · replace h := ite_p c11 h
            refine ym 41 (fun B k => z_if_ne (tgt := 55) B dX8_countAstray_38 (by decide) (fun q => absurd c11 q) (fun _ => k)) ?_
            refine ym 43 (fun B k => z_aload B dX8_countAstray_41 0 rfl k) ?_
            replace h := qv_e h
            obtain ⟨w12, e_w12, h⟩ := h
            have hq_w12 : rk σ w12 7 := rk_T hT hk_a5 rfl (by decide) e_w12
            refine ym 46 (fun B k => gf_X8_249 (x := w12) B hk_a5 e_w12 dX8_countAstray_43 k) ?_
            replace h := bq_e h
            obtain ⟨a13, rfl, h⟩ := h
            have hk_a13 := hq_w12 a13 rfl
            refine ym 49 (fun B k => gf_X8_133 (x := (sx_I σ a13 19)) B hk_a13 rfl dX8_countAstray_46 k) ?_
            by_cases c14 : (sx_I σ a13 19) = 0
            · replace h := ite_p c14 h
              refine ym 55 (fun B k => z_if_eq (tgt := 55) B dX8_countAstray_49 (by decide) (fun _ => k) (fun q => absurd c14 q)) ?_
              refine ym 58 (fun B k => z_iinc (v := x3 + 1) (lv' := [(3, .int (x3 + 1)), (4, .ref a5), (0, .ref t), (1, va_rf v1), (2, .int x2)]) B dX8_countAstray_55 4 rfl rfl (by decide) rfl k) ?_
              refine ym 4 (fun B k => z_goto (tgt := 4) B dX8_countAstray_58 (by decide) k) ?_
              refine y_sub [(0, .ref t), (1, va_rf v1), (2, .int x2), (3, .int (x3 + 1))] [2, 3, 4, 0] rfl ?_
              exact ih h hT hk_t hq_v1
            · replace h := ite_n c14 h
              refine ym 52 (fun B k => z_if_eq (tgt := 55) B dX8_countAstray_49 (by decide) (fun q => absurd q c14) (fun _ => k)) ?_
              refine ym 55 (fun B k => z_iinc (v := x2 + 1) (lv' := [(2, .int (x2 + 1)), (4, .ref a5), (0, .ref t), (1, va_rf v1), (3, .int x3)]) B dX8_countAstray_52 3 rfl rfl (by decide) (by cases v1 <;> rfl) k) ?_
              refine ym 58 (fun B k => z_iinc (v := x3 + 1) (lv' := [(3, .int (x3 + 1)), (2, .int (x2 + 1)), (4, .ref a5), (0, .ref t), (1, va_rf v1)]) B dX8_countAstray_55 4 rfl rfl (by decide) rfl k) ?_
              refine ym 4 (fun B k => z_goto (tgt := 4) B dX8_countAstray_58 (by decide) k) ?_
              refine y_sub [(0, .ref t), (1, va_rf v1), (2, .int (x2 + 1)), (3, .int (x3 + 1))] [3, 4, 1, 0] rfl ?_
              exact ih h hT hk_t hq_v1
          · replace h := ite_n c11 h
            refine ym 55 (fun B k => z_if_ne (tgt := 55) B dX8_countAstray_38 (by decide) (fun _ => k) (fun q => absurd q c11)) ?_
            refine ym 58 (fun B k => z_iinc (v := x3 + 1) (lv' := [(3, .int (x3 + 1)), (4, .ref a5), (0, .ref t), (1, va_rf v1), (2, .int x2)]) B dX8_countAstray_55 4 rfl rfl (by decide) rfl k) ?_
            refine ym 4 (fun B k => z_goto (tgt := 4) B dX8_countAstray_58 (by decide) k) ?_
            refine y_sub [(0, .ref t), (1, va_rf v1), (2, .int x2), (3, .int (x3 + 1))] [2, 3, 4, 0] rfl ?_
            exact ih h hT hk_t hq_v1
        · replace h := ite_n c7 h
          refine ym 55 (fun B k => z_acmp_ne (rx := w6) (ry := v1) (tgt := 55) B dX8_countAstray_30 (by decide) (fun _ => k) (fun q => absurd q c7)) ?_
          refine ym 58 (fun B k => z_iinc (v := x3 + 1) (lv' := [(3, .int (x3 + 1)), (4, .ref a5), (0, .ref t), (1, va_rf v1), (2, .int x2)]) B dX8_countAstray_55 4 rfl rfl (by decide) rfl k) ?_
          refine ym 4 (fun B k => z_goto (tgt := 4) B dX8_countAstray_58 (by decide) k) ?_
          refine y_sub [(0, .ref t), (1, va_rf v1), (2, .int x2), (3, .int (x3 + 1))] [2, 3, 4, 0] rfl ?_
          exact ih h hT hk_t hq_v1
set_option maxRecDepth 100000 in
set_option maxHeartbeats 4000000 in
theorem ct_X8_countAstray (l : Launch) {g : gx_T} {σ : sx_T} {r : Int32} {n0 : Nat} {t : Nat} {v1 : Option Nat} (h : f_X8_countAstray n0 σ t v1 = some r) (hT : TS g σ) (hk_t : sx_K σ t = 10) (hq_v1 : rk σ v1 6) : CT l g yX8_countAstray cX8_countAstray 5 (some .int) 3 65 [.ref t, va_rf v1] (True) σ σ (Qxi g r σ) := by
  refine yc_met (by decide) (by cases v1 <;> exact Nat.le_of_ble_eq_true rfl) ?_
  refine yc_lv (show lv_args 0 [.ref t, va_rf v1] = [(0, .ref t), (1, va_rf v1)] from (by cases v1 <;> rfl)) ?_
  show ZY l g _ _ _ _ _ _ _ _ _ _ _ _ _ _ σ 0 [(0, .ref t), (1, va_rf v1)] []
  unfold f_X8_countAstray at h
  refine ym 1 (fun B k => z_iconst (v := 0) B dX8_countAstray_0 (by decide) k) ?_
  refine ym 2 (fun B k => z_istore_n (lv' := [(2, .int 0), (0, .ref t), (1, va_rf v1)]) B dX8_countAstray_1 rfl (by decide) (by cases v1 <;> rfl) k) ?_
  refine ym 3 (fun B k => z_iconst (v := 0) B dX8_countAstray_2 (by decide) k) ?_
  refine ym 4 (fun B k => z_istore_n (lv' := [(3, .int 0), (2, .int 0), (0, .ref t), (1, va_rf v1)]) B dX8_countAstray_3 rfl (by decide) rfl k) ?_
  refine y_sub [(0, .ref t), (1, va_rf v1), (2, .int 0), (3, .int 0)] [2, 3, 1, 0] rfl ?_
  exact tl_X8_countAstray_4 h hT hk_t hq_v1
set_option maxRecDepth 100000 in
set_option maxHeartbeats 4000000 in
theorem tl_X8_set_72 {l : Launch} {g : gx_T} {u : sx_T} {r : Int32} {As : Array Value} {n0 : Nat} : ∀ {n : Nat} {σ : sx_T} {t : Nat} {v6 : Option Nat} {x7 : Int32}, fl_X8_set_72 n0 n σ t v6 x7 = some (.inl r, u) → TS g σ → sx_K σ t = 10 → rk σ v6 6 → ZY l g cX8_set RX8 "set" (some .int) 9 11 280 0 0 false As (QM g As (Qxi g r u)) (True) u σ 72 [(0, .ref t), (6, va_rf v6), (7, .int x7)] [] := by
  intro n
  induction n with
  | zero =>
    intro σ t v6 x7 h
    exact nomatch h
  | succ n ih_ =>
    have ih := @ih_
    intro σ t v6 x7 h hT hk_t hq_v6
    unfold fl_X8_set_72 at h
    refine ym 74 (fun B k => z_iload B dX8_set_72 2 rfl k) ?_
    refine ym 75 (fun B k => z_aload_n B dX8_set_74 rfl 0 rfl k) ?_
    refine ym 78 (fun B k => gf_X8_96 (x := (sx_I σ t 7)) B hk_t rfl dX8_set_75 k) ?_
    by_cases c1 : (sx_I σ t 7) ≤ x7
    · replace h := ite_p c1 h
      refine ym 124 (fun B k => z_icmp_ge (tgt := 124) B dX8_set_78 (by decide) (fun _ => k) (fun q => absurd c1 q)) ?_
      refine ym 125 (fun B k => z_aload_n B dX8_set_124 rfl 0 rfl k) ?_
      refine ym 127 (fun B k => z_qload (r := v6) B dX8_set_125 1 rfl k) ?_
      replace h := br_e h
      obtain ⟨r3, h2, h⟩ := h
      have m4 := ct_X8_countAstray l (g := g) h2 hT hk_t hq_v6
      refine yc_Vi (Al := [va_rf v6]) (rest := []) 130 rfl cw_X8_115 cx_9 dX8_set_127 m4 hk_t rfl (by decide) rfl (Nat.le_of_ble_eq_true rfl) ?_
      obtain ⟨h1, rfl⟩ := Prod.mk.inj (Option.some.inj h)
      obtain rfl := Sum.inl.inj h1
      exact yr_i hT trivial rfl dX8_set_130
    · replace h := ite_n c1 h
      refine ym 81 (fun B k => z_icmp_ge (tgt := 124) B dX8_set_78 (by decide) (fun q => absurd q c1) (fun _ => k)) ?_
      refine ym 82 (fun B k => z_aload_n B dX8_set_81 rfl 0 rfl k) ?_
      refine ym 84 (fun B k => z_iload B dX8_set_82 2 rfl k) ?_
      replace h := br_e h
      obtain ⟨r6, h5, h⟩ := h
      have m7 := ct_X8_flowAt l (g := g) h5 hT hk_t
      refine yc_Vq (Al := [.int x7]) (rest := []) 87 rfl cw_X8_99 cx_9 dX8_set_84 m7 hk_t rfl (by decide) rfl (Nat.le_of_ble_eq_true rfl) ?_
      have hq_r6 := m7.1.2
      refine ym 89 (fun B k => z_qstore (r := r6) (lv' := [(8, va_rf r6), (0, .ref t), (6, va_rf v6), (7, .int x7)]) B dX8_set_87 (by decide) rfl k) ?_
      refine ym 91 (fun B k => z_qload (r := r6) B dX8_set_89 0 rfl k) ?_
      rcases r6 with _ | a8
      · replace h := oc_n h
        refine ym 118 (fun B k => z_ifnull (r := none) (tgt := 118) B dX8_set_91 (by decide) (fun _ => k) (fun a h => nomatch h)) ?_
        refine ym 121 (fun B k => z_iinc (v := x7 + 1) (lv' := [(7, .int (x7 + 1)), (8, .null), (0, .ref t), (6, va_rf v6)]) B dX8_set_118 3 rfl rfl (by decide) (by cases v6 <;> rfl) k) ?_
        refine ym 72 (fun B k => z_goto (tgt := 72) B dX8_set_121 (by decide) k) ?_
        refine y_sub [(0, .ref t), (6, va_rf v6), (7, .int (x7 + 1))] [2, 3, 0] rfl ?_
        exact ih h hT hk_t hq_v6
      · replace h := oc_s h
        have hk_a8 := hq_r6 a8 rfl
        refine ym 94 (fun B k => z_ifnull (r := (some a8)) (tgt := 118) B dX8_set_91 (by decide) (fun h => nomatch h) (fun _ _ => k)) ?_
        refine ym 96 (fun B k => z_aload B dX8_set_94 0 rfl k) ?_
        replace h := qv_e h
        obtain ⟨w9, e_w9, h⟩ := h
        have hq_w9 : rk σ w9 6 := rk_T hT hk_a8 rfl (by decide) e_w9
        refine ym 99 (fun B k => gf_X8_103 (x := w9) B hk_a8 e_w9 dX8_set_96 k) ?_
        refine ym 101 (fun B k => z_qload (r := v6) B dX8_set_99 2 rfl k) ?_
        by_cases c10 : w9 = v6
        · replace h := ite_p c10 h
          refine ym 104 (fun B k => z_acmp_ne (rx := w9) (ry := v6) (tgt := 118) B dX8_set_101 (by decide) (fun q => absurd c10 q) (fun _ => k)) ?_
          refine ym 106 (fun B k => z_aload B dX8_set_104 0 rfl k) ?_
          replace h := br_e h
          obtain ⟨r12, h11, h⟩ := h
          have m13 := ct_X0_hasEnded l (g := g) h11 hT hk_a8
          refine yc_Vi (Al := []) (rest := []) 109 rfl cw_X8_107 cx_1 dX8_set_106 m13 hk_a8 rfl (by decide) rfl (Nat.le_of_ble_eq_true rfl) ?_
          have hz_r12 := m13.1.2
          by_cases c14 : r12 = 0
          · replace h := ite_p c14 h
            refine ym 112 (fun B k => z_if_ne (tgt := 118) B dX8_set_109 (by decide) (fun q => absurd c14 q) (fun _ => k)) ?_
            refine ym 113 (fun B k => z_aload_n B dX8_set_112 rfl 1 rfl k) ?_
            refine ym 115 (fun B k => z_aload B dX8_set_113 0 rfl k) ?_
            replace h := br_e h
            obtain ⟨u16, h15, h⟩ := h
            have m17 := ct_X8_goOn l (g := g) h15 hT hk_t (rk_a hk_a8)
            refine yc_Vv (Al := [.ref a8]) (rest := []) 118 rfl cw_X8_111 cx_9 dX8_set_115 m17 hk_t rfl (by decide) rfl (Nat.le_of_ble_eq_true rfl) ?_
            have hk_a8 := k_G m17.1.1 (by decide) hk_a8
            have hk_t := k_G m17.1.1 (by decide) hk_t
            have hq_v6 := rk_G m17.1.1 (by decide) hq_v6
            have hT := m17.1.1.2.2.2
            refine ym 121 (fun B k => z_iinc (v := x7 + 1) (lv' := [(7, .int (x7 + 1)), (8, .ref a8), (0, .ref t), (6, va_rf v6)]) B dX8_set_118 3 rfl rfl (by decide) (by cases v6 <;> rfl) k) ?_
            refine ym 72 (fun B k => z_goto (tgt := 72) B dX8_set_121 (by decide) k) ?_
            refine y_sub [(0, .ref t), (6, va_rf v6), (7, .int (x7 + 1))] [2, 3, 0] rfl ?_
            exact ih h hT hk_t hq_v6
          · replace h := ite_n c14 h
            refine ym 118 (fun B k => z_if_ne (tgt := 118) B dX8_set_109 (by decide) (fun _ => k) (fun q => absurd q c14)) ?_
            refine ym 121 (fun B k => z_iinc (v := x7 + 1) (lv' := [(7, .int (x7 + 1)), (8, .ref a8), (0, .ref t), (6, va_rf v6)]) B dX8_set_118 3 rfl rfl (by decide) (by cases v6 <;> rfl) k) ?_
            refine ym 72 (fun B k => z_goto (tgt := 72) B dX8_set_121 (by decide) k) ?_
            refine y_sub [(0, .ref t), (6, va_rf v6), (7, .int (x7 + 1))] [2, 3, 0] rfl ?_
            exact ih h hT hk_t hq_v6
        · replace h := ite_n c10 h
          refine ym 118 (fun B k => z_acmp_ne (rx := w9) (ry := v6) (tgt := 118) B dX8_set_101 (by decide) (fun _ => k) (fun q => absurd q c10)) ?_
          refine ym 121 (fun B k => z_iinc (v := x7 + 1) (lv' := [(7, .int (x7 + 1)), (8, .ref a8), (0, .ref t), (6, va_rf v6)]) B dX8_set_118 3 rfl rfl (by decide) (by cases v6 <;> rfl) k) ?_
          refine ym 72 (fun B k => z_goto (tgt := 72) B dX8_set_121 (by decide) k) ?_
          refine y_sub [(0, .ref t), (6, va_rf v6), (7, .int (x7 + 1))] [2, 3, 0] rfl ?_
          exact ih h hT hk_t hq_v6
set_option maxRecDepth 100000 in
set_option maxHeartbeats 4000000 in
theorem tb_X8_set_21 {l : Launch} {g : gx_T} {σ : sx_T} {u : sx_T} {r : Int32} {As : Array Value} {n0 : Nat}  (h : fb_X8_set_21 n0 σ  = some (.inl r, u)) (hT : TS g σ)  : ZY l g cX8_set RX8 "set" (some .int) 9 11 280 0 0 false As (QM g As (Qxi g r u)) (True) u σ 21 [] [] := by
  unfold fb_X8_set_21 at h
  exact nomatch (Prod.mk.inj (Option.some.inj h)).1
set_option maxRecDepth 100000 in
set_option maxHeartbeats 4000000 in
theorem ct_X8_set (l : Launch) {g : gx_T} {σ : sx_T} {u : sx_T} {r : Int32} {n0 : Nat} {t : Nat} {x1 : Int32} {x2 : Int32} {x3 : Int32} {x4 : Int32} {x5 : Int32} (h : f_X8_set n0 σ t x1 x2 x3 x4 x5 = some (.inl r, u)) (hT : TS g σ) (hk_t : sx_K σ t = 10) : CT l g yX8_set cX8_set 9 (some .int) 11 280 [.ref t, .int x1, .int x2, .int x3, .int x4, .int x5] (True) u σ (Qxi g r u) := by
  refine yc_met (by decide) (Nat.le_of_ble_eq_true rfl) ?_
  refine yc_lv (show lv_args 0 [.ref t, .int x1, .int x2, .int x3, .int x4, .int x5] = [(0, .ref t), (1, .int x1), (2, .int x2), (3, .int x3), (4, .int x4), (5, .int x5)] from rfl) ?_
  show ZY l g _ _ _ _ _ _ _ _ _ _ _ _ _ _ σ 0 [(0, .ref t), (1, .int x1), (2, .int x2), (3, .int x3), (4, .int x4), (5, .int x5)] []
  unfold f_X8_set at h
  refine ym 1 (fun B k => z_aload_n B dX8_set_0 rfl 0 rfl k) ?_
  refine ym 2 (fun B k => z_iload_n B dX8_set_1 rfl 1 rfl k) ?_
  replace h := br_e h
  obtain ⟨r2, h1, h⟩ := h
  have m3 := ct_X8_programAt l (g := g) h1 hT hk_t
  refine yc_Vq (Al := [.int x1]) (rest := []) 5 rfl cw_X8_64 cx_9 dX8_set_2 m3 hk_t rfl (by decide) rfl (Nat.le_of_ble_eq_true rfl) ?_
  have hq_r2 := m3.1.2
  refine ym 7 (fun B k => z_qstore (r := r2) (lv' := [(6, va_rf r2), (0, .ref t), (1, .int x1), (2, .int x2), (3, .int x3), (4, .int x4), (5, .int x5)]) B dX8_set_5 (by decide) rfl k) ?_
  refine ym 9 (fun B k => z_qload (r := r2) B dX8_set_7 0 rfl k) ?_
  rcases r2 with _ | a4
  · replace h := oc_n h
    refine ym 21 (fun B k => z_ifnull (r := none) (tgt := 21) B dX8_set_9 (by decide) (fun _ => k) (fun a h => nomatch h)) ?_
    refine y_sub [] [] rfl ?_
    exact tb_X8_set_21 h hT 
  · replace h := oc_s h
    have hk_a4 := hq_r2 a4 rfl
    refine ym 12 (fun B k => z_ifnull (r := (some a4)) (tgt := 21) B dX8_set_9 (by decide) (fun h => nomatch h) (fun _ _ => k)) ?_
    refine ym 13 (fun B k => z_iload_n B dX8_set_12 rfl 3 rfl k) ?_
    refine ym 15 (fun B k => z_bipush (v := 20) B dX8_set_13 (by decide) k) ?_
    replace h := br_e h
    obtain ⟨r6, h5, h⟩ := h
    have m7 := ct_X8_isBelow l (g := g) h5 hT
    refine yc_Si (Al := [.int x2, .int 20]) (rest := []) 18 rfl cw_X8_68 dX8_set_15 m7 rfl (by decide) rfl (Nat.le_of_ble_eq_true rfl) ?_
    have hz_r6 := m7.1.2
    by_cases c8 : r6 = 0
    · replace h := ite_p c8 h
      refine ym 21 (fun B k => z_if_ne (tgt := 31) B dX8_set_18 (by decide) (fun q => absurd c8 q) (fun _ => k)) ?_
      refine y_sub [] [] rfl ?_
      exact tb_X8_set_21 h hT 
    · replace h := ite_n c8 h
      refine ym 31 (fun B k => z_if_ne (tgt := 31) B dX8_set_18 (by decide) (fun _ => k) (fun q => absurd q c8)) ?_
      refine ym 32 (fun B k => z_iload_n B dX8_set_31 rfl 4 rfl k) ?_
      refine ym 34 (fun B k => z_iload B dX8_set_32 5 rfl k) ?_
      refine ym 36 (fun B k => z_iload B dX8_set_34 6 rfl k) ?_
      replace h := br_e h
      obtain ⟨r10, h9, h⟩ := h
      have m11 := ct_X8_isStep l (g := g) h9 hT
      refine yc_Si (Al := [.int x3, .int x4, .int x5]) (rest := []) 39 rfl cw_X8_79 dX8_set_36 m11 rfl (by decide) rfl (Nat.le_of_ble_eq_true rfl) ?_
      have hz_r10 := m11.1.2
      by_cases c12 : r10 = 0
      · replace h := ite_p c12 h
        refine ym 42 (fun B k => z_if_ne (tgt := 52) B dX8_set_39 (by decide) (fun q => absurd c12 q) (fun _ => k)) ?_
        exact nomatch (Prod.mk.inj (Option.some.inj h)).1
      · replace h := ite_n c12 h
        refine ym 52 (fun B k => z_if_ne (tgt := 52) B dX8_set_39 (by decide) (fun _ => k) (fun q => absurd q c12)) ?_
        refine ym 54 (fun B k => z_aload B dX8_set_52 0 rfl k) ?_
        refine ym 55 (fun B k => z_iload_n B dX8_set_54 rfl 3 rfl k) ?_
        refine ym 56 (fun B k => z_iload_n B dX8_set_55 rfl 4 rfl k) ?_
        refine ym 58 (fun B k => z_iload B dX8_set_56 5 rfl k) ?_
        refine ym 60 (fun B k => z_iload B dX8_set_58 6 rfl k) ?_
        replace h := br_e h
        obtain ⟨u14, h13, h⟩ := h
        have m15 := ct_X4_put l (g := g) h13 hT hk_a4
        refine yc_Vv (Al := [.int x2, .int x3, .int x4, .int x5]) (rest := []) 63 rfl cw_X8_88 cx_5 dX8_set_60 m15 hk_a4 rfl (by decide) rfl (Nat.le_of_ble_eq_true rfl) ?_
        have hk_a4 := k_G m15.1.1 (by decide) hk_a4
        have hk_t := k_G m15.1.1 (by decide) hk_t
        have hT := m15.1.1.2.2.2
        refine ym 64 (fun B k => z_aload_n B dX8_set_63 rfl 1 rfl k) ?_
        refine ym 66 (fun B k => z_aload B dX8_set_64 0 rfl k) ?_
        replace h := br_e h
        obtain ⟨u17, h16, h⟩ := h
        have m18 := ct_X8_findAgain l (g := g) h16 hT hk_t (rk_a hk_a4)
        refine yc_Vv (Al := [.ref a4]) (rest := []) 69 rfl cw_X8_92 cx_9 dX8_set_66 m18 hk_t rfl (by decide) rfl (Nat.le_of_ble_eq_true rfl) ?_
        have hk_a4 := k_G m18.1.1 (by decide) hk_a4
        have hk_t := k_G m18.1.1 (by decide) hk_t
        have hT := m18.1.1.2.2.2
        refine ym 70 (fun B k => z_iconst (v := 0) B dX8_set_69 (by decide) k) ?_
        refine ym 72 (fun B k => z_istore (lv' := [(7, .int 0), (6, .ref a4), (0, .ref t), (1, .int x1), (2, .int x2), (3, .int x3), (4, .int x4), (5, .int x5)]) B dX8_set_70 (by decide) rfl k) ?_
        refine y_sub [(0, .ref t), (6, .ref a4), (7, .int 0)] [2, 1, 0] rfl ?_
        exact tl_X8_set_72 h hT hk_t (rk_a hk_a4)
set_option maxRecDepth 100000 in
set_option maxHeartbeats 4000000 in
theorem tl_X8_set_72x {l : Launch} {g : gx_T} {u : sx_T} {E : String} {As : Array Value} {Qc : Array Value → State → Outcome → State → Prop} (hlt : l.stackTraces = false) {n0 : Nat} : ∀ {n : Nat} {σ : sx_T} {t : Nat} {v6 : Option Nat} {x7 : Int32}, fl_X8_set_72 n0 n σ t v6 x7 = some (.inr E, u) → TS g σ → sx_K σ t = 10 → rk σ v6 6 → ZY l g cX8_set RX8 "set" (some .int) 9 11 280 1 6 true As (QX g As Qc E u) True u σ 72 [(0, .ref t), (6, va_rf v6), (7, .int x7)] [] := by
  intro n
  induction n with
  | zero =>
    intro σ t v6 x7 h
    exact nomatch h
  | succ n ih_ =>
    have ih := @ih_
    intro σ t v6 x7 h hT hk_t hq_v6
    unfold fl_X8_set_72 at h
    refine ym 74 (fun B k => z_iload B dX8_set_72 2 rfl k) ?_
    refine ym 75 (fun B k => z_aload_n B dX8_set_74 rfl 0 rfl k) ?_
    refine ym 78 (fun B k => gf_X8_96 (x := (sx_I σ t 7)) B hk_t rfl dX8_set_75 k) ?_
    by_cases c1 : (sx_I σ t 7) ≤ x7
    · replace h := ite_p c1 h
      refine ym 124 (fun B k => z_icmp_ge (tgt := 124) B dX8_set_78 (by decide) (fun _ => k) (fun q => absurd c1 q)) ?_
      refine ym 125 (fun B k => z_aload_n B dX8_set_124 rfl 0 rfl k) ?_
      refine ym 127 (fun B k => z_qload (r := v6) B dX8_set_125 1 rfl k) ?_
      replace h := br_e h
      obtain ⟨r3, h2, h⟩ := h
      have m4 := ct_X8_countAstray l (g := g) h2 hT hk_t hq_v6
      refine yc_Vi (Al := [va_rf v6]) (rest := []) 130 rfl cw_X8_115 cx_9 dX8_set_127 m4 hk_t rfl (by decide) rfl (Nat.le_of_ble_eq_true rfl) ?_
      exact nomatch (Prod.mk.inj (Option.some.inj h)).1
    · replace h := ite_n c1 h
      refine ym 81 (fun B k => z_icmp_ge (tgt := 124) B dX8_set_78 (by decide) (fun q => absurd q c1) (fun _ => k)) ?_
      refine ym 82 (fun B k => z_aload_n B dX8_set_81 rfl 0 rfl k) ?_
      refine ym 84 (fun B k => z_iload B dX8_set_82 2 rfl k) ?_
      replace h := br_e h
      obtain ⟨r6, h5, h⟩ := h
      have m7 := ct_X8_flowAt l (g := g) h5 hT hk_t
      refine yc_Vq (Al := [.int x7]) (rest := []) 87 rfl cw_X8_99 cx_9 dX8_set_84 m7 hk_t rfl (by decide) rfl (Nat.le_of_ble_eq_true rfl) ?_
      have hq_r6 := m7.1.2
      refine ym 89 (fun B k => z_qstore (r := r6) (lv' := [(8, va_rf r6), (0, .ref t), (6, va_rf v6), (7, .int x7)]) B dX8_set_87 (by decide) rfl k) ?_
      refine ym 91 (fun B k => z_qload (r := r6) B dX8_set_89 0 rfl k) ?_
      rcases r6 with _ | a8
      · replace h := oc_n h
        refine ym 118 (fun B k => z_ifnull (r := none) (tgt := 118) B dX8_set_91 (by decide) (fun _ => k) (fun a h => nomatch h)) ?_
        refine ym 121 (fun B k => z_iinc (v := x7 + 1) (lv' := [(7, .int (x7 + 1)), (8, .null), (0, .ref t), (6, va_rf v6)]) B dX8_set_118 3 rfl rfl (by decide) (by cases v6 <;> rfl) k) ?_
        refine ym 72 (fun B k => z_goto (tgt := 72) B dX8_set_121 (by decide) k) ?_
        refine y_sub [(0, .ref t), (6, va_rf v6), (7, .int (x7 + 1))] [2, 3, 0] rfl ?_
        exact ih h hT hk_t hq_v6
      · replace h := oc_s h
        have hk_a8 := hq_r6 a8 rfl
        refine ym 94 (fun B k => z_ifnull (r := (some a8)) (tgt := 118) B dX8_set_91 (by decide) (fun h => nomatch h) (fun _ _ => k)) ?_
        refine ym 96 (fun B k => z_aload B dX8_set_94 0 rfl k) ?_
        replace h := qv_e h
        obtain ⟨w9, e_w9, h⟩ := h
        have hq_w9 : rk σ w9 6 := rk_T hT hk_a8 rfl (by decide) e_w9
        refine ym 99 (fun B k => gf_X8_103 (x := w9) B hk_a8 e_w9 dX8_set_96 k) ?_
        refine ym 101 (fun B k => z_qload (r := v6) B dX8_set_99 2 rfl k) ?_
        by_cases c10 : w9 = v6
        · replace h := ite_p c10 h
          refine ym 104 (fun B k => z_acmp_ne (rx := w9) (ry := v6) (tgt := 118) B dX8_set_101 (by decide) (fun q => absurd c10 q) (fun _ => k)) ?_
          refine ym 106 (fun B k => z_aload B dX8_set_104 0 rfl k) ?_
          replace h := br_e h
          obtain ⟨r12, h11, h⟩ := h
          have m13 := ct_X0_hasEnded l (g := g) h11 hT hk_a8
          refine yc_Vi (Al := []) (rest := []) 109 rfl cw_X8_107 cx_1 dX8_set_106 m13 hk_a8 rfl (by decide) rfl (Nat.le_of_ble_eq_true rfl) ?_
          have hz_r12 := m13.1.2
          by_cases c14 : r12 = 0
          · replace h := ite_p c14 h
            refine ym 112 (fun B k => z_if_ne (tgt := 118) B dX8_set_109 (by decide) (fun q => absurd c14 q) (fun _ => k)) ?_
            refine ym 113 (fun B k => z_aload_n B dX8_set_112 rfl 1 rfl k) ?_
            refine ym 115 (fun B k => z_aload B dX8_set_113 0 rfl k) ?_
            replace h := br_e h
            obtain ⟨u16, h15, h⟩ := h
            have m17 := ct_X8_goOn l (g := g) h15 hT hk_t (rk_a hk_a8)
            refine yc_Vv (Al := [.ref a8]) (rest := []) 118 rfl cw_X8_111 cx_9 dX8_set_115 m17 hk_t rfl (by decide) rfl (Nat.le_of_ble_eq_true rfl) ?_
            have hk_a8 := k_G m17.1.1 (by decide) hk_a8
            have hk_t := k_G m17.1.1 (by decide) hk_t
            have hq_v6 := rk_G m17.1.1 (by decide) hq_v6
            have hT := m17.1.1.2.2.2
            refine ym 121 (fun B k => z_iinc (v := x7 + 1) (lv' := [(7, .int (x7 + 1)), (8, .ref a8), (0, .ref t), (6, va_rf v6)]) B dX8_set_118 3 rfl rfl (by decide) (by cases v6 <;> rfl) k) ?_
            refine ym 72 (fun B k => z_goto (tgt := 72) B dX8_set_121 (by decide) k) ?_
            refine y_sub [(0, .ref t), (6, va_rf v6), (7, .int (x7 + 1))] [2, 3, 0] rfl ?_
            exact ih h hT hk_t hq_v6
          · replace h := ite_n c14 h
            refine ym 118 (fun B k => z_if_ne (tgt := 118) B dX8_set_109 (by decide) (fun _ => k) (fun q => absurd q c14)) ?_
            refine ym 121 (fun B k => z_iinc (v := x7 + 1) (lv' := [(7, .int (x7 + 1)), (8, .ref a8), (0, .ref t), (6, va_rf v6)]) B dX8_set_118 3 rfl rfl (by decide) (by cases v6 <;> rfl) k) ?_
            refine ym 72 (fun B k => z_goto (tgt := 72) B dX8_set_121 (by decide) k) ?_
            refine y_sub [(0, .ref t), (6, va_rf v6), (7, .int (x7 + 1))] [2, 3, 0] rfl ?_
            exact ih h hT hk_t hq_v6
        · replace h := ite_n c10 h
          refine ym 118 (fun B k => z_acmp_ne (rx := w9) (ry := v6) (tgt := 118) B dX8_set_101 (by decide) (fun _ => k) (fun q => absurd q c10)) ?_
          refine ym 121 (fun B k => z_iinc (v := x7 + 1) (lv' := [(7, .int (x7 + 1)), (8, .ref a8), (0, .ref t), (6, va_rf v6)]) B dX8_set_118 3 rfl rfl (by decide) (by cases v6 <;> rfl) k) ?_
          refine ym 72 (fun B k => z_goto (tgt := 72) B dX8_set_121 (by decide) k) ?_
          refine y_sub [(0, .ref t), (6, va_rf v6), (7, .int (x7 + 1))] [2, 3, 0] rfl ?_
          exact ih h hT hk_t hq_v6
set_option maxRecDepth 100000 in
set_option maxHeartbeats 4000000 in
theorem tb_X8_set_21x {l : Launch} {g : gx_T} {σ : sx_T} {u : sx_T} {E : String} {As : Array Value} {Qc : Array Value → State → Outcome → State → Prop} (hlt : l.stackTraces = false) {n0 : Nat}  (h : fb_X8_set_21 n0 σ  = some (.inr E, u)) (hT : TS g σ)  : ZY l g cX8_set RX8 "set" (some .int) 9 11 280 1 6 true As (QX g As Qc E u) True u σ 21 [] [] := by
  unfold fb_X8_set_21 at h
  obtain ⟨h1, rfl⟩ := Prod.mk.inj (Option.some.inj h)
  cases h1
  exact yt_throw hT hlt (text := "no such step") tw_X8_72_74_76 dX8_set_21 dX8_set_24 dX8_set_25 dX8_set_27 dX8_set_30 (by decide) (by decide)
set_option maxRecDepth 100000 in
set_option maxHeartbeats 4000000 in
theorem ct_X8_setx (l : Launch) (hlt : l.stackTraces = false) {g : gx_T} {σ : sx_T} {u : sx_T} {E : String} {n0 : Nat} {t : Nat} {x1 : Int32} {x2 : Int32} {x3 : Int32} {x4 : Int32} {x5 : Int32} (h : f_X8_set n0 σ t x1 x2 x3 x4 x5 = some (.inr E, u)) (hT : TS g σ) (hk_t : sx_K σ t = 10) {Qc : Array Value → State → Outcome → State → Prop} : CX l g yX8_set cX8_set 9 (some .int) 11 280 [.ref t, .int x1, .int x2, .int x3, .int x4, .int x5] E u σ Qc := by
  refine yc_metX (by decide) (Nat.le_of_ble_eq_true rfl) ?_
  refine yc_lv (show lv_args 0 [.ref t, .int x1, .int x2, .int x3, .int x4, .int x5] = [(0, .ref t), (1, .int x1), (2, .int x2), (3, .int x3), (4, .int x4), (5, .int x5)] from rfl) ?_
  show ZY l g _ _ _ _ _ _ _ _ _ _ _ _ _ _ σ 0 [(0, .ref t), (1, .int x1), (2, .int x2), (3, .int x3), (4, .int x4), (5, .int x5)] []
  unfold f_X8_set at h
  refine ym 1 (fun B k => z_aload_n B dX8_set_0 rfl 0 rfl k) ?_
  refine ym 2 (fun B k => z_iload_n B dX8_set_1 rfl 1 rfl k) ?_
  replace h := br_e h
  obtain ⟨r2, h1, h⟩ := h
  have m3 := ct_X8_programAt l (g := g) h1 hT hk_t
  refine yc_Vq (Al := [.int x1]) (rest := []) 5 rfl cw_X8_64 cx_9 dX8_set_2 m3 hk_t rfl (by decide) rfl (Nat.le_of_ble_eq_true rfl) ?_
  have hq_r2 := m3.1.2
  refine ym 7 (fun B k => z_qstore (r := r2) (lv' := [(6, va_rf r2), (0, .ref t), (1, .int x1), (2, .int x2), (3, .int x3), (4, .int x4), (5, .int x5)]) B dX8_set_5 (by decide) rfl k) ?_
  refine ym 9 (fun B k => z_qload (r := r2) B dX8_set_7 0 rfl k) ?_
  rcases r2 with _ | a4
  · replace h := oc_n h
    refine ym 21 (fun B k => z_ifnull (r := none) (tgt := 21) B dX8_set_9 (by decide) (fun _ => k) (fun a h => nomatch h)) ?_
    refine y_sub [] [] rfl ?_
    exact tb_X8_set_21x hlt h hT 
  · replace h := oc_s h
    have hk_a4 := hq_r2 a4 rfl
    refine ym 12 (fun B k => z_ifnull (r := (some a4)) (tgt := 21) B dX8_set_9 (by decide) (fun h => nomatch h) (fun _ _ => k)) ?_
    refine ym 13 (fun B k => z_iload_n B dX8_set_12 rfl 3 rfl k) ?_
    refine ym 15 (fun B k => z_bipush (v := 20) B dX8_set_13 (by decide) k) ?_
    replace h := br_e h
    obtain ⟨r6, h5, h⟩ := h
    have m7 := ct_X8_isBelow l (g := g) h5 hT
    refine yc_Si (Al := [.int x2, .int 20]) (rest := []) 18 rfl cw_X8_68 dX8_set_15 m7 rfl (by decide) rfl (Nat.le_of_ble_eq_true rfl) ?_
    have hz_r6 := m7.1.2
    by_cases c8 : r6 = 0
    · replace h := ite_p c8 h
      refine ym 21 (fun B k => z_if_ne (tgt := 31) B dX8_set_18 (by decide) (fun q => absurd c8 q) (fun _ => k)) ?_
      refine y_sub [] [] rfl ?_
      exact tb_X8_set_21x hlt h hT 
    · replace h := ite_n c8 h
      refine ym 31 (fun B k => z_if_ne (tgt := 31) B dX8_set_18 (by decide) (fun _ => k) (fun q => absurd q c8)) ?_
      refine ym 32 (fun B k => z_iload_n B dX8_set_31 rfl 4 rfl k) ?_
      refine ym 34 (fun B k => z_iload B dX8_set_32 5 rfl k) ?_
      refine ym 36 (fun B k => z_iload B dX8_set_34 6 rfl k) ?_
      replace h := br_e h
      obtain ⟨r10, h9, h⟩ := h
      have m11 := ct_X8_isStep l (g := g) h9 hT
      refine yc_Si (Al := [.int x3, .int x4, .int x5]) (rest := []) 39 rfl cw_X8_79 dX8_set_36 m11 rfl (by decide) rfl (Nat.le_of_ble_eq_true rfl) ?_
      have hz_r10 := m11.1.2
      by_cases c12 : r10 = 0
      · replace h := ite_p c12 h
        refine ym 42 (fun B k => z_if_ne (tgt := 52) B dX8_set_39 (by decide) (fun q => absurd c12 q) (fun _ => k)) ?_
        obtain ⟨h1, rfl⟩ := Prod.mk.inj (Option.some.inj h)
        cases h1
        exact yt_throw hT hlt (text := "no such operation") tw_X8_83_85_87 dX8_set_42 dX8_set_45 dX8_set_46 dX8_set_48 dX8_set_51 (by decide) (by decide)
      · replace h := ite_n c12 h
        refine ym 52 (fun B k => z_if_ne (tgt := 52) B dX8_set_39 (by decide) (fun _ => k) (fun q => absurd q c12)) ?_
        refine ym 54 (fun B k => z_aload B dX8_set_52 0 rfl k) ?_
        refine ym 55 (fun B k => z_iload_n B dX8_set_54 rfl 3 rfl k) ?_
        refine ym 56 (fun B k => z_iload_n B dX8_set_55 rfl 4 rfl k) ?_
        refine ym 58 (fun B k => z_iload B dX8_set_56 5 rfl k) ?_
        refine ym 60 (fun B k => z_iload B dX8_set_58 6 rfl k) ?_
        replace h := br_e h
        obtain ⟨u14, h13, h⟩ := h
        have m15 := ct_X4_put l (g := g) h13 hT hk_a4
        refine yc_Vv (Al := [.int x2, .int x3, .int x4, .int x5]) (rest := []) 63 rfl cw_X8_88 cx_5 dX8_set_60 m15 hk_a4 rfl (by decide) rfl (Nat.le_of_ble_eq_true rfl) ?_
        have hk_a4 := k_G m15.1.1 (by decide) hk_a4
        have hk_t := k_G m15.1.1 (by decide) hk_t
        have hT := m15.1.1.2.2.2
        refine ym 64 (fun B k => z_aload_n B dX8_set_63 rfl 1 rfl k) ?_
        refine ym 66 (fun B k => z_aload B dX8_set_64 0 rfl k) ?_
        replace h := br_e h
        obtain ⟨u17, h16, h⟩ := h
        have m18 := ct_X8_findAgain l (g := g) h16 hT hk_t (rk_a hk_a4)
        refine yc_Vv (Al := [.ref a4]) (rest := []) 69 rfl cw_X8_92 cx_9 dX8_set_66 m18 hk_t rfl (by decide) rfl (Nat.le_of_ble_eq_true rfl) ?_
        have hk_a4 := k_G m18.1.1 (by decide) hk_a4
        have hk_t := k_G m18.1.1 (by decide) hk_t
        have hT := m18.1.1.2.2.2
        refine ym 70 (fun B k => z_iconst (v := 0) B dX8_set_69 (by decide) k) ?_
        refine ym 72 (fun B k => z_istore (lv' := [(7, .int 0), (6, .ref a4), (0, .ref t), (1, .int x1), (2, .int x2), (3, .int x3), (4, .int x4), (5, .int x5)]) B dX8_set_70 (by decide) rfl k) ?_
        refine y_sub [(0, .ref t), (6, .ref a4), (7, .int 0)] [2, 1, 0] rfl ?_
        exact tl_X8_set_72x hlt h hT hk_t (rk_a hk_a4)
set_option maxRecDepth 100000 in
set_option maxHeartbeats 4000000 in
theorem ct_X8_replayed (l : Launch) {g : gx_T} {σ : sx_T} {u : sx_T} {r : Option Nat} {n0 : Nat} {t : Nat} {v1 : Option Nat} (h : f_X8_replayed n0 σ t v1 = some (r, u)) (hT : TS g σ) (hk_t : sx_K σ t = 10) (hq_v1 : rk σ v1 2) : CT l g yX8_replayed cX8_replayed 2 (some (.object "Loomkeeper$Run")) 4 95 [.ref t, va_rf v1] (rk u r 7) u σ (Qxq g r u) := by
  refine yc_met (by decide) (by cases v1 <;> exact Nat.le_of_ble_eq_true rfl) ?_
  refine yc_lv (show lv_args 0 [.ref t, va_rf v1] = [(0, .ref t), (1, va_rf v1)] from (by cases v1 <;> rfl)) ?_
  show ZY l g _ _ _ _ _ _ _ _ _ _ _ _ _ _ σ 0 [(0, .ref t), (1, va_rf v1)] []
  unfold f_X8_replayed at h
  refine ym 1 (fun B k => z_aload_n B dX8_replayed_0 rfl 0 rfl k) ?_
  replace h := qv_e h
  obtain ⟨w1, e_w1, h⟩ := h
  have hq_w1 : rk σ w1 7 := rk_T hT hk_t rfl (by decide) e_w1
  refine ym 4 (fun B k => gf_X8_60 (x := w1) B hk_t e_w1 dX8_replayed_1 k) ?_
  refine ym 5 (fun B k => z_qload_n (r := v1) B dX8_replayed_4 rfl 1 rfl k) ?_
  replace h := bq_e h
  obtain ⟨a2, rfl, h⟩ := h
  have hk_a2 := hq_v1 a2 rfl
  replace h := qv_e h
  obtain ⟨w3, e_w3, h⟩ := h
  have hq_w3 : rk σ w3 6 := rk_T hT hk_a2 rfl (by decide) e_w3
  refine ym 8 (fun B k => gf_X8_103 (x := w3) B hk_a2 e_w3 dX8_replayed_5 k) ?_
  refine ym 9 (fun B k => z_aload_n B dX8_replayed_8 rfl 1 rfl k) ?_
  replace h := qv_e h
  obtain ⟨w4, e_w4, h⟩ := h
  have hq_w4 : rk σ w4 3 := rk_T hT hk_a2 rfl (by decide) e_w4
  refine ym 12 (fun B k => gf_X8_179 (x := w4) B hk_a2 e_w4 dX8_replayed_9 k) ?_
  replace h := bq_e h
  obtain ⟨a5, rfl, h⟩ := h
  have hk_a5 := hq_w1 a5 rfl
  replace h := br_e h
  obtain ⟨u7, h6, h⟩ := h
  have m8 := ct_X5_begin l (g := g) h6 hT hk_a5 hq_w3 hq_w4
  refine yc_Vv (Al := [va_rf w3, va_rf w4]) (rest := []) 15 rfl cw_X8_286 cx_6 dX8_replayed_12 m8 hk_a5 rfl (by decide) rfl (Nat.le_of_ble_eq_true rfl) ?_
  have hk_t := k_G m8.1.1 (by decide) hk_t
  have hk_a2 := k_G m8.1.1 (by decide) hk_a2
  have hT := m8.1.1.2.2.2
  refine ym 16 (fun B k => z_aload_n B dX8_replayed_15 rfl 0 rfl k) ?_
  replace h := qv_e h
  obtain ⟨w9, e_w9, h⟩ := h
  have hq_w9 : rk u7 w9 7 := rk_T hT hk_t rfl (by decide) e_w9
  refine ym 19 (fun B k => gf_X8_60 (x := w9) B hk_t e_w9 dX8_replayed_16 k) ?_
  refine ym 20 (fun B k => z_aload_n B dX8_replayed_19 rfl 1 rfl k) ?_
  replace h := qv_e h
  obtain ⟨w10, e_w10, h⟩ := h
  have hq_w10 : rk u7 w10 3 := rk_T hT hk_a2 rfl (by decide) e_w10
  refine ym 23 (fun B k => gf_X8_179 (x := w10) B hk_a2 e_w10 dX8_replayed_20 k) ?_
  replace h := bq_e h
  obtain ⟨a11, rfl, h⟩ := h
  have hk_a11 := hq_w10 a11 rfl
  replace h := br_e h
  obtain ⟨r13, h12, h⟩ := h
  have m14 := ct_X1_size l (g := g) h12 hT hk_a11
  refine yc_Vi (Al := []) (rest := [va_rf w9]) 26 rfl cw_X8_183 cx_2 dX8_replayed_23 m14 hk_a11 rfl (by decide) rfl (by cases w9 <;> exact Nat.le_of_ble_eq_true rfl) ?_
  replace h := bq_e h
  obtain ⟨a15, rfl, h⟩ := h
  have hk_a15 := hq_w9 a15 rfl
  replace h := br_e h
  obtain ⟨u17, h16, h⟩ := h
  have m18 := ct_X5_advance l (g := g) h16 hT hk_a15
  refine yc_Vv (Al := [.int r13]) (rest := []) 29 rfl cw_X8_289 cx_6 dX8_replayed_26 m18 hk_a15 rfl (by decide) rfl (Nat.le_of_ble_eq_true rfl) ?_
  have hk_t := k_G m18.1.1 (by decide) hk_t
  have hk_a2 := k_G m18.1.1 (by decide) hk_a2
  have hT := m18.1.1.2.2.2
  refine ym 30 (fun B k => z_aload_n B dX8_replayed_29 rfl 0 rfl k) ?_
  replace h := qv_e h
  obtain ⟨w19, e_w19, h⟩ := h
  have hq_w19 : rk u17 w19 7 := rk_T hT hk_t rfl (by decide) e_w19
  refine ym 33 (fun B k => gf_X8_60 (x := w19) B hk_t e_w19 dX8_replayed_30 k) ?_
  obtain ⟨rfl, rfl⟩ := Prod.mk.inj (Option.some.inj h)
  exact yr_q (v := w19) hT hq_w19 rfl dX8_replayed_33
set_option maxRecDepth 100000 in
set_option maxHeartbeats 4000000 in
theorem tl_X8_check_93 {l : Launch} {g : gx_T} {u : sx_T} {r : Int32} {As : Array Value} {n0 : Nat} : ∀ {n : Nat} {σ : sx_T} {t : Nat} {x2 : Int32} {v6 : Option Nat} {x7 : Int32} {x8 : Int32} {x9 : Int32} {x10 : Int32} {x11 : Int32}, fl_X8_check_93 n0 n σ t x2 v6 x7 x8 x9 x10 x11 = some (.inl r, u) → TS g σ → sx_K σ t = 10 → rk σ v6 6 → ZY l g cX8_check RX8 "check" (some .int) 13 7 136 0 0 false As (QM g As (Qxi g r u)) (True) u σ 93 [(0, .ref t), (2, .int x2), (6, va_rf v6), (7, .int x7), (8, .int x8), (9, .int x9), (10, .int x10), (11, .int x11)] [] := by
  intro n
  induction n with
  | zero =>
    intro σ t x2 v6 x7 x8 x9 x10 x11 h
    exact nomatch h
  | succ n ih_ =>
    have ih := @ih_
    intro σ t x2 v6 x7 x8 x9 x10 x11 h hT hk_t hq_v6
    unfold fl_X8_check_93 at h
    refine ym 95 (fun B k => z_iload B dX8_check_93 7 rfl k) ?_
    refine ym 96 (fun B k => z_aload_n B dX8_check_95 rfl 0 rfl k) ?_
    refine ym 99 (fun B k => gf_X8_96 (x := (sx_I σ t 7)) B hk_t rfl dX8_check_96 k) ?_
    by_cases c1 : (sx_I σ t 7) ≤ x11
    · replace h := ite_p c1 h
      refine ym 154 (fun B k => z_icmp_ge (tgt := 154) B dX8_check_99 (by decide) (fun _ => k) (fun q => absurd c1 q)) ?_
      refine ym 156 (fun B k => z_qload (r := v6) B dX8_check_154 2 rfl k) ?_
      refine ym 157 (fun B k => z_iload_n B dX8_check_156 rfl 1 rfl k) ?_
      refine ym 159 (fun B k => z_iload B dX8_check_157 3 rfl k) ?_
      refine ym 161 (fun B k => z_iload B dX8_check_159 4 rfl k) ?_
      refine ym 163 (fun B k => z_iload B dX8_check_161 5 rfl k) ?_
      replace h := bq_e h
      obtain ⟨a2, rfl, h⟩ := h
      have hk_a2 := hq_v6 a2 rfl
      replace h := br_e h
      obtain ⟨u4, h3, h⟩ := h
      have m5 := ct_X4_put l (g := g) h3 hT hk_a2
      refine yc_Vv (Al := [.int x2, .int x7, .int x8, .int x9]) (rest := []) 166 rfl cw_X8_88 cx_5 dX8_check_163 m5 hk_a2 rfl (by decide) rfl (Nat.le_of_ble_eq_true rfl) ?_
      have hk_t := k_G m5.1.1 (by decide) hk_t
      have hk_a2 := k_G m5.1.1 (by decide) hk_a2
      have hT := m5.1.1.2.2.2
      refine ym 168 (fun B k => z_iload B dX8_check_166 6 rfl k) ?_
      obtain ⟨h1, rfl⟩ := Prod.mk.inj (Option.some.inj h)
      obtain rfl := Sum.inl.inj h1
      exact yr_i hT trivial rfl dX8_check_168
    · replace h := ite_n c1 h
      refine ym 102 (fun B k => z_icmp_ge (tgt := 154) B dX8_check_99 (by decide) (fun q => absurd q c1) (fun _ => k)) ?_
      refine ym 103 (fun B k => z_aload_n B dX8_check_102 rfl 0 rfl k) ?_
      refine ym 105 (fun B k => z_iload B dX8_check_103 7 rfl k) ?_
      replace h := br_e h
      obtain ⟨r7, h6, h⟩ := h
      have m8 := ct_X8_flowAt l (g := g) h6 hT hk_t
      refine yc_Vq (Al := [.int x11]) (rest := []) 108 rfl cw_X8_99 cx_9 dX8_check_105 m8 hk_t rfl (by decide) rfl (Nat.le_of_ble_eq_true rfl) ?_
      have hq_r7 := m8.1.2
      refine ym 110 (fun B k => z_qstore (r := r7) (lv' := [(12, va_rf r7), (0, .ref t), (2, .int x2), (6, va_rf v6), (7, .int x7), (8, .int x8), (9, .int x9), (10, .int x10), (11, .int x11)]) B dX8_check_108 (by decide) rfl k) ?_
      refine ym 112 (fun B k => z_qload (r := r7) B dX8_check_110 0 rfl k) ?_
      rcases r7 with _ | a9
      · replace h := oc_n h
        refine ym 148 (fun B k => z_ifnull (r := none) (tgt := 148) B dX8_check_112 (by decide) (fun _ => k) (fun a h => nomatch h)) ?_
        refine ym 151 (fun B k => z_iinc (v := x11 + 1) (lv' := [(11, .int (x11 + 1)), (12, .null), (0, .ref t), (2, .int x2), (6, va_rf v6), (7, .int x7), (8, .int x8), (9, .int x9), (10, .int x10)]) B dX8_check_148 8 rfl rfl (by decide) rfl k) ?_
        refine ym 93 (fun B k => z_goto (tgt := 93) B dX8_check_151 (by decide) k) ?_
        refine y_sub [(0, .ref t), (2, .int x2), (6, va_rf v6), (7, .int x7), (8, .int x8), (9, .int x9), (10, .int x10), (11, .int (x11 + 1))] [2, 3, 4, 5, 6, 7, 8, 0] rfl ?_
        exact ih h hT hk_t hq_v6
      · replace h := oc_s h
        have hk_a9 := hq_r7 a9 rfl
        refine ym 115 (fun B k => z_ifnull (r := (some a9)) (tgt := 148) B dX8_check_112 (by decide) (fun h => nomatch h) (fun _ _ => k)) ?_
        refine ym 117 (fun B k => z_aload B dX8_check_115 0 rfl k) ?_
        replace h := qv_e h
        obtain ⟨w10, e_w10, h⟩ := h
        have hq_w10 : rk σ w10 6 := rk_T hT hk_a9 rfl (by decide) e_w10
        refine ym 120 (fun B k => gf_X8_103 (x := w10) B hk_a9 e_w10 dX8_check_117 k) ?_
        refine ym 122 (fun B k => z_qload (r := v6) B dX8_check_120 3 rfl k) ?_
        by_cases c11 : w10 = v6
        · replace h := ite_p c11 h
          refine ym 125 (fun B k => z_acmp_ne (rx := w10) (ry := v6) (tgt := 148) B dX8_check_122 (by decide) (fun q => absurd c11 q) (fun _ => k)) ?_
          refine ym 127 (fun B k => z_aload B dX8_check_125 0 rfl k) ?_
          replace h := br_e h
          obtain ⟨r13, h12, h⟩ := h
          have m14 := ct_X0_hasEnded l (g := g) h12 hT hk_a9
          refine yc_Vi (Al := []) (rest := []) 130 rfl cw_X8_107 cx_1 dX8_check_127 m14 hk_a9 rfl (by decide) rfl (Nat.le_of_ble_eq_true rfl) ?_
          have hz_r13 := m14.1.2
          by_cases c15 : r13 = 0
          · replace h := ite_p c15 h
            refine ym 133 (fun B k => z_if_ne (tgt := 148) B dX8_check_130 (by decide) (fun q => absurd c15 q) (fun _ => k)) ?_
            refine ym 134 (fun B k => z_aload_n B dX8_check_133 rfl 1 rfl k) ?_
            refine ym 136 (fun B k => z_aload B dX8_check_134 0 rfl k) ?_
            replace h := bd_e h
            obtain ⟨r17, u18, h16, h⟩ := h
            have m19 := ct_X8_replayed l (g := g) h16 hT hk_t (rk_a hk_a9)
            refine yc_Vq (Al := [.ref a9]) (rest := []) 139 rfl cw_X8_129 cx_9 dX8_check_136 m19 hk_t rfl (by decide) rfl (Nat.le_of_ble_eq_true rfl) ?_
            have hk_a9 := k_G m19.1.1 (by decide) hk_a9
            have hk_t := k_G m19.1.1 (by decide) hk_t
            have hq_v6 := rk_G m19.1.1 (by decide) hq_v6
            have hT := m19.1.1.2.2.2
            have hq_r17 := m19.1.2
            replace h := bq_e h
            obtain ⟨a20, rfl, h⟩ := h
            have hk_a20 := hq_r17 a20 rfl
            refine ym 142 (fun B k => gf_X8_133 (x := (sx_I u18 a20 19)) B hk_a20 rfl dX8_check_139 k) ?_
            by_cases c21 : (sx_I u18 a20 19) = 0
            · replace h := ite_p c21 h
              refine ym 148 (fun B k => z_if_eq (tgt := 148) B dX8_check_142 (by decide) (fun _ => k) (fun q => absurd c21 q)) ?_
              refine ym 151 (fun B k => z_iinc (v := x11 + 1) (lv' := [(11, .int (x11 + 1)), (12, .ref a9), (0, .ref t), (2, .int x2), (6, va_rf v6), (7, .int x7), (8, .int x8), (9, .int x9), (10, .int x10)]) B dX8_check_148 8 rfl rfl (by decide) rfl k) ?_
              refine ym 93 (fun B k => z_goto (tgt := 93) B dX8_check_151 (by decide) k) ?_
              refine y_sub [(0, .ref t), (2, .int x2), (6, va_rf v6), (7, .int x7), (8, .int x8), (9, .int x9), (10, .int x10), (11, .int (x11 + 1))] [2, 3, 4, 5, 6, 7, 8, 0] rfl ?_
              exact ih h hT hk_t hq_v6
            · replace h := ite_n c21 h
              refine ym 145 (fun B k => z_if_eq (tgt := 148) B dX8_check_142 (by decide) (fun q => absurd q c21) (fun _ => k)) ?_
              refine ym 148 (fun B k => z_iinc (v := x10 + 1) (lv' := [(10, .int (x10 + 1)), (12, .ref a9), (0, .ref t), (2, .int x2), (6, va_rf v6), (7, .int x7), (8, .int x8), (9, .int x9), (11, .int x11)]) B dX8_check_145 7 rfl rfl (by decide) rfl k) ?_
              refine ym 151 (fun B k => z_iinc (v := x11 + 1) (lv' := [(11, .int (x11 + 1)), (10, .int (x10 + 1)), (12, .ref a9), (0, .ref t), (2, .int x2), (6, va_rf v6), (7, .int x7), (8, .int x8), (9, .int x9)]) B dX8_check_148 8 rfl rfl (by decide) rfl k) ?_
              refine ym 93 (fun B k => z_goto (tgt := 93) B dX8_check_151 (by decide) k) ?_
              refine y_sub [(0, .ref t), (2, .int x2), (6, va_rf v6), (7, .int x7), (8, .int x8), (9, .int x9), (10, .int (x10 + 1)), (11, .int (x11 + 1))] [3, 4, 5, 6, 7, 8, 1, 0] rfl ?_
              exact ih h hT hk_t hq_v6
          · replace h := ite_n c15 h
            refine ym 148 (fun B k => z_if_ne (tgt := 148) B dX8_check_130 (by decide) (fun _ => k) (fun q => absurd q c15)) ?_
            refine ym 151 (fun B k => z_iinc (v := x11 + 1) (lv' := [(11, .int (x11 + 1)), (12, .ref a9), (0, .ref t), (2, .int x2), (6, va_rf v6), (7, .int x7), (8, .int x8), (9, .int x9), (10, .int x10)]) B dX8_check_148 8 rfl rfl (by decide) rfl k) ?_
            refine ym 93 (fun B k => z_goto (tgt := 93) B dX8_check_151 (by decide) k) ?_
            refine y_sub [(0, .ref t), (2, .int x2), (6, va_rf v6), (7, .int x7), (8, .int x8), (9, .int x9), (10, .int x10), (11, .int (x11 + 1))] [2, 3, 4, 5, 6, 7, 8, 0] rfl ?_
            exact ih h hT hk_t hq_v6
        · replace h := ite_n c11 h
          refine ym 148 (fun B k => z_acmp_ne (rx := w10) (ry := v6) (tgt := 148) B dX8_check_122 (by decide) (fun _ => k) (fun q => absurd q c11)) ?_
          refine ym 151 (fun B k => z_iinc (v := x11 + 1) (lv' := [(11, .int (x11 + 1)), (12, .ref a9), (0, .ref t), (2, .int x2), (6, va_rf v6), (7, .int x7), (8, .int x8), (9, .int x9), (10, .int x10)]) B dX8_check_148 8 rfl rfl (by decide) rfl k) ?_
          refine ym 93 (fun B k => z_goto (tgt := 93) B dX8_check_151 (by decide) k) ?_
          refine y_sub [(0, .ref t), (2, .int x2), (6, va_rf v6), (7, .int x7), (8, .int x8), (9, .int x9), (10, .int x10), (11, .int (x11 + 1))] [2, 3, 4, 5, 6, 7, 8, 0] rfl ?_
          exact ih h hT hk_t hq_v6
set_option maxRecDepth 100000 in
set_option maxHeartbeats 4000000 in
theorem tb_X8_check_21 {l : Launch} {g : gx_T} {σ : sx_T} {u : sx_T} {r : Int32} {As : Array Value} {n0 : Nat}  (h : fb_X8_check_21 n0 σ  = some (.inl r, u)) (hT : TS g σ)  : ZY l g cX8_check RX8 "check" (some .int) 13 7 136 0 0 false As (QM g As (Qxi g r u)) (True) u σ 21 [] [] := by
  unfold fb_X8_check_21 at h
  exact nomatch (Prod.mk.inj (Option.some.inj h)).1
set_option maxRecDepth 100000 in
set_option maxHeartbeats 4000000 in
theorem ct_X8_check (l : Launch) {g : gx_T} {σ : sx_T} {u : sx_T} {r : Int32} {n0 : Nat} {t : Nat} {x1 : Int32} {x2 : Int32} {x3 : Int32} {x4 : Int32} {x5 : Int32} (h : f_X8_check n0 σ t x1 x2 x3 x4 x5 = some (.inl r, u)) (hT : TS g σ) (hk_t : sx_K σ t = 10) : CT l g yX8_check cX8_check 13 (some .int) 7 136 [.ref t, .int x1, .int x2, .int x3, .int x4, .int x5] (True) u σ (Qxi g r u) := by
  refine yc_met (by decide) (Nat.le_of_ble_eq_true rfl) ?_
  refine yc_lv (show lv_args 0 [.ref t, .int x1, .int x2, .int x3, .int x4, .int x5] = [(0, .ref t), (1, .int x1), (2, .int x2), (3, .int x3), (4, .int x4), (5, .int x5)] from rfl) ?_
  show ZY l g _ _ _ _ _ _ _ _ _ _ _ _ _ _ σ 0 [(0, .ref t), (1, .int x1), (2, .int x2), (3, .int x3), (4, .int x4), (5, .int x5)] []
  unfold f_X8_check at h
  refine ym 1 (fun B k => z_aload_n B dX8_check_0 rfl 0 rfl k) ?_
  refine ym 2 (fun B k => z_iload_n B dX8_check_1 rfl 1 rfl k) ?_
  replace h := br_e h
  obtain ⟨r2, h1, h⟩ := h
  have m3 := ct_X8_programAt l (g := g) h1 hT hk_t
  refine yc_Vq (Al := [.int x1]) (rest := []) 5 rfl cw_X8_64 cx_9 dX8_check_2 m3 hk_t rfl (by decide) rfl (Nat.le_of_ble_eq_true rfl) ?_
  have hq_r2 := m3.1.2
  refine ym 7 (fun B k => z_qstore (r := r2) (lv' := [(6, va_rf r2), (0, .ref t), (1, .int x1), (2, .int x2), (3, .int x3), (4, .int x4), (5, .int x5)]) B dX8_check_5 (by decide) rfl k) ?_
  refine ym 9 (fun B k => z_qload (r := r2) B dX8_check_7 0 rfl k) ?_
  rcases r2 with _ | a4
  · replace h := oc_n h
    refine ym 21 (fun B k => z_ifnull (r := none) (tgt := 21) B dX8_check_9 (by decide) (fun _ => k) (fun a h => nomatch h)) ?_
    refine y_sub [] [] rfl ?_
    exact tb_X8_check_21 h hT 
  · replace h := oc_s h
    have hk_a4 := hq_r2 a4 rfl
    refine ym 12 (fun B k => z_ifnull (r := (some a4)) (tgt := 21) B dX8_check_9 (by decide) (fun h => nomatch h) (fun _ _ => k)) ?_
    refine ym 13 (fun B k => z_iload_n B dX8_check_12 rfl 3 rfl k) ?_
    refine ym 15 (fun B k => z_bipush (v := 20) B dX8_check_13 (by decide) k) ?_
    replace h := br_e h
    obtain ⟨r6, h5, h⟩ := h
    have m7 := ct_X8_isBelow l (g := g) h5 hT
    refine yc_Si (Al := [.int x2, .int 20]) (rest := []) 18 rfl cw_X8_68 dX8_check_15 m7 rfl (by decide) rfl (Nat.le_of_ble_eq_true rfl) ?_
    have hz_r6 := m7.1.2
    by_cases c8 : r6 = 0
    · replace h := ite_p c8 h
      refine ym 21 (fun B k => z_if_ne (tgt := 31) B dX8_check_18 (by decide) (fun q => absurd c8 q) (fun _ => k)) ?_
      refine y_sub [] [] rfl ?_
      exact tb_X8_check_21 h hT 
    · replace h := ite_n c8 h
      refine ym 31 (fun B k => z_if_ne (tgt := 31) B dX8_check_18 (by decide) (fun _ => k) (fun q => absurd q c8)) ?_
      refine ym 32 (fun B k => z_iload_n B dX8_check_31 rfl 4 rfl k) ?_
      refine ym 34 (fun B k => z_iload B dX8_check_32 5 rfl k) ?_
      refine ym 36 (fun B k => z_iload B dX8_check_34 6 rfl k) ?_
      replace h := br_e h
      obtain ⟨r10, h9, h⟩ := h
      have m11 := ct_X8_isStep l (g := g) h9 hT
      refine yc_Si (Al := [.int x3, .int x4, .int x5]) (rest := []) 39 rfl cw_X8_79 dX8_check_36 m11 rfl (by decide) rfl (Nat.le_of_ble_eq_true rfl) ?_
      have hz_r10 := m11.1.2
      by_cases c12 : r10 = 0
      · replace h := ite_p c12 h
        refine ym 42 (fun B k => z_if_ne (tgt := 52) B dX8_check_39 (by decide) (fun q => absurd c12 q) (fun _ => k)) ?_
        exact nomatch (Prod.mk.inj (Option.some.inj h)).1
      · replace h := ite_n c12 h
        refine ym 52 (fun B k => z_if_ne (tgt := 52) B dX8_check_39 (by decide) (fun _ => k) (fun q => absurd q c12)) ?_
        refine ym 54 (fun B k => z_aload B dX8_check_52 0 rfl k) ?_
        refine ym 55 (fun B k => z_iload_n B dX8_check_54 rfl 3 rfl k) ?_
        replace h := br_e h
        obtain ⟨r14, h13, h⟩ := h
        have m15 := ct_X4_operation l (g := g) h13 hT hk_a4
        refine yc_Vi (Al := [.int x2]) (rest := []) 58 rfl cw_X8_119 cx_5 dX8_check_55 m15 hk_a4 rfl (by decide) rfl (Nat.le_of_ble_eq_true rfl) ?_
        refine ym 60 (fun B k => z_istore (lv' := [(7, .int r14), (6, .ref a4), (0, .ref t), (1, .int x1), (2, .int x2), (3, .int x3), (4, .int x4), (5, .int x5)]) B dX8_check_58 (by decide) rfl k) ?_
        refine ym 62 (fun B k => z_aload B dX8_check_60 1 rfl k) ?_
        refine ym 63 (fun B k => z_iload_n B dX8_check_62 rfl 4 rfl k) ?_
        replace h := br_e h
        obtain ⟨r17, h16, h⟩ := h
        have m18 := ct_X4_first l (g := g) h16 hT hk_a4
        refine yc_Vi (Al := [.int x2]) (rest := []) 66 rfl cw_X8_123 cx_5 dX8_check_63 m18 hk_a4 rfl (by decide) rfl (Nat.le_of_ble_eq_true rfl) ?_
        refine ym 68 (fun B k => z_istore (lv' := [(8, .int r17), (7, .int r14), (6, .ref a4), (0, .ref t), (1, .int x1), (2, .int x2), (3, .int x3), (4, .int x4), (5, .int x5)]) B dX8_check_66 (by decide) rfl k) ?_
        refine ym 70 (fun B k => z_aload B dX8_check_68 2 rfl k) ?_
        refine ym 71 (fun B k => z_iload_n B dX8_check_70 rfl 5 rfl k) ?_
        replace h := br_e h
        obtain ⟨r20, h19, h⟩ := h
        have m21 := ct_X4_second l (g := g) h19 hT hk_a4
        refine yc_Vi (Al := [.int x2]) (rest := []) 74 rfl cw_X8_126 cx_5 dX8_check_71 m21 hk_a4 rfl (by decide) rfl (Nat.le_of_ble_eq_true rfl) ?_
        refine ym 76 (fun B k => z_istore (lv' := [(9, .int r20), (8, .int r17), (7, .int r14), (6, .ref a4), (0, .ref t), (1, .int x1), (2, .int x2), (3, .int x3), (4, .int x4), (5, .int x5)]) B dX8_check_74 (by decide) rfl k) ?_
        refine ym 78 (fun B k => z_aload B dX8_check_76 3 rfl k) ?_
        refine ym 79 (fun B k => z_iload_n B dX8_check_78 rfl 6 rfl k) ?_
        refine ym 80 (fun B k => z_iload_n B dX8_check_79 rfl 7 rfl k) ?_
        refine ym 82 (fun B k => z_iload B dX8_check_80 8 rfl k) ?_
        refine ym 84 (fun B k => z_iload B dX8_check_82 9 rfl k) ?_
        replace h := br_e h
        obtain ⟨u23, h22, h⟩ := h
        have m24 := ct_X4_put l (g := g) h22 hT hk_a4
        refine yc_Vv (Al := [.int x2, .int x3, .int x4, .int x5]) (rest := []) 87 rfl cw_X8_88 cx_5 dX8_check_84 m24 hk_a4 rfl (by decide) rfl (Nat.le_of_ble_eq_true rfl) ?_
        have hk_a4 := k_G m24.1.1 (by decide) hk_a4
        have hk_t := k_G m24.1.1 (by decide) hk_t
        have hT := m24.1.1.2.2.2
        refine ym 88 (fun B k => z_iconst (v := 0) B dX8_check_87 (by decide) k) ?_
        refine ym 90 (fun B k => z_istore (lv' := [(10, .int 0), (9, .int r20), (8, .int r17), (7, .int r14), (6, .ref a4), (0, .ref t), (1, .int x1), (2, .int x2), (3, .int x3), (4, .int x4), (5, .int x5)]) B dX8_check_88 (by decide) rfl k) ?_
        refine ym 91 (fun B k => z_iconst (v := 0) B dX8_check_90 (by decide) k) ?_
        refine ym 93 (fun B k => z_istore (lv' := [(11, .int 0), (10, .int 0), (9, .int r20), (8, .int r17), (7, .int r14), (6, .ref a4), (0, .ref t), (1, .int x1), (2, .int x2), (3, .int x3), (4, .int x4), (5, .int x5)]) B dX8_check_91 (by decide) rfl k) ?_
        refine y_sub [(0, .ref t), (2, .int x2), (6, .ref a4), (7, .int r14), (8, .int r17), (9, .int r20), (10, .int 0), (11, .int 0)] [6, 8, 5, 4, 3, 2, 1, 0] rfl ?_
        exact tl_X8_check_93 h hT hk_t (rk_a hk_a4)
set_option maxRecDepth 100000 in
set_option maxHeartbeats 4000000 in
theorem tl_X8_check_93x {l : Launch} {g : gx_T} {u : sx_T} {E : String} {As : Array Value} {Qc : Array Value → State → Outcome → State → Prop} (hlt : l.stackTraces = false) {n0 : Nat} : ∀ {n : Nat} {σ : sx_T} {t : Nat} {x2 : Int32} {v6 : Option Nat} {x7 : Int32} {x8 : Int32} {x9 : Int32} {x10 : Int32} {x11 : Int32}, fl_X8_check_93 n0 n σ t x2 v6 x7 x8 x9 x10 x11 = some (.inr E, u) → TS g σ → sx_K σ t = 10 → rk σ v6 6 → ZY l g cX8_check RX8 "check" (some .int) 13 7 136 1 6 true As (QX g As Qc E u) True u σ 93 [(0, .ref t), (2, .int x2), (6, va_rf v6), (7, .int x7), (8, .int x8), (9, .int x9), (10, .int x10), (11, .int x11)] [] := by
  intro n
  induction n with
  | zero =>
    intro σ t x2 v6 x7 x8 x9 x10 x11 h
    exact nomatch h
  | succ n ih_ =>
    have ih := @ih_
    intro σ t x2 v6 x7 x8 x9 x10 x11 h hT hk_t hq_v6
    unfold fl_X8_check_93 at h
    refine ym 95 (fun B k => z_iload B dX8_check_93 7 rfl k) ?_
    refine ym 96 (fun B k => z_aload_n B dX8_check_95 rfl 0 rfl k) ?_
    refine ym 99 (fun B k => gf_X8_96 (x := (sx_I σ t 7)) B hk_t rfl dX8_check_96 k) ?_
    by_cases c1 : (sx_I σ t 7) ≤ x11
    · replace h := ite_p c1 h
      refine ym 154 (fun B k => z_icmp_ge (tgt := 154) B dX8_check_99 (by decide) (fun _ => k) (fun q => absurd c1 q)) ?_
      refine ym 156 (fun B k => z_qload (r := v6) B dX8_check_154 2 rfl k) ?_
      refine ym 157 (fun B k => z_iload_n B dX8_check_156 rfl 1 rfl k) ?_
      refine ym 159 (fun B k => z_iload B dX8_check_157 3 rfl k) ?_
      refine ym 161 (fun B k => z_iload B dX8_check_159 4 rfl k) ?_
      refine ym 163 (fun B k => z_iload B dX8_check_161 5 rfl k) ?_
      replace h := bq_e h
      obtain ⟨a2, rfl, h⟩ := h
      have hk_a2 := hq_v6 a2 rfl
      replace h := br_e h
      obtain ⟨u4, h3, h⟩ := h
      have m5 := ct_X4_put l (g := g) h3 hT hk_a2
      refine yc_Vv (Al := [.int x2, .int x7, .int x8, .int x9]) (rest := []) 166 rfl cw_X8_88 cx_5 dX8_check_163 m5 hk_a2 rfl (by decide) rfl (Nat.le_of_ble_eq_true rfl) ?_
      have hk_t := k_G m5.1.1 (by decide) hk_t
      have hk_a2 := k_G m5.1.1 (by decide) hk_a2
      have hT := m5.1.1.2.2.2
      refine ym 168 (fun B k => z_iload B dX8_check_166 6 rfl k) ?_
      exact nomatch (Prod.mk.inj (Option.some.inj h)).1
    · replace h := ite_n c1 h
      refine ym 102 (fun B k => z_icmp_ge (tgt := 154) B dX8_check_99 (by decide) (fun q => absurd q c1) (fun _ => k)) ?_
      refine ym 103 (fun B k => z_aload_n B dX8_check_102 rfl 0 rfl k) ?_
      refine ym 105 (fun B k => z_iload B dX8_check_103 7 rfl k) ?_
      replace h := br_e h
      obtain ⟨r7, h6, h⟩ := h
      have m8 := ct_X8_flowAt l (g := g) h6 hT hk_t
      refine yc_Vq (Al := [.int x11]) (rest := []) 108 rfl cw_X8_99 cx_9 dX8_check_105 m8 hk_t rfl (by decide) rfl (Nat.le_of_ble_eq_true rfl) ?_
      have hq_r7 := m8.1.2
      refine ym 110 (fun B k => z_qstore (r := r7) (lv' := [(12, va_rf r7), (0, .ref t), (2, .int x2), (6, va_rf v6), (7, .int x7), (8, .int x8), (9, .int x9), (10, .int x10), (11, .int x11)]) B dX8_check_108 (by decide) rfl k) ?_
      refine ym 112 (fun B k => z_qload (r := r7) B dX8_check_110 0 rfl k) ?_
      rcases r7 with _ | a9
      · replace h := oc_n h
        refine ym 148 (fun B k => z_ifnull (r := none) (tgt := 148) B dX8_check_112 (by decide) (fun _ => k) (fun a h => nomatch h)) ?_
        refine ym 151 (fun B k => z_iinc (v := x11 + 1) (lv' := [(11, .int (x11 + 1)), (12, .null), (0, .ref t), (2, .int x2), (6, va_rf v6), (7, .int x7), (8, .int x8), (9, .int x9), (10, .int x10)]) B dX8_check_148 8 rfl rfl (by decide) rfl k) ?_
        refine ym 93 (fun B k => z_goto (tgt := 93) B dX8_check_151 (by decide) k) ?_
        refine y_sub [(0, .ref t), (2, .int x2), (6, va_rf v6), (7, .int x7), (8, .int x8), (9, .int x9), (10, .int x10), (11, .int (x11 + 1))] [2, 3, 4, 5, 6, 7, 8, 0] rfl ?_
        exact ih h hT hk_t hq_v6
      · replace h := oc_s h
        have hk_a9 := hq_r7 a9 rfl
        refine ym 115 (fun B k => z_ifnull (r := (some a9)) (tgt := 148) B dX8_check_112 (by decide) (fun h => nomatch h) (fun _ _ => k)) ?_
        refine ym 117 (fun B k => z_aload B dX8_check_115 0 rfl k) ?_
        replace h := qv_e h
        obtain ⟨w10, e_w10, h⟩ := h
        have hq_w10 : rk σ w10 6 := rk_T hT hk_a9 rfl (by decide) e_w10
        refine ym 120 (fun B k => gf_X8_103 (x := w10) B hk_a9 e_w10 dX8_check_117 k) ?_
        refine ym 122 (fun B k => z_qload (r := v6) B dX8_check_120 3 rfl k) ?_
        by_cases c11 : w10 = v6
        · replace h := ite_p c11 h
          refine ym 125 (fun B k => z_acmp_ne (rx := w10) (ry := v6) (tgt := 148) B dX8_check_122 (by decide) (fun q => absurd c11 q) (fun _ => k)) ?_
          refine ym 127 (fun B k => z_aload B dX8_check_125 0 rfl k) ?_
          replace h := br_e h
          obtain ⟨r13, h12, h⟩ := h
          have m14 := ct_X0_hasEnded l (g := g) h12 hT hk_a9
          refine yc_Vi (Al := []) (rest := []) 130 rfl cw_X8_107 cx_1 dX8_check_127 m14 hk_a9 rfl (by decide) rfl (Nat.le_of_ble_eq_true rfl) ?_
          have hz_r13 := m14.1.2
          by_cases c15 : r13 = 0
          · replace h := ite_p c15 h
            refine ym 133 (fun B k => z_if_ne (tgt := 148) B dX8_check_130 (by decide) (fun q => absurd c15 q) (fun _ => k)) ?_
            refine ym 134 (fun B k => z_aload_n B dX8_check_133 rfl 1 rfl k) ?_
            refine ym 136 (fun B k => z_aload B dX8_check_134 0 rfl k) ?_
            replace h := bd_e h
            obtain ⟨r17, u18, h16, h⟩ := h
            have m19 := ct_X8_replayed l (g := g) h16 hT hk_t (rk_a hk_a9)
            refine yc_Vq (Al := [.ref a9]) (rest := []) 139 rfl cw_X8_129 cx_9 dX8_check_136 m19 hk_t rfl (by decide) rfl (Nat.le_of_ble_eq_true rfl) ?_
            have hk_a9 := k_G m19.1.1 (by decide) hk_a9
            have hk_t := k_G m19.1.1 (by decide) hk_t
            have hq_v6 := rk_G m19.1.1 (by decide) hq_v6
            have hT := m19.1.1.2.2.2
            have hq_r17 := m19.1.2
            replace h := bq_e h
            obtain ⟨a20, rfl, h⟩ := h
            have hk_a20 := hq_r17 a20 rfl
            refine ym 142 (fun B k => gf_X8_133 (x := (sx_I u18 a20 19)) B hk_a20 rfl dX8_check_139 k) ?_
            by_cases c21 : (sx_I u18 a20 19) = 0
            · replace h := ite_p c21 h
              refine ym 148 (fun B k => z_if_eq (tgt := 148) B dX8_check_142 (by decide) (fun _ => k) (fun q => absurd c21 q)) ?_
              refine ym 151 (fun B k => z_iinc (v := x11 + 1) (lv' := [(11, .int (x11 + 1)), (12, .ref a9), (0, .ref t), (2, .int x2), (6, va_rf v6), (7, .int x7), (8, .int x8), (9, .int x9), (10, .int x10)]) B dX8_check_148 8 rfl rfl (by decide) rfl k) ?_
              refine ym 93 (fun B k => z_goto (tgt := 93) B dX8_check_151 (by decide) k) ?_
              refine y_sub [(0, .ref t), (2, .int x2), (6, va_rf v6), (7, .int x7), (8, .int x8), (9, .int x9), (10, .int x10), (11, .int (x11 + 1))] [2, 3, 4, 5, 6, 7, 8, 0] rfl ?_
              exact ih h hT hk_t hq_v6
            · replace h := ite_n c21 h
              refine ym 145 (fun B k => z_if_eq (tgt := 148) B dX8_check_142 (by decide) (fun q => absurd q c21) (fun _ => k)) ?_
              refine ym 148 (fun B k => z_iinc (v := x10 + 1) (lv' := [(10, .int (x10 + 1)), (12, .ref a9), (0, .ref t), (2, .int x2), (6, va_rf v6), (7, .int x7), (8, .int x8), (9, .int x9), (11, .int x11)]) B dX8_check_145 7 rfl rfl (by decide) rfl k) ?_
              refine ym 151 (fun B k => z_iinc (v := x11 + 1) (lv' := [(11, .int (x11 + 1)), (10, .int (x10 + 1)), (12, .ref a9), (0, .ref t), (2, .int x2), (6, va_rf v6), (7, .int x7), (8, .int x8), (9, .int x9)]) B dX8_check_148 8 rfl rfl (by decide) rfl k) ?_
              refine ym 93 (fun B k => z_goto (tgt := 93) B dX8_check_151 (by decide) k) ?_
              refine y_sub [(0, .ref t), (2, .int x2), (6, va_rf v6), (7, .int x7), (8, .int x8), (9, .int x9), (10, .int (x10 + 1)), (11, .int (x11 + 1))] [3, 4, 5, 6, 7, 8, 1, 0] rfl ?_
              exact ih h hT hk_t hq_v6
          · replace h := ite_n c15 h
            refine ym 148 (fun B k => z_if_ne (tgt := 148) B dX8_check_130 (by decide) (fun _ => k) (fun q => absurd q c15)) ?_
            refine ym 151 (fun B k => z_iinc (v := x11 + 1) (lv' := [(11, .int (x11 + 1)), (12, .ref a9), (0, .ref t), (2, .int x2), (6, va_rf v6), (7, .int x7), (8, .int x8), (9, .int x9), (10, .int x10)]) B dX8_check_148 8 rfl rfl (by decide) rfl k) ?_
            refine ym 93 (fun B k => z_goto (tgt := 93) B dX8_check_151 (by decide) k) ?_
            refine y_sub [(0, .ref t), (2, .int x2), (6, va_rf v6), (7, .int x7), (8, .int x8), (9, .int x9), (10, .int x10), (11, .int (x11 + 1))] [2, 3, 4, 5, 6, 7, 8, 0] rfl ?_
            exact ih h hT hk_t hq_v6
        · replace h := ite_n c11 h
          refine ym 148 (fun B k => z_acmp_ne (rx := w10) (ry := v6) (tgt := 148) B dX8_check_122 (by decide) (fun _ => k) (fun q => absurd q c11)) ?_
          refine ym 151 (fun B k => z_iinc (v := x11 + 1) (lv' := [(11, .int (x11 + 1)), (12, .ref a9), (0, .ref t), (2, .int x2), (6, va_rf v6), (7, .int x7), (8, .int x8), (9, .int x9), (10, .int x10)]) B dX8_check_148 8 rfl rfl (by decide) rfl k) ?_
          refine ym 93 (fun B k => z_goto (tgt := 93) B dX8_check_151 (by decide) k) ?_
          refine y_sub [(0, .ref t), (2, .int x2), (6, va_rf v6), (7, .int x7), (8, .int x8), (9, .int x9), (10, .int x10), (11, .int (x11 + 1))] [2, 3, 4, 5, 6, 7, 8, 0] rfl ?_
          exact ih h hT hk_t hq_v6
set_option maxRecDepth 100000 in
set_option maxHeartbeats 4000000 in
theorem tb_X8_check_21x {l : Launch} {g : gx_T} {σ : sx_T} {u : sx_T} {E : String} {As : Array Value} {Qc : Array Value → State → Outcome → State → Prop} (hlt : l.stackTraces = false) {n0 : Nat}  (h : fb_X8_check_21 n0 σ  = some (.inr E, u)) (hT : TS g σ)  : ZY l g cX8_check RX8 "check" (some .int) 13 7 136 1 6 true As (QX g As Qc E u) True u σ 21 [] [] := by
  unfold fb_X8_check_21 at h
  obtain ⟨h1, rfl⟩ := Prod.mk.inj (Option.some.inj h)
  cases h1
  exact yt_throw hT hlt (text := "no such step") tw_X8_72_74_76 dX8_check_21 dX8_check_24 dX8_check_25 dX8_check_27 dX8_check_30 (by decide) (by decide)
set_option maxRecDepth 100000 in
set_option maxHeartbeats 4000000 in
theorem ct_X8_checkx (l : Launch) (hlt : l.stackTraces = false) {g : gx_T} {σ : sx_T} {u : sx_T} {E : String} {n0 : Nat} {t : Nat} {x1 : Int32} {x2 : Int32} {x3 : Int32} {x4 : Int32} {x5 : Int32} (h : f_X8_check n0 σ t x1 x2 x3 x4 x5 = some (.inr E, u)) (hT : TS g σ) (hk_t : sx_K σ t = 10) {Qc : Array Value → State → Outcome → State → Prop} : CX l g yX8_check cX8_check 13 (some .int) 7 136 [.ref t, .int x1, .int x2, .int x3, .int x4, .int x5] E u σ Qc := by
  refine yc_metX (by decide) (Nat.le_of_ble_eq_true rfl) ?_
  refine yc_lv (show lv_args 0 [.ref t, .int x1, .int x2, .int x3, .int x4, .int x5] = [(0, .ref t), (1, .int x1), (2, .int x2), (3, .int x3), (4, .int x4), (5, .int x5)] from rfl) ?_
  show ZY l g _ _ _ _ _ _ _ _ _ _ _ _ _ _ σ 0 [(0, .ref t), (1, .int x1), (2, .int x2), (3, .int x3), (4, .int x4), (5, .int x5)] []
  unfold f_X8_check at h
  refine ym 1 (fun B k => z_aload_n B dX8_check_0 rfl 0 rfl k) ?_
  refine ym 2 (fun B k => z_iload_n B dX8_check_1 rfl 1 rfl k) ?_
  replace h := br_e h
  obtain ⟨r2, h1, h⟩ := h
  have m3 := ct_X8_programAt l (g := g) h1 hT hk_t
  refine yc_Vq (Al := [.int x1]) (rest := []) 5 rfl cw_X8_64 cx_9 dX8_check_2 m3 hk_t rfl (by decide) rfl (Nat.le_of_ble_eq_true rfl) ?_
  have hq_r2 := m3.1.2
  refine ym 7 (fun B k => z_qstore (r := r2) (lv' := [(6, va_rf r2), (0, .ref t), (1, .int x1), (2, .int x2), (3, .int x3), (4, .int x4), (5, .int x5)]) B dX8_check_5 (by decide) rfl k) ?_
  refine ym 9 (fun B k => z_qload (r := r2) B dX8_check_7 0 rfl k) ?_
  rcases r2 with _ | a4
  · replace h := oc_n h
    refine ym 21 (fun B k => z_ifnull (r := none) (tgt := 21) B dX8_check_9 (by decide) (fun _ => k) (fun a h => nomatch h)) ?_
    refine y_sub [] [] rfl ?_
    exact tb_X8_check_21x hlt h hT 
  · replace h := oc_s h
    have hk_a4 := hq_r2 a4 rfl
    refine ym 12 (fun B k => z_ifnull (r := (some a4)) (tgt := 21) B dX8_check_9 (by decide) (fun h => nomatch h) (fun _ _ => k)) ?_
    refine ym 13 (fun B k => z_iload_n B dX8_check_12 rfl 3 rfl k) ?_
    refine ym 15 (fun B k => z_bipush (v := 20) B dX8_check_13 (by decide) k) ?_
    replace h := br_e h
    obtain ⟨r6, h5, h⟩ := h
    have m7 := ct_X8_isBelow l (g := g) h5 hT
    refine yc_Si (Al := [.int x2, .int 20]) (rest := []) 18 rfl cw_X8_68 dX8_check_15 m7 rfl (by decide) rfl (Nat.le_of_ble_eq_true rfl) ?_
    have hz_r6 := m7.1.2
    by_cases c8 : r6 = 0
    · replace h := ite_p c8 h
      refine ym 21 (fun B k => z_if_ne (tgt := 31) B dX8_check_18 (by decide) (fun q => absurd c8 q) (fun _ => k)) ?_
      refine y_sub [] [] rfl ?_
      exact tb_X8_check_21x hlt h hT 
    · replace h := ite_n c8 h
      refine ym 31 (fun B k => z_if_ne (tgt := 31) B dX8_check_18 (by decide) (fun _ => k) (fun q => absurd q c8)) ?_
      refine ym 32 (fun B k => z_iload_n B dX8_check_31 rfl 4 rfl k) ?_
      refine ym 34 (fun B k => z_iload B dX8_check_32 5 rfl k) ?_
      refine ym 36 (fun B k => z_iload B dX8_check_34 6 rfl k) ?_
      replace h := br_e h
      obtain ⟨r10, h9, h⟩ := h
      have m11 := ct_X8_isStep l (g := g) h9 hT
      refine yc_Si (Al := [.int x3, .int x4, .int x5]) (rest := []) 39 rfl cw_X8_79 dX8_check_36 m11 rfl (by decide) rfl (Nat.le_of_ble_eq_true rfl) ?_
      have hz_r10 := m11.1.2
      by_cases c12 : r10 = 0
      · replace h := ite_p c12 h
        refine ym 42 (fun B k => z_if_ne (tgt := 52) B dX8_check_39 (by decide) (fun q => absurd c12 q) (fun _ => k)) ?_
        obtain ⟨h1, rfl⟩ := Prod.mk.inj (Option.some.inj h)
        cases h1
        exact yt_throw hT hlt (text := "no such operation") tw_X8_83_85_87 dX8_check_42 dX8_check_45 dX8_check_46 dX8_check_48 dX8_check_51 (by decide) (by decide)
      · replace h := ite_n c12 h
        refine ym 52 (fun B k => z_if_ne (tgt := 52) B dX8_check_39 (by decide) (fun _ => k) (fun q => absurd q c12)) ?_
        refine ym 54 (fun B k => z_aload B dX8_check_52 0 rfl k) ?_
        refine ym 55 (fun B k => z_iload_n B dX8_check_54 rfl 3 rfl k) ?_
        replace h := br_e h
        obtain ⟨r14, h13, h⟩ := h
        have m15 := ct_X4_operation l (g := g) h13 hT hk_a4
        refine yc_Vi (Al := [.int x2]) (rest := []) 58 rfl cw_X8_119 cx_5 dX8_check_55 m15 hk_a4 rfl (by decide) rfl (Nat.le_of_ble_eq_true rfl) ?_
        refine ym 60 (fun B k => z_istore (lv' := [(7, .int r14), (6, .ref a4), (0, .ref t), (1, .int x1), (2, .int x2), (3, .int x3), (4, .int x4), (5, .int x5)]) B dX8_check_58 (by decide) rfl k) ?_
        refine ym 62 (fun B k => z_aload B dX8_check_60 1 rfl k) ?_
        refine ym 63 (fun B k => z_iload_n B dX8_check_62 rfl 4 rfl k) ?_
        replace h := br_e h
        obtain ⟨r17, h16, h⟩ := h
        have m18 := ct_X4_first l (g := g) h16 hT hk_a4
        refine yc_Vi (Al := [.int x2]) (rest := []) 66 rfl cw_X8_123 cx_5 dX8_check_63 m18 hk_a4 rfl (by decide) rfl (Nat.le_of_ble_eq_true rfl) ?_
        refine ym 68 (fun B k => z_istore (lv' := [(8, .int r17), (7, .int r14), (6, .ref a4), (0, .ref t), (1, .int x1), (2, .int x2), (3, .int x3), (4, .int x4), (5, .int x5)]) B dX8_check_66 (by decide) rfl k) ?_
        refine ym 70 (fun B k => z_aload B dX8_check_68 2 rfl k) ?_
        refine ym 71 (fun B k => z_iload_n B dX8_check_70 rfl 5 rfl k) ?_
        replace h := br_e h
        obtain ⟨r20, h19, h⟩ := h
        have m21 := ct_X4_second l (g := g) h19 hT hk_a4
        refine yc_Vi (Al := [.int x2]) (rest := []) 74 rfl cw_X8_126 cx_5 dX8_check_71 m21 hk_a4 rfl (by decide) rfl (Nat.le_of_ble_eq_true rfl) ?_
        refine ym 76 (fun B k => z_istore (lv' := [(9, .int r20), (8, .int r17), (7, .int r14), (6, .ref a4), (0, .ref t), (1, .int x1), (2, .int x2), (3, .int x3), (4, .int x4), (5, .int x5)]) B dX8_check_74 (by decide) rfl k) ?_
        refine ym 78 (fun B k => z_aload B dX8_check_76 3 rfl k) ?_
        refine ym 79 (fun B k => z_iload_n B dX8_check_78 rfl 6 rfl k) ?_
        refine ym 80 (fun B k => z_iload_n B dX8_check_79 rfl 7 rfl k) ?_
        refine ym 82 (fun B k => z_iload B dX8_check_80 8 rfl k) ?_
        refine ym 84 (fun B k => z_iload B dX8_check_82 9 rfl k) ?_
        replace h := br_e h
        obtain ⟨u23, h22, h⟩ := h
        have m24 := ct_X4_put l (g := g) h22 hT hk_a4
        refine yc_Vv (Al := [.int x2, .int x3, .int x4, .int x5]) (rest := []) 87 rfl cw_X8_88 cx_5 dX8_check_84 m24 hk_a4 rfl (by decide) rfl (Nat.le_of_ble_eq_true rfl) ?_
        have hk_a4 := k_G m24.1.1 (by decide) hk_a4
        have hk_t := k_G m24.1.1 (by decide) hk_t
        have hT := m24.1.1.2.2.2
        refine ym 88 (fun B k => z_iconst (v := 0) B dX8_check_87 (by decide) k) ?_
        refine ym 90 (fun B k => z_istore (lv' := [(10, .int 0), (9, .int r20), (8, .int r17), (7, .int r14), (6, .ref a4), (0, .ref t), (1, .int x1), (2, .int x2), (3, .int x3), (4, .int x4), (5, .int x5)]) B dX8_check_88 (by decide) rfl k) ?_
        refine ym 91 (fun B k => z_iconst (v := 0) B dX8_check_90 (by decide) k) ?_
        refine ym 93 (fun B k => z_istore (lv' := [(11, .int 0), (10, .int 0), (9, .int r20), (8, .int r17), (7, .int r14), (6, .ref a4), (0, .ref t), (1, .int x1), (2, .int x2), (3, .int x3), (4, .int x4), (5, .int x5)]) B dX8_check_91 (by decide) rfl k) ?_
        refine y_sub [(0, .ref t), (2, .int x2), (6, .ref a4), (7, .int r14), (8, .int r17), (9, .int r20), (10, .int 0), (11, .int 0)] [6, 8, 5, 4, 3, 2, 1, 0] rfl ?_
        exact tl_X8_check_93x hlt h hT hk_t (rk_a hk_a4)
set_option maxRecDepth 100000 in
set_option maxHeartbeats 4000000 in
theorem tb_X8_start_34 {l : Launch} {g : gx_T} {σ : sx_T} {u : sx_T} {r : Int32} {As : Array Value} {n0 : Nat}  (h : fb_X8_start_34 n0 σ  = some (.inl r, u)) (hT : TS g σ)  : ZY l g cX8_start RX8 "start" (some .int) 5 11 280 0 0 false As (QM g As (Qxi g r u)) (True) u σ 34 [] [] := by
  unfold fb_X8_start_34 at h
  exact nomatch (Prod.mk.inj (Option.some.inj h)).1
set_option maxRecDepth 100000 in
set_option maxHeartbeats 4000000 in
theorem ct_X8_start (l : Launch) {g : gx_T} {σ : sx_T} {u : sx_T} {r : Int32} {n0 : Nat} {t : Nat} {x1 : Int32} {x2 : Int32} (h : f_X8_start n0 σ t x1 x2 = some (.inl r, u)) (hT : TS g σ) (hk_t : sx_K σ t = 10) : CT l g yX8_start cX8_start 5 (some .int) 11 280 [.ref t, .int x1, .int x2] (True) u σ (Qxi g r u) := by
  refine yc_met (by decide) (Nat.le_of_ble_eq_true rfl) ?_
  refine yc_lv (show lv_args 0 [.ref t, .int x1, .int x2] = [(0, .ref t), (1, .int x1), (2, .int x2)] from rfl) ?_
  show ZY l g _ _ _ _ _ _ _ _ _ _ _ _ _ _ σ 0 [(0, .ref t), (1, .int x1), (2, .int x2)] []
  unfold f_X8_start at h
  refine ym 1 (fun B k => z_aload_n B dX8_start_0 rfl 0 rfl k) ?_
  refine ym 2 (fun B k => z_iload_n B dX8_start_1 rfl 1 rfl k) ?_
  replace h := br_e h
  obtain ⟨r2, h1, h⟩ := h
  have m3 := ct_X8_programAt l (g := g) h1 hT hk_t
  refine yc_Vq (Al := [.int x1]) (rest := []) 5 rfl cw_X8_64 cx_9 dX8_start_2 m3 hk_t rfl (by decide) rfl (Nat.le_of_ble_eq_true rfl) ?_
  have hq_r2 := m3.1.2
  refine ym 6 (fun B k => z_qstore_n (r := r2) (lv' := [(3, va_rf r2), (0, .ref t), (1, .int x1), (2, .int x2)]) B dX8_start_5 rfl (by decide) rfl k) ?_
  refine ym 7 (fun B k => z_qload_n (r := r2) B dX8_start_6 rfl 0 rfl k) ?_
  rcases r2 with _ | a4
  · replace h := oc_n h
    refine ym 10 (fun B k => z_ifnonnull (r := none) (tgt := 20) B dX8_start_7 (by decide) (fun a h => nomatch h) (fun _ => k)) ?_
    exact nomatch (Prod.mk.inj (Option.some.inj h)).1
  · replace h := oc_s h
    have hk_a4 := hq_r2 a4 rfl
    refine ym 20 (fun B k => z_ifnonnull (r := (some a4)) (tgt := 20) B dX8_start_7 (by decide) (fun _ _ => k) (fun h => nomatch h)) ?_
    refine ym 21 (fun B k => z_iload_n B dX8_start_20 rfl 3 rfl k) ?_
    refine ym 24 (fun B k => z_sipush (v := (-999)) B dX8_start_21 (by decide) k) ?_
    by_cases c5 : x2 < (-999)
    · replace h := ite_p c5 h
      refine ym 34 (fun B k => z_icmp_lt (tgt := 34) B dX8_start_24 (by decide) (fun _ => k) (fun q => absurd c5 q)) ?_
      refine y_sub [] [] rfl ?_
      exact tb_X8_start_34 h hT 
    · replace h := ite_n c5 h
      refine ym 27 (fun B k => z_icmp_lt (tgt := 34) B dX8_start_24 (by decide) (fun q => absurd q c5) (fun _ => k)) ?_
      refine ym 28 (fun B k => z_iload_n B dX8_start_27 rfl 3 rfl k) ?_
      refine ym 31 (fun B k => z_sipush (v := 999) B dX8_start_28 (by decide) k) ?_
      by_cases c6 : x2 ≤ 999
      · replace h := ite_p c6 h
        refine ym 44 (fun B k => z_icmp_le (tgt := 44) B dX8_start_31 (by decide) (fun _ => k) (fun q => absurd c6 q)) ?_
        refine ym 45 (fun B k => z_aload_n B dX8_start_44 rfl 1 rfl k) ?_
        refine ym 46 (fun B k => z_aload_n B dX8_start_45 rfl 0 rfl k) ?_
        refine ym 47 (fun B k => z_iload_n B dX8_start_46 rfl 3 rfl k) ?_
        refine ym 48 (fun B k => z_iconst (v := (-1)) B dX8_start_47 (by decide) k) ?_
        refine ym 49 (fun B k => z_iconst (v := (-1)) B dX8_start_48 (by decide) k) ?_
        replace h := bd_e h
        obtain ⟨r8, u9, h7, h⟩ := h
        have m10 := ct_X8_open l (g := g) h7 hT hk_t (rk_a hk_a4)
        refine yc_Vq (Al := [.ref a4, .int x2, .int (-1), .int (-1)]) (rest := []) 52 rfl cw_X8_141 cx_9 dX8_start_49 m10 hk_t rfl (by decide) rfl (Nat.le_of_ble_eq_true rfl) ?_
        have hk_a4 := k_G m10.1.1 (by decide) hk_a4
        have hk_t := k_G m10.1.1 (by decide) hk_t
        have hT := m10.1.1.2.2.2
        have hq_r8 := m10.1.2
        refine ym 54 (fun B k => z_qstore (r := r8) (lv' := [(4, va_rf r8), (3, .ref a4), (0, .ref t), (1, .int x1), (2, .int x2)]) B dX8_start_52 (by decide) rfl k) ?_
        refine ym 56 (fun B k => z_qload (r := r8) B dX8_start_54 0 rfl k) ?_
        rcases r8 with _ | a11
        · replace h := oc_n h
          refine ym 59 (fun B k => z_ifnonnull (r := none) (tgt := 69) B dX8_start_56 (by decide) (fun a h => nomatch h) (fun _ => k)) ?_
          exact nomatch (Prod.mk.inj (Option.some.inj h)).1
        · replace h := oc_s h
          have hk_a11 := hq_r8 a11 rfl
          refine ym 69 (fun B k => z_ifnonnull (r := (some a11)) (tgt := 69) B dX8_start_56 (by decide) (fun _ _ => k) (fun h => nomatch h)) ?_
          refine ym 70 (fun B k => z_aload_n B dX8_start_69 rfl 2 rfl k) ?_
          refine ym 72 (fun B k => z_aload B dX8_start_70 0 rfl k) ?_
          replace h := br_e h
          obtain ⟨u13, h12, h⟩ := h
          have m14 := ct_X8_goOn l (g := g) h12 hT hk_t (rk_a hk_a11)
          refine yc_Vv (Al := [.ref a11]) (rest := []) 75 rfl cw_X8_111 cx_9 dX8_start_72 m14 hk_t rfl (by decide) rfl (Nat.le_of_ble_eq_true rfl) ?_
          have hk_a11 := k_G m14.1.1 (by decide) hk_a11
          have hk_a4 := k_G m14.1.1 (by decide) hk_a4
          have hk_t := k_G m14.1.1 (by decide) hk_t
          have hT := m14.1.1.2.2.2
          refine ym 77 (fun B k => z_aload B dX8_start_75 0 rfl k) ?_
          refine ym 80 (fun B k => gf_X8_150 (x := (sx_I u13 a11 0)) B hk_a11 rfl dX8_start_77 k) ?_
          obtain ⟨h1, rfl⟩ := Prod.mk.inj (Option.some.inj h)
          obtain rfl := Sum.inl.inj h1
          exact yr_i hT trivial rfl dX8_start_80
      · replace h := ite_n c6 h
        refine ym 34 (fun B k => z_icmp_le (tgt := 44) B dX8_start_31 (by decide) (fun q => absurd q c6) (fun _ => k)) ?_
        refine y_sub [] [] rfl ?_
        exact tb_X8_start_34 h hT 
set_option maxRecDepth 100000 in
set_option maxHeartbeats 4000000 in
theorem tb_X8_start_34x {l : Launch} {g : gx_T} {σ : sx_T} {u : sx_T} {E : String} {As : Array Value} {Qc : Array Value → State → Outcome → State → Prop} (hlt : l.stackTraces = false) {n0 : Nat}  (h : fb_X8_start_34 n0 σ  = some (.inr E, u)) (hT : TS g σ)  : ZY l g cX8_start RX8 "start" (some .int) 5 11 280 1 6 true As (QX g As Qc E u) True u σ 34 [] [] := by
  unfold fb_X8_start_34 at h
  obtain ⟨h1, rfl⟩ := Prod.mk.inj (Option.some.inj h)
  cases h1
  exact yt_throw hT hlt (text := "input is out of range") tw_X8_83_139_87 dX8_start_34 dX8_start_37 dX8_start_38 dX8_start_40 dX8_start_43 (by decide) (by decide)
set_option maxRecDepth 100000 in
set_option maxHeartbeats 4000000 in
theorem ct_X8_startx (l : Launch) (hlt : l.stackTraces = false) {g : gx_T} {σ : sx_T} {u : sx_T} {E : String} {n0 : Nat} {t : Nat} {x1 : Int32} {x2 : Int32} (h : f_X8_start n0 σ t x1 x2 = some (.inr E, u)) (hT : TS g σ) (hk_t : sx_K σ t = 10) {Qc : Array Value → State → Outcome → State → Prop} : CX l g yX8_start cX8_start 5 (some .int) 11 280 [.ref t, .int x1, .int x2] E u σ Qc := by
  refine yc_metX (by decide) (Nat.le_of_ble_eq_true rfl) ?_
  refine yc_lv (show lv_args 0 [.ref t, .int x1, .int x2] = [(0, .ref t), (1, .int x1), (2, .int x2)] from rfl) ?_
  show ZY l g _ _ _ _ _ _ _ _ _ _ _ _ _ _ σ 0 [(0, .ref t), (1, .int x1), (2, .int x2)] []
  unfold f_X8_start at h
  refine ym 1 (fun B k => z_aload_n B dX8_start_0 rfl 0 rfl k) ?_
  refine ym 2 (fun B k => z_iload_n B dX8_start_1 rfl 1 rfl k) ?_
  replace h := br_e h
  obtain ⟨r2, h1, h⟩ := h
  have m3 := ct_X8_programAt l (g := g) h1 hT hk_t
  refine yc_Vq (Al := [.int x1]) (rest := []) 5 rfl cw_X8_64 cx_9 dX8_start_2 m3 hk_t rfl (by decide) rfl (Nat.le_of_ble_eq_true rfl) ?_
  have hq_r2 := m3.1.2
  refine ym 6 (fun B k => z_qstore_n (r := r2) (lv' := [(3, va_rf r2), (0, .ref t), (1, .int x1), (2, .int x2)]) B dX8_start_5 rfl (by decide) rfl k) ?_
  refine ym 7 (fun B k => z_qload_n (r := r2) B dX8_start_6 rfl 0 rfl k) ?_
  rcases r2 with _ | a4
  · replace h := oc_n h
    refine ym 10 (fun B k => z_ifnonnull (r := none) (tgt := 20) B dX8_start_7 (by decide) (fun a h => nomatch h) (fun _ => k)) ?_
    obtain ⟨h1, rfl⟩ := Prod.mk.inj (Option.some.inj h)
    cases h1
    exact yt_throw hT hlt (text := "no such program") tw_X8_72_137_76 dX8_start_10 dX8_start_13 dX8_start_14 dX8_start_16 dX8_start_19 (by decide) (by decide)
  · replace h := oc_s h
    have hk_a4 := hq_r2 a4 rfl
    refine ym 20 (fun B k => z_ifnonnull (r := (some a4)) (tgt := 20) B dX8_start_7 (by decide) (fun _ _ => k) (fun h => nomatch h)) ?_
    refine ym 21 (fun B k => z_iload_n B dX8_start_20 rfl 3 rfl k) ?_
    refine ym 24 (fun B k => z_sipush (v := (-999)) B dX8_start_21 (by decide) k) ?_
    by_cases c5 : x2 < (-999)
    · replace h := ite_p c5 h
      refine ym 34 (fun B k => z_icmp_lt (tgt := 34) B dX8_start_24 (by decide) (fun _ => k) (fun q => absurd c5 q)) ?_
      refine y_sub [] [] rfl ?_
      exact tb_X8_start_34x hlt h hT 
    · replace h := ite_n c5 h
      refine ym 27 (fun B k => z_icmp_lt (tgt := 34) B dX8_start_24 (by decide) (fun q => absurd q c5) (fun _ => k)) ?_
      refine ym 28 (fun B k => z_iload_n B dX8_start_27 rfl 3 rfl k) ?_
      refine ym 31 (fun B k => z_sipush (v := 999) B dX8_start_28 (by decide) k) ?_
      by_cases c6 : x2 ≤ 999
      · replace h := ite_p c6 h
        refine ym 44 (fun B k => z_icmp_le (tgt := 44) B dX8_start_31 (by decide) (fun _ => k) (fun q => absurd c6 q)) ?_
        refine ym 45 (fun B k => z_aload_n B dX8_start_44 rfl 1 rfl k) ?_
        refine ym 46 (fun B k => z_aload_n B dX8_start_45 rfl 0 rfl k) ?_
        refine ym 47 (fun B k => z_iload_n B dX8_start_46 rfl 3 rfl k) ?_
        refine ym 48 (fun B k => z_iconst (v := (-1)) B dX8_start_47 (by decide) k) ?_
        refine ym 49 (fun B k => z_iconst (v := (-1)) B dX8_start_48 (by decide) k) ?_
        replace h := bd_e h
        obtain ⟨r8, u9, h7, h⟩ := h
        have m10 := ct_X8_open l (g := g) h7 hT hk_t (rk_a hk_a4)
        refine yc_Vq (Al := [.ref a4, .int x2, .int (-1), .int (-1)]) (rest := []) 52 rfl cw_X8_141 cx_9 dX8_start_49 m10 hk_t rfl (by decide) rfl (Nat.le_of_ble_eq_true rfl) ?_
        have hk_a4 := k_G m10.1.1 (by decide) hk_a4
        have hk_t := k_G m10.1.1 (by decide) hk_t
        have hT := m10.1.1.2.2.2
        have hq_r8 := m10.1.2
        refine ym 54 (fun B k => z_qstore (r := r8) (lv' := [(4, va_rf r8), (3, .ref a4), (0, .ref t), (1, .int x1), (2, .int x2)]) B dX8_start_52 (by decide) rfl k) ?_
        refine ym 56 (fun B k => z_qload (r := r8) B dX8_start_54 0 rfl k) ?_
        rcases r8 with _ | a11
        · replace h := oc_n h
          refine ym 59 (fun B k => z_ifnonnull (r := none) (tgt := 69) B dX8_start_56 (by decide) (fun a h => nomatch h) (fun _ => k)) ?_
          obtain ⟨h1, rfl⟩ := Prod.mk.inj (Option.some.inj h)
          cases h1
          exact yt_throw hT hlt (text := "there is no room for a workflow") tw_X8_145_147_149 dX8_start_59 dX8_start_62 dX8_start_63 dX8_start_65 dX8_start_68 (by decide) (by decide)
        · replace h := oc_s h
          have hk_a11 := hq_r8 a11 rfl
          refine ym 69 (fun B k => z_ifnonnull (r := (some a11)) (tgt := 69) B dX8_start_56 (by decide) (fun _ _ => k) (fun h => nomatch h)) ?_
          refine ym 70 (fun B k => z_aload_n B dX8_start_69 rfl 2 rfl k) ?_
          refine ym 72 (fun B k => z_aload B dX8_start_70 0 rfl k) ?_
          replace h := br_e h
          obtain ⟨u13, h12, h⟩ := h
          have m14 := ct_X8_goOn l (g := g) h12 hT hk_t (rk_a hk_a11)
          refine yc_Vv (Al := [.ref a11]) (rest := []) 75 rfl cw_X8_111 cx_9 dX8_start_72 m14 hk_t rfl (by decide) rfl (Nat.le_of_ble_eq_true rfl) ?_
          have hk_a11 := k_G m14.1.1 (by decide) hk_a11
          have hk_a4 := k_G m14.1.1 (by decide) hk_a4
          have hk_t := k_G m14.1.1 (by decide) hk_t
          have hT := m14.1.1.2.2.2
          refine ym 77 (fun B k => z_aload B dX8_start_75 0 rfl k) ?_
          refine ym 80 (fun B k => gf_X8_150 (x := (sx_I u13 a11 0)) B hk_a11 rfl dX8_start_77 k) ?_
          exact nomatch (Prod.mk.inj (Option.some.inj h)).1
      · replace h := ite_n c6 h
        refine ym 34 (fun B k => z_icmp_le (tgt := 44) B dX8_start_31 (by decide) (fun q => absurd q c6) (fun _ => k)) ?_
        refine y_sub [] [] rfl ?_
        exact tb_X8_start_34x hlt h hT 
set_option maxRecDepth 100000 in
set_option maxHeartbeats 4000000 in
theorem ct_X8_send (l : Launch) {g : gx_T} {σ : sx_T} {u : sx_T} {r : Int32} {n0 : Nat} {t : Nat} {v1 : Option Nat} {x2 : Int32} {x3 : Int64} (h : f_X8_send n0 σ t v1 x2 x3 = some (r, u)) (hT : TS g σ) (hk_t : sx_K σ t = 10) (hq_v1 : rk σ v1 2) : CT l g yX8_send cX8_send 5 (some .boolean) 11 280 [.ref t, va_rf v1, .int x2, .long x3] (r = 0 ∨ r = 1) u σ (Qxi g r u) := by
  refine yc_met (by decide) (by cases v1 <;> exact Nat.le_of_ble_eq_true rfl) ?_
  refine yc_lv (show lv_args 0 [.ref t, va_rf v1, .int x2, .long x3] = [(0, .ref t), (1, va_rf v1), (2, .int x2), (3, .long x3)] from (by cases v1 <;> rfl)) ?_
  show ZY l g _ _ _ _ _ _ _ _ _ _ _ _ _ _ σ 0 [(0, .ref t), (1, va_rf v1), (2, .int x2), (3, .long x3)] []
  unfold f_X8_send at h
  refine ym 1 (fun B k => z_qload_n (r := v1) B dX8_send_0 rfl 1 rfl k) ?_
  replace h := bq_e h
  obtain ⟨a1, rfl, h⟩ := h
  have hk_a1 := hq_v1 a1 rfl
  replace h := br_e h
  obtain ⟨r3, h2, h⟩ := h
  have m4 := ct_X0_canReceive l (g := g) h2 hT hk_a1
  refine yc_Vi (Al := []) (rest := []) 4 rfl cw_X8_330 cx_1 dX8_send_1 m4 hk_a1 rfl (by decide) rfl (Nat.le_of_ble_eq_true rfl) ?_
  have hz_r3 := m4.1.2
  by_cases c5 : r3 = 0
  · replace h := ite_p c5 h
    refine ym 7 (fun B k => z_if_ne (tgt := 9) B dX8_send_4 (by decide) (fun q => absurd c5 q) (fun _ => k)) ?_
    refine ym 8 (fun B k => z_iconst (v := 0) B dX8_send_7 (by decide) k) ?_
    obtain ⟨rfl, rfl⟩ := Prod.mk.inj (Option.some.inj h)
    exact yr_z hT (Or.inl rfl) rfl (Or.inl rfl) dX8_send_8
  · replace h := ite_n c5 h
    refine ym 9 (fun B k => z_if_ne (tgt := 9) B dX8_send_4 (by decide) (fun _ => k) (fun q => absurd q c5)) ?_
    refine ym 10 (fun B k => z_aload_n B dX8_send_9 rfl 1 rfl k) ?_
    replace h := qv_e h
    obtain ⟨w6, e_w6, h⟩ := h
    have hq_w6 : rk σ w6 3 := rk_T hT hk_a1 rfl (by decide) e_w6
    refine ym 13 (fun B k => gf_X8_179 (x := w6) B hk_a1 e_w6 dX8_send_10 k) ?_
    refine ym 14 (fun B k => z_iload_n B dX8_send_13 rfl 2 rfl k) ?_
    refine ym 15 (fun B k => z_lload_n B dX8_send_14 rfl 3 rfl k) ?_
    replace h := bq_e h
    obtain ⟨a7, rfl, h⟩ := h
    have hk_a7 := hq_w6 a7 rfl
    replace h := br_e h
    obtain ⟨u9, h8, h⟩ := h
    have m10 := ct_X1_add l (g := g) h8 hT hk_a7
    refine yc_Vv (Al := [.int x2, .long x3]) (rest := []) 18 rfl cw_X8_333 cx_2 dX8_send_15 m10 hk_a7 rfl (by decide) rfl (Nat.le_of_ble_eq_true rfl) ?_
    have hk_t := k_G m10.1.1 (by decide) hk_t
    have hk_a1 := k_G m10.1.1 (by decide) hk_a1
    have hT := m10.1.1.2.2.2
    refine ym 19 (fun B k => z_aload_n B dX8_send_18 rfl 0 rfl k) ?_
    refine ym 20 (fun B k => z_aload_n B dX8_send_19 rfl 1 rfl k) ?_
    replace h := br_e h
    obtain ⟨u12, h11, h⟩ := h
    have m13 := ct_X8_goOn l (g := g) h11 hT hk_t (rk_a hk_a1)
    refine yc_Vv (Al := [.ref a1]) (rest := []) 23 rfl cw_X8_111 cx_9 dX8_send_20 m13 hk_t rfl (by decide) rfl (Nat.le_of_ble_eq_true rfl) ?_
    have hk_t := k_G m13.1.1 (by decide) hk_t
    have hk_a1 := k_G m13.1.1 (by decide) hk_a1
    have hT := m13.1.1.2.2.2
    refine ym 24 (fun B k => z_iconst (v := 1) B dX8_send_23 (by decide) k) ?_
    obtain ⟨rfl, rfl⟩ := Prod.mk.inj (Option.some.inj h)
    exact yr_z hT (Or.inr rfl) rfl (Or.inr rfl) dX8_send_24
set_option maxRecDepth 100000 in
set_option maxHeartbeats 4000000 in
theorem tb_X8_signal_40 {l : Launch} {g : gx_T} {σ : sx_T} {u : sx_T} {r : Int32} {As : Array Value} {n0 : Nat}  (h : fb_X8_signal_40 n0 σ  = some (.inl r, u)) (hT : TS g σ)  : ZY l g cX8_signal RX8 "signal" (some .boolean) 5 12 304 0 0 false As (QM g As (Qxi g r u)) (r = 0 ∨ r = 1) u σ 40 [] [] := by
  unfold fb_X8_signal_40 at h
  exact nomatch (Prod.mk.inj (Option.some.inj h)).1
set_option maxRecDepth 100000 in
set_option maxHeartbeats 4000000 in
theorem ct_X8_signal (l : Launch) {g : gx_T} {σ : sx_T} {u : sx_T} {r : Int32} {n0 : Nat} {t : Nat} {x1 : Int32} {x2 : Int32} {x3 : Int32} (h : f_X8_signal n0 σ t x1 x2 x3 = some (.inl r, u)) (hT : TS g σ) (hk_t : sx_K σ t = 10) : CT l g yX8_signal cX8_signal 5 (some .boolean) 12 304 [.ref t, .int x1, .int x2, .int x3] (r = 0 ∨ r = 1) u σ (Qxi g r u) := by
  refine yc_met (by decide) (Nat.le_of_ble_eq_true rfl) ?_
  refine yc_lv (show lv_args 0 [.ref t, .int x1, .int x2, .int x3] = [(0, .ref t), (1, .int x1), (2, .int x2), (3, .int x3)] from rfl) ?_
  show ZY l g _ _ _ _ _ _ _ _ _ _ _ _ _ _ σ 0 [(0, .ref t), (1, .int x1), (2, .int x2), (3, .int x3)] []
  unfold f_X8_signal at h
  refine ym 1 (fun B k => z_aload_n B dX8_signal_0 rfl 0 rfl k) ?_
  refine ym 2 (fun B k => z_iload_n B dX8_signal_1 rfl 1 rfl k) ?_
  replace h := br_e h
  obtain ⟨r2, h1, h⟩ := h
  have m3 := ct_X8_flowAt l (g := g) h1 hT hk_t
  refine yc_Vq (Al := [.int x1]) (rest := []) 5 rfl cw_X8_99 cx_9 dX8_signal_2 m3 hk_t rfl (by decide) rfl (Nat.le_of_ble_eq_true rfl) ?_
  have hq_r2 := m3.1.2
  refine ym 7 (fun B k => z_qstore (r := r2) (lv' := [(4, va_rf r2), (0, .ref t), (1, .int x1), (2, .int x2), (3, .int x3)]) B dX8_signal_5 (by decide) rfl k) ?_
  refine ym 9 (fun B k => z_qload (r := r2) B dX8_signal_7 0 rfl k) ?_
  rcases r2 with _ | a4
  · replace h := oc_n h
    refine ym 12 (fun B k => z_ifnonnull (r := none) (tgt := 22) B dX8_signal_9 (by decide) (fun a h => nomatch h) (fun _ => k)) ?_
    exact nomatch (Prod.mk.inj (Option.some.inj h)).1
  · replace h := oc_s h
    have hk_a4 := hq_r2 a4 rfl
    refine ym 22 (fun B k => z_ifnonnull (r := (some a4)) (tgt := 22) B dX8_signal_9 (by decide) (fun _ _ => k) (fun h => nomatch h)) ?_
    refine ym 23 (fun B k => z_iload_n B dX8_signal_22 rfl 3 rfl k) ?_
    refine ym 25 (fun B k => z_bipush (v := 100) B dX8_signal_23 (by decide) k) ?_
    replace h := br_e h
    obtain ⟨r6, h5, h⟩ := h
    have m7 := ct_X8_isBelow l (g := g) h5 hT
    refine yc_Si (Al := [.int x2, .int 100]) (rest := []) 28 rfl cw_X8_68 dX8_signal_25 m7 rfl (by decide) rfl (Nat.le_of_ble_eq_true rfl) ?_
    have hz_r6 := m7.1.2
    by_cases c8 : r6 = 0
    · replace h := ite_p c8 h
      refine ym 40 (fun B k => z_if_eq (tgt := 40) B dX8_signal_28 (by decide) (fun _ => k) (fun q => absurd c8 q)) ?_
      refine y_sub [] [] rfl ?_
      exact tb_X8_signal_40 h hT 
    · replace h := ite_n c8 h
      refine ym 31 (fun B k => z_if_eq (tgt := 40) B dX8_signal_28 (by decide) (fun q => absurd q c8) (fun _ => k)) ?_
      refine ym 32 (fun B k => z_iload_n B dX8_signal_31 rfl 4 rfl k) ?_
      refine ym 34 (fun B k => z_bipush (v := 100) B dX8_signal_32 (by decide) k) ?_
      replace h := br_e h
      obtain ⟨r10, h9, h⟩ := h
      have m11 := ct_X8_isBelow l (g := g) h9 hT
      refine yc_Si (Al := [.int x3, .int 100]) (rest := []) 37 rfl cw_X8_68 dX8_signal_34 m11 rfl (by decide) rfl (Nat.le_of_ble_eq_true rfl) ?_
      have hz_r10 := m11.1.2
      by_cases c12 : r10 = 0
      · replace h := ite_p c12 h
        refine ym 40 (fun B k => z_if_ne (tgt := 50) B dX8_signal_37 (by decide) (fun q => absurd c12 q) (fun _ => k)) ?_
        refine y_sub [] [] rfl ?_
        exact tb_X8_signal_40 h hT 
      · replace h := ite_n c12 h
        refine ym 50 (fun B k => z_if_ne (tgt := 50) B dX8_signal_37 (by decide) (fun _ => k) (fun q => absurd q c12)) ?_
        refine ym 51 (fun B k => z_aload_n B dX8_signal_50 rfl 1 rfl k) ?_
        refine ym 53 (fun B k => z_aload B dX8_signal_51 0 rfl k) ?_
        refine ym 55 (fun B k => z_bipush (v := 6) B dX8_signal_53 (by decide) k) ?_
        refine ym 58 (fun B k => z_ldc2 (v := 100) B dX8_signal_55 wg_868 k) ?_
        refine ym 59 (fun B k => z_iload_n B dX8_signal_58 rfl 3 rfl k) ?_
        refine ym 60 (fun B k => z_i2l (v := x2.toInt64) B dX8_signal_59 rfl k) ?_
        refine ym 61 (fun B k => z_lmul B dX8_signal_60 k) ?_
        refine ym 62 (fun B k => z_iload_n B dX8_signal_61 rfl 4 rfl k) ?_
        refine ym 63 (fun B k => z_i2l (v := x3.toInt64) B dX8_signal_62 rfl k) ?_
        refine ym 64 (fun B k => z_ladd B dX8_signal_63 k) ?_
        replace h := bd_e h
        obtain ⟨r14, u15, h13, h⟩ := h
        have m16 := ct_X8_send l (g := g) h13 hT hk_t (rk_a hk_a4)
        refine yc_Vi (Al := [.ref a4, .int 6, .long ((100 * x2.toInt64) + x3.toInt64)]) (rest := []) 67 rfl cw_X8_159 cx_9 dX8_signal_64 m16 hk_t rfl (by decide) rfl (Nat.le_of_ble_eq_true rfl) ?_
        have hk_a4 := k_G m16.1.1 (by decide) hk_a4
        have hk_t := k_G m16.1.1 (by decide) hk_t
        have hT := m16.1.1.2.2.2
        have hz_r14 := m16.1.2
        obtain ⟨h1, rfl⟩ := Prod.mk.inj (Option.some.inj h)
        obtain rfl := Sum.inl.inj h1
        exact yr_z hT hz_r14 rfl hz_r14 dX8_signal_67
set_option maxRecDepth 100000 in
set_option maxHeartbeats 4000000 in
theorem tb_X8_signal_40x {l : Launch} {g : gx_T} {σ : sx_T} {u : sx_T} {E : String} {As : Array Value} {Qc : Array Value → State → Outcome → State → Prop} (hlt : l.stackTraces = false) {n0 : Nat}  (h : fb_X8_signal_40 n0 σ  = some (.inr E, u)) (hT : TS g σ)  : ZY l g cX8_signal RX8 "signal" (some .boolean) 5 12 304 1 6 true As (QX g As Qc E u) True u σ 40 [] [] := by
  unfold fb_X8_signal_40 at h
  obtain ⟨h1, rfl⟩ := Prod.mk.inj (Option.some.inj h)
  cases h1
  exact yt_throw hT hlt (text := "no such signal") tw_X8_83_155_87 dX8_signal_40 dX8_signal_43 dX8_signal_44 dX8_signal_46 dX8_signal_49 (by decide) (by decide)
set_option maxRecDepth 100000 in
set_option maxHeartbeats 4000000 in
theorem ct_X8_signalx (l : Launch) (hlt : l.stackTraces = false) {g : gx_T} {σ : sx_T} {u : sx_T} {E : String} {n0 : Nat} {t : Nat} {x1 : Int32} {x2 : Int32} {x3 : Int32} (h : f_X8_signal n0 σ t x1 x2 x3 = some (.inr E, u)) (hT : TS g σ) (hk_t : sx_K σ t = 10) {Qc : Array Value → State → Outcome → State → Prop} : CX l g yX8_signal cX8_signal 5 (some .boolean) 12 304 [.ref t, .int x1, .int x2, .int x3] E u σ Qc := by
  refine yc_metX (by decide) (Nat.le_of_ble_eq_true rfl) ?_
  refine yc_lv (show lv_args 0 [.ref t, .int x1, .int x2, .int x3] = [(0, .ref t), (1, .int x1), (2, .int x2), (3, .int x3)] from rfl) ?_
  show ZY l g _ _ _ _ _ _ _ _ _ _ _ _ _ _ σ 0 [(0, .ref t), (1, .int x1), (2, .int x2), (3, .int x3)] []
  unfold f_X8_signal at h
  refine ym 1 (fun B k => z_aload_n B dX8_signal_0 rfl 0 rfl k) ?_
  refine ym 2 (fun B k => z_iload_n B dX8_signal_1 rfl 1 rfl k) ?_
  replace h := br_e h
  obtain ⟨r2, h1, h⟩ := h
  have m3 := ct_X8_flowAt l (g := g) h1 hT hk_t
  refine yc_Vq (Al := [.int x1]) (rest := []) 5 rfl cw_X8_99 cx_9 dX8_signal_2 m3 hk_t rfl (by decide) rfl (Nat.le_of_ble_eq_true rfl) ?_
  have hq_r2 := m3.1.2
  refine ym 7 (fun B k => z_qstore (r := r2) (lv' := [(4, va_rf r2), (0, .ref t), (1, .int x1), (2, .int x2), (3, .int x3)]) B dX8_signal_5 (by decide) rfl k) ?_
  refine ym 9 (fun B k => z_qload (r := r2) B dX8_signal_7 0 rfl k) ?_
  rcases r2 with _ | a4
  · replace h := oc_n h
    refine ym 12 (fun B k => z_ifnonnull (r := none) (tgt := 22) B dX8_signal_9 (by decide) (fun a h => nomatch h) (fun _ => k)) ?_
    obtain ⟨h1, rfl⟩ := Prod.mk.inj (Option.some.inj h)
    cases h1
    exact yt_throw hT hlt (text := "no such workflow") tw_X8_72_153_76 dX8_signal_12 dX8_signal_15 dX8_signal_16 dX8_signal_18 dX8_signal_21 (by decide) (by decide)
  · replace h := oc_s h
    have hk_a4 := hq_r2 a4 rfl
    refine ym 22 (fun B k => z_ifnonnull (r := (some a4)) (tgt := 22) B dX8_signal_9 (by decide) (fun _ _ => k) (fun h => nomatch h)) ?_
    refine ym 23 (fun B k => z_iload_n B dX8_signal_22 rfl 3 rfl k) ?_
    refine ym 25 (fun B k => z_bipush (v := 100) B dX8_signal_23 (by decide) k) ?_
    replace h := br_e h
    obtain ⟨r6, h5, h⟩ := h
    have m7 := ct_X8_isBelow l (g := g) h5 hT
    refine yc_Si (Al := [.int x2, .int 100]) (rest := []) 28 rfl cw_X8_68 dX8_signal_25 m7 rfl (by decide) rfl (Nat.le_of_ble_eq_true rfl) ?_
    have hz_r6 := m7.1.2
    by_cases c8 : r6 = 0
    · replace h := ite_p c8 h
      refine ym 40 (fun B k => z_if_eq (tgt := 40) B dX8_signal_28 (by decide) (fun _ => k) (fun q => absurd c8 q)) ?_
      refine y_sub [] [] rfl ?_
      exact tb_X8_signal_40x hlt h hT 
    · replace h := ite_n c8 h
      refine ym 31 (fun B k => z_if_eq (tgt := 40) B dX8_signal_28 (by decide) (fun q => absurd q c8) (fun _ => k)) ?_
      refine ym 32 (fun B k => z_iload_n B dX8_signal_31 rfl 4 rfl k) ?_
      refine ym 34 (fun B k => z_bipush (v := 100) B dX8_signal_32 (by decide) k) ?_
      replace h := br_e h
      obtain ⟨r10, h9, h⟩ := h
      have m11 := ct_X8_isBelow l (g := g) h9 hT
      refine yc_Si (Al := [.int x3, .int 100]) (rest := []) 37 rfl cw_X8_68 dX8_signal_34 m11 rfl (by decide) rfl (Nat.le_of_ble_eq_true rfl) ?_
      have hz_r10 := m11.1.2
      by_cases c12 : r10 = 0
      · replace h := ite_p c12 h
        refine ym 40 (fun B k => z_if_ne (tgt := 50) B dX8_signal_37 (by decide) (fun q => absurd c12 q) (fun _ => k)) ?_
        refine y_sub [] [] rfl ?_
        exact tb_X8_signal_40x hlt h hT 
      · replace h := ite_n c12 h
        refine ym 50 (fun B k => z_if_ne (tgt := 50) B dX8_signal_37 (by decide) (fun _ => k) (fun q => absurd q c12)) ?_
        refine ym 51 (fun B k => z_aload_n B dX8_signal_50 rfl 1 rfl k) ?_
        refine ym 53 (fun B k => z_aload B dX8_signal_51 0 rfl k) ?_
        refine ym 55 (fun B k => z_bipush (v := 6) B dX8_signal_53 (by decide) k) ?_
        refine ym 58 (fun B k => z_ldc2 (v := 100) B dX8_signal_55 wg_868 k) ?_
        refine ym 59 (fun B k => z_iload_n B dX8_signal_58 rfl 3 rfl k) ?_
        refine ym 60 (fun B k => z_i2l (v := x2.toInt64) B dX8_signal_59 rfl k) ?_
        refine ym 61 (fun B k => z_lmul B dX8_signal_60 k) ?_
        refine ym 62 (fun B k => z_iload_n B dX8_signal_61 rfl 4 rfl k) ?_
        refine ym 63 (fun B k => z_i2l (v := x3.toInt64) B dX8_signal_62 rfl k) ?_
        refine ym 64 (fun B k => z_ladd B dX8_signal_63 k) ?_
        replace h := bd_e h
        obtain ⟨r14, u15, h13, h⟩ := h
        have m16 := ct_X8_send l (g := g) h13 hT hk_t (rk_a hk_a4)
        refine yc_Vi (Al := [.ref a4, .int 6, .long ((100 * x2.toInt64) + x3.toInt64)]) (rest := []) 67 rfl cw_X8_159 cx_9 dX8_signal_64 m16 hk_t rfl (by decide) rfl (Nat.le_of_ble_eq_true rfl) ?_
        have hk_a4 := k_G m16.1.1 (by decide) hk_a4
        have hk_t := k_G m16.1.1 (by decide) hk_t
        have hT := m16.1.1.2.2.2
        have hz_r14 := m16.1.2
        exact nomatch (Prod.mk.inj (Option.some.inj h)).1
set_option maxRecDepth 100000 in
set_option maxHeartbeats 4000000 in
theorem ct_X8_cancel (l : Launch) {g : gx_T} {σ : sx_T} {u : sx_T} {r : Int32} {n0 : Nat} {t : Nat} {x1 : Int32} (h : f_X8_cancel n0 σ t x1 = some (.inl r, u)) (hT : TS g σ) (hk_t : sx_K σ t = 10) : CT l g yX8_cancel cX8_cancel 3 (some .boolean) 12 304 [.ref t, .int x1] (r = 0 ∨ r = 1) u σ (Qxi g r u) := by
  refine yc_met (by decide) (Nat.le_of_ble_eq_true rfl) ?_
  refine yc_lv (show lv_args 0 [.ref t, .int x1] = [(0, .ref t), (1, .int x1)] from rfl) ?_
  show ZY l g _ _ _ _ _ _ _ _ _ _ _ _ _ _ σ 0 [(0, .ref t), (1, .int x1)] []
  unfold f_X8_cancel at h
  refine ym 1 (fun B k => z_aload_n B dX8_cancel_0 rfl 0 rfl k) ?_
  refine ym 2 (fun B k => z_iload_n B dX8_cancel_1 rfl 1 rfl k) ?_
  replace h := br_e h
  obtain ⟨r2, h1, h⟩ := h
  have m3 := ct_X8_flowAt l (g := g) h1 hT hk_t
  refine yc_Vq (Al := [.int x1]) (rest := []) 5 rfl cw_X8_99 cx_9 dX8_cancel_2 m3 hk_t rfl (by decide) rfl (Nat.le_of_ble_eq_true rfl) ?_
  have hq_r2 := m3.1.2
  refine ym 6 (fun B k => z_qstore_n (r := r2) (lv' := [(2, va_rf r2), (0, .ref t), (1, .int x1)]) B dX8_cancel_5 rfl (by decide) rfl k) ?_
  refine ym 7 (fun B k => z_qload_n (r := r2) B dX8_cancel_6 rfl 0 rfl k) ?_
  rcases r2 with _ | a4
  · replace h := oc_n h
    refine ym 10 (fun B k => z_ifnonnull (r := none) (tgt := 20) B dX8_cancel_7 (by decide) (fun a h => nomatch h) (fun _ => k)) ?_
    exact nomatch (Prod.mk.inj (Option.some.inj h)).1
  · replace h := oc_s h
    have hk_a4 := hq_r2 a4 rfl
    refine ym 20 (fun B k => z_ifnonnull (r := (some a4)) (tgt := 20) B dX8_cancel_7 (by decide) (fun _ _ => k) (fun h => nomatch h)) ?_
    refine ym 21 (fun B k => z_aload_n B dX8_cancel_20 rfl 1 rfl k) ?_
    refine ym 22 (fun B k => z_aload_n B dX8_cancel_21 rfl 0 rfl k) ?_
    refine ym 24 (fun B k => z_bipush (v := 12) B dX8_cancel_22 (by decide) k) ?_
    refine ym 25 (fun B k => z_lconst (v := 0) B dX8_cancel_24 (by decide) k) ?_
    replace h := bd_e h
    obtain ⟨r6, u7, h5, h⟩ := h
    have m8 := ct_X8_send l (g := g) h5 hT hk_t (rk_a hk_a4)
    refine yc_Vi (Al := [.ref a4, .int 12, .long 0]) (rest := []) 28 rfl cw_X8_159 cx_9 dX8_cancel_25 m8 hk_t rfl (by decide) rfl (Nat.le_of_ble_eq_true rfl) ?_
    have hk_a4 := k_G m8.1.1 (by decide) hk_a4
    have hk_t := k_G m8.1.1 (by decide) hk_t
    have hT := m8.1.1.2.2.2
    have hz_r6 := m8.1.2
    obtain ⟨h1, rfl⟩ := Prod.mk.inj (Option.some.inj h)
    obtain rfl := Sum.inl.inj h1
    exact yr_z hT hz_r6 rfl hz_r6 dX8_cancel_28
set_option maxRecDepth 100000 in
set_option maxHeartbeats 4000000 in
theorem ct_X8_cancelx (l : Launch) (hlt : l.stackTraces = false) {g : gx_T} {σ : sx_T} {u : sx_T} {E : String} {n0 : Nat} {t : Nat} {x1 : Int32} (h : f_X8_cancel n0 σ t x1 = some (.inr E, u)) (hT : TS g σ) (hk_t : sx_K σ t = 10) {Qc : Array Value → State → Outcome → State → Prop} : CX l g yX8_cancel cX8_cancel 3 (some .boolean) 12 304 [.ref t, .int x1] E u σ Qc := by
  refine yc_metX (by decide) (Nat.le_of_ble_eq_true rfl) ?_
  refine yc_lv (show lv_args 0 [.ref t, .int x1] = [(0, .ref t), (1, .int x1)] from rfl) ?_
  show ZY l g _ _ _ _ _ _ _ _ _ _ _ _ _ _ σ 0 [(0, .ref t), (1, .int x1)] []
  unfold f_X8_cancel at h
  refine ym 1 (fun B k => z_aload_n B dX8_cancel_0 rfl 0 rfl k) ?_
  refine ym 2 (fun B k => z_iload_n B dX8_cancel_1 rfl 1 rfl k) ?_
  replace h := br_e h
  obtain ⟨r2, h1, h⟩ := h
  have m3 := ct_X8_flowAt l (g := g) h1 hT hk_t
  refine yc_Vq (Al := [.int x1]) (rest := []) 5 rfl cw_X8_99 cx_9 dX8_cancel_2 m3 hk_t rfl (by decide) rfl (Nat.le_of_ble_eq_true rfl) ?_
  have hq_r2 := m3.1.2
  refine ym 6 (fun B k => z_qstore_n (r := r2) (lv' := [(2, va_rf r2), (0, .ref t), (1, .int x1)]) B dX8_cancel_5 rfl (by decide) rfl k) ?_
  refine ym 7 (fun B k => z_qload_n (r := r2) B dX8_cancel_6 rfl 0 rfl k) ?_
  rcases r2 with _ | a4
  · replace h := oc_n h
    refine ym 10 (fun B k => z_ifnonnull (r := none) (tgt := 20) B dX8_cancel_7 (by decide) (fun a h => nomatch h) (fun _ => k)) ?_
    obtain ⟨h1, rfl⟩ := Prod.mk.inj (Option.some.inj h)
    cases h1
    exact yt_throw hT hlt (text := "no such workflow") tw_X8_72_153_76 dX8_cancel_10 dX8_cancel_13 dX8_cancel_14 dX8_cancel_16 dX8_cancel_19 (by decide) (by decide)
  · replace h := oc_s h
    have hk_a4 := hq_r2 a4 rfl
    refine ym 20 (fun B k => z_ifnonnull (r := (some a4)) (tgt := 20) B dX8_cancel_7 (by decide) (fun _ _ => k) (fun h => nomatch h)) ?_
    refine ym 21 (fun B k => z_aload_n B dX8_cancel_20 rfl 1 rfl k) ?_
    refine ym 22 (fun B k => z_aload_n B dX8_cancel_21 rfl 0 rfl k) ?_
    refine ym 24 (fun B k => z_bipush (v := 12) B dX8_cancel_22 (by decide) k) ?_
    refine ym 25 (fun B k => z_lconst (v := 0) B dX8_cancel_24 (by decide) k) ?_
    replace h := bd_e h
    obtain ⟨r6, u7, h5, h⟩ := h
    have m8 := ct_X8_send l (g := g) h5 hT hk_t (rk_a hk_a4)
    refine yc_Vi (Al := [.ref a4, .int 12, .long 0]) (rest := []) 28 rfl cw_X8_159 cx_9 dX8_cancel_25 m8 hk_t rfl (by decide) rfl (Nat.le_of_ble_eq_true rfl) ?_
    have hk_a4 := k_G m8.1.1 (by decide) hk_a4
    have hk_t := k_G m8.1.1 (by decide) hk_t
    have hT := m8.1.1.2.2.2
    have hz_r6 := m8.1.2
    exact nomatch (Prod.mk.inj (Option.some.inj h)).1
set_option maxRecDepth 100000 in
set_option maxHeartbeats 4000000 in
theorem ct_X0_eventsAheadOfEnd (l : Launch) {g : gx_T} {σ : sx_T} {r : Int32}  {t : Nat} (h : f_X0_eventsAheadOfEnd σ t = some r) (hT : TS g σ) (hk_t : sx_K σ t = 2) : CT l g yX0_eventsAheadOfEnd cX0_eventsAheadOfEnd 1 (some .int) 3 65 [.ref t] (True) σ σ (Qxi g r σ) := by
  refine yc_met (by decide) (Nat.le_of_ble_eq_true rfl) ?_
  refine yc_lv (show lv_args 0 [.ref t] = [(0, .ref t)] from rfl) ?_
  show ZY l g _ _ _ _ _ _ _ _ _ _ _ _ _ _ σ 0 [(0, .ref t)] []
  unfold f_X0_eventsAheadOfEnd at h
  refine ym 1 (fun B k => z_aload_n B dX0_eventsAheadOfEnd_0 rfl 0 rfl k) ?_
  replace h := br_e h
  obtain ⟨r2, h1, h⟩ := h
  have m3 := ct_X0_hasEnded l (g := g) h1 hT hk_t
  refine yc_Vi (Al := []) (rest := []) 4 rfl cw_X0_42 cx_1 dX0_eventsAheadOfEnd_1 m3 hk_t rfl (by decide) rfl (Nat.le_of_ble_eq_true rfl) ?_
  have hz_r2 := m3.1.2
  by_cases c4 : r2 = 0
  · replace h := ite_p c4 h
    refine ym 19 (fun B k => z_if_eq (tgt := 19) B dX0_eventsAheadOfEnd_4 (by decide) (fun _ => k) (fun q => absurd c4 q)) ?_
    refine ym 20 (fun B k => z_aload_n B dX0_eventsAheadOfEnd_19 rfl 0 rfl k) ?_
    replace h := qv_e h
    obtain ⟨w5, e_w5, h⟩ := h
    have hq_w5 : rk σ w5 3 := rk_T hT hk_t rfl (by decide) e_w5
    refine ym 23 (fun B k => gf_X0_28 (x := w5) B hk_t e_w5 dX0_eventsAheadOfEnd_20 k) ?_
    replace h := bq_e h
    obtain ⟨a6, rfl, h⟩ := h
    have hk_a6 := hq_w5 a6 rfl
    replace h := br_e h
    obtain ⟨r8, h7, h⟩ := h
    have m9 := ct_X1_size l (g := g) h7 hT hk_a6
    refine yc_Vi (Al := []) (rest := []) 26 rfl cw_X0_46 cx_2 dX0_eventsAheadOfEnd_23 m9 hk_a6 rfl (by decide) rfl (Nat.le_of_ble_eq_true rfl) ?_
    obtain rfl := Option.some.inj h
    exact yr_i hT trivial rfl dX0_eventsAheadOfEnd_26
  · replace h := ite_n c4 h
    refine ym 7 (fun B k => z_if_eq (tgt := 19) B dX0_eventsAheadOfEnd_4 (by decide) (fun q => absurd q c4) (fun _ => k)) ?_
    refine ym 8 (fun B k => z_aload_n B dX0_eventsAheadOfEnd_7 rfl 0 rfl k) ?_
    replace h := qv_e h
    obtain ⟨w10, e_w10, h⟩ := h
    have hq_w10 : rk σ w10 3 := rk_T hT hk_t rfl (by decide) e_w10
    refine ym 11 (fun B k => gf_X0_28 (x := w10) B hk_t e_w10 dX0_eventsAheadOfEnd_8 k) ?_
    replace h := bq_e h
    obtain ⟨a11, rfl, h⟩ := h
    have hk_a11 := hq_w10 a11 rfl
    replace h := br_e h
    obtain ⟨r13, h12, h⟩ := h
    have m14 := ct_X1_size l (g := g) h12 hT hk_a11
    refine yc_Vi (Al := []) (rest := []) 14 rfl cw_X0_46 cx_2 dX0_eventsAheadOfEnd_11 m14 hk_a11 rfl (by decide) rfl (Nat.le_of_ble_eq_true rfl) ?_
    refine ym 15 (fun B k => z_iconst (v := 1) B dX0_eventsAheadOfEnd_14 (by decide) k) ?_
    refine ym 16 (fun B k => z_isub B dX0_eventsAheadOfEnd_15 k) ?_
    refine ym 26 (fun B k => z_goto (tgt := 26) B dX0_eventsAheadOfEnd_16 (by decide) k) ?_
    obtain rfl := Option.some.inj h
    exact yr_i hT trivial rfl dX0_eventsAheadOfEnd_26
set_option maxRecDepth 100000 in
set_option maxHeartbeats 4000000 in
theorem ct_X8_canLead (l : Launch) {g : gx_T} {σ : sx_T} {u : sx_T} {r : Int32} {n0 : Nat} {t : Nat} {v1 : Option Nat} {x2 : Int32} (h : f_X8_canLead n0 σ t v1 x2 = some (r, u)) (hT : TS g σ) (hk_t : sx_K σ t = 10) (hq_v1 : rk σ v1 2) : CT l g yX8_canLead cX8_canLead 3 (some .boolean) 4 95 [.ref t, va_rf v1, .int x2] (r = 0 ∨ r = 1) u σ (Qxi g r u) := by
  refine yc_met (by decide) (by cases v1 <;> exact Nat.le_of_ble_eq_true rfl) ?_
  refine yc_lv (show lv_args 0 [.ref t, va_rf v1, .int x2] = [(0, .ref t), (1, va_rf v1), (2, .int x2)] from (by cases v1 <;> rfl)) ?_
  show ZY l g _ _ _ _ _ _ _ _ _ _ _ _ _ _ σ 0 [(0, .ref t), (1, va_rf v1), (2, .int x2)] []
  unfold f_X8_canLead at h
  refine ym 1 (fun B k => z_aload_n B dX8_canLead_0 rfl 0 rfl k) ?_
  replace h := qv_e h
  obtain ⟨w1, e_w1, h⟩ := h
  have hq_w1 : rk σ w1 7 := rk_T hT hk_t rfl (by decide) e_w1
  refine ym 4 (fun B k => gf_X8_60 (x := w1) B hk_t e_w1 dX8_canLead_1 k) ?_
  refine ym 5 (fun B k => z_qload_n (r := v1) B dX8_canLead_4 rfl 1 rfl k) ?_
  replace h := bq_e h
  obtain ⟨a2, rfl, h⟩ := h
  have hk_a2 := hq_v1 a2 rfl
  replace h := qv_e h
  obtain ⟨w3, e_w3, h⟩ := h
  have hq_w3 : rk σ w3 6 := rk_T hT hk_a2 rfl (by decide) e_w3
  refine ym 8 (fun B k => gf_X8_103 (x := w3) B hk_a2 e_w3 dX8_canLead_5 k) ?_
  refine ym 9 (fun B k => z_aload_n B dX8_canLead_8 rfl 1 rfl k) ?_
  replace h := qv_e h
  obtain ⟨w4, e_w4, h⟩ := h
  have hq_w4 : rk σ w4 3 := rk_T hT hk_a2 rfl (by decide) e_w4
  refine ym 12 (fun B k => gf_X8_179 (x := w4) B hk_a2 e_w4 dX8_canLead_9 k) ?_
  replace h := bq_e h
  obtain ⟨a5, rfl, h⟩ := h
  have hk_a5 := hq_w1 a5 rfl
  replace h := br_e h
  obtain ⟨u7, h6, h⟩ := h
  have m8 := ct_X5_begin l (g := g) h6 hT hk_a5 hq_w3 hq_w4
  refine yc_Vv (Al := [va_rf w3, va_rf w4]) (rest := []) 15 rfl cw_X8_286 cx_6 dX8_canLead_12 m8 hk_a5 rfl (by decide) rfl (Nat.le_of_ble_eq_true rfl) ?_
  have hk_t := k_G m8.1.1 (by decide) hk_t
  have hk_a2 := k_G m8.1.1 (by decide) hk_a2
  have hT := m8.1.1.2.2.2
  refine ym 16 (fun B k => z_aload_n B dX8_canLead_15 rfl 0 rfl k) ?_
  replace h := qv_e h
  obtain ⟨w9, e_w9, h⟩ := h
  have hq_w9 : rk u7 w9 7 := rk_T hT hk_t rfl (by decide) e_w9
  refine ym 19 (fun B k => gf_X8_60 (x := w9) B hk_t e_w9 dX8_canLead_16 k) ?_
  refine ym 20 (fun B k => z_iload_n B dX8_canLead_19 rfl 2 rfl k) ?_
  replace h := bq_e h
  obtain ⟨a10, rfl, h⟩ := h
  have hk_a10 := hq_w9 a10 rfl
  replace h := br_e h
  obtain ⟨u12, h11, h⟩ := h
  have m13 := ct_X5_advance l (g := g) h11 hT hk_a10
  refine yc_Vv (Al := [.int x2]) (rest := []) 23 rfl cw_X8_289 cx_6 dX8_canLead_20 m13 hk_a10 rfl (by decide) rfl (Nat.le_of_ble_eq_true rfl) ?_
  have hk_t := k_G m13.1.1 (by decide) hk_t
  have hk_a2 := k_G m13.1.1 (by decide) hk_a2
  have hT := m13.1.1.2.2.2
  refine ym 24 (fun B k => z_aload_n B dX8_canLead_23 rfl 0 rfl k) ?_
  replace h := qv_e h
  obtain ⟨w14, e_w14, h⟩ := h
  have hq_w14 : rk u12 w14 7 := rk_T hT hk_t rfl (by decide) e_w14
  refine ym 27 (fun B k => gf_X8_60 (x := w14) B hk_t e_w14 dX8_canLead_24 k) ?_
  replace h := bq_e h
  obtain ⟨a15, rfl, h⟩ := h
  have hk_a15 := hq_w14 a15 rfl
  refine ym 30 (fun B k => gf_X8_133 (x := (sx_I u12 a15 19)) B hk_a15 rfl dX8_canLead_27 k) ?_
  by_cases c16 : (sx_I u12 a15 19) = 0
  · replace h := ite_p c16 h
    refine ym 33 (fun B k => z_if_ne (tgt := 48) B dX8_canLead_30 (by decide) (fun q => absurd c16 q) (fun _ => k)) ?_
    refine ym 34 (fun B k => z_aload_n B dX8_canLead_33 rfl 0 rfl k) ?_
    replace h := qv_e h
    obtain ⟨w17, e_w17, h⟩ := h
    have hq_w17 : rk u12 w17 7 := rk_T hT hk_t rfl (by decide) e_w17
    refine ym 37 (fun B k => gf_X8_60 (x := w17) B hk_t e_w17 dX8_canLead_34 k) ?_
    replace h := bq_e h
    obtain ⟨a18, rfl, h⟩ := h
    have hk_a18 := hq_w17 a18 rfl
    refine ym 40 (fun B k => gf_X8_298 (x := (sx_I u12 a18 8)) B hk_a18 rfl dX8_canLead_37 k) ?_
    refine ym 41 (fun B k => z_iconst (v := 5) B dX8_canLead_40 (by decide) k) ?_
    by_cases c19 : (sx_I u12 a18 8) = 5
    · replace h := ite_p c19 h
      refine ym 48 (fun B k => z_icmp_eq (tgt := 48) B dX8_canLead_41 (by decide) (fun _ => k) (fun q => absurd c19 q)) ?_
      refine ym 49 (fun B k => z_iconst (v := 0) B dX8_canLead_48 (by decide) k) ?_
      obtain ⟨rfl, rfl⟩ := Prod.mk.inj (Option.some.inj h)
      exact yr_z hT (Or.inl rfl) rfl (Or.inl rfl) dX8_canLead_49
    · replace h := ite_n c19 h
      refine ym 44 (fun B k => z_icmp_eq (tgt := 48) B dX8_canLead_41 (by decide) (fun q => absurd q c19) (fun _ => k)) ?_
      refine ym 45 (fun B k => z_iconst (v := 1) B dX8_canLead_44 (by decide) k) ?_
      refine ym 49 (fun B k => z_goto (tgt := 49) B dX8_canLead_45 (by decide) k) ?_
      obtain ⟨rfl, rfl⟩ := Prod.mk.inj (Option.some.inj h)
      exact yr_z hT (Or.inr rfl) rfl (Or.inr rfl) dX8_canLead_49
  · replace h := ite_n c16 h
    refine ym 48 (fun B k => z_if_ne (tgt := 48) B dX8_canLead_30 (by decide) (fun _ => k) (fun q => absurd q c16)) ?_
    refine ym 49 (fun B k => z_iconst (v := 0) B dX8_canLead_48 (by decide) k) ?_
    obtain ⟨rfl, rfl⟩ := Prod.mk.inj (Option.some.inj h)
    exact yr_z hT (Or.inl rfl) rfl (Or.inl rfl) dX8_canLead_49
