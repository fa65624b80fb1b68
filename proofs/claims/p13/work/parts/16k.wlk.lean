set_option maxRecDepth 100000 in
set_option maxHeartbeats 4000000 in
theorem ct_X9_isEvent (l : Launch) {g : gx_T} {σ : sx_T} {r : Int32}  {t : Nat} {x1 : Int32} {x2 : Int32} (h : f_X9_isEvent σ t x1 x2 = some r) (hT : TS g σ) (hk_t : sx_K σ t = 11) : CT l g yX9_isEvent cX9_isEvent 3 (some .boolean) 2 43 [.ref t, .int x1, .int x2] (r = 0 ∨ r = 1) σ σ (Qxi g r σ) := by
  refine yc_met (by decide) (Nat.le_of_ble_eq_true rfl) ?_
  refine yc_lv (show lv_args 0 [.ref t, .int x1, .int x2] = [(0, .ref t), (1, .int x1), (2, .int x2)] from rfl) ?_
  show ZY l g _ _ _ _ _ _ _ _ _ _ _ _ _ _ σ 0 [(0, .ref t), (1, .int x1), (2, .int x2)] []
  unfold f_X9_isEvent at h
  refine ym 1 (fun B k => z_aload_n B dX9_isEvent_0 rfl 0 rfl k) ?_
  refine ym 2 (fun B k => z_iload_n B dX9_isEvent_1 rfl 1 rfl k) ?_
  replace h := br_e h
  obtain ⟨r2, h1, h⟩ := h
  have m3 := ct_X9_isWorkflow l (g := g) h1 hT hk_t
  refine yc_Vi (Al := [.int x1]) (rest := []) 5 rfl cw_X9_262 cx_10 dX9_isEvent_2 m3 hk_t rfl (by decide) rfl (Nat.le_of_ble_eq_true rfl) ?_
  have hz_r2 := m3.1.2
  by_cases c4 : r2 = 0
  · replace h := ite_p c4 h
    refine ym 28 (fun B k => z_if_eq (tgt := 28) B dX9_isEvent_5 (by decide) (fun _ => k) (fun q => absurd c4 q)) ?_
    refine ym 29 (fun B k => z_iconst (v := 0) B dX9_isEvent_28 (by decide) k) ?_
    obtain rfl := Option.some.inj h
    exact yr_z hT (Or.inl rfl) rfl (Or.inl rfl) dX9_isEvent_29
  · replace h := ite_n c4 h
    refine ym 8 (fun B k => z_if_eq (tgt := 28) B dX9_isEvent_5 (by decide) (fun q => absurd q c4) (fun _ => k)) ?_
    refine ym 9 (fun B k => z_iload_n B dX9_isEvent_8 rfl 2 rfl k) ?_
    refine ym 10 (fun B k => z_iconst (v := 0) B dX9_isEvent_9 (by decide) k) ?_
    refine ym 11 (fun B k => z_aload_n B dX9_isEvent_10 rfl 0 rfl k) ?_
    replace h := qv_e h
    obtain ⟨w5, e_w5, h⟩ := h
    have hq_w5 : rk σ w5 13 := rk_T hT hk_t rfl (by decide) e_w5
    refine ym 14 (fun B k => gf_X9_35 (x := w5) B hk_t e_w5 dX9_isEvent_11 k) ?_
    refine ym 15 (fun B k => z_iload_n B dX9_isEvent_14 rfl 1 rfl k) ?_
    replace h := bq_e h
    obtain ⟨a6, rfl, h⟩ := h
    have hk_a6 := hq_w5 a6 rfl
    replace h := ck_e h
    obtain ⟨hi_7, h⟩ := h
    refine ym 16 (fun B k => z_iald (j := (ti x1)) (x := (sx_I σ a6 (ti x1))) B hk_a6 rfl hi_7 rfl dX9_isEvent_15 k) ?_
    refine ym 17 (fun B k => z_iconst (v := 1) B dX9_isEvent_16 (by decide) k) ?_
    refine ym 18 (fun B k => z_isub B dX9_isEvent_17 k) ?_
    replace h := br_e h
    obtain ⟨r9, h8, h⟩ := h
    have m10 := ct_X9_in l (g := g) h8 hT
    refine yc_Si (Al := [.int x2, .int 0, .int ((sx_I σ a6 (ti x1)) - 1)]) (rest := []) 21 rfl cw_X9_96 dX9_isEvent_18 m10 rfl (by decide) rfl (Nat.le_of_ble_eq_true rfl) ?_
    have hz_r9 := m10.1.2
    by_cases c11 : r9 = 0
    · replace h := ite_p c11 h
      refine ym 28 (fun B k => z_if_eq (tgt := 28) B dX9_isEvent_21 (by decide) (fun _ => k) (fun q => absurd c11 q)) ?_
      refine ym 29 (fun B k => z_iconst (v := 0) B dX9_isEvent_28 (by decide) k) ?_
      obtain rfl := Option.some.inj h
      exact yr_z hT (Or.inl rfl) rfl (Or.inl rfl) dX9_isEvent_29
    · replace h := ite_n c11 h
      refine ym 24 (fun B k => z_if_eq (tgt := 28) B dX9_isEvent_21 (by decide) (fun q => absurd q c11) (fun _ => k)) ?_
      refine ym 25 (fun B k => z_iconst (v := 1) B dX9_isEvent_24 (by decide) k) ?_
      refine ym 29 (fun B k => z_goto (tgt := 29) B dX9_isEvent_25 (by decide) k) ?_
      obtain rfl := Option.some.inj h
      exact yr_z hT (Or.inr rfl) rfl (Or.inr rfl) dX9_isEvent_29
set_option maxRecDepth 100000 in
set_option maxHeartbeats 4000000 in
theorem ct_X9_kind (l : Launch) {g : gx_T} {σ : sx_T} {u : sx_T} {r : Int32}  {t : Nat} {x1 : Int32} {x2 : Int32} (h : f_X9_kind σ t x1 x2 = some (r, u)) (hT : TS g σ) (hk_t : sx_K σ t = 11) : CT l g yX9_kind cX9_kind 3 (some .int) 3 65 [.ref t, .int x1, .int x2] (True) u σ (Qxi g r u) := by
  refine yc_met (by decide) (Nat.le_of_ble_eq_true rfl) ?_
  refine yc_lv (show lv_args 0 [.ref t, .int x1, .int x2] = [(0, .ref t), (1, .int x1), (2, .int x2)] from rfl) ?_
  show ZY l g _ _ _ _ _ _ _ _ _ _ _ _ _ _ σ 0 [(0, .ref t), (1, .int x1), (2, .int x2)] []
  unfold f_X9_kind at h
  refine ym 1 (fun B k => z_aload_n B dX9_kind_0 rfl 0 rfl k) ?_
  refine ym 2 (fun B k => z_aload_n B dX9_kind_1 rfl 0 rfl k) ?_
  refine ym 3 (fun B k => z_iload_n B dX9_kind_2 rfl 1 rfl k) ?_
  refine ym 4 (fun B k => z_iload_n B dX9_kind_3 rfl 2 rfl k) ?_
  replace h := br_e h
  obtain ⟨r2, h1, h⟩ := h
  have m3 := ct_X9_isEvent l (g := g) h1 hT hk_t
  refine yc_Vi (Al := [.int x1, .int x2]) (rest := [.ref t]) 7 rfl cw_X9_300 cx_10 dX9_kind_4 m3 hk_t rfl (by decide) rfl (Nat.le_of_ble_eq_true rfl) ?_
  have hz_r2 := m3.1.2
  replace h := bd_e h
  obtain ⟨r5, u6, h4, h⟩ := h
  have m7 := ct_X9_needs l (g := g) h4 hT hk_t hz_r2
  refine yc_Vi (Al := [.int r2]) (rest := []) 10 rfl cw_X9_269 cx_10 dX9_kind_7 m7 hk_t rfl (by decide) rfl (Nat.le_of_ble_eq_true rfl) ?_
  have hk_t := k_G m7.1.1 (by decide) hk_t
  have hT := m7.1.1.2.2.2
  have hz_r5 := m7.1.2
  by_cases c8 : r5 = 0
  · replace h := ite_p c8 h
    refine ym 28 (fun B k => z_if_eq (tgt := 28) B dX9_kind_10 (by decide) (fun _ => k) (fun q => absurd c8 q)) ?_
    refine ym 29 (fun B k => z_iconst (v := 0) B dX9_kind_28 (by decide) k) ?_
    obtain ⟨rfl, rfl⟩ := Prod.mk.inj (Option.some.inj h)
    exact yr_i hT trivial rfl dX9_kind_29
  · replace h := ite_n c8 h
    refine ym 13 (fun B k => z_if_eq (tgt := 28) B dX9_kind_10 (by decide) (fun q => absurd q c8) (fun _ => k)) ?_
    refine ym 14 (fun B k => z_aload_n B dX9_kind_13 rfl 0 rfl k) ?_
    replace h := qv_e h
    obtain ⟨w9, e_w9, h⟩ := h
    have hq_w9 : rk u6 w9 13 := rk_T hT hk_t rfl (by decide) e_w9
    refine ym 17 (fun B k => gf_X9_44 (x := w9) B hk_t e_w9 dX9_kind_14 k) ?_
    refine ym 20 (fun B k => z_sipush (v := 160) B dX9_kind_17 (by decide) k) ?_
    refine ym 21 (fun B k => z_iload_n B dX9_kind_20 rfl 1 rfl k) ?_
    refine ym 22 (fun B k => z_imul B dX9_kind_21 k) ?_
    refine ym 23 (fun B k => z_iload_n B dX9_kind_22 rfl 2 rfl k) ?_
    refine ym 24 (fun B k => z_iadd B dX9_kind_23 k) ?_
    replace h := bq_e h
    obtain ⟨a10, rfl, h⟩ := h
    have hk_a10 := hq_w9 a10 rfl
    replace h := ck_e h
    obtain ⟨hi_11, h⟩ := h
    refine ym 25 (fun B k => z_iald (j := (ti ((160 * x1) + x2))) (x := (sx_I u6 a10 (ti ((160 * x1) + x2)))) B hk_a10 rfl hi_11 rfl dX9_kind_24 k) ?_
    refine ym 29 (fun B k => z_goto (tgt := 29) B dX9_kind_25 (by decide) k) ?_
    obtain ⟨rfl, rfl⟩ := Prod.mk.inj (Option.some.inj h)
    exact yr_i hT trivial rfl dX9_kind_29
set_option maxRecDepth 100000 in
set_option maxHeartbeats 4000000 in
theorem ct_X9_number (l : Launch) {g : gx_T} {σ : sx_T} {u : sx_T} {r : Int64}  {t : Nat} {x1 : Int32} {x2 : Int32} (h : f_X9_number σ t x1 x2 = some (r, u)) (hT : TS g σ) (hk_t : sx_K σ t = 11) : CT l g yX9_number cX9_number 3 (some .long) 3 65 [.ref t, .int x1, .int x2] (True) u σ (Qxl g r u) := by
  refine yc_met (by decide) (Nat.le_of_ble_eq_true rfl) ?_
  refine yc_lv (show lv_args 0 [.ref t, .int x1, .int x2] = [(0, .ref t), (1, .int x1), (2, .int x2)] from rfl) ?_
  show ZY l g _ _ _ _ _ _ _ _ _ _ _ _ _ _ σ 0 [(0, .ref t), (1, .int x1), (2, .int x2)] []
  unfold f_X9_number at h
  refine ym 1 (fun B k => z_aload_n B dX9_number_0 rfl 0 rfl k) ?_
  refine ym 2 (fun B k => z_aload_n B dX9_number_1 rfl 0 rfl k) ?_
  refine ym 3 (fun B k => z_iload_n B dX9_number_2 rfl 1 rfl k) ?_
  refine ym 4 (fun B k => z_iload_n B dX9_number_3 rfl 2 rfl k) ?_
  replace h := br_e h
  obtain ⟨r2, h1, h⟩ := h
  have m3 := ct_X9_isEvent l (g := g) h1 hT hk_t
  refine yc_Vi (Al := [.int x1, .int x2]) (rest := [.ref t]) 7 rfl cw_X9_300 cx_10 dX9_number_4 m3 hk_t rfl (by decide) rfl (Nat.le_of_ble_eq_true rfl) ?_
  have hz_r2 := m3.1.2
  replace h := bd_e h
  obtain ⟨r5, u6, h4, h⟩ := h
  have m7 := ct_X9_needs l (g := g) h4 hT hk_t hz_r2
  refine yc_Vi (Al := [.int r2]) (rest := []) 10 rfl cw_X9_269 cx_10 dX9_number_7 m7 hk_t rfl (by decide) rfl (Nat.le_of_ble_eq_true rfl) ?_
  have hk_t := k_G m7.1.1 (by decide) hk_t
  have hT := m7.1.1.2.2.2
  have hz_r5 := m7.1.2
  by_cases c8 : r5 = 0
  · replace h := ite_p c8 h
    refine ym 28 (fun B k => z_if_eq (tgt := 28) B dX9_number_10 (by decide) (fun _ => k) (fun q => absurd c8 q)) ?_
    refine ym 29 (fun B k => z_lconst (v := 0) B dX9_number_28 (by decide) k) ?_
    obtain ⟨rfl, rfl⟩ := Prod.mk.inj (Option.some.inj h)
    exact yr_l hT trivial rfl dX9_number_29
  · replace h := ite_n c8 h
    refine ym 13 (fun B k => z_if_eq (tgt := 28) B dX9_number_10 (by decide) (fun q => absurd q c8) (fun _ => k)) ?_
    refine ym 14 (fun B k => z_aload_n B dX9_number_13 rfl 0 rfl k) ?_
    replace h := qv_e h
    obtain ⟨w9, e_w9, h⟩ := h
    have hq_w9 : rk u6 w9 14 := rk_T hT hk_t rfl (by decide) e_w9
    refine ym 17 (fun B k => gf_X9_47 (x := w9) B hk_t e_w9 dX9_number_14 k) ?_
    refine ym 20 (fun B k => z_sipush (v := 160) B dX9_number_17 (by decide) k) ?_
    refine ym 21 (fun B k => z_iload_n B dX9_number_20 rfl 1 rfl k) ?_
    refine ym 22 (fun B k => z_imul B dX9_number_21 k) ?_
    refine ym 23 (fun B k => z_iload_n B dX9_number_22 rfl 2 rfl k) ?_
    refine ym 24 (fun B k => z_iadd B dX9_number_23 k) ?_
    replace h := bq_e h
    obtain ⟨a10, rfl, h⟩ := h
    have hk_a10 := hq_w9 a10 rfl
    replace h := ck_e h
    obtain ⟨hi_11, h⟩ := h
    refine ym 25 (fun B k => z_lald (j := (ti ((160 * x1) + x2))) (x := (sx_J u6 a10 (ti ((160 * x1) + x2)))) B hk_a10 rfl hi_11 rfl dX9_number_24 k) ?_
    refine ym 29 (fun B k => z_goto (tgt := 29) B dX9_number_25 (by decide) k) ?_
    obtain ⟨rfl, rfl⟩ := Prod.mk.inj (Option.some.inj h)
    exact yr_l hT trivial rfl dX9_number_29
set_option maxRecDepth 100000 in
set_option maxHeartbeats 4000000 in
theorem ct_X9_tasks (l : Launch) {g : gx_T} {σ : sx_T} {u : sx_T} {r : Int32}  {t : Nat} (h : f_X9_tasks σ t = some (r, u)) (hT : TS g σ) (hk_t : sx_K σ t = 11) : CT l g yX9_tasks cX9_tasks 1 (some .int) 0 0 [.ref t] (True) u σ (Qxi g r u) := by
  refine yc_met (by decide) (Nat.le_of_ble_eq_true rfl) ?_
  refine yc_lv (show lv_args 0 [.ref t] = [(0, .ref t)] from rfl) ?_
  show ZY l g _ _ _ _ _ _ _ _ _ _ _ _ _ _ σ 0 [(0, .ref t)] []
  unfold f_X9_tasks at h
  refine ym 1 (fun B k => z_aload_n B dX9_tasks_0 rfl 0 rfl k) ?_
  refine ym 2 (fun B k => z_iconst (v := 0) B dX9_tasks_1 (by decide) k) ?_
  have j1 := hk_t
  refine ymw (σ' := (wx_I σ t 0 0)) 5 e_I (fun B hin k => pf_X9_90 (x := 0) B hk_t rfl dX9_tasks_2 k) ?_
  have hT := TS_I (k := 0) (x := 0) hT hk_t (Or.inl rfl)
  have hk_t := kk_I (σ := σ) (a := t) (k := 0) (x := 0) hk_t
  refine ym 6 (fun B k => z_aload_n B dX9_tasks_5 rfl 0 rfl k) ?_
  refine ym 9 (fun B k => gf_X9_100 (x := (sx_I σ t 16)) B hk_t (rI_n (by decide) rfl) dX9_tasks_6 k) ?_
  obtain ⟨rfl, rfl⟩ := Prod.mk.inj (Option.some.inj h)
  exact yr_i hT trivial rfl dX9_tasks_9
set_option maxRecDepth 100000 in
set_option maxHeartbeats 4000000 in
theorem ct_X9_task (l : Launch) {g : gx_T} {σ : sx_T} {u : sx_T} {r : Int32}  {t : Nat} {x1 : Int32} {x2 : Int32} (h : f_X9_task σ t x1 x2 = some (r, u)) (hT : TS g σ) (hk_t : sx_K σ t = 11) : CT l g yX9_task cX9_task 3 (some .int) 1 22 [.ref t, .int x1, .int x2] (True) u σ (Qxi g r u) := by
  refine yc_met (by decide) (Nat.le_of_ble_eq_true rfl) ?_
  refine yc_lv (show lv_args 0 [.ref t, .int x1, .int x2] = [(0, .ref t), (1, .int x1), (2, .int x2)] from rfl) ?_
  show ZY l g _ _ _ _ _ _ _ _ _ _ _ _ _ _ σ 0 [(0, .ref t), (1, .int x1), (2, .int x2)] []
  unfold f_X9_task at h
  refine ym 1 (fun B k => z_aload_n B dX9_task_0 rfl 0 rfl k) ?_
  refine ym 2 (fun B k => z_iload_n B dX9_task_1 rfl 1 rfl k) ?_
  refine ym 3 (fun B k => z_iconst (v := 0) B dX9_task_2 (by decide) k) ?_
  refine ym 4 (fun B k => z_aload_n B dX9_task_3 rfl 0 rfl k) ?_
  refine ym 7 (fun B k => gf_X9_100 (x := (sx_I σ t 16)) B hk_t rfl dX9_task_4 k) ?_
  refine ym 8 (fun B k => z_iconst (v := 1) B dX9_task_7 (by decide) k) ?_
  refine ym 9 (fun B k => z_isub B dX9_task_8 k) ?_
  replace h := br_e h
  obtain ⟨r2, h1, h⟩ := h
  have m3 := ct_X9_in l (g := g) h1 hT
  refine yc_Si (Al := [.int x1, .int 0, .int ((sx_I σ t 16) - 1)]) (rest := [.ref t]) 12 rfl cw_X9_96 dX9_task_9 m3 rfl (by decide) rfl (Nat.le_of_ble_eq_true rfl) ?_
  have hz_r2 := m3.1.2
  refine ym 13 (fun B k => z_iload_n B dX9_task_12 rfl 2 rfl k) ?_
  refine ym 14 (fun B k => z_iconst (v := 0) B dX9_task_13 (by decide) k) ?_
  refine ym 15 (fun B k => z_iconst (v := 5) B dX9_task_14 (by decide) k) ?_
  replace h := br_e h
  obtain ⟨r5, h4, h⟩ := h
  have m6 := ct_X9_in l (g := g) h4 hT
  refine yc_Si (Al := [.int x2, .int 0, .int 5]) (rest := [.int r2, .ref t]) 18 rfl cw_X9_96 dX9_task_15 m6 rfl (by decide) rfl (Nat.le_of_ble_eq_true rfl) ?_
  have hz_r5 := m6.1.2
  replace h := bd_e h
  obtain ⟨r8, u9, h7, h⟩ := h
  have m10 := ct_X9_needs_ l (g := g) h7 hT hk_t hz_r2 hz_r5
  refine yc_Vi (Al := [.int r2, .int r5]) (rest := []) 21 rfl cw_X9_245 cx_10 dX9_task_18 m10 hk_t rfl (by decide) rfl (Nat.le_of_ble_eq_true rfl) ?_
  have hk_t := k_G m10.1.1 (by decide) hk_t
  have hT := m10.1.1.2.2.2
  have hz_r8 := m10.1.2
  by_cases c11 : r8 = 0
  · replace h := ite_p c11 h
    refine ym 24 (fun B k => z_if_ne (tgt := 26) B dX9_task_21 (by decide) (fun q => absurd c11 q) (fun _ => k)) ?_
    refine ym 25 (fun B k => z_iconst (v := 0) B dX9_task_24 (by decide) k) ?_
    obtain ⟨rfl, rfl⟩ := Prod.mk.inj (Option.some.inj h)
    exact yr_i hT trivial rfl dX9_task_25
  · replace h := ite_n c11 h
    refine ym 26 (fun B k => z_if_ne (tgt := 26) B dX9_task_21 (by decide) (fun _ => k) (fun q => absurd q c11)) ?_
    refine ym 27 (fun B k => z_iload_n B dX9_task_26 rfl 2 rfl k) ?_
    by_cases c12 : x2 = 0
    · replace h := ite_p c12 h
      refine ym 30 (fun B k => z_if_ne (tgt := 39) B dX9_task_27 (by decide) (fun q => absurd c12 q) (fun _ => k)) ?_
      refine ym 31 (fun B k => z_aload_n B dX9_task_30 rfl 0 rfl k) ?_
      replace h := qv_e h
      obtain ⟨w13, e_w13, h⟩ := h
      have hq_w13 : rk u9 w13 13 := rk_T hT hk_t rfl (by decide) e_w13
      refine ym 34 (fun B k => gf_X9_51 (x := w13) B hk_t e_w13 dX9_task_31 k) ?_
      refine ym 35 (fun B k => z_iload_n B dX9_task_34 rfl 1 rfl k) ?_
      replace h := bq_e h
      obtain ⟨a14, rfl, h⟩ := h
      have hk_a14 := hq_w13 a14 rfl
      replace h := ck_e h
      obtain ⟨hi_15, h⟩ := h
      refine ym 36 (fun B k => z_iald (j := (ti x1)) (x := (sx_I u9 a14 (ti x1))) B hk_a14 rfl hi_15 rfl dX9_task_35 k) ?_
      refine ym 101 (fun B k => z_goto (tgt := 101) B dX9_task_36 (by decide) k) ?_
      obtain ⟨rfl, rfl⟩ := Prod.mk.inj (Option.some.inj h)
      exact yr_i hT trivial rfl dX9_task_101
    · replace h := ite_n c12 h
      refine ym 39 (fun B k => z_if_ne (tgt := 39) B dX9_task_27 (by decide) (fun _ => k) (fun q => absurd q c12)) ?_
      refine ym 40 (fun B k => z_iload_n B dX9_task_39 rfl 2 rfl k) ?_
      refine ym 41 (fun B k => z_iconst (v := 1) B dX9_task_40 (by decide) k) ?_
      by_cases c16 : x2 = 1
      · replace h := ite_p c16 h
        refine ym 44 (fun B k => z_icmp_ne (tgt := 53) B dX9_task_41 (by decide) (fun q => absurd c16 q) (fun _ => k)) ?_
        refine ym 45 (fun B k => z_aload_n B dX9_task_44 rfl 0 rfl k) ?_
        replace h := qv_e h
        obtain ⟨w17, e_w17, h⟩ := h
        have hq_w17 : rk u9 w17 13 := rk_T hT hk_t rfl (by decide) e_w17
        refine ym 48 (fun B k => gf_X9_54 (x := w17) B hk_t e_w17 dX9_task_45 k) ?_
        refine ym 49 (fun B k => z_iload_n B dX9_task_48 rfl 1 rfl k) ?_
        replace h := bq_e h
        obtain ⟨a18, rfl, h⟩ := h
        have hk_a18 := hq_w17 a18 rfl
        replace h := ck_e h
        obtain ⟨hi_19, h⟩ := h
        refine ym 50 (fun B k => z_iald (j := (ti x1)) (x := (sx_I u9 a18 (ti x1))) B hk_a18 rfl hi_19 rfl dX9_task_49 k) ?_
        refine ym 101 (fun B k => z_goto (tgt := 101) B dX9_task_50 (by decide) k) ?_
        obtain ⟨rfl, rfl⟩ := Prod.mk.inj (Option.some.inj h)
        exact yr_i hT trivial rfl dX9_task_101
      · replace h := ite_n c16 h
        refine ym 53 (fun B k => z_icmp_ne (tgt := 53) B dX9_task_41 (by decide) (fun _ => k) (fun q => absurd q c16)) ?_
        refine ym 54 (fun B k => z_iload_n B dX9_task_53 rfl 2 rfl k) ?_
        refine ym 55 (fun B k => z_iconst (v := 2) B dX9_task_54 (by decide) k) ?_
        by_cases c20 : x2 = 2
        · replace h := ite_p c20 h
          refine ym 58 (fun B k => z_icmp_ne (tgt := 67) B dX9_task_55 (by decide) (fun q => absurd c20 q) (fun _ => k)) ?_
          refine ym 59 (fun B k => z_aload_n B dX9_task_58 rfl 0 rfl k) ?_
          replace h := qv_e h
          obtain ⟨w21, e_w21, h⟩ := h
          have hq_w21 : rk u9 w21 13 := rk_T hT hk_t rfl (by decide) e_w21
          refine ym 62 (fun B k => gf_X9_57 (x := w21) B hk_t e_w21 dX9_task_59 k) ?_
          refine ym 63 (fun B k => z_iload_n B dX9_task_62 rfl 1 rfl k) ?_
          replace h := bq_e h
          obtain ⟨a22, rfl, h⟩ := h
          have hk_a22 := hq_w21 a22 rfl
          replace h := ck_e h
          obtain ⟨hi_23, h⟩ := h
          refine ym 64 (fun B k => z_iald (j := (ti x1)) (x := (sx_I u9 a22 (ti x1))) B hk_a22 rfl hi_23 rfl dX9_task_63 k) ?_
          refine ym 101 (fun B k => z_goto (tgt := 101) B dX9_task_64 (by decide) k) ?_
          obtain ⟨rfl, rfl⟩ := Prod.mk.inj (Option.some.inj h)
          exact yr_i hT trivial rfl dX9_task_101
        · replace h := ite_n c20 h
          refine ym 67 (fun B k => z_icmp_ne (tgt := 67) B dX9_task_55 (by decide) (fun _ => k) (fun q => absurd q c20)) ?_
          refine ym 68 (fun B k => z_iload_n B dX9_task_67 rfl 2 rfl k) ?_
          refine ym 69 (fun B k => z_iconst (v := 3) B dX9_task_68 (by decide) k) ?_
          by_cases c24 : x2 = 3
          · replace h := ite_p c24 h
            refine ym 72 (fun B k => z_icmp_ne (tgt := 81) B dX9_task_69 (by decide) (fun q => absurd c24 q) (fun _ => k)) ?_
            refine ym 73 (fun B k => z_aload_n B dX9_task_72 rfl 0 rfl k) ?_
            replace h := qv_e h
            obtain ⟨w25, e_w25, h⟩ := h
            have hq_w25 : rk u9 w25 13 := rk_T hT hk_t rfl (by decide) e_w25
            refine ym 76 (fun B k => gf_X9_60 (x := w25) B hk_t e_w25 dX9_task_73 k) ?_
            refine ym 77 (fun B k => z_iload_n B dX9_task_76 rfl 1 rfl k) ?_
            replace h := bq_e h
            obtain ⟨a26, rfl, h⟩ := h
            have hk_a26 := hq_w25 a26 rfl
            replace h := ck_e h
            obtain ⟨hi_27, h⟩ := h
            refine ym 78 (fun B k => z_iald (j := (ti x1)) (x := (sx_I u9 a26 (ti x1))) B hk_a26 rfl hi_27 rfl dX9_task_77 k) ?_
            refine ym 101 (fun B k => z_goto (tgt := 101) B dX9_task_78 (by decide) k) ?_
            obtain ⟨rfl, rfl⟩ := Prod.mk.inj (Option.some.inj h)
            exact yr_i hT trivial rfl dX9_task_101
          · replace h := ite_n c24 h
            refine ym 81 (fun B k => z_icmp_ne (tgt := 81) B dX9_task_69 (by decide) (fun _ => k) (fun q => absurd q c24)) ?_
            refine ym 82 (fun B k => z_iload_n B dX9_task_81 rfl 2 rfl k) ?_
            refine ym 83 (fun B k => z_iconst (v := 4) B dX9_task_82 (by decide) k) ?_
            by_cases c28 : x2 = 4
            · replace h := ite_p c28 h
              refine ym 86 (fun B k => z_icmp_ne (tgt := 95) B dX9_task_83 (by decide) (fun q => absurd c28 q) (fun _ => k)) ?_
              refine ym 87 (fun B k => z_aload_n B dX9_task_86 rfl 0 rfl k) ?_
              replace h := qv_e h
              obtain ⟨w29, e_w29, h⟩ := h
              have hq_w29 : rk u9 w29 13 := rk_T hT hk_t rfl (by decide) e_w29
              refine ym 90 (fun B k => gf_X9_63 (x := w29) B hk_t e_w29 dX9_task_87 k) ?_
              refine ym 91 (fun B k => z_iload_n B dX9_task_90 rfl 1 rfl k) ?_
              replace h := bq_e h
              obtain ⟨a30, rfl, h⟩ := h
              have hk_a30 := hq_w29 a30 rfl
              replace h := ck_e h
              obtain ⟨hi_31, h⟩ := h
              refine ym 92 (fun B k => z_iald (j := (ti x1)) (x := (sx_I u9 a30 (ti x1))) B hk_a30 rfl hi_31 rfl dX9_task_91 k) ?_
              refine ym 101 (fun B k => z_goto (tgt := 101) B dX9_task_92 (by decide) k) ?_
              obtain ⟨rfl, rfl⟩ := Prod.mk.inj (Option.some.inj h)
              exact yr_i hT trivial rfl dX9_task_101
            · replace h := ite_n c28 h
              refine ym 95 (fun B k => z_icmp_ne (tgt := 95) B dX9_task_83 (by decide) (fun _ => k) (fun q => absurd q c28)) ?_
              refine ym 96 (fun B k => z_aload_n B dX9_task_95 rfl 0 rfl k) ?_
              replace h := qv_e h
              obtain ⟨w32, e_w32, h⟩ := h
              have hq_w32 : rk u9 w32 13 := rk_T hT hk_t rfl (by decide) e_w32
              refine ym 99 (fun B k => gf_X9_66 (x := w32) B hk_t e_w32 dX9_task_96 k) ?_
              refine ym 100 (fun B k => z_iload_n B dX9_task_99 rfl 1 rfl k) ?_
              replace h := bq_e h
              obtain ⟨a33, rfl, h⟩ := h
              have hk_a33 := hq_w32 a33 rfl
              replace h := ck_e h
              obtain ⟨hi_34, h⟩ := h
              refine ym 101 (fun B k => z_iald (j := (ti x1)) (x := (sx_I u9 a33 (ti x1))) B hk_a33 rfl hi_34 rfl dX9_task_100 k) ?_
              obtain ⟨rfl, rfl⟩ := Prod.mk.inj (Option.some.inj h)
              exact yr_i hT trivial rfl dX9_task_101
set_option maxRecDepth 100000 in
set_option maxHeartbeats 4000000 in
theorem ct_X9_now (l : Launch) {g : gx_T} {σ : sx_T} {u : sx_T} {r : Int32}  {t : Nat} (h : f_X9_now σ t = some (r, u)) (hT : TS g σ) (hk_t : sx_K σ t = 11) : CT l g yX9_now cX9_now 1 (some .int) 0 0 [.ref t] (True) u σ (Qxi g r u) := by
  refine yc_met (by decide) (Nat.le_of_ble_eq_true rfl) ?_
  refine yc_lv (show lv_args 0 [.ref t] = [(0, .ref t)] from rfl) ?_
  show ZY l g _ _ _ _ _ _ _ _ _ _ _ _ _ _ σ 0 [(0, .ref t)] []
  unfold f_X9_now at h
  refine ym 1 (fun B k => z_aload_n B dX9_now_0 rfl 0 rfl k) ?_
  refine ym 2 (fun B k => z_iconst (v := 0) B dX9_now_1 (by decide) k) ?_
  have j1 := hk_t
  refine ymw (σ' := (wx_I σ t 0 0)) 5 e_I (fun B hin k => pf_X9_90 (x := 0) B hk_t rfl dX9_now_2 k) ?_
  have hT := TS_I (k := 0) (x := 0) hT hk_t (Or.inl rfl)
  have hk_t := kk_I (σ := σ) (a := t) (k := 0) (x := 0) hk_t
  refine ym 6 (fun B k => z_aload_n B dX9_now_5 rfl 0 rfl k) ?_
  refine ym 9 (fun B k => gf_X9_197 (x := (sx_I σ t 1)) B hk_t (rI_n (by decide) rfl) dX9_now_6 k) ?_
  obtain ⟨rfl, rfl⟩ := Prod.mk.inj (Option.some.inj h)
  exact yr_i hT trivial rfl dX9_now_9
