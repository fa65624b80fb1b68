set_option maxRecDepth 100000 in
set_option maxHeartbeats 4000000 in
theorem ct_X8_aboutAnew (l : Launch) {g : gx_T} {σ : sx_T} {u : sx_T} {r : Int32} {n0 : Nat} {t : Nat} {x1 : Int32} {x2 : Int32} (h : f_X8_aboutAnew n0 σ t x1 x2 = some (.inl r, u)) (hT : TS g σ) (hk_t : sx_K σ t = 10) : CT l g yX8_aboutAnew cX8_aboutAnew 5 (some .int) 7 136 [.ref t, .int x1, .int x2] (True) u σ (Qxi g r u) := by
  refine yc_met (by decide) (Nat.le_of_ble_eq_true rfl) ?_
  refine yc_lv (show lv_args 0 [.ref t, .int x1, .int x2] = [(0, .ref t), (1, .int x1), (2, .int x2)] from rfl) ?_
  show ZY l g _ _ _ _ _ _ _ _ _ _ _ _ _ _ σ 0 [(0, .ref t), (1, .int x1), (2, .int x2)] []
  unfold f_X8_aboutAnew at h
  refine ym 1 (fun B k => z_aload_n B dX8_aboutAnew_0 rfl 0 rfl k) ?_
  refine ym 2 (fun B k => z_iload_n B dX8_aboutAnew_1 rfl 1 rfl k) ?_
  replace h := br_e h
  obtain ⟨r2, h1, h⟩ := h
  have m3 := ct_X8_flowAt l (g := g) h1 hT hk_t
  refine yc_Vq (Al := [.int x1]) (rest := []) 5 rfl cw_X8_99 cx_9 dX8_aboutAnew_2 m3 hk_t rfl (by decide) rfl (Nat.le_of_ble_eq_true rfl) ?_
  have hq_r2 := m3.1.2
  refine ym 6 (fun B k => z_qstore_n (r := r2) (lv' := [(3, va_rf r2), (0, .ref t), (1, .int x1), (2, .int x2)]) B dX8_aboutAnew_5 rfl (by decide) rfl k) ?_
  refine ym 7 (fun B k => z_qload_n (r := r2) B dX8_aboutAnew_6 rfl 0 rfl k) ?_
  rcases r2 with _ | a4
  · replace h := oc_n h
    refine ym 10 (fun B k => z_ifnonnull (r := none) (tgt := 20) B dX8_aboutAnew_7 (by decide) (fun a h => nomatch h) (fun _ => k)) ?_
    exact nomatch (Prod.mk.inj (Option.some.inj h)).1
  · replace h := oc_s h
    have hk_a4 := hq_r2 a4 rfl
    refine ym 20 (fun B k => z_ifnonnull (r := (some a4)) (tgt := 20) B dX8_aboutAnew_7 (by decide) (fun _ _ => k) (fun h => nomatch h)) ?_
    refine ym 21 (fun B k => z_iload_n B dX8_aboutAnew_20 rfl 3 rfl k) ?_
    refine ym 23 (fun B k => z_bipush (v := 9) B dX8_aboutAnew_21 (by decide) k) ?_
    replace h := br_e h
    obtain ⟨r6, h5, h⟩ := h
    have m7 := ct_X8_isBelow l (g := g) h5 hT
    refine yc_Si (Al := [.int x2, .int 9]) (rest := []) 26 rfl cw_X8_68 dX8_aboutAnew_23 m7 rfl (by decide) rfl (Nat.le_of_ble_eq_true rfl) ?_
    have hz_r6 := m7.1.2
    by_cases c8 : r6 = 0
    · replace h := ite_p c8 h
      refine ym 29 (fun B k => z_if_ne (tgt := 39) B dX8_aboutAnew_26 (by decide) (fun q => absurd c8 q) (fun _ => k)) ?_
      exact nomatch (Prod.mk.inj (Option.some.inj h)).1
    · replace h := ite_n c8 h
      refine ym 39 (fun B k => z_if_ne (tgt := 39) B dX8_aboutAnew_26 (by decide) (fun _ => k) (fun q => absurd q c8)) ?_
      refine ym 40 (fun B k => z_aload_n B dX8_aboutAnew_39 rfl 1 rfl k) ?_
      refine ym 41 (fun B k => z_aload_n B dX8_aboutAnew_40 rfl 0 rfl k) ?_
      replace h := bd_e h
      obtain ⟨r10, u11, h9, h⟩ := h
      have m12 := ct_X8_replayed l (g := g) h9 hT hk_t (rk_a hk_a4)
      refine yc_Vq (Al := [.ref a4]) (rest := []) 44 rfl cw_X8_129 cx_9 dX8_aboutAnew_41 m12 hk_t rfl (by decide) rfl (Nat.le_of_ble_eq_true rfl) ?_
      have hk_a4 := k_G m12.1.1 (by decide) hk_a4
      have hk_t := k_G m12.1.1 (by decide) hk_t
      have hT := m12.1.1.2.2.2
      have hq_r10 := m12.1.2
      refine ym 46 (fun B k => z_qstore (r := r10) (lv' := [(4, va_rf r10), (3, .ref a4), (0, .ref t), (1, .int x1), (2, .int x2)]) B dX8_aboutAnew_44 (by decide) rfl k) ?_
      refine ym 48 (fun B k => z_qload (r := r10) B dX8_aboutAnew_46 0 rfl k) ?_
      replace h := bq_e h
      obtain ⟨a13, rfl, h⟩ := h
      have hk_a13 := hq_r10 a13 rfl
      refine ym 51 (fun B k => gf_X8_133 (x := (sx_I u11 a13 19)) B hk_a13 rfl dX8_aboutAnew_48 k) ?_
      by_cases c14 : (sx_I u11 a13 19) = 0
      · replace h := ite_p c14 h
        refine ym 64 (fun B k => z_if_eq (tgt := 64) B dX8_aboutAnew_51 (by decide) (fun _ => k) (fun q => absurd c14 q)) ?_
        refine ym 65 (fun B k => z_aload_n B dX8_aboutAnew_64 rfl 2 rfl k) ?_
        refine ym 66 (fun B k => z_aload_n B dX8_aboutAnew_65 rfl 1 rfl k) ?_
        refine ym 68 (fun B k => z_aload B dX8_aboutAnew_66 0 rfl k) ?_
        refine ym 69 (fun B k => z_iload_n B dX8_aboutAnew_68 rfl 4 rfl k) ?_
        replace h := br_e h
        obtain ⟨r16, h15, h⟩ := h
        have m17 := ct_X8_fact l (g := g) h15 hT hk_t (rk_a hk_a4) (rk_a hk_a13)
        refine yc_Vi (Al := [.ref a4, .ref a13, .int x2]) (rest := []) 72 rfl cw_X8_255 cx_9 dX8_aboutAnew_69 m17 hk_t rfl (by decide) rfl (Nat.le_of_ble_eq_true rfl) ?_
        obtain ⟨h1, rfl⟩ := Prod.mk.inj (Option.some.inj h)
        obtain rfl := Sum.inl.inj h1
        exact yr_i hT trivial rfl dX8_aboutAnew_72
      · replace h := ite_n c14 h
        refine ym 54 (fun B k => z_if_eq (tgt := 64) B dX8_aboutAnew_51 (by decide) (fun q => absurd q c14) (fun _ => k)) ?_
        exact nomatch (Prod.mk.inj (Option.some.inj h)).1
set_option maxRecDepth 100000 in
set_option maxHeartbeats 4000000 in
theorem ct_X8_aboutAnewx (l : Launch) (hlt : l.stackTraces = false) {g : gx_T} {σ : sx_T} {u : sx_T} {E : String} {n0 : Nat} {t : Nat} {x1 : Int32} {x2 : Int32} (h : f_X8_aboutAnew n0 σ t x1 x2 = some (.inr E, u)) (hT : TS g σ) (hk_t : sx_K σ t = 10) {Qc : Array Value → State → Outcome → State → Prop} : CX l g yX8_aboutAnew cX8_aboutAnew 5 (some .int) 7 136 [.ref t, .int x1, .int x2] E u σ Qc := by
  refine yc_metX (by decide) (Nat.le_of_ble_eq_true rfl) ?_
  refine yc_lv (show lv_args 0 [.ref t, .int x1, .int x2] = [(0, .ref t), (1, .int x1), (2, .int x2)] from rfl) ?_
  show ZY l g _ _ _ _ _ _ _ _ _ _ _ _ _ _ σ 0 [(0, .ref t), (1, .int x1), (2, .int x2)] []
  unfold f_X8_aboutAnew at h
  refine ym 1 (fun B k => z_aload_n B dX8_aboutAnew_0 rfl 0 rfl k) ?_
  refine ym 2 (fun B k => z_iload_n B dX8_aboutAnew_1 rfl 1 rfl k) ?_
  replace h := br_e h
  obtain ⟨r2, h1, h⟩ := h
  have m3 := ct_X8_flowAt l (g := g) h1 hT hk_t
  refine yc_Vq (Al := [.int x1]) (rest := []) 5 rfl cw_X8_99 cx_9 dX8_aboutAnew_2 m3 hk_t rfl (by decide) rfl (Nat.le_of_ble_eq_true rfl) ?_
  have hq_r2 := m3.1.2
  refine ym 6 (fun B k => z_qstore_n (r := r2) (lv' := [(3, va_rf r2), (0, .ref t), (1, .int x1), (2, .int x2)]) B dX8_aboutAnew_5 rfl (by decide) rfl k) ?_
  refine ym 7 (fun B k => z_qload_n (r := r2) B dX8_aboutAnew_6 rfl 0 rfl k) ?_
  rcases r2 with _ | a4
  · replace h := oc_n h
    refine ym 10 (fun B k => z_ifnonnull (r := none) (tgt := 20) B dX8_aboutAnew_7 (by decide) (fun a h => nomatch h) (fun _ => k)) ?_
    obtain ⟨h1, rfl⟩ := Prod.mk.inj (Option.some.inj h)
    cases h1
    exact yt_throw hT hlt (text := "no such workflow") tw_X8_72_153_76 dX8_aboutAnew_10 dX8_aboutAnew_13 dX8_aboutAnew_14 dX8_aboutAnew_16 dX8_aboutAnew_19 (by decide) (by decide)
  · replace h := oc_s h
    have hk_a4 := hq_r2 a4 rfl
    refine ym 20 (fun B k => z_ifnonnull (r := (some a4)) (tgt := 20) B dX8_aboutAnew_7 (by decide) (fun _ _ => k) (fun h => nomatch h)) ?_
    refine ym 21 (fun B k => z_iload_n B dX8_aboutAnew_20 rfl 3 rfl k) ?_
    refine ym 23 (fun B k => z_bipush (v := 9) B dX8_aboutAnew_21 (by decide) k) ?_
    replace h := br_e h
    obtain ⟨r6, h5, h⟩ := h
    have m7 := ct_X8_isBelow l (g := g) h5 hT
    refine yc_Si (Al := [.int x2, .int 9]) (rest := []) 26 rfl cw_X8_68 dX8_aboutAnew_23 m7 rfl (by decide) rfl (Nat.le_of_ble_eq_true rfl) ?_
    have hz_r6 := m7.1.2
    by_cases c8 : r6 = 0
    · replace h := ite_p c8 h
      refine ym 29 (fun B k => z_if_ne (tgt := 39) B dX8_aboutAnew_26 (by decide) (fun q => absurd c8 q) (fun _ => k)) ?_
      obtain ⟨h1, rfl⟩ := Prod.mk.inj (Option.some.inj h)
      cases h1
      exact yt_throw hT hlt (text := "no such fact") tw_X8_83_251_87 dX8_aboutAnew_29 dX8_aboutAnew_32 dX8_aboutAnew_33 dX8_aboutAnew_35 dX8_aboutAnew_38 (by decide) (by decide)
    · replace h := ite_n c8 h
      refine ym 39 (fun B k => z_if_ne (tgt := 39) B dX8_aboutAnew_26 (by decide) (fun _ => k) (fun q => absurd q c8)) ?_
      refine ym 40 (fun B k => z_aload_n B dX8_aboutAnew_39 rfl 1 rfl k) ?_
      refine ym 41 (fun B k => z_aload_n B dX8_aboutAnew_40 rfl 0 rfl k) ?_
      replace h := bd_e h
      obtain ⟨r10, u11, h9, h⟩ := h
      have m12 := ct_X8_replayed l (g := g) h9 hT hk_t (rk_a hk_a4)
      refine yc_Vq (Al := [.ref a4]) (rest := []) 44 rfl cw_X8_129 cx_9 dX8_aboutAnew_41 m12 hk_t rfl (by decide) rfl (Nat.le_of_ble_eq_true rfl) ?_
      have hk_a4 := k_G m12.1.1 (by decide) hk_a4
      have hk_t := k_G m12.1.1 (by decide) hk_t
      have hT := m12.1.1.2.2.2
      have hq_r10 := m12.1.2
      refine ym 46 (fun B k => z_qstore (r := r10) (lv' := [(4, va_rf r10), (3, .ref a4), (0, .ref t), (1, .int x1), (2, .int x2)]) B dX8_aboutAnew_44 (by decide) rfl k) ?_
      refine ym 48 (fun B k => z_qload (r := r10) B dX8_aboutAnew_46 0 rfl k) ?_
      replace h := bq_e h
      obtain ⟨a13, rfl, h⟩ := h
      have hk_a13 := hq_r10 a13 rfl
      refine ym 51 (fun B k => gf_X8_133 (x := (sx_I u11 a13 19)) B hk_a13 rfl dX8_aboutAnew_48 k) ?_
      by_cases c14 : (sx_I u11 a13 19) = 0
      · replace h := ite_p c14 h
        refine ym 64 (fun B k => z_if_eq (tgt := 64) B dX8_aboutAnew_51 (by decide) (fun _ => k) (fun q => absurd c14 q)) ?_
        refine ym 65 (fun B k => z_aload_n B dX8_aboutAnew_64 rfl 2 rfl k) ?_
        refine ym 66 (fun B k => z_aload_n B dX8_aboutAnew_65 rfl 1 rfl k) ?_
        refine ym 68 (fun B k => z_aload B dX8_aboutAnew_66 0 rfl k) ?_
        refine ym 69 (fun B k => z_iload_n B dX8_aboutAnew_68 rfl 4 rfl k) ?_
        replace h := br_e h
        obtain ⟨r16, h15, h⟩ := h
        have m17 := ct_X8_fact l (g := g) h15 hT hk_t (rk_a hk_a4) (rk_a hk_a13)
        refine yc_Vi (Al := [.ref a4, .ref a13, .int x2]) (rest := []) 72 rfl cw_X8_255 cx_9 dX8_aboutAnew_69 m17 hk_t rfl (by decide) rfl (Nat.le_of_ble_eq_true rfl) ?_
        exact nomatch (Prod.mk.inj (Option.some.inj h)).1
      · replace h := ite_n c14 h
        refine ym 54 (fun B k => z_if_eq (tgt := 64) B dX8_aboutAnew_51 (by decide) (fun q => absurd q c14) (fun _ => k)) ?_
        obtain ⟨h1, rfl⟩ := Prod.mk.inj (Option.some.inj h)
        cases h1
        exact yt_throw hT hlt (text := "it does not go with the code") tw_X8_145_253_149 dX8_aboutAnew_54 dX8_aboutAnew_57 dX8_aboutAnew_58 dX8_aboutAnew_60 dX8_aboutAnew_63 (by decide) (by decide)
set_option maxRecDepth 100000 in
set_option maxHeartbeats 4000000 in
theorem ct_X8_parent (l : Launch) {g : gx_T} {σ : sx_T} {u : sx_T} {r : Int32}  {t : Nat} {x1 : Int32} (h : f_X8_parent σ t x1 = some (.inl r, u)) (hT : TS g σ) (hk_t : sx_K σ t = 10) : CT l g yX8_parent cX8_parent 3 (some .int) 7 136 [.ref t, .int x1] (True) u σ (Qxi g r u) := by
  refine yc_met (by decide) (Nat.le_of_ble_eq_true rfl) ?_
  refine yc_lv (show lv_args 0 [.ref t, .int x1] = [(0, .ref t), (1, .int x1)] from rfl) ?_
  show ZY l g _ _ _ _ _ _ _ _ _ _ _ _ _ _ σ 0 [(0, .ref t), (1, .int x1)] []
  unfold f_X8_parent at h
  refine ym 1 (fun B k => z_aload_n B dX8_parent_0 rfl 0 rfl k) ?_
  refine ym 2 (fun B k => z_iload_n B dX8_parent_1 rfl 1 rfl k) ?_
  replace h := br_e h
  obtain ⟨r2, h1, h⟩ := h
  have m3 := ct_X8_flowAt l (g := g) h1 hT hk_t
  refine yc_Vq (Al := [.int x1]) (rest := []) 5 rfl cw_X8_99 cx_9 dX8_parent_2 m3 hk_t rfl (by decide) rfl (Nat.le_of_ble_eq_true rfl) ?_
  have hq_r2 := m3.1.2
  refine ym 6 (fun B k => z_qstore_n (r := r2) (lv' := [(2, va_rf r2), (0, .ref t), (1, .int x1)]) B dX8_parent_5 rfl (by decide) rfl k) ?_
  refine ym 7 (fun B k => z_qload_n (r := r2) B dX8_parent_6 rfl 0 rfl k) ?_
  rcases r2 with _ | a4
  · replace h := oc_n h
    refine ym 10 (fun B k => z_ifnonnull (r := none) (tgt := 20) B dX8_parent_7 (by decide) (fun a h => nomatch h) (fun _ => k)) ?_
    exact nomatch (Prod.mk.inj (Option.some.inj h)).1
  · replace h := oc_s h
    have hk_a4 := hq_r2 a4 rfl
    refine ym 20 (fun B k => z_ifnonnull (r := (some a4)) (tgt := 20) B dX8_parent_7 (by decide) (fun _ _ => k) (fun h => nomatch h)) ?_
    refine ym 21 (fun B k => z_aload_n B dX8_parent_20 rfl 0 rfl k) ?_
    refine ym 24 (fun B k => gf_X8_259 (x := (sx_I σ a4 4)) B hk_a4 rfl dX8_parent_21 k) ?_
    obtain ⟨h1, rfl⟩ := Prod.mk.inj (Option.some.inj h)
    obtain rfl := Sum.inl.inj h1
    exact yr_i hT trivial rfl dX8_parent_24
set_option maxRecDepth 100000 in
set_option maxHeartbeats 4000000 in
theorem ct_X8_parentx (l : Launch) (hlt : l.stackTraces = false) {g : gx_T} {σ : sx_T} {u : sx_T} {E : String}  {t : Nat} {x1 : Int32} (h : f_X8_parent σ t x1 = some (.inr E, u)) (hT : TS g σ) (hk_t : sx_K σ t = 10) {Qc : Array Value → State → Outcome → State → Prop} : CX l g yX8_parent cX8_parent 3 (some .int) 7 136 [.ref t, .int x1] E u σ Qc := by
  refine yc_metX (by decide) (Nat.le_of_ble_eq_true rfl) ?_
  refine yc_lv (show lv_args 0 [.ref t, .int x1] = [(0, .ref t), (1, .int x1)] from rfl) ?_
  show ZY l g _ _ _ _ _ _ _ _ _ _ _ _ _ _ σ 0 [(0, .ref t), (1, .int x1)] []
  unfold f_X8_parent at h
  refine ym 1 (fun B k => z_aload_n B dX8_parent_0 rfl 0 rfl k) ?_
  refine ym 2 (fun B k => z_iload_n B dX8_parent_1 rfl 1 rfl k) ?_
  replace h := br_e h
  obtain ⟨r2, h1, h⟩ := h
  have m3 := ct_X8_flowAt l (g := g) h1 hT hk_t
  refine yc_Vq (Al := [.int x1]) (rest := []) 5 rfl cw_X8_99 cx_9 dX8_parent_2 m3 hk_t rfl (by decide) rfl (Nat.le_of_ble_eq_true rfl) ?_
  have hq_r2 := m3.1.2
  refine ym 6 (fun B k => z_qstore_n (r := r2) (lv' := [(2, va_rf r2), (0, .ref t), (1, .int x1)]) B dX8_parent_5 rfl (by decide) rfl k) ?_
  refine ym 7 (fun B k => z_qload_n (r := r2) B dX8_parent_6 rfl 0 rfl k) ?_
  rcases r2 with _ | a4
  · replace h := oc_n h
    refine ym 10 (fun B k => z_ifnonnull (r := none) (tgt := 20) B dX8_parent_7 (by decide) (fun a h => nomatch h) (fun _ => k)) ?_
    obtain ⟨h1, rfl⟩ := Prod.mk.inj (Option.some.inj h)
    cases h1
    exact yt_throw hT hlt (text := "no such workflow") tw_X8_72_153_76 dX8_parent_10 dX8_parent_13 dX8_parent_14 dX8_parent_16 dX8_parent_19 (by decide) (by decide)
  · replace h := oc_s h
    have hk_a4 := hq_r2 a4 rfl
    refine ym 20 (fun B k => z_ifnonnull (r := (some a4)) (tgt := 20) B dX8_parent_7 (by decide) (fun _ _ => k) (fun h => nomatch h)) ?_
    refine ym 21 (fun B k => z_aload_n B dX8_parent_20 rfl 0 rfl k) ?_
    refine ym 24 (fun B k => gf_X8_259 (x := (sx_I σ a4 4)) B hk_a4 rfl dX8_parent_21 k) ?_
    exact nomatch (Prod.mk.inj (Option.some.inj h)).1
set_option maxRecDepth 100000 in
set_option maxHeartbeats 4000000 in
theorem ct_X8_events (l : Launch) {g : gx_T} {σ : sx_T} {u : sx_T} {r : Int32}  {t : Nat} {x1 : Int32} (h : f_X8_events σ t x1 = some (.inl r, u)) (hT : TS g σ) (hk_t : sx_K σ t = 10) : CT l g yX8_events cX8_events 3 (some .int) 7 136 [.ref t, .int x1] (True) u σ (Qxi g r u) := by
  refine yc_met (by decide) (Nat.le_of_ble_eq_true rfl) ?_
  refine yc_lv (show lv_args 0 [.ref t, .int x1] = [(0, .ref t), (1, .int x1)] from rfl) ?_
  show ZY l g _ _ _ _ _ _ _ _ _ _ _ _ _ _ σ 0 [(0, .ref t), (1, .int x1)] []
  unfold f_X8_events at h
  refine ym 1 (fun B k => z_aload_n B dX8_events_0 rfl 0 rfl k) ?_
  refine ym 2 (fun B k => z_iload_n B dX8_events_1 rfl 1 rfl k) ?_
  replace h := br_e h
  obtain ⟨r2, h1, h⟩ := h
  have m3 := ct_X8_flowAt l (g := g) h1 hT hk_t
  refine yc_Vq (Al := [.int x1]) (rest := []) 5 rfl cw_X8_99 cx_9 dX8_events_2 m3 hk_t rfl (by decide) rfl (Nat.le_of_ble_eq_true rfl) ?_
  have hq_r2 := m3.1.2
  refine ym 6 (fun B k => z_qstore_n (r := r2) (lv' := [(2, va_rf r2), (0, .ref t), (1, .int x1)]) B dX8_events_5 rfl (by decide) rfl k) ?_
  refine ym 7 (fun B k => z_qload_n (r := r2) B dX8_events_6 rfl 0 rfl k) ?_
  rcases r2 with _ | a4
  · replace h := oc_n h
    refine ym 10 (fun B k => z_ifnonnull (r := none) (tgt := 20) B dX8_events_7 (by decide) (fun a h => nomatch h) (fun _ => k)) ?_
    exact nomatch (Prod.mk.inj (Option.some.inj h)).1
  · replace h := oc_s h
    have hk_a4 := hq_r2 a4 rfl
    refine ym 20 (fun B k => z_ifnonnull (r := (some a4)) (tgt := 20) B dX8_events_7 (by decide) (fun _ _ => k) (fun h => nomatch h)) ?_
    refine ym 21 (fun B k => z_aload_n B dX8_events_20 rfl 0 rfl k) ?_
    replace h := qv_e h
    obtain ⟨w5, e_w5, h⟩ := h
    have hq_w5 : rk σ w5 3 := rk_T hT hk_a4 rfl (by decide) e_w5
    refine ym 24 (fun B k => gf_X8_179 (x := w5) B hk_a4 e_w5 dX8_events_21 k) ?_
    replace h := bq_e h
    obtain ⟨a6, rfl, h⟩ := h
    have hk_a6 := hq_w5 a6 rfl
    replace h := br_e h
    obtain ⟨r8, h7, h⟩ := h
    have m9 := ct_X1_size l (g := g) h7 hT hk_a6
    refine yc_Vi (Al := []) (rest := []) 27 rfl cw_X8_183 cx_2 dX8_events_24 m9 hk_a6 rfl (by decide) rfl (Nat.le_of_ble_eq_true rfl) ?_
    obtain ⟨h1, rfl⟩ := Prod.mk.inj (Option.some.inj h)
    obtain rfl := Sum.inl.inj h1
    exact yr_i hT trivial rfl dX8_events_27
set_option maxRecDepth 100000 in
set_option maxHeartbeats 4000000 in
theorem ct_X8_eventsx (l : Launch) (hlt : l.stackTraces = false) {g : gx_T} {σ : sx_T} {u : sx_T} {E : String}  {t : Nat} {x1 : Int32} (h : f_X8_events σ t x1 = some (.inr E, u)) (hT : TS g σ) (hk_t : sx_K σ t = 10) {Qc : Array Value → State → Outcome → State → Prop} : CX l g yX8_events cX8_events 3 (some .int) 7 136 [.ref t, .int x1] E u σ Qc := by
  refine yc_metX (by decide) (Nat.le_of_ble_eq_true rfl) ?_
  refine yc_lv (show lv_args 0 [.ref t, .int x1] = [(0, .ref t), (1, .int x1)] from rfl) ?_
  show ZY l g _ _ _ _ _ _ _ _ _ _ _ _ _ _ σ 0 [(0, .ref t), (1, .int x1)] []
  unfold f_X8_events at h
  refine ym 1 (fun B k => z_aload_n B dX8_events_0 rfl 0 rfl k) ?_
  refine ym 2 (fun B k => z_iload_n B dX8_events_1 rfl 1 rfl k) ?_
  replace h := br_e h
  obtain ⟨r2, h1, h⟩ := h
  have m3 := ct_X8_flowAt l (g := g) h1 hT hk_t
  refine yc_Vq (Al := [.int x1]) (rest := []) 5 rfl cw_X8_99 cx_9 dX8_events_2 m3 hk_t rfl (by decide) rfl (Nat.le_of_ble_eq_true rfl) ?_
  have hq_r2 := m3.1.2
  refine ym 6 (fun B k => z_qstore_n (r := r2) (lv' := [(2, va_rf r2), (0, .ref t), (1, .int x1)]) B dX8_events_5 rfl (by decide) rfl k) ?_
  refine ym 7 (fun B k => z_qload_n (r := r2) B dX8_events_6 rfl 0 rfl k) ?_
  rcases r2 with _ | a4
  · replace h := oc_n h
    refine ym 10 (fun B k => z_ifnonnull (r := none) (tgt := 20) B dX8_events_7 (by decide) (fun a h => nomatch h) (fun _ => k)) ?_
    obtain ⟨h1, rfl⟩ := Prod.mk.inj (Option.some.inj h)
    cases h1
    exact yt_throw hT hlt (text := "no such workflow") tw_X8_72_153_76 dX8_events_10 dX8_events_13 dX8_events_14 dX8_events_16 dX8_events_19 (by decide) (by decide)
  · replace h := oc_s h
    have hk_a4 := hq_r2 a4 rfl
    refine ym 20 (fun B k => z_ifnonnull (r := (some a4)) (tgt := 20) B dX8_events_7 (by decide) (fun _ _ => k) (fun h => nomatch h)) ?_
    refine ym 21 (fun B k => z_aload_n B dX8_events_20 rfl 0 rfl k) ?_
    replace h := qv_e h
    obtain ⟨w5, e_w5, h⟩ := h
    have hq_w5 : rk σ w5 3 := rk_T hT hk_a4 rfl (by decide) e_w5
    refine ym 24 (fun B k => gf_X8_179 (x := w5) B hk_a4 e_w5 dX8_events_21 k) ?_
    replace h := bq_e h
    obtain ⟨a6, rfl, h⟩ := h
    have hk_a6 := hq_w5 a6 rfl
    replace h := br_e h
    obtain ⟨r8, h7, h⟩ := h
    have m9 := ct_X1_size l (g := g) h7 hT hk_a6
    refine yc_Vi (Al := []) (rest := []) 27 rfl cw_X8_183 cx_2 dX8_events_24 m9 hk_a6 rfl (by decide) rfl (Nat.le_of_ble_eq_true rfl) ?_
    exact nomatch (Prod.mk.inj (Option.some.inj h)).1
set_option maxRecDepth 100000 in
set_option maxHeartbeats 4000000 in
theorem tb_X8_kind_24 {l : Launch} {g : gx_T} {σ : sx_T} {u : sx_T} {r : Int32} {As : Array Value}   (h : fb_X8_kind_24 σ  = some (.inl r, u)) (hT : TS g σ)  : ZY l g cX8_kind RX8 "kind" (some .int) 4 7 136 0 0 false As (QM g As (Qxi g r u)) (True) u σ 24 [] [] := by
  unfold fb_X8_kind_24 at h
  exact nomatch (Prod.mk.inj (Option.some.inj h)).1
set_option maxRecDepth 100000 in
set_option maxHeartbeats 4000000 in
theorem ct_X8_kind (l : Launch) {g : gx_T} {σ : sx_T} {u : sx_T} {r : Int32}  {t : Nat} {x1 : Int32} {x2 : Int32} (h : f_X8_kind σ t x1 x2 = some (.inl r, u)) (hT : TS g σ) (hk_t : sx_K σ t = 10) : CT l g yX8_kind cX8_kind 4 (some .int) 7 136 [.ref t, .int x1, .int x2] (True) u σ (Qxi g r u) := by
  refine yc_met (by decide) (Nat.le_of_ble_eq_true rfl) ?_
  refine yc_lv (show lv_args 0 [.ref t, .int x1, .int x2] = [(0, .ref t), (1, .int x1), (2, .int x2)] from rfl) ?_
  show ZY l g _ _ _ _ _ _ _ _ _ _ _ _ _ _ σ 0 [(0, .ref t), (1, .int x1), (2, .int x2)] []
  unfold f_X8_kind at h
  refine ym 1 (fun B k => z_aload_n B dX8_kind_0 rfl 0 rfl k) ?_
  refine ym 2 (fun B k => z_iload_n B dX8_kind_1 rfl 1 rfl k) ?_
  replace h := br_e h
  obtain ⟨r2, h1, h⟩ := h
  have m3 := ct_X8_flowAt l (g := g) h1 hT hk_t
  refine yc_Vq (Al := [.int x1]) (rest := []) 5 rfl cw_X8_99 cx_9 dX8_kind_2 m3 hk_t rfl (by decide) rfl (Nat.le_of_ble_eq_true rfl) ?_
  have hq_r2 := m3.1.2
  refine ym 6 (fun B k => z_qstore_n (r := r2) (lv' := [(3, va_rf r2), (0, .ref t), (1, .int x1), (2, .int x2)]) B dX8_kind_5 rfl (by decide) rfl k) ?_
  refine ym 7 (fun B k => z_qload_n (r := r2) B dX8_kind_6 rfl 0 rfl k) ?_
  rcases r2 with _ | a4
  · replace h := oc_n h
    refine ym 24 (fun B k => z_ifnull (r := none) (tgt := 24) B dX8_kind_7 (by decide) (fun _ => k) (fun a h => nomatch h)) ?_
    refine y_sub [] [] rfl ?_
    exact tb_X8_kind_24 h hT 
  · replace h := oc_s h
    have hk_a4 := hq_r2 a4 rfl
    refine ym 10 (fun B k => z_ifnull (r := (some a4)) (tgt := 24) B dX8_kind_7 (by decide) (fun h => nomatch h) (fun _ _ => k)) ?_
    refine ym 11 (fun B k => z_iload_n B dX8_kind_10 rfl 3 rfl k) ?_
    refine ym 12 (fun B k => z_aload_n B dX8_kind_11 rfl 0 rfl k) ?_
    replace h := qv_e h
    obtain ⟨w5, e_w5, h⟩ := h
    have hq_w5 : rk σ w5 3 := rk_T hT hk_a4 rfl (by decide) e_w5
    refine ym 15 (fun B k => gf_X8_179 (x := w5) B hk_a4 e_w5 dX8_kind_12 k) ?_
    replace h := bq_e h
    obtain ⟨a6, rfl, h⟩ := h
    have hk_a6 := hq_w5 a6 rfl
    replace h := br_e h
    obtain ⟨r8, h7, h⟩ := h
    have m9 := ct_X1_size l (g := g) h7 hT hk_a6
    refine yc_Vi (Al := []) (rest := [.int x2]) 18 rfl cw_X8_183 cx_2 dX8_kind_15 m9 hk_a6 rfl (by decide) rfl (Nat.le_of_ble_eq_true rfl) ?_
    replace h := br_e h
    obtain ⟨r11, h10, h⟩ := h
    have m12 := ct_X8_isBelow l (g := g) h10 hT
    refine yc_Si (Al := [.int x2, .int r8]) (rest := []) 21 rfl cw_X8_68 dX8_kind_18 m12 rfl (by decide) rfl (Nat.le_of_ble_eq_true rfl) ?_
    have hz_r11 := m12.1.2
    by_cases c13 : r11 = 0
    · replace h := ite_p c13 h
      refine ym 24 (fun B k => z_if_ne (tgt := 35) B dX8_kind_21 (by decide) (fun q => absurd c13 q) (fun _ => k)) ?_
      refine y_sub [] [] rfl ?_
      exact tb_X8_kind_24 h hT 
    · replace h := ite_n c13 h
      refine ym 35 (fun B k => z_if_ne (tgt := 35) B dX8_kind_21 (by decide) (fun _ => k) (fun q => absurd q c13)) ?_
      refine ym 36 (fun B k => z_aload_n B dX8_kind_35 rfl 0 rfl k) ?_
      replace h := qv_e h
      obtain ⟨w14, e_w14, h⟩ := h
      have hq_w14 : rk σ w14 3 := rk_T hT hk_a4 rfl (by decide) e_w14
      refine ym 39 (fun B k => gf_X8_179 (x := w14) B hk_a4 e_w14 dX8_kind_36 k) ?_
      refine ym 40 (fun B k => z_iload_n B dX8_kind_39 rfl 3 rfl k) ?_
      replace h := bq_e h
      obtain ⟨a15, rfl, h⟩ := h
      have hk_a15 := hq_w14 a15 rfl
      replace h := br_e h
      obtain ⟨r17, h16, h⟩ := h
      have m18 := ct_X1_kindAt l (g := g) h16 hT hk_a15
      refine yc_Vi (Al := [.int x2]) (rest := []) 43 rfl cw_X8_186 cx_2 dX8_kind_40 m18 hk_a15 rfl (by decide) rfl (Nat.le_of_ble_eq_true rfl) ?_
      obtain ⟨h1, rfl⟩ := Prod.mk.inj (Option.some.inj h)
      obtain rfl := Sum.inl.inj h1
      exact yr_i hT trivial rfl dX8_kind_43
set_option maxRecDepth 100000 in
set_option maxHeartbeats 4000000 in
theorem tb_X8_kind_24x {l : Launch} {g : gx_T} {σ : sx_T} {u : sx_T} {E : String} {As : Array Value} {Qc : Array Value → State → Outcome → State → Prop} (hlt : l.stackTraces = false)   (h : fb_X8_kind_24 σ  = some (.inr E, u)) (hT : TS g σ)  : ZY l g cX8_kind RX8 "kind" (some .int) 4 7 136 1 6 true As (QX g As Qc E u) True u σ 24 [] [] := by
  unfold fb_X8_kind_24 at h
  obtain ⟨h1, rfl⟩ := Prod.mk.inj (Option.some.inj h)
  cases h1
  exact yt_throwW hT hlt (text := "no such event") tw_X8_72_262_76 dX8_kind_24 dX8_kind_27 dX8_kind_28 dX8_kind_31 dX8_kind_34 (by decide) (by decide)
set_option maxRecDepth 100000 in
set_option maxHeartbeats 4000000 in
theorem ct_X8_kindx (l : Launch) (hlt : l.stackTraces = false) {g : gx_T} {σ : sx_T} {u : sx_T} {E : String}  {t : Nat} {x1 : Int32} {x2 : Int32} (h : f_X8_kind σ t x1 x2 = some (.inr E, u)) (hT : TS g σ) (hk_t : sx_K σ t = 10) {Qc : Array Value → State → Outcome → State → Prop} : CX l g yX8_kind cX8_kind 4 (some .int) 7 136 [.ref t, .int x1, .int x2] E u σ Qc := by
  refine yc_metX (by decide) (Nat.le_of_ble_eq_true rfl) ?_
  refine yc_lv (show lv_args 0 [.ref t, .int x1, .int x2] = [(0, .ref t), (1, .int x1), (2, .int x2)] from rfl) ?_
  show ZY l g _ _ _ _ _ _ _ _ _ _ _ _ _ _ σ 0 [(0, .ref t), (1, .int x1), (2, .int x2)] []
  unfold f_X8_kind at h
  refine ym 1 (fun B k => z_aload_n B dX8_kind_0 rfl 0 rfl k) ?_
  refine ym 2 (fun B k => z_iload_n B dX8_kind_1 rfl 1 rfl k) ?_
  replace h := br_e h
  obtain ⟨r2, h1, h⟩ := h
  have m3 := ct_X8_flowAt l (g := g) h1 hT hk_t
  refine yc_Vq (Al := [.int x1]) (rest := []) 5 rfl cw_X8_99 cx_9 dX8_kind_2 m3 hk_t rfl (by decide) rfl (Nat.le_of_ble_eq_true rfl) ?_
  have hq_r2 := m3.1.2
  refine ym 6 (fun B k => z_qstore_n (r := r2) (lv' := [(3, va_rf r2), (0, .ref t), (1, .int x1), (2, .int x2)]) B dX8_kind_5 rfl (by decide) rfl k) ?_
  refine ym 7 (fun B k => z_qload_n (r := r2) B dX8_kind_6 rfl 0 rfl k) ?_
  rcases r2 with _ | a4
  · replace h := oc_n h
    refine ym 24 (fun B k => z_ifnull (r := none) (tgt := 24) B dX8_kind_7 (by decide) (fun _ => k) (fun a h => nomatch h)) ?_
    refine y_sub [] [] rfl ?_
    exact tb_X8_kind_24x hlt h hT 
  · replace h := oc_s h
    have hk_a4 := hq_r2 a4 rfl
    refine ym 10 (fun B k => z_ifnull (r := (some a4)) (tgt := 24) B dX8_kind_7 (by decide) (fun h => nomatch h) (fun _ _ => k)) ?_
    refine ym 11 (fun B k => z_iload_n B dX8_kind_10 rfl 3 rfl k) ?_
    refine ym 12 (fun B k => z_aload_n B dX8_kind_11 rfl 0 rfl k) ?_
    replace h := qv_e h
    obtain ⟨w5, e_w5, h⟩ := h
    have hq_w5 : rk σ w5 3 := rk_T hT hk_a4 rfl (by decide) e_w5
    refine ym 15 (fun B k => gf_X8_179 (x := w5) B hk_a4 e_w5 dX8_kind_12 k) ?_
    replace h := bq_e h
    obtain ⟨a6, rfl, h⟩ := h
    have hk_a6 := hq_w5 a6 rfl
    replace h := br_e h
    obtain ⟨r8, h7, h⟩ := h
    have m9 := ct_X1_size l (g := g) h7 hT hk_a6
    refine yc_Vi (Al := []) (rest := [.int x2]) 18 rfl cw_X8_183 cx_2 dX8_kind_15 m9 hk_a6 rfl (by decide) rfl (Nat.le_of_ble_eq_true rfl) ?_
    replace h := br_e h
    obtain ⟨r11, h10, h⟩ := h
    have m12 := ct_X8_isBelow l (g := g) h10 hT
    refine yc_Si (Al := [.int x2, .int r8]) (rest := []) 21 rfl cw_X8_68 dX8_kind_18 m12 rfl (by decide) rfl (Nat.le_of_ble_eq_true rfl) ?_
    have hz_r11 := m12.1.2
    by_cases c13 : r11 = 0
    · replace h := ite_p c13 h
      refine ym 24 (fun B k => z_if_ne (tgt := 35) B dX8_kind_21 (by decide) (fun q => absurd c13 q) (fun _ => k)) ?_
      refine y_sub [] [] rfl ?_
      exact tb_X8_kind_24x hlt h hT 
    · replace h := ite_n c13 h
      refine ym 35 (fun B k => z_if_ne (tgt := 35) B dX8_kind_21 (by decide) (fun _ => k) (fun q => absurd q c13)) ?_
      refine ym 36 (fun B k => z_aload_n B dX8_kind_35 rfl 0 rfl k) ?_
      replace h := qv_e h
      obtain ⟨w14, e_w14, h⟩ := h
      have hq_w14 : rk σ w14 3 := rk_T hT hk_a4 rfl (by decide) e_w14
      refine ym 39 (fun B k => gf_X8_179 (x := w14) B hk_a4 e_w14 dX8_kind_36 k) ?_
      refine ym 40 (fun B k => z_iload_n B dX8_kind_39 rfl 3 rfl k) ?_
      replace h := bq_e h
      obtain ⟨a15, rfl, h⟩ := h
      have hk_a15 := hq_w14 a15 rfl
      replace h := br_e h
      obtain ⟨r17, h16, h⟩ := h
      have m18 := ct_X1_kindAt l (g := g) h16 hT hk_a15
      refine yc_Vi (Al := [.int x2]) (rest := []) 43 rfl cw_X8_186 cx_2 dX8_kind_40 m18 hk_a15 rfl (by decide) rfl (Nat.le_of_ble_eq_true rfl) ?_
      exact nomatch (Prod.mk.inj (Option.some.inj h)).1
set_option maxRecDepth 100000 in
set_option maxHeartbeats 4000000 in
theorem tb_X8_number_24 {l : Launch} {g : gx_T} {σ : sx_T} {u : sx_T} {r : Int64} {As : Array Value}   (h : fb_X8_number_24 σ  = some (.inl r, u)) (hT : TS g σ)  : ZY l g cX8_number RX8 "number" (some .long) 4 7 136 0 0 false As (QM g As (Qxl g r u)) (True) u σ 24 [] [] := by
  unfold fb_X8_number_24 at h
  exact nomatch (Prod.mk.inj (Option.some.inj h)).1
set_option maxRecDepth 100000 in
set_option maxHeartbeats 4000000 in
theorem ct_X8_number (l : Launch) {g : gx_T} {σ : sx_T} {u : sx_T} {r : Int64}  {t : Nat} {x1 : Int32} {x2 : Int32} (h : f_X8_number σ t x1 x2 = some (.inl r, u)) (hT : TS g σ) (hk_t : sx_K σ t = 10) : CT l g yX8_number cX8_number 4 (some .long) 7 136 [.ref t, .int x1, .int x2] (True) u σ (Qxl g r u) := by
  refine yc_met (by decide) (Nat.le_of_ble_eq_true rfl) ?_
  refine yc_lv (show lv_args 0 [.ref t, .int x1, .int x2] = [(0, .ref t), (1, .int x1), (2, .int x2)] from rfl) ?_
  show ZY l g _ _ _ _ _ _ _ _ _ _ _ _ _ _ σ 0 [(0, .ref t), (1, .int x1), (2, .int x2)] []
  unfold f_X8_number at h
  refine ym 1 (fun B k => z_aload_n B dX8_number_0 rfl 0 rfl k) ?_
  refine ym 2 (fun B k => z_iload_n B dX8_number_1 rfl 1 rfl k) ?_
  replace h := br_e h
  obtain ⟨r2, h1, h⟩ := h
  have m3 := ct_X8_flowAt l (g := g) h1 hT hk_t
  refine yc_Vq (Al := [.int x1]) (rest := []) 5 rfl cw_X8_99 cx_9 dX8_number_2 m3 hk_t rfl (by decide) rfl (Nat.le_of_ble_eq_true rfl) ?_
  have hq_r2 := m3.1.2
  refine ym 6 (fun B k => z_qstore_n (r := r2) (lv' := [(3, va_rf r2), (0, .ref t), (1, .int x1), (2, .int x2)]) B dX8_number_5 rfl (by decide) rfl k) ?_
  refine ym 7 (fun B k => z_qload_n (r := r2) B dX8_number_6 rfl 0 rfl k) ?_
  rcases r2 with _ | a4
  · replace h := oc_n h
    refine ym 24 (fun B k => z_ifnull (r := none) (tgt := 24) B dX8_number_7 (by decide) (fun _ => k) (fun a h => nomatch h)) ?_
    refine y_sub [] [] rfl ?_
    exact tb_X8_number_24 h hT 
  · replace h := oc_s h
    have hk_a4 := hq_r2 a4 rfl
    refine ym 10 (fun B k => z_ifnull (r := (some a4)) (tgt := 24) B dX8_number_7 (by decide) (fun h => nomatch h) (fun _ _ => k)) ?_
    refine ym 11 (fun B k => z_iload_n B dX8_number_10 rfl 3 rfl k) ?_
    refine ym 12 (fun B k => z_aload_n B dX8_number_11 rfl 0 rfl k) ?_
    replace h := qv_e h
    obtain ⟨w5, e_w5, h⟩ := h
    have hq_w5 : rk σ w5 3 := rk_T hT hk_a4 rfl (by decide) e_w5
    refine ym 15 (fun B k => gf_X8_179 (x := w5) B hk_a4 e_w5 dX8_number_12 k) ?_
    replace h := bq_e h
    obtain ⟨a6, rfl, h⟩ := h
    have hk_a6 := hq_w5 a6 rfl
    replace h := br_e h
    obtain ⟨r8, h7, h⟩ := h
    have m9 := ct_X1_size l (g := g) h7 hT hk_a6
    refine yc_Vi (Al := []) (rest := [.int x2]) 18 rfl cw_X8_183 cx_2 dX8_number_15 m9 hk_a6 rfl (by decide) rfl (Nat.le_of_ble_eq_true rfl) ?_
    replace h := br_e h
    obtain ⟨r11, h10, h⟩ := h
    have m12 := ct_X8_isBelow l (g := g) h10 hT
    refine yc_Si (Al := [.int x2, .int r8]) (rest := []) 21 rfl cw_X8_68 dX8_number_18 m12 rfl (by decide) rfl (Nat.le_of_ble_eq_true rfl) ?_
    have hz_r11 := m12.1.2
    by_cases c13 : r11 = 0
    · replace h := ite_p c13 h
      refine ym 24 (fun B k => z_if_ne (tgt := 35) B dX8_number_21 (by decide) (fun q => absurd c13 q) (fun _ => k)) ?_
      refine y_sub [] [] rfl ?_
      exact tb_X8_number_24 h hT 
    · replace h := ite_n c13 h
      refine ym 35 (fun B k => z_if_ne (tgt := 35) B dX8_number_21 (by decide) (fun _ => k) (fun q => absurd q c13)) ?_
      refine ym 36 (fun B k => z_aload_n B dX8_number_35 rfl 0 rfl k) ?_
      replace h := qv_e h
      obtain ⟨w14, e_w14, h⟩ := h
      have hq_w14 : rk σ w14 3 := rk_T hT hk_a4 rfl (by decide) e_w14
      refine ym 39 (fun B k => gf_X8_179 (x := w14) B hk_a4 e_w14 dX8_number_36 k) ?_
      refine ym 40 (fun B k => z_iload_n B dX8_number_39 rfl 3 rfl k) ?_
      replace h := bq_e h
      obtain ⟨a15, rfl, h⟩ := h
      have hk_a15 := hq_w14 a15 rfl
      replace h := br_e h
      obtain ⟨r17, h16, h⟩ := h
      have m18 := ct_X1_numberAt l (g := g) h16 hT hk_a15
      refine yc_Vl (Al := [.int x2]) (rest := []) 43 rfl cw_X8_189 cx_2 dX8_number_40 m18 hk_a15 rfl (by decide) rfl (Nat.le_of_ble_eq_true rfl) ?_
      obtain ⟨h1, rfl⟩ := Prod.mk.inj (Option.some.inj h)
      obtain rfl := Sum.inl.inj h1
      exact yr_l hT trivial rfl dX8_number_43
set_option maxRecDepth 100000 in
set_option maxHeartbeats 4000000 in
theorem tb_X8_number_24x {l : Launch} {g : gx_T} {σ : sx_T} {u : sx_T} {E : String} {As : Array Value} {Qc : Array Value → State → Outcome → State → Prop} (hlt : l.stackTraces = false)   (h : fb_X8_number_24 σ  = some (.inr E, u)) (hT : TS g σ)  : ZY l g cX8_number RX8 "number" (some .long) 4 7 136 1 6 true As (QX g As Qc E u) True u σ 24 [] [] := by
  unfold fb_X8_number_24 at h
  obtain ⟨h1, rfl⟩ := Prod.mk.inj (Option.some.inj h)
  cases h1
  exact yt_throwW hT hlt (text := "no such event") tw_X8_72_262_76 dX8_number_24 dX8_number_27 dX8_number_28 dX8_number_31 dX8_number_34 (by decide) (by decide)
set_option maxRecDepth 100000 in
set_option maxHeartbeats 4000000 in
theorem ct_X8_numberx (l : Launch) (hlt : l.stackTraces = false) {g : gx_T} {σ : sx_T} {u : sx_T} {E : String}  {t : Nat} {x1 : Int32} {x2 : Int32} (h : f_X8_number σ t x1 x2 = some (.inr E, u)) (hT : TS g σ) (hk_t : sx_K σ t = 10) {Qc : Array Value → State → Outcome → State → Prop} : CX l g yX8_number cX8_number 4 (some .long) 7 136 [.ref t, .int x1, .int x2] E u σ Qc := by
  refine yc_metX (by decide) (Nat.le_of_ble_eq_true rfl) ?_
  refine yc_lv (show lv_args 0 [.ref t, .int x1, .int x2] = [(0, .ref t), (1, .int x1), (2, .int x2)] from rfl) ?_
  show ZY l g _ _ _ _ _ _ _ _ _ _ _ _ _ _ σ 0 [(0, .ref t), (1, .int x1), (2, .int x2)] []
  unfold f_X8_number at h
  refine ym 1 (fun B k => z_aload_n B dX8_number_0 rfl 0 rfl k) ?_
  refine ym 2 (fun B k => z_iload_n B dX8_number_1 rfl 1 rfl k) ?_
  replace h := br_e h
  obtain ⟨r2, h1, h⟩ := h
  have m3 := ct_X8_flowAt l (g := g) h1 hT hk_t
  refine yc_Vq (Al := [.int x1]) (rest := []) 5 rfl cw_X8_99 cx_9 dX8_number_2 m3 hk_t rfl (by decide) rfl (Nat.le_of_ble_eq_true rfl) ?_
  have hq_r2 := m3.1.2
  refine ym 6 (fun B k => z_qstore_n (r := r2) (lv' := [(3, va_rf r2), (0, .ref t), (1, .int x1), (2, .int x2)]) B dX8_number_5 rfl (by decide) rfl k) ?_
  refine ym 7 (fun B k => z_qload_n (r := r2) B dX8_number_6 rfl 0 rfl k) ?_
  rcases r2 with _ | a4
  · replace h := oc_n h
    refine ym 24 (fun B k => z_ifnull (r := none) (tgt := 24) B dX8_number_7 (by decide) (fun _ => k) (fun a h => nomatch h)) ?_
    refine y_sub [] [] rfl ?_
    exact tb_X8_number_24x hlt h hT 
  · replace h := oc_s h
    have hk_a4 := hq_r2 a4 rfl
    refine ym 10 (fun B k => z_ifnull (r := (some a4)) (tgt := 24) B dX8_number_7 (by decide) (fun h => nomatch h) (fun _ _ => k)) ?_
    refine ym 11 (fun B k => z_iload_n B dX8_number_10 rfl 3 rfl k) ?_
    refine ym 12 (fun B k => z_aload_n B dX8_number_11 rfl 0 rfl k) ?_
    replace h := qv_e h
    obtain ⟨w5, e_w5, h⟩ := h
    have hq_w5 : rk σ w5 3 := rk_T hT hk_a4 rfl (by decide) e_w5
    refine ym 15 (fun B k => gf_X8_179 (x := w5) B hk_a4 e_w5 dX8_number_12 k) ?_
    replace h := bq_e h
    obtain ⟨a6, rfl, h⟩ := h
    have hk_a6 := hq_w5 a6 rfl
    replace h := br_e h
    obtain ⟨r8, h7, h⟩ := h
    have m9 := ct_X1_size l (g := g) h7 hT hk_a6
    refine yc_Vi (Al := []) (rest := [.int x2]) 18 rfl cw_X8_183 cx_2 dX8_number_15 m9 hk_a6 rfl (by decide) rfl (Nat.le_of_ble_eq_true rfl) ?_
    replace h := br_e h
    obtain ⟨r11, h10, h⟩ := h
    have m12 := ct_X8_isBelow l (g := g) h10 hT
    refine yc_Si (Al := [.int x2, .int r8]) (rest := []) 21 rfl cw_X8_68 dX8_number_18 m12 rfl (by decide) rfl (Nat.le_of_ble_eq_true rfl) ?_
    have hz_r11 := m12.1.2
    by_cases c13 : r11 = 0
    · replace h := ite_p c13 h
      refine ym 24 (fun B k => z_if_ne (tgt := 35) B dX8_number_21 (by decide) (fun q => absurd c13 q) (fun _ => k)) ?_
      refine y_sub [] [] rfl ?_
      exact tb_X8_number_24x hlt h hT 
    · replace h := ite_n c13 h
      refine ym 35 (fun B k => z_if_ne (tgt := 35) B dX8_number_21 (by decide) (fun _ => k) (fun q => absurd q c13)) ?_
      refine ym 36 (fun B k => z_aload_n B dX8_number_35 rfl 0 rfl k) ?_
      replace h := qv_e h
      obtain ⟨w14, e_w14, h⟩ := h
      have hq_w14 : rk σ w14 3 := rk_T hT hk_a4 rfl (by decide) e_w14
      refine ym 39 (fun B k => gf_X8_179 (x := w14) B hk_a4 e_w14 dX8_number_36 k) ?_
      refine ym 40 (fun B k => z_iload_n B dX8_number_39 rfl 3 rfl k) ?_
      replace h := bq_e h
      obtain ⟨a15, rfl, h⟩ := h
      have hk_a15 := hq_w14 a15 rfl
      replace h := br_e h
      obtain ⟨r17, h16, h⟩ := h
      have m18 := ct_X1_numberAt l (g := g) h16 hT hk_a15
      refine yc_Vl (Al := [.int x2]) (rest := []) 43 rfl cw_X8_189 cx_2 dX8_number_40 m18 hk_a15 rfl (by decide) rfl (Nat.le_of_ble_eq_true rfl) ?_
      exact nomatch (Prod.mk.inj (Option.some.inj h)).1
set_option maxRecDepth 100000 in
set_option maxHeartbeats 4000000 in
theorem ct_X7_fact (l : Launch) {g : gx_T} {σ : sx_T} {r : Int32}  {t : Nat} {x1 : Int32} (h : f_X7_fact σ t x1 = some r) (hT : TS g σ) (hk_t : sx_K σ t = 9) : CT l g yX7_fact cX7_fact 2 (some .int) 0 0 [.ref t, .int x1] (True) σ σ (Qxi g r σ) := by
  refine yc_met (by decide) (Nat.le_of_ble_eq_true rfl) ?_
  refine yc_lv (show lv_args 0 [.ref t, .int x1] = [(0, .ref t), (1, .int x1)] from rfl) ?_
  show ZY l g _ _ _ _ _ _ _ _ _ _ _ _ _ _ σ 0 [(0, .ref t), (1, .int x1)] []
  unfold f_X7_fact at h
  refine ym 1 (fun B k => z_iload_n B dX7_fact_0 rfl 1 rfl k) ?_
  by_cases c1 : x1 = 0
  · replace h := ite_p c1 h
    refine ym 36 (fun B k => z_tableIn (tgt := 36) B dX7_fact_1 (by rw [c1]; decide) (by rw [c1]; decide) (show _ = some (35 : Int) by rw [c1]; decide) (by decide) k) ?_
    refine ym 37 (fun B k => z_aload_n B dX7_fact_36 rfl 0 rfl k) ?_
    replace h := qv_e h
    obtain ⟨w2, e_w2, h⟩ := h
    have hq_w2 : rk σ w2 2 := rk_T hT hk_t rfl (by decide) e_w2
    refine ym 40 (fun B k => gf_X7_18 (x := w2) B hk_t e_w2 dX7_fact_37 k) ?_
    replace h := bq_e h
    obtain ⟨a3, rfl, h⟩ := h
    have hk_a3 := hq_w2 a3 rfl
    refine ym 43 (fun B k => gf_X7_25 (x := (sx_I σ a3 0)) B hk_a3 rfl dX7_fact_40 k) ?_
    obtain rfl := Option.some.inj h
    exact yr_i hT trivial rfl dX7_fact_43
  replace h := ite_n c1 h
  by_cases c4 : x1 = 1
  · replace h := ite_p c4 h
    refine ym 44 (fun B k => z_tableIn (tgt := 44) B dX7_fact_1 (by rw [c4]; decide) (by rw [c4]; decide) (show _ = some (43 : Int) by rw [c4]; decide) (by decide) k) ?_
    refine ym 45 (fun B k => z_aload_n B dX7_fact_44 rfl 0 rfl k) ?_
    refine ym 48 (fun B k => gf_X7_22 (x := (sx_I σ t 2)) B hk_t rfl dX7_fact_45 k) ?_
    obtain rfl := Option.some.inj h
    exact yr_i hT trivial rfl dX7_fact_48
  replace h := ite_n c4 h
  by_cases c5 : x1 = 2
  · replace h := ite_p c5 h
    refine ym 49 (fun B k => z_tableIn (tgt := 49) B dX7_fact_1 (by rw [c5]; decide) (by rw [c5]; decide) (show _ = some (48 : Int) by rw [c5]; decide) (by decide) k) ?_
    refine ym 50 (fun B k => z_aload_n B dX7_fact_49 rfl 0 rfl k) ?_
    refine ym 53 (fun B k => gf_X7_9 (x := (sx_I σ t 3)) B hk_t rfl dX7_fact_50 k) ?_
    obtain rfl := Option.some.inj h
    exact yr_i hT trivial rfl dX7_fact_53
  replace h := ite_n c5 h
  by_cases c6 : x1 = 3
  · replace h := ite_p c6 h
    refine ym 54 (fun B k => z_tableIn (tgt := 54) B dX7_fact_1 (by rw [c6]; decide) (by rw [c6]; decide) (show _ = some (53 : Int) by rw [c6]; decide) (by decide) k) ?_
    refine ym 55 (fun B k => z_aload_n B dX7_fact_54 rfl 0 rfl k) ?_
    refine ym 58 (fun B k => gf_X7_28 (x := (sx_I σ t 4)) B hk_t rfl dX7_fact_55 k) ?_
    obtain rfl := Option.some.inj h
    exact yr_i hT trivial rfl dX7_fact_58
  replace h := ite_n c6 h
  by_cases c7 : x1 = 4
  · replace h := ite_p c7 h
    refine ym 59 (fun B k => z_tableIn (tgt := 59) B dX7_fact_1 (by rw [c7]; decide) (by rw [c7]; decide) (show _ = some (58 : Int) by rw [c7]; decide) (by decide) k) ?_
    refine ym 60 (fun B k => z_aload_n B dX7_fact_59 rfl 0 rfl k) ?_
    refine ym 63 (fun B k => gf_X7_31 (x := (sx_I σ t 5)) B hk_t rfl dX7_fact_60 k) ?_
    obtain rfl := Option.some.inj h
    exact yr_i hT trivial rfl dX7_fact_63
  replace h := ite_n c7 h
  refine ym 64 (fun B k => z_tabDf (tgt := 64) (vs := [0, 1, 2, 3, 4]) B dX7_fact_1 (by decide) (by decide) (by decide) (by intro v hv; simp only [List.mem_cons, List.not_mem_nil, or_false] at hv; rcases hv with rfl | rfl | rfl | rfl | rfl; all_goals assumption) k) ?_
  refine ym 65 (fun B k => z_aload_n B dX7_fact_64 rfl 0 rfl k) ?_
  refine ym 68 (fun B k => gf_X7_34 (x := (sx_I σ t 6)) B hk_t rfl dX7_fact_65 k) ?_
  obtain rfl := Option.some.inj h
  exact yr_i hT trivial rfl dX7_fact_68
set_option maxRecDepth 100000 in
set_option maxHeartbeats 4000000 in
theorem ct_X8_task (l : Launch) {g : gx_T} {σ : sx_T} {u : sx_T} {r : Int32}  {t : Nat} {x1 : Int32} {x2 : Int32} (h : f_X8_task σ t x1 x2 = some (.inl r, u)) (hT : TS g σ) (hk_t : sx_K σ t = 10) : CT l g yX8_task cX8_task 4 (some .int) 7 136 [.ref t, .int x1, .int x2] (True) u σ (Qxi g r u) := by
  refine yc_met (by decide) (Nat.le_of_ble_eq_true rfl) ?_
  refine yc_lv (show lv_args 0 [.ref t, .int x1, .int x2] = [(0, .ref t), (1, .int x1), (2, .int x2)] from rfl) ?_
  show ZY l g _ _ _ _ _ _ _ _ _ _ _ _ _ _ σ 0 [(0, .ref t), (1, .int x1), (2, .int x2)] []
  unfold f_X8_task at h
  refine ym 1 (fun B k => z_aload_n B dX8_task_0 rfl 0 rfl k) ?_
  refine ym 2 (fun B k => z_iload_n B dX8_task_1 rfl 1 rfl k) ?_
  replace h := br_e h
  obtain ⟨r2, h1, h⟩ := h
  have m3 := ct_X8_taskAt l (g := g) h1 hT hk_t
  refine yc_Vq (Al := [.int x1]) (rest := []) 5 rfl cw_X8_265 cx_9 dX8_task_2 m3 hk_t rfl (by decide) rfl (Nat.le_of_ble_eq_true rfl) ?_
  have hq_r2 := m3.1.2
  refine ym 6 (fun B k => z_qstore_n (r := r2) (lv' := [(3, va_rf r2), (0, .ref t), (1, .int x1), (2, .int x2)]) B dX8_task_5 rfl (by decide) rfl k) ?_
  refine ym 7 (fun B k => z_qload_n (r := r2) B dX8_task_6 rfl 0 rfl k) ?_
  rcases r2 with _ | a4
  · replace h := oc_n h
    refine ym 10 (fun B k => z_ifnonnull (r := none) (tgt := 21) B dX8_task_7 (by decide) (fun a h => nomatch h) (fun _ => k)) ?_
    exact nomatch (Prod.mk.inj (Option.some.inj h)).1
  · replace h := oc_s h
    have hk_a4 := hq_r2 a4 rfl
    refine ym 21 (fun B k => z_ifnonnull (r := (some a4)) (tgt := 21) B dX8_task_7 (by decide) (fun _ _ => k) (fun h => nomatch h)) ?_
    refine ym 22 (fun B k => z_iload_n B dX8_task_21 rfl 3 rfl k) ?_
    refine ym 24 (fun B k => z_bipush (v := 6) B dX8_task_22 (by decide) k) ?_
    replace h := br_e h
    obtain ⟨r6, h5, h⟩ := h
    have m7 := ct_X8_isBelow l (g := g) h5 hT
    refine yc_Si (Al := [.int x2, .int 6]) (rest := []) 27 rfl cw_X8_68 dX8_task_24 m7 rfl (by decide) rfl (Nat.le_of_ble_eq_true rfl) ?_
    have hz_r6 := m7.1.2
    by_cases c8 : r6 = 0
    · replace h := ite_p c8 h
      refine ym 30 (fun B k => z_if_ne (tgt := 40) B dX8_task_27 (by decide) (fun q => absurd c8 q) (fun _ => k)) ?_
      exact nomatch (Prod.mk.inj (Option.some.inj h)).1
    · replace h := ite_n c8 h
      refine ym 40 (fun B k => z_if_ne (tgt := 40) B dX8_task_27 (by decide) (fun _ => k) (fun q => absurd q c8)) ?_
      refine ym 41 (fun B k => z_aload_n B dX8_task_40 rfl 0 rfl k) ?_
      refine ym 42 (fun B k => z_iload_n B dX8_task_41 rfl 3 rfl k) ?_
      replace h := br_e h
      obtain ⟨r10, h9, h⟩ := h
      have m11 := ct_X7_fact l (g := g) h9 hT hk_a4
      refine yc_Vi (Al := [.int x2]) (rest := []) 45 rfl cw_X8_270 cx_8 dX8_task_42 m11 hk_a4 rfl (by decide) rfl (Nat.le_of_ble_eq_true rfl) ?_
      obtain ⟨h1, rfl⟩ := Prod.mk.inj (Option.some.inj h)
      obtain rfl := Sum.inl.inj h1
      exact yr_i hT trivial rfl dX8_task_45
set_option maxRecDepth 100000 in
set_option maxHeartbeats 4000000 in
theorem ct_X8_taskx (l : Launch) (hlt : l.stackTraces = false) {g : gx_T} {σ : sx_T} {u : sx_T} {E : String}  {t : Nat} {x1 : Int32} {x2 : Int32} (h : f_X8_task σ t x1 x2 = some (.inr E, u)) (hT : TS g σ) (hk_t : sx_K σ t = 10) {Qc : Array Value → State → Outcome → State → Prop} : CX l g yX8_task cX8_task 4 (some .int) 7 136 [.ref t, .int x1, .int x2] E u σ Qc := by
  refine yc_metX (by decide) (Nat.le_of_ble_eq_true rfl) ?_
  refine yc_lv (show lv_args 0 [.ref t, .int x1, .int x2] = [(0, .ref t), (1, .int x1), (2, .int x2)] from rfl) ?_
  show ZY l g _ _ _ _ _ _ _ _ _ _ _ _ _ _ σ 0 [(0, .ref t), (1, .int x1), (2, .int x2)] []
  unfold f_X8_task at h
  refine ym 1 (fun B k => z_aload_n B dX8_task_0 rfl 0 rfl k) ?_
  refine ym 2 (fun B k => z_iload_n B dX8_task_1 rfl 1 rfl k) ?_
  replace h := br_e h
  obtain ⟨r2, h1, h⟩ := h
  have m3 := ct_X8_taskAt l (g := g) h1 hT hk_t
  refine yc_Vq (Al := [.int x1]) (rest := []) 5 rfl cw_X8_265 cx_9 dX8_task_2 m3 hk_t rfl (by decide) rfl (Nat.le_of_ble_eq_true rfl) ?_
  have hq_r2 := m3.1.2
  refine ym 6 (fun B k => z_qstore_n (r := r2) (lv' := [(3, va_rf r2), (0, .ref t), (1, .int x1), (2, .int x2)]) B dX8_task_5 rfl (by decide) rfl k) ?_
  refine ym 7 (fun B k => z_qload_n (r := r2) B dX8_task_6 rfl 0 rfl k) ?_
  rcases r2 with _ | a4
  · replace h := oc_n h
    refine ym 10 (fun B k => z_ifnonnull (r := none) (tgt := 21) B dX8_task_7 (by decide) (fun a h => nomatch h) (fun _ => k)) ?_
    obtain ⟨h1, rfl⟩ := Prod.mk.inj (Option.some.inj h)
    cases h1
    exact yt_throwW hT hlt (text := "no such task") tw_X8_72_268_76 dX8_task_10 dX8_task_13 dX8_task_14 dX8_task_17 dX8_task_20 (by decide) (by decide)
  · replace h := oc_s h
    have hk_a4 := hq_r2 a4 rfl
    refine ym 21 (fun B k => z_ifnonnull (r := (some a4)) (tgt := 21) B dX8_task_7 (by decide) (fun _ _ => k) (fun h => nomatch h)) ?_
    refine ym 22 (fun B k => z_iload_n B dX8_task_21 rfl 3 rfl k) ?_
    refine ym 24 (fun B k => z_bipush (v := 6) B dX8_task_22 (by decide) k) ?_
    replace h := br_e h
    obtain ⟨r6, h5, h⟩ := h
    have m7 := ct_X8_isBelow l (g := g) h5 hT
    refine yc_Si (Al := [.int x2, .int 6]) (rest := []) 27 rfl cw_X8_68 dX8_task_24 m7 rfl (by decide) rfl (Nat.le_of_ble_eq_true rfl) ?_
    have hz_r6 := m7.1.2
    by_cases c8 : r6 = 0
    · replace h := ite_p c8 h
      refine ym 30 (fun B k => z_if_ne (tgt := 40) B dX8_task_27 (by decide) (fun q => absurd c8 q) (fun _ => k)) ?_
      obtain ⟨h1, rfl⟩ := Prod.mk.inj (Option.some.inj h)
      cases h1
      exact yt_throw hT hlt (text := "no such fact") tw_X8_83_251_87 dX8_task_30 dX8_task_33 dX8_task_34 dX8_task_36 dX8_task_39 (by decide) (by decide)
    · replace h := ite_n c8 h
      refine ym 40 (fun B k => z_if_ne (tgt := 40) B dX8_task_27 (by decide) (fun _ => k) (fun q => absurd q c8)) ?_
      refine ym 41 (fun B k => z_aload_n B dX8_task_40 rfl 0 rfl k) ?_
      refine ym 42 (fun B k => z_iload_n B dX8_task_41 rfl 3 rfl k) ?_
      replace h := br_e h
      obtain ⟨r10, h9, h⟩ := h
      have m11 := ct_X7_fact l (g := g) h9 hT hk_a4
      refine yc_Vi (Al := [.int x2]) (rest := []) 45 rfl cw_X8_270 cx_8 dX8_task_42 m11 hk_a4 rfl (by decide) rfl (Nat.le_of_ble_eq_true rfl) ?_
      exact nomatch (Prod.mk.inj (Option.some.inj h)).1
set_option maxRecDepth 100000 in
set_option maxHeartbeats 4000000 in
theorem ct_X9_thrown (l : Launch) {g : gx_T} {σ : sx_T} {r : Int32}  {t : Nat} (h : f_X9_thrown σ t = some r) (hT : TS g σ) (hk_t : sx_K σ t = 11) : CT l g yX9_thrown cX9_thrown 1 (some .int) 0 0 [.ref t] (True) σ σ (Qxi g r σ) := by
  refine yc_met (by decide) (Nat.le_of_ble_eq_true rfl) ?_
  refine yc_lv (show lv_args 0 [.ref t] = [(0, .ref t)] from rfl) ?_
  show ZY l g _ _ _ _ _ _ _ _ _ _ _ _ _ _ σ 0 [(0, .ref t)] []
  unfold f_X9_thrown at h
  refine ym 1 (fun B k => z_aload_n B dX9_thrown_0 rfl 0 rfl k) ?_
  refine ym 4 (fun B k => gf_X9_90 (x := (sx_I σ t 0)) B hk_t rfl dX9_thrown_1 k) ?_
  obtain rfl := Option.some.inj h
  exact yr_i hT trivial rfl dX9_thrown_4
set_option maxRecDepth 100000 in
set_option maxHeartbeats 4000000 in
theorem ct_X9_in (l : Launch) {g : gx_T} {σ : sx_T} {r : Int32}  {x0 : Int32} {x1 : Int32} {x2 : Int32} (h : f_X9_in σ x0 x1 x2 = some r) (hT : TS g σ)  : CT l g yX9_in cX9_in 3 (some .boolean) 0 0 [.int x0, .int x1, .int x2] (r = 0 ∨ r = 1) σ σ (Qxi g r σ) := by
  refine yc_met (by decide) (Nat.le_of_ble_eq_true rfl) ?_
  refine yc_lv (show lv_args 0 [.int x0, .int x1, .int x2] = [(0, .int x0), (1, .int x1), (2, .int x2)] from rfl) ?_
  show ZY l g _ _ _ _ _ _ _ _ _ _ _ _ _ _ σ 0 [(0, .int x0), (1, .int x1), (2, .int x2)] []
  unfold f_X9_in at h
  refine ym 1 (fun B k => z_iload_n B dX9_in_0 rfl 0 rfl k) ?_
  refine ym 2 (fun B k => z_iload_n B dX9_in_1 rfl 1 rfl k) ?_
  by_cases c1 : x0 < x1
  · replace h := ite_p c1 h
    refine ym 14 (fun B k => z_icmp_lt (tgt := 14) B dX9_in_2 (by decide) (fun _ => k) (fun q => absurd c1 q)) ?_
    refine ym 15 (fun B k => z_iconst (v := 0) B dX9_in_14 (by decide) k) ?_
    obtain rfl := Option.some.inj h
    exact yr_z hT (Or.inl rfl) rfl (Or.inl rfl) dX9_in_15
  · replace h := ite_n c1 h
    refine ym 5 (fun B k => z_icmp_lt (tgt := 14) B dX9_in_2 (by decide) (fun q => absurd q c1) (fun _ => k)) ?_
    refine ym 6 (fun B k => z_iload_n B dX9_in_5 rfl 0 rfl k) ?_
    refine ym 7 (fun B k => z_iload_n B dX9_in_6 rfl 2 rfl k) ?_
    by_cases c2 : x2 < x0
    · replace h := ite_p c2 h
      refine ym 14 (fun B k => z_icmp_gt (tgt := 14) B dX9_in_7 (by decide) (fun _ => k) (fun q => absurd c2 q)) ?_
      refine ym 15 (fun B k => z_iconst (v := 0) B dX9_in_14 (by decide) k) ?_
      obtain rfl := Option.some.inj h
      exact yr_z hT (Or.inl rfl) rfl (Or.inl rfl) dX9_in_15
    · replace h := ite_n c2 h
      refine ym 10 (fun B k => z_icmp_gt (tgt := 14) B dX9_in_7 (by decide) (fun q => absurd q c2) (fun _ => k)) ?_
      refine ym 11 (fun B k => z_iconst (v := 1) B dX9_in_10 (by decide) k) ?_
      refine ym 15 (fun B k => z_goto (tgt := 15) B dX9_in_11 (by decide) k) ?_
      obtain rfl := Option.some.inj h
      exact yr_z hT (Or.inr rfl) rfl (Or.inr rfl) dX9_in_15
set_option maxRecDepth 100000 in
set_option maxHeartbeats 4000000 in
theorem ct_X9_isStep (l : Launch) {g : gx_T} {σ : sx_T} {r : Int32}  {x0 : Int32} {x1 : Int32} (h : f_X9_isStep σ x0 x1 = some r) (hT : TS g σ)  : CT l g yX9_isStep cX9_isStep 2 (some .boolean) 1 22 [.int x0, .int x1] (r = 0 ∨ r = 1) σ σ (Qxi g r σ) := by
  refine yc_met (by decide) (Nat.le_of_ble_eq_true rfl) ?_
  refine yc_lv (show lv_args 0 [.int x0, .int x1] = [(0, .int x0), (1, .int x1)] from rfl) ?_
  show ZY l g _ _ _ _ _ _ _ _ _ _ _ _ _ _ σ 0 [(0, .int x0), (1, .int x1)] []
  unfold f_X9_isStep at h
  refine ym 1 (fun B k => z_iload_n B dX9_isStep_0 rfl 0 rfl k) ?_
  refine ym 2 (fun B k => z_iconst (v := 0) B dX9_isStep_1 (by decide) k) ?_
  refine ym 3 (fun B k => z_iconst (v := 5) B dX9_isStep_2 (by decide) k) ?_
  replace h := br_e h
  obtain ⟨r2, h1, h⟩ := h
  have m3 := ct_X9_in l (g := g) h1 hT
  refine yc_Si (Al := [.int x0, .int 0, .int 5]) (rest := []) 6 rfl cw_X9_96 dX9_isStep_3 m3 rfl (by decide) rfl (Nat.le_of_ble_eq_true rfl) ?_
  have hz_r2 := m3.1.2
  by_cases c4 : r2 = 0
  · replace h := ite_p c4 h
    refine ym 23 (fun B k => z_if_eq (tgt := 23) B dX9_isStep_6 (by decide) (fun _ => k) (fun q => absurd c4 q)) ?_
    refine ym 24 (fun B k => z_iconst (v := 0) B dX9_isStep_23 (by decide) k) ?_
    obtain rfl := Option.some.inj h
    exact yr_z hT (Or.inl rfl) rfl (Or.inl rfl) dX9_isStep_24
  · replace h := ite_n c4 h
    refine ym 9 (fun B k => z_if_eq (tgt := 23) B dX9_isStep_6 (by decide) (fun q => absurd q c4) (fun _ => k)) ?_
    refine ym 10 (fun B k => z_iload_n B dX9_isStep_9 rfl 1 rfl k) ?_
    refine ym 11 (fun B k => z_iconst (v := 0) B dX9_isStep_10 (by decide) k) ?_
    refine ym 13 (fun B k => z_bipush (v := 19) B dX9_isStep_11 (by decide) k) ?_
    replace h := br_e h
    obtain ⟨r6, h5, h⟩ := h
    have m7 := ct_X9_in l (g := g) h5 hT
    refine yc_Si (Al := [.int x1, .int 0, .int 19]) (rest := []) 16 rfl cw_X9_96 dX9_isStep_13 m7 rfl (by decide) rfl (Nat.le_of_ble_eq_true rfl) ?_
    have hz_r6 := m7.1.2
    by_cases c8 : r6 = 0
    · replace h := ite_p c8 h
      refine ym 23 (fun B k => z_if_eq (tgt := 23) B dX9_isStep_16 (by decide) (fun _ => k) (fun q => absurd c8 q)) ?_
      refine ym 24 (fun B k => z_iconst (v := 0) B dX9_isStep_23 (by decide) k) ?_
      obtain rfl := Option.some.inj h
      exact yr_z hT (Or.inl rfl) rfl (Or.inl rfl) dX9_isStep_24
    · replace h := ite_n c8 h
      refine ym 19 (fun B k => z_if_eq (tgt := 23) B dX9_isStep_16 (by decide) (fun q => absurd q c8) (fun _ => k)) ?_
      refine ym 20 (fun B k => z_iconst (v := 1) B dX9_isStep_19 (by decide) k) ?_
      refine ym 24 (fun B k => z_goto (tgt := 24) B dX9_isStep_20 (by decide) k) ?_
      obtain rfl := Option.some.inj h
      exact yr_z hT (Or.inr rfl) rfl (Or.inr rfl) dX9_isStep_24
set_option maxRecDepth 100000 in
set_option maxHeartbeats 4000000 in
theorem ct_X9_isOperation (l : Launch) {g : gx_T} {σ : sx_T} {r : Int32}  {x0 : Int32} {x1 : Int32} {x2 : Int32} (h : f_X9_isOperation σ x0 x1 x2 = some r) (hT : TS g σ)  : CT l g yX9_isOperation cX9_isOperation 3 (some .boolean) 1 22 [.int x0, .int x1, .int x2] (r = 0 ∨ r = 1) σ σ (Qxi g r σ) := by
  refine yc_met (by decide) (Nat.le_of_ble_eq_true rfl) ?_
  refine yc_lv (show lv_args 0 [.int x0, .int x1, .int x2] = [(0, .int x0), (1, .int x1), (2, .int x2)] from rfl) ?_
  show ZY l g _ _ _ _ _ _ _ _ _ _ _ _ _ _ σ 0 [(0, .int x0), (1, .int x1), (2, .int x2)] []
  unfold f_X9_isOperation at h
  refine ym 1 (fun B k => z_iload_n B dX9_isOperation_0 rfl 0 rfl k) ?_
  refine ym 2 (fun B k => z_iconst (v := 0) B dX9_isOperation_1 (by decide) k) ?_
  refine ym 4 (fun B k => z_bipush (v := 17) B dX9_isOperation_2 (by decide) k) ?_
  replace h := br_e h
  obtain ⟨r2, h1, h⟩ := h
  have m3 := ct_X9_in l (g := g) h1 hT
  refine yc_Si (Al := [.int x0, .int 0, .int 17]) (rest := []) 7 rfl cw_X9_96 dX9_isOperation_4 m3 rfl (by decide) rfl (Nat.le_of_ble_eq_true rfl) ?_
  have hz_r2 := m3.1.2
  by_cases c4 : r2 = 0
  · replace h := ite_p c4 h
    refine ym 34 (fun B k => z_if_eq (tgt := 34) B dX9_isOperation_7 (by decide) (fun _ => k) (fun q => absurd c4 q)) ?_
    refine ym 35 (fun B k => z_iconst (v := 0) B dX9_isOperation_34 (by decide) k) ?_
    obtain rfl := Option.some.inj h
    exact yr_z hT (Or.inl rfl) rfl (Or.inl rfl) dX9_isOperation_35
  · replace h := ite_n c4 h
    refine ym 10 (fun B k => z_if_eq (tgt := 34) B dX9_isOperation_7 (by decide) (fun q => absurd q c4) (fun _ => k)) ?_
    refine ym 11 (fun B k => z_iload_n B dX9_isOperation_10 rfl 1 rfl k) ?_
    refine ym 12 (fun B k => z_iconst (v := 0) B dX9_isOperation_11 (by decide) k) ?_
    refine ym 14 (fun B k => z_bipush (v := 99) B dX9_isOperation_12 (by decide) k) ?_
    replace h := br_e h
    obtain ⟨r6, h5, h⟩ := h
    have m7 := ct_X9_in l (g := g) h5 hT
    refine yc_Si (Al := [.int x1, .int 0, .int 99]) (rest := []) 17 rfl cw_X9_96 dX9_isOperation_14 m7 rfl (by decide) rfl (Nat.le_of_ble_eq_true rfl) ?_
    have hz_r6 := m7.1.2
    by_cases c8 : r6 = 0
    · replace h := ite_p c8 h
      refine ym 34 (fun B k => z_if_eq (tgt := 34) B dX9_isOperation_17 (by decide) (fun _ => k) (fun q => absurd c8 q)) ?_
      refine ym 35 (fun B k => z_iconst (v := 0) B dX9_isOperation_34 (by decide) k) ?_
      obtain rfl := Option.some.inj h
      exact yr_z hT (Or.inl rfl) rfl (Or.inl rfl) dX9_isOperation_35
    · replace h := ite_n c8 h
      refine ym 20 (fun B k => z_if_eq (tgt := 34) B dX9_isOperation_17 (by decide) (fun q => absurd q c8) (fun _ => k)) ?_
      refine ym 21 (fun B k => z_iload_n B dX9_isOperation_20 rfl 2 rfl k) ?_
      refine ym 22 (fun B k => z_iconst (v := 0) B dX9_isOperation_21 (by decide) k) ?_
      refine ym 24 (fun B k => z_bipush (v := 99) B dX9_isOperation_22 (by decide) k) ?_
      replace h := br_e h
      obtain ⟨r10, h9, h⟩ := h
      have m11 := ct_X9_in l (g := g) h9 hT
      refine yc_Si (Al := [.int x2, .int 0, .int 99]) (rest := []) 27 rfl cw_X9_96 dX9_isOperation_24 m11 rfl (by decide) rfl (Nat.le_of_ble_eq_true rfl) ?_
      have hz_r10 := m11.1.2
      by_cases c12 : r10 = 0
      · replace h := ite_p c12 h
        refine ym 34 (fun B k => z_if_eq (tgt := 34) B dX9_isOperation_27 (by decide) (fun _ => k) (fun q => absurd c12 q)) ?_
        refine ym 35 (fun B k => z_iconst (v := 0) B dX9_isOperation_34 (by decide) k) ?_
        obtain rfl := Option.some.inj h
        exact yr_z hT (Or.inl rfl) rfl (Or.inl rfl) dX9_isOperation_35
      · replace h := ite_n c12 h
        refine ym 30 (fun B k => z_if_eq (tgt := 34) B dX9_isOperation_27 (by decide) (fun q => absurd q c12) (fun _ => k)) ?_
        refine ym 31 (fun B k => z_iconst (v := 1) B dX9_isOperation_30 (by decide) k) ?_
        refine ym 35 (fun B k => z_goto (tgt := 35) B dX9_isOperation_31 (by decide) k) ?_
        obtain rfl := Option.some.inj h
        exact yr_z hT (Or.inr rfl) rfl (Or.inr rfl) dX9_isOperation_35
set_option maxRecDepth 100000 in
set_option maxHeartbeats 4000000 in
theorem tb_X9_needs__18 {l : Launch} {g : gx_T} {σ : sx_T} {u : sx_T} {r : Int32} {As : Array Value}  {t : Nat} {y0 : Int32} (h : fb_X9_needs__18 σ t y0 = some (r, u)) (hT : TS g σ) (hk_t : sx_K σ t = 11) : ZY l g cX9_needs_ RX9 "needs" (some .boolean) 3 0 0 0 0 false As (QM g As (Qxi g r u)) (r = 0 ∨ r = 1) u σ 18 [(0, .ref t)] [.int y0, .ref t] := by
  unfold fb_X9_needs__18 at h
  have j1 := hk_t
  refine ymw (σ' := (wx_I σ t 0 y0)) 21 e_I (fun B hin k => pf_X9_90 (x := y0) B hk_t rfl dX9_needs__18 k) ?_
  have hT := TS_I (k := 0) (x := y0) hT hk_t (Or.inl rfl)
  have hk_t := kk_I (σ := σ) (a := t) (k := 0) (x := y0) hk_t
  refine ym 22 (fun B k => z_aload_n B dX9_needs__21 rfl 0 rfl k) ?_
  refine ym 25 (fun B k => gf_X9_90 (x := y0) B hk_t rI_s dX9_needs__22 k) ?_
  by_cases c2 : y0 = 0
  · replace h := ite_p c2 h
    refine ym 28 (fun B k => z_if_ne (tgt := 32) B dX9_needs__25 (by decide) (fun q => absurd c2 q) (fun _ => k)) ?_
    refine ym 29 (fun B k => z_iconst (v := 1) B dX9_needs__28 (by decide) k) ?_
    refine ym 33 (fun B k => z_goto (tgt := 33) B dX9_needs__29 (by decide) k) ?_
    obtain ⟨rfl, rfl⟩ := Prod.mk.inj (Option.some.inj h)
    exact yr_z hT (Or.inr rfl) rfl (Or.inr rfl) dX9_needs__33
  · replace h := ite_n c2 h
    refine ym 32 (fun B k => z_if_ne (tgt := 32) B dX9_needs__25 (by decide) (fun _ => k) (fun q => absurd q c2)) ?_
    refine ym 33 (fun B k => z_iconst (v := 0) B dX9_needs__32 (by decide) k) ?_
    obtain ⟨rfl, rfl⟩ := Prod.mk.inj (Option.some.inj h)
    exact yr_z hT (Or.inl rfl) rfl (Or.inl rfl) dX9_needs__33
set_option maxRecDepth 100000 in
set_option maxHeartbeats 4000000 in
theorem ct_X9_needs_ (l : Launch) {g : gx_T} {σ : sx_T} {u : sx_T} {r : Int32}  {t : Nat} {x1 : Int32} {x2 : Int32} (h : f_X9_needs_ σ t x1 x2 = some (r, u)) (hT : TS g σ) (hk_t : sx_K σ t = 11) (hz_x1 : x1 = 0 ∨ x1 = 1) (hz_x2 : x2 = 0 ∨ x2 = 1) : CT l g yX9_needs_ cX9_needs_ 3 (some .boolean) 0 0 [.ref t, .int x1, .int x2] (r = 0 ∨ r = 1) u σ (Qxi g r u) := by
  refine yc_met (by decide) (Nat.le_of_ble_eq_true rfl) ?_
  refine yc_lv (show lv_args 0 [.ref t, .int x1, .int x2] = [(0, .ref t), (1, .int x1), (2, .int x2)] from rfl) ?_
  show ZY l g _ _ _ _ _ _ _ _ _ _ _ _ _ _ σ 0 [(0, .ref t), (1, .int x1), (2, .int x2)] []
  unfold f_X9_needs_ at h
  refine ym 1 (fun B k => z_aload_n B dX9_needs__0 rfl 0 rfl k) ?_
  refine ym 2 (fun B k => z_iload_n B dX9_needs__1 rfl 1 rfl k) ?_
  by_cases c1 : x1 = 0
  · replace h := ite_p c1 h
    refine ym 5 (fun B k => z_if_ne (tgt := 9) B dX9_needs__2 (by decide) (fun q => absurd c1 q) (fun _ => k)) ?_
    refine ym 6 (fun B k => z_iconst (v := 1) B dX9_needs__5 (by decide) k) ?_
    refine ym 18 (fun B k => z_goto (tgt := 18) B dX9_needs__6 (by decide) k) ?_
    refine y_sub [(0, .ref t)] [0] rfl ?_
    exact tb_X9_needs__18 h hT hk_t
  · replace h := ite_n c1 h
    refine ym 9 (fun B k => z_if_ne (tgt := 9) B dX9_needs__2 (by decide) (fun _ => k) (fun q => absurd q c1)) ?_
    refine ym 10 (fun B k => z_iload_n B dX9_needs__9 rfl 2 rfl k) ?_
    by_cases c2 : x2 = 0
    · replace h := ite_p c2 h
      refine ym 17 (fun B k => z_if_eq (tgt := 17) B dX9_needs__10 (by decide) (fun _ => k) (fun q => absurd c2 q)) ?_
      refine ym 18 (fun B k => z_iconst (v := 2) B dX9_needs__17 (by decide) k) ?_
      refine y_sub [(0, .ref t)] [0] rfl ?_
      exact tb_X9_needs__18 h hT hk_t
    · replace h := ite_n c2 h
      refine ym 13 (fun B k => z_if_eq (tgt := 17) B dX9_needs__10 (by decide) (fun q => absurd q c2) (fun _ => k)) ?_
      refine ym 14 (fun B k => z_iconst (v := 0) B dX9_needs__13 (by decide) k) ?_
      refine ym 18 (fun B k => z_goto (tgt := 18) B dX9_needs__14 (by decide) k) ?_
      refine y_sub [(0, .ref t)] [0] rfl ?_
      exact tb_X9_needs__18 h hT hk_t
set_option maxRecDepth 100000 in
set_option maxHeartbeats 4000000 in
theorem ct_X9_lays (l : Launch) {g : gx_T} {σ : sx_T} {u : sx_T}  {t : Nat} {x1 : Int32} {x2 : Int32} {x3 : Int32} {x4 : Int32} {x5 : Int32} (h : f_X9_lays σ t x1 x2 x3 x4 x5 = some u) (hT : TS g σ) (hk_t : sx_K σ t = 11) : CT l g yX9_lays cX9_lays 6 none 0 0 [.ref t, .int x1, .int x2, .int x3, .int x4, .int x5] (True) u σ (Qxv g u) := by
  refine yc_met (by decide) (Nat.le_of_ble_eq_true rfl) ?_
  refine yc_lv (show lv_args 0 [.ref t, .int x1, .int x2, .int x3, .int x4, .int x5] = [(0, .ref t), (1, .int x1), (2, .int x2), (3, .int x3), (4, .int x4), (5, .int x5)] from rfl) ?_
  show ZY l g _ _ _ _ _ _ _ _ _ _ _ _ _ _ σ 0 [(0, .ref t), (1, .int x1), (2, .int x2), (3, .int x3), (4, .int x4), (5, .int x5)] []
  unfold f_X9_lays at h
  refine ym 1 (fun B k => z_aload_n B dX9_lays_0 rfl 0 rfl k) ?_
  replace h := qv_e h
  obtain ⟨w1, e_w1, h⟩ := h
  have hq_w1 : rk σ w1 13 := rk_T hT hk_t rfl (by decide) e_w1
  refine ym 4 (fun B k => gf_X9_13 (x := w1) B hk_t e_w1 dX9_lays_1 k) ?_
  refine ym 6 (fun B k => z_bipush (v := 20) B dX9_lays_4 (by decide) k) ?_
  refine ym 7 (fun B k => z_iload_n B dX9_lays_6 rfl 1 rfl k) ?_
  refine ym 8 (fun B k => z_imul B dX9_lays_7 k) ?_
  refine ym 9 (fun B k => z_iload_n B dX9_lays_8 rfl 2 rfl k) ?_
  refine ym 10 (fun B k => z_iadd B dX9_lays_9 k) ?_
  refine ym 11 (fun B k => z_iload_n B dX9_lays_10 rfl 3 rfl k) ?_
  replace h := bq_e h
  obtain ⟨a2, rfl, h⟩ := h
  have hk_a2 := hq_w1 a2 rfl
  replace h := ck_e h
  obtain ⟨hi_3, h⟩ := h
  have j4 := hk_a2
  refine ymw (σ' := (wx_I σ a2 (ti ((20 * x1) + x2)) x3)) 12 e_I (fun B _ k => z_iast (j := (ti ((20 * x1) + x2))) B hk_a2 rfl hi_3 rfl dX9_lays_11 k) ?_
  have hT := TS_I (k := (ti ((20 * x1) + x2))) (x := x3) hT hk_a2 (Or.inl rfl)
  have hk_t := kk_I (σ := σ) (a := a2) (k := (ti ((20 * x1) + x2))) (x := x3) hk_t
  refine ym 13 (fun B k => z_aload_n B dX9_lays_12 rfl 0 rfl k) ?_
  replace h := qv_e h
  obtain ⟨w5, e_w5, h⟩ := h
  have hq_w5 : rk (wx_I σ a2 (ti ((20 * x1) + x2)) x3) w5 13 := rk_T hT hk_t rfl (by decide) ((rR_I rfl).trans e_w5)
  refine ym 16 (fun B k => gf_X9_17 (x := w5) B hk_t ((rR_I rfl).trans e_w5) dX9_lays_13 k) ?_
  refine ym 18 (fun B k => z_bipush (v := 20) B dX9_lays_16 (by decide) k) ?_
  refine ym 19 (fun B k => z_iload_n B dX9_lays_18 rfl 1 rfl k) ?_
  refine ym 20 (fun B k => z_imul B dX9_lays_19 k) ?_
  refine ym 21 (fun B k => z_iload_n B dX9_lays_20 rfl 2 rfl k) ?_
  refine ym 22 (fun B k => z_iadd B dX9_lays_21 k) ?_
  refine ym 24 (fun B k => z_iload B dX9_lays_22 4 rfl k) ?_
  replace h := bq_e h
  obtain ⟨a6, rfl, h⟩ := h
  have hk_a6 := hq_w5 a6 rfl
  replace h := ck_e h
  obtain ⟨hi_7, h⟩ := h
  have j8 := hk_a6
  refine ymw (σ' := (wx_I (wx_I σ a2 (ti ((20 * x1) + x2)) x3) a6 (ti ((20 * x1) + x2)) x4)) 25 e_I (fun B _ k => z_iast (j := (ti ((20 * x1) + x2))) B hk_a6 rfl hi_7 rfl dX9_lays_24 k) ?_
  have hT := TS_I (k := (ti ((20 * x1) + x2))) (x := x4) hT hk_a6 (Or.inl rfl)
  have hk_t := kk_I (σ := (wx_I σ a2 (ti ((20 * x1) + x2)) x3)) (a := a6) (k := (ti ((20 * x1) + x2))) (x := x4) hk_t
  refine ym 26 (fun B k => z_aload_n B dX9_lays_25 rfl 0 rfl k) ?_
  replace h := qv_e h
  obtain ⟨w9, e_w9, h⟩ := h
  have hq_w9 : rk (wx_I (wx_I σ a2 (ti ((20 * x1) + x2)) x3) a6 (ti ((20 * x1) + x2)) x4) w9 13 := rk_T hT hk_t rfl (by decide) ((rR_I (rR_I rfl)).trans e_w9)
  refine ym 29 (fun B k => gf_X9_20 (x := w9) B hk_t ((rR_I (rR_I rfl)).trans e_w9) dX9_lays_26 k) ?_
  refine ym 31 (fun B k => z_bipush (v := 20) B dX9_lays_29 (by decide) k) ?_
  refine ym 32 (fun B k => z_iload_n B dX9_lays_31 rfl 1 rfl k) ?_
  refine ym 33 (fun B k => z_imul B dX9_lays_32 k) ?_
  refine ym 34 (fun B k => z_iload_n B dX9_lays_33 rfl 2 rfl k) ?_
  refine ym 35 (fun B k => z_iadd B dX9_lays_34 k) ?_
  refine ym 37 (fun B k => z_iload B dX9_lays_35 5 rfl k) ?_
  replace h := bq_e h
  obtain ⟨a10, rfl, h⟩ := h
  have hk_a10 := hq_w9 a10 rfl
  replace h := ck_e h
  obtain ⟨hi_11, h⟩ := h
  have j12 := hk_a10
  refine ymw (σ' := (wx_I (wx_I (wx_I σ a2 (ti ((20 * x1) + x2)) x3) a6 (ti ((20 * x1) + x2)) x4) a10 (ti ((20 * x1) + x2)) x5)) 38 e_I (fun B _ k => z_iast (j := (ti ((20 * x1) + x2))) B hk_a10 rfl hi_11 rfl dX9_lays_37 k) ?_
  have hT := TS_I (k := (ti ((20 * x1) + x2))) (x := x5) hT hk_a10 (Or.inl rfl)
  have hk_t := kk_I (σ := (wx_I (wx_I σ a2 (ti ((20 * x1) + x2)) x3) a6 (ti ((20 * x1) + x2)) x4)) (a := a10) (k := (ti ((20 * x1) + x2))) (x := x5) hk_t
  obtain rfl := Option.some.inj h
  exact yr_v hT trivial rfl dX9_lays_38
set_option maxRecDepth 100000 in
set_option maxHeartbeats 4000000 in
theorem ct_X9_begins (l : Launch) {g : gx_T} {σ : sx_T} {u : sx_T}  {t : Nat} (h : f_X9_begins σ t = some u) (hT : TS g σ) (hk_t : sx_K σ t = 11) : CT l g yX9_begins cX9_begins 1 none 0 0 [.ref t] (True) u σ (Qxv g u) := by
  refine yc_met (by decide) (Nat.le_of_ble_eq_true rfl) ?_
  refine yc_lv (show lv_args 0 [.ref t] = [(0, .ref t)] from rfl) ?_
  show ZY l g _ _ _ _ _ _ _ _ _ _ _ _ _ _ σ 0 [(0, .ref t)] []
  unfold f_X9_begins at h
  refine ym 1 (fun B k => z_aload_n B dX9_begins_0 rfl 0 rfl k) ?_
  refine ym 2 (fun B k => z_iconst (v := 1) B dX9_begins_1 (by decide) k) ?_
  have j1 := hk_t
  refine ymw (σ' := (wx_I σ t 26 1)) 5 e_I (fun B hin k => pf_X9_103 (x := 1) B (Or.inr rfl) hk_t rfl dX9_begins_2 k) ?_
  have hT := TS_I (k := 26) (x := 1) hT hk_t (Or.inr (Or.inr rfl))
  have hk_t := kk_I (σ := σ) (a := t) (k := 26) (x := 1) hk_t
  refine ym 6 (fun B k => z_aload_n B dX9_begins_5 rfl 0 rfl k) ?_
  refine ym 7 (fun B k => z_iconst (v := 0) B dX9_begins_6 (by decide) k) ?_
  have j2 := hk_t
  refine ymw (σ' := (wx_I (wx_I σ t 26 1) t 27 0)) 10 e_I (fun B hin k => pf_X9_107 (x := 0) B hk_t rfl dX9_begins_7 k) ?_
  have hT := TS_I (k := 27) (x := 0) hT hk_t (Or.inl rfl)
  have hk_t := kk_I (σ := (wx_I σ t 26 1)) (a := t) (k := 27) (x := 0) hk_t
  refine ym 11 (fun B k => z_aload_n B dX9_begins_10 rfl 0 rfl k) ?_
  refine ym 12 (fun B k => z_iconst (v := 0) B dX9_begins_11 (by decide) k) ?_
  have j3 := hk_t
  refine ymw (σ' := (wx_I (wx_I (wx_I σ t 26 1) t 27 0) t 28 0)) 15 e_I (fun B hin k => pf_X9_110 (x := 0) B hk_t rfl dX9_begins_12 k) ?_
  have hT := TS_I (k := 28) (x := 0) hT hk_t (Or.inl rfl)
  have hk_t := kk_I (σ := (wx_I (wx_I σ t 26 1) t 27 0)) (a := t) (k := 28) (x := 0) hk_t
  refine ym 16 (fun B k => z_aload_n B dX9_begins_15 rfl 0 rfl k) ?_
  refine ym 17 (fun B k => z_iconst (v := 0) B dX9_begins_16 (by decide) k) ?_
  have j4 := hk_t
  refine ymw (σ' := (wx_I (wx_I (wx_I (wx_I σ t 26 1) t 27 0) t 28 0) t 29 0)) 20 e_I (fun B hin k => pf_X9_113 (x := 0) B hk_t rfl dX9_begins_17 k) ?_
  have hT := TS_I (k := 29) (x := 0) hT hk_t (Or.inl rfl)
  have hk_t := kk_I (σ := (wx_I (wx_I (wx_I σ t 26 1) t 27 0) t 28 0)) (a := t) (k := 29) (x := 0) hk_t
  refine ym 21 (fun B k => z_aload_n B dX9_begins_20 rfl 0 rfl k) ?_
  refine ym 22 (fun B k => z_iconst (v := 0) B dX9_begins_21 (by decide) k) ?_
  have j5 := hk_t
  refine ymw (σ' := (wx_I (wx_I (wx_I (wx_I (wx_I σ t 26 1) t 27 0) t 28 0) t 29 0) t 30 0)) 25 e_I (fun B hin k => pf_X9_116 (x := 0) B hk_t rfl dX9_begins_22 k) ?_
  have hT := TS_I (k := 30) (x := 0) hT hk_t (Or.inl rfl)
  have hk_t := kk_I (σ := (wx_I (wx_I (wx_I (wx_I σ t 26 1) t 27 0) t 28 0) t 29 0)) (a := t) (k := 30) (x := 0) hk_t
  refine ym 26 (fun B k => z_aload_n B dX9_begins_25 rfl 0 rfl k) ?_
  refine ym 27 (fun B k => z_iconst (v := 0) B dX9_begins_26 (by decide) k) ?_
  have j6 := hk_t
  refine ymw (σ' := (wx_I (wx_I (wx_I (wx_I (wx_I (wx_I σ t 26 1) t 27 0) t 28 0) t 29 0) t 30 0) t 31 0)) 30 e_I (fun B hin k => pf_X9_119 (x := 0) B hk_t rfl dX9_begins_27 k) ?_
  have hT := TS_I (k := 31) (x := 0) hT hk_t (Or.inl rfl)
  have hk_t := kk_I (σ := (wx_I (wx_I (wx_I (wx_I (wx_I σ t 26 1) t 27 0) t 28 0) t 29 0) t 30 0)) (a := t) (k := 31) (x := 0) hk_t
  refine ym 31 (fun B k => z_aload_n B dX9_begins_30 rfl 0 rfl k) ?_
  refine ym 32 (fun B k => z_iconst (v := 0) B dX9_begins_31 (by decide) k) ?_
  have j7 := hk_t
  refine ymw (σ' := (wx_I (wx_I (wx_I (wx_I (wx_I (wx_I (wx_I σ t 26 1) t 27 0) t 28 0) t 29 0) t 30 0) t 31 0) t 32 0)) 35 e_I (fun B hin k => pf_X9_122 (x := 0) B hk_t rfl dX9_begins_32 k) ?_
  have hT := TS_I (k := 32) (x := 0) hT hk_t (Or.inl rfl)
  have hk_t := kk_I (σ := (wx_I (wx_I (wx_I (wx_I (wx_I (wx_I σ t 26 1) t 27 0) t 28 0) t 29 0) t 30 0) t 31 0)) (a := t) (k := 32) (x := 0) hk_t
  refine ym 36 (fun B k => z_aload_n B dX9_begins_35 rfl 0 rfl k) ?_
  refine ym 37 (fun B k => z_iconst (v := 0) B dX9_begins_36 (by decide) k) ?_
  have j8 := hk_t
  refine ymw (σ' := (wx_I (wx_I (wx_I (wx_I (wx_I (wx_I (wx_I (wx_I σ t 26 1) t 27 0) t 28 0) t 29 0) t 30 0) t 31 0) t 32 0) t 34 0)) 40 e_I (fun B hin k => pf_X9_125 (x := 0) B (Or.inl rfl) hk_t rfl dX9_begins_37 k) ?_
  have hT := TS_I (k := 34) (x := 0) hT hk_t (Or.inr (Or.inl rfl))
  have hk_t := kk_I (σ := (wx_I (wx_I (wx_I (wx_I (wx_I (wx_I (wx_I σ t 26 1) t 27 0) t 28 0) t 29 0) t 30 0) t 31 0) t 32 0)) (a := t) (k := 34) (x := 0) hk_t
  refine ym 41 (fun B k => z_aload_n B dX9_begins_40 rfl 0 rfl k) ?_
  refine ym 42 (fun B k => z_iconst (v := 0) B dX9_begins_41 (by decide) k) ?_
  have j9 := hk_t
  refine ymw (σ' := (wx_I (wx_I (wx_I (wx_I (wx_I (wx_I (wx_I (wx_I (wx_I σ t 26 1) t 27 0) t 28 0) t 29 0) t 30 0) t 31 0) t 32 0) t 34 0) t 35 0)) 45 e_I (fun B hin k => pf_X9_128 (x := 0) B (Or.inl rfl) hk_t rfl dX9_begins_42 k) ?_
  have hT := TS_I (k := 35) (x := 0) hT hk_t (Or.inr (Or.inl rfl))
  have hk_t := kk_I (σ := (wx_I (wx_I (wx_I (wx_I (wx_I (wx_I (wx_I (wx_I σ t 26 1) t 27 0) t 28 0) t 29 0) t 30 0) t 31 0) t 32 0) t 34 0)) (a := t) (k := 35) (x := 0) hk_t
  refine ym 46 (fun B k => z_aload_n B dX9_begins_45 rfl 0 rfl k) ?_
  refine ym 47 (fun B k => z_iconst (v := 0) B dX9_begins_46 (by decide) k) ?_
  have j10 := hk_t
  refine ymw (σ' := (wx_I (wx_I (wx_I (wx_I (wx_I (wx_I (wx_I (wx_I (wx_I (wx_I σ t 26 1) t 27 0) t 28 0) t 29 0) t 30 0) t 31 0) t 32 0) t 34 0) t 35 0) t 36 0)) 50 e_I (fun B hin k => pf_X9_131 (x := 0) B hk_t rfl dX9_begins_47 k) ?_
  have hT := TS_I (k := 36) (x := 0) hT hk_t (Or.inl rfl)
  have hk_t := kk_I (σ := (wx_I (wx_I (wx_I (wx_I (wx_I (wx_I (wx_I (wx_I (wx_I σ t 26 1) t 27 0) t 28 0) t 29 0) t 30 0) t 31 0) t 32 0) t 34 0) t 35 0)) (a := t) (k := 36) (x := 0) hk_t
  refine ym 51 (fun B k => z_aload_n B dX9_begins_50 rfl 0 rfl k) ?_
  refine ym 52 (fun B k => z_iconst (v := 0) B dX9_begins_51 (by decide) k) ?_
  have j11 := hk_t
  refine ymw (σ' := (wx_I (wx_I (wx_I (wx_I (wx_I (wx_I (wx_I (wx_I (wx_I (wx_I (wx_I σ t 26 1) t 27 0) t 28 0) t 29 0) t 30 0) t 31 0) t 32 0) t 34 0) t 35 0) t 36 0) t 37 0)) 55 e_I (fun B hin k => pf_X9_134 (x := 0) B hk_t rfl dX9_begins_52 k) ?_
  have hT := TS_I (k := 37) (x := 0) hT hk_t (Or.inl rfl)
  have hk_t := kk_I (σ := (wx_I (wx_I (wx_I (wx_I (wx_I (wx_I (wx_I (wx_I (wx_I (wx_I σ t 26 1) t 27 0) t 28 0) t 29 0) t 30 0) t 31 0) t 32 0) t 34 0) t 35 0) t 36 0)) (a := t) (k := 37) (x := 0) hk_t
  refine ym 56 (fun B k => z_aload_n B dX9_begins_55 rfl 0 rfl k) ?_
  refine ym 57 (fun B k => z_iconst (v := 0) B dX9_begins_56 (by decide) k) ?_
  have j12 := hk_t
  refine ymw (σ' := (wx_I (wx_I (wx_I (wx_I (wx_I (wx_I (wx_I (wx_I (wx_I (wx_I (wx_I (wx_I σ t 26 1) t 27 0) t 28 0) t 29 0) t 30 0) t 31 0) t 32 0) t 34 0) t 35 0) t 36 0) t 37 0) t 38 0)) 60 e_I (fun B hin k => pf_X9_137 (x := 0) B hk_t rfl dX9_begins_57 k) ?_
  have hT := TS_I (k := 38) (x := 0) hT hk_t (Or.inl rfl)
  have hk_t := kk_I (σ := (wx_I (wx_I (wx_I (wx_I (wx_I (wx_I (wx_I (wx_I (wx_I (wx_I (wx_I σ t 26 1) t 27 0) t 28 0) t 29 0) t 30 0) t 31 0) t 32 0) t 34 0) t 35 0) t 36 0) t 37 0)) (a := t) (k := 38) (x := 0) hk_t
  refine ym 61 (fun B k => z_aload_n B dX9_begins_60 rfl 0 rfl k) ?_
  refine ym 62 (fun B k => z_iconst (v := 0) B dX9_begins_61 (by decide) k) ?_
  have j13 := hk_t
  refine ymw (σ' := (wx_I (wx_I (wx_I (wx_I (wx_I (wx_I (wx_I (wx_I (wx_I (wx_I (wx_I (wx_I (wx_I σ t 26 1) t 27 0) t 28 0) t 29 0) t 30 0) t 31 0) t 32 0) t 34 0) t 35 0) t 36 0) t 37 0) t 38 0) t 39 0)) 65 e_I (fun B hin k => pf_X9_140 (x := 0) B hk_t rfl dX9_begins_62 k) ?_
  have hT := TS_I (k := 39) (x := 0) hT hk_t (Or.inl rfl)
  have hk_t := kk_I (σ := (wx_I (wx_I (wx_I (wx_I (wx_I (wx_I (wx_I (wx_I (wx_I (wx_I (wx_I (wx_I σ t 26 1) t 27 0) t 28 0) t 29 0) t 30 0) t 31 0) t 32 0) t 34 0) t 35 0) t 36 0) t 37 0) t 38 0)) (a := t) (k := 39) (x := 0) hk_t
  obtain rfl := Option.some.inj h
  exact yr_v hT trivial rfl dX9_begins_65
set_option maxRecDepth 100000 in
set_option maxHeartbeats 4000000 in
theorem tl_X9_keptOf_2 {l : Launch} {g : gx_T} {r : Int32} {As : Array Value} {n0 : Nat} : ∀ {n : Nat} {σ : sx_T} {t : Nat} {x1 : Int32} {x2 : Int32}, fl_X9_keptOf_2 n0 n σ t x1 x2 = some r → TS g σ → sx_K σ t = 11 → ZY l g cX9_keptOf RX9 "keptOf" (some .int) 3 0 0 0 0 false As (QM g As (Qxi g r σ)) (True) σ σ 2 [(0, .ref t), (1, .int x1), (2, .int x2)] [] := by
  intro n
  induction n with
  | zero =>
    intro σ t x1 x2 h
    exact nomatch h
  | succ n ih_ =>
    have ih := @ih_
    intro σ t x1 x2 h hT hk_t
    unfold fl_X9_keptOf_2 at h
    refine ym 3 (fun B k => z_iload_n B dX9_keptOf_2 rfl 2 rfl k) ?_
    refine ym 4 (fun B k => z_aload_n B dX9_keptOf_3 rfl 0 rfl k) ?_
    refine ym 7 (fun B k => gf_X9_140 (x := (sx_I σ t 39)) B hk_t rfl dX9_keptOf_4 k) ?_
    by_cases c1 : (sx_I σ t 39) ≤ x2
    · replace h := ite_p c1 h
      refine ym 28 (fun B k => z_icmp_ge (tgt := 28) B dX9_keptOf_7 (by decide) (fun _ => k) (fun q => absurd c1 q)) ?_
      refine ym 29 (fun B k => z_iconst (v := (-1)) B dX9_keptOf_28 (by decide) k) ?_
      obtain rfl := Option.some.inj h
      exact yr_i hT trivial rfl dX9_keptOf_29
    · replace h := ite_n c1 h
      refine ym 10 (fun B k => z_icmp_ge (tgt := 28) B dX9_keptOf_7 (by decide) (fun q => absurd q c1) (fun _ => k)) ?_
      refine ym 11 (fun B k => z_aload_n B dX9_keptOf_10 rfl 0 rfl k) ?_
      replace h := qv_e h
      obtain ⟨w2, e_w2, h⟩ := h
      have hq_w2 : rk σ w2 13 := rk_T hT hk_t rfl (by decide) e_w2
      refine ym 14 (fun B k => gf_X9_75 (x := w2) B hk_t e_w2 dX9_keptOf_11 k) ?_
      refine ym 15 (fun B k => z_iload_n B dX9_keptOf_14 rfl 2 rfl k) ?_
      replace h := bq_e h
      obtain ⟨a3, rfl, h⟩ := h
      have hk_a3 := hq_w2 a3 rfl
      replace h := ck_e h
      obtain ⟨hi_4, h⟩ := h
      refine ym 16 (fun B k => z_iald (j := (ti x2)) (x := (sx_I σ a3 (ti x2))) B hk_a3 rfl hi_4 rfl dX9_keptOf_15 k) ?_
      refine ym 17 (fun B k => z_iload_n B dX9_keptOf_16 rfl 1 rfl k) ?_
      by_cases c5 : (sx_I σ a3 (ti x2)) = x1
      · replace h := ite_p c5 h
        refine ym 20 (fun B k => z_icmp_ne (tgt := 22) B dX9_keptOf_17 (by decide) (fun q => absurd c5 q) (fun _ => k)) ?_
        refine ym 21 (fun B k => z_iload_n B dX9_keptOf_20 rfl 2 rfl k) ?_
        obtain rfl := Option.some.inj h
        exact yr_i hT trivial rfl dX9_keptOf_21
      · replace h := ite_n c5 h
        refine ym 22 (fun B k => z_icmp_ne (tgt := 22) B dX9_keptOf_17 (by decide) (fun _ => k) (fun q => absurd q c5)) ?_
        refine ym 25 (fun B k => z_iinc (v := x2 + 1) (lv' := [(2, .int (x2 + 1)), (0, .ref t), (1, .int x1)]) B dX9_keptOf_22 2 rfl rfl (by decide) rfl k) ?_
        refine ym 2 (fun B k => z_goto (tgt := 2) B dX9_keptOf_25 (by decide) k) ?_
        refine y_sub [(0, .ref t), (1, .int x1), (2, .int (x2 + 1))] [1, 2, 0] rfl ?_
        exact ih h hT hk_t
set_option maxRecDepth 100000 in
set_option maxHeartbeats 4000000 in
theorem ct_X9_keptOf (l : Launch) {g : gx_T} {σ : sx_T} {r : Int32} {n0 : Nat} {t : Nat} {x1 : Int32} (h : f_X9_keptOf n0 σ t x1 = some r) (hT : TS g σ) (hk_t : sx_K σ t = 11) : CT l g yX9_keptOf cX9_keptOf 3 (some .int) 0 0 [.ref t, .int x1] (True) σ σ (Qxi g r σ) := by
  refine yc_met (by decide) (Nat.le_of_ble_eq_true rfl) ?_
  refine yc_lv (show lv_args 0 [.ref t, .int x1] = [(0, .ref t), (1, .int x1)] from rfl) ?_
  show ZY l g _ _ _ _ _ _ _ _ _ _ _ _ _ _ σ 0 [(0, .ref t), (1, .int x1)] []
  unfold f_X9_keptOf at h
  refine ym 1 (fun B k => z_iconst (v := 0) B dX9_keptOf_0 (by decide) k) ?_
  refine ym 2 (fun B k => z_istore_n (lv' := [(2, .int 0), (0, .ref t), (1, .int x1)]) B dX9_keptOf_1 rfl (by decide) rfl k) ?_
  refine y_sub [(0, .ref t), (1, .int x1), (2, .int 0)] [1, 2, 0] rfl ?_
  exact tl_X9_keptOf_2 h hT hk_t
set_option maxRecDepth 100000 in
set_option maxHeartbeats 4000000 in
theorem tl_X9_uses_19 {l : Launch} {g : gx_T} {u : sx_T} {r : Int32} {As : Array Value} {n0 : Nat} : ∀ {n : Nat} {σ : sx_T} {t : Nat} {x2 : Int32} {x3 : Int32}, fl_X9_uses_19 n0 n σ t x2 x3 = some (r, u) → TS g σ → sx_K σ t = 11 → ZY l g cX9_uses RX9 "uses" (some .int) 4 0 0 0 0 false As (QM g As (Qxi g r u)) (True) u σ 19 [(0, .ref t), (2, .int x2), (3, .int x3)] [] := by
  intro n
  induction n with
  | zero =>
    intro σ t x2 x3 h
    exact nomatch h
  | succ n ih_ =>
    have ih := @ih_
    intro σ t x2 x3 h hT hk_t
    unfold fl_X9_uses_19 at h
    refine ym 20 (fun B k => z_iload_n B dX9_uses_19 rfl 2 rfl k) ?_
    refine ym 21 (fun B k => z_aload_n B dX9_uses_20 rfl 0 rfl k) ?_
    refine ym 24 (fun B k => gf_X9_140 (x := (sx_I σ t 39)) B hk_t rfl dX9_uses_21 k) ?_
    by_cases c1 : (sx_I σ t 39) ≤ x3
    · replace h := ite_p c1 h
      refine ym 61 (fun B k => z_icmp_ge (tgt := 61) B dX9_uses_24 (by decide) (fun _ => k) (fun q => absurd c1 q)) ?_
      refine ym 62 (fun B k => z_iload_n B dX9_uses_61 rfl 1 rfl k) ?_
      obtain ⟨rfl, rfl⟩ := Prod.mk.inj (Option.some.inj h)
      exact yr_i hT trivial rfl dX9_uses_62
    · replace h := ite_n c1 h
      refine ym 27 (fun B k => z_icmp_ge (tgt := 61) B dX9_uses_24 (by decide) (fun q => absurd q c1) (fun _ => k)) ?_
      refine ym 28 (fun B k => z_aload_n B dX9_uses_27 rfl 0 rfl k) ?_
      replace h := qv_e h
      obtain ⟨w2, e_w2, h⟩ := h
      have hq_w2 : rk σ w2 13 := rk_T hT hk_t rfl (by decide) e_w2
      refine ym 31 (fun B k => gf_X9_75 (x := w2) B hk_t e_w2 dX9_uses_28 k) ?_
      refine ym 32 (fun B k => z_iload_n B dX9_uses_31 rfl 2 rfl k) ?_
      refine ym 33 (fun B k => z_aload_n B dX9_uses_32 rfl 0 rfl k) ?_
      replace h := qv_e h
      obtain ⟨w3, e_w3, h⟩ := h
      have hq_w3 : rk σ w3 13 := rk_T hT hk_t rfl (by decide) e_w3
      refine ym 36 (fun B k => gf_X9_75 (x := w3) B hk_t e_w3 dX9_uses_33 k) ?_
      refine ym 37 (fun B k => z_iload_n B dX9_uses_36 rfl 2 rfl k) ?_
      refine ym 38 (fun B k => z_iconst (v := 1) B dX9_uses_37 (by decide) k) ?_
      refine ym 39 (fun B k => z_iadd B dX9_uses_38 k) ?_
      replace h := bq_e h
      obtain ⟨a4, rfl, h⟩ := h
      have hk_a4 := hq_w3 a4 rfl
      replace h := ck_e h
      obtain ⟨hi_5, h⟩ := h
      refine ym 40 (fun B k => z_iald (j := (ti (x3 + 1))) (x := (sx_I σ a4 (ti (x3 + 1)))) B hk_a4 rfl hi_5 rfl dX9_uses_39 k) ?_
      replace h := bq_e h
      obtain ⟨a6, rfl, h⟩ := h
      have hk_a6 := hq_w2 a6 rfl
      replace h := ck_e h
      obtain ⟨hi_7, h⟩ := h
      have j8 := hk_a6
      refine ymw (σ' := (wx_I σ a6 (ti x3) (sx_I σ a4 (ti (x3 + 1))))) 41 e_I (fun B _ k => z_iast (j := (ti x3)) B hk_a6 rfl hi_7 rfl dX9_uses_40 k) ?_
      have hT := TS_I (k := (ti x3)) (x := (sx_I σ a4 (ti (x3 + 1)))) hT hk_a6 (Or.inl rfl)
      have hk_t := kk_I (σ := σ) (a := a6) (k := (ti x3)) (x := (sx_I σ a4 (ti (x3 + 1)))) hk_t
      refine ym 42 (fun B k => z_aload_n B dX9_uses_41 rfl 0 rfl k) ?_
      replace h := qv_e h
      obtain ⟨w9, e_w9, h⟩ := h
      have hq_w9 : rk (wx_I σ a6 (ti x3) (sx_I σ a4 (ti (x3 + 1)))) w9 13 := rk_T hT hk_t rfl (by decide) ((rR_I rfl).trans e_w9)
      refine ym 45 (fun B k => gf_X9_78 (x := w9) B hk_t ((rR_I rfl).trans e_w9) dX9_uses_42 k) ?_
      refine ym 46 (fun B k => z_iload_n B dX9_uses_45 rfl 2 rfl k) ?_
      refine ym 47 (fun B k => z_aload_n B dX9_uses_46 rfl 0 rfl k) ?_
      replace h := qv_e h
      obtain ⟨w10, e_w10, h⟩ := h
      have hq_w10 : rk (wx_I σ a6 (ti x3) (sx_I σ a4 (ti (x3 + 1)))) w10 13 := rk_T hT hk_t rfl (by decide) ((rR_I rfl).trans e_w10)
      refine ym 50 (fun B k => gf_X9_78 (x := w10) B hk_t ((rR_I rfl).trans e_w10) dX9_uses_47 k) ?_
      refine ym 51 (fun B k => z_iload_n B dX9_uses_50 rfl 2 rfl k) ?_
      refine ym 52 (fun B k => z_iconst (v := 1) B dX9_uses_51 (by decide) k) ?_
      refine ym 53 (fun B k => z_iadd B dX9_uses_52 k) ?_
      replace h := bq_e h
      obtain ⟨a11, rfl, h⟩ := h
      have hk_a11 := hq_w10 a11 rfl
      replace h := ck_e h
      obtain ⟨hi_12, h⟩ := h
      refine ym 54 (fun B k => z_iald (j := (ti (x3 + 1))) (x := (sx_I (wx_I σ a6 (ti x3) (sx_I σ a4 (ti (x3 + 1)))) a11 (ti (x3 + 1)))) B hk_a11 rfl hi_12 rfl dX9_uses_53 k) ?_
      replace h := bq_e h
      obtain ⟨a13, rfl, h⟩ := h
      have hk_a13 := hq_w9 a13 rfl
      replace h := ck_e h
      obtain ⟨hi_14, h⟩ := h
      have j15 := hk_a13
      refine ymw (σ' := (wx_I (wx_I σ a6 (ti x3) (sx_I σ a4 (ti (x3 + 1)))) a13 (ti x3) (sx_I (wx_I σ a6 (ti x3) (sx_I σ a4 (ti (x3 + 1)))) a11 (ti (x3 + 1))))) 55 e_I (fun B _ k => z_iast (j := (ti x3)) B hk_a13 rfl hi_14 rfl dX9_uses_54 k) ?_
      have hT := TS_I (k := (ti x3)) (x := (sx_I (wx_I σ a6 (ti x3) (sx_I σ a4 (ti (x3 + 1)))) a11 (ti (x3 + 1)))) hT hk_a13 (Or.inl rfl)
      have hk_t := kk_I (σ := (wx_I σ a6 (ti x3) (sx_I σ a4 (ti (x3 + 1))))) (a := a13) (k := (ti x3)) (x := (sx_I (wx_I σ a6 (ti x3) (sx_I σ a4 (ti (x3 + 1)))) a11 (ti (x3 + 1)))) hk_t
      refine ym 58 (fun B k => z_iinc (v := x3 + 1) (lv' := [(3, .int (x3 + 1)), (0, .ref t), (2, .int x2)]) B dX9_uses_55 2 rfl rfl (by decide) rfl k) ?_
      refine ym 19 (fun B k => z_goto (tgt := 19) B dX9_uses_58 (by decide) k) ?_
      refine y_sub [(0, .ref t), (2, .int x2), (3, .int (x3 + 1))] [1, 2, 0] rfl ?_
      exact ih h hT hk_t
set_option maxRecDepth 100000 in
set_option maxHeartbeats 4000000 in
theorem ct_X9_uses (l : Launch) {g : gx_T} {σ : sx_T} {u : sx_T} {r : Int32} {n0 : Nat} {t : Nat} {x1 : Int32} (h : f_X9_uses n0 σ t x1 = some (r, u)) (hT : TS g σ) (hk_t : sx_K σ t = 11) : CT l g yX9_uses cX9_uses 4 (some .int) 0 0 [.ref t, .int x1] (True) u σ (Qxi g r u) := by
  refine yc_met (by decide) (Nat.le_of_ble_eq_true rfl) ?_
  refine yc_lv (show lv_args 0 [.ref t, .int x1] = [(0, .ref t), (1, .int x1)] from rfl) ?_
  show ZY l g _ _ _ _ _ _ _ _ _ _ _ _ _ _ σ 0 [(0, .ref t), (1, .int x1)] []
  unfold f_X9_uses at h
  refine ym 1 (fun B k => z_aload_n B dX9_uses_0 rfl 0 rfl k) ?_
  replace h := qv_e h
  obtain ⟨w1, e_w1, h⟩ := h
  have hq_w1 : rk σ w1 13 := rk_T hT hk_t rfl (by decide) e_w1
  refine ym 4 (fun B k => gf_X9_78 (x := w1) B hk_t e_w1 dX9_uses_1 k) ?_
  refine ym 5 (fun B k => z_iload_n B dX9_uses_4 rfl 1 rfl k) ?_
  replace h := bq_e h
  obtain ⟨a2, rfl, h⟩ := h
  have hk_a2 := hq_w1 a2 rfl
  replace h := ck_e h
  obtain ⟨hi_3, h⟩ := h
  refine ym 6 (fun B k => z_iald (j := (ti x1)) (x := (sx_I σ a2 (ti x1))) B hk_a2 rfl hi_3 rfl dX9_uses_5 k) ?_
  refine ym 7 (fun B k => z_istore_n (lv' := [(2, .int (sx_I σ a2 (ti x1))), (0, .ref t), (1, .int x1)]) B dX9_uses_6 rfl (by decide) rfl k) ?_
  refine ym 8 (fun B k => z_aload_n B dX9_uses_7 rfl 1 rfl k) ?_
  refine ym 9 (fun B k => z_dup B dX9_uses_8 rfl k) ?_
  refine ym 12 (fun B k => gf_X9_140 (x := (sx_I σ t 39)) B hk_t rfl dX9_uses_9 k) ?_
  refine ym 13 (fun B k => z_iconst (v := 1) B dX9_uses_12 (by decide) k) ?_
  refine ym 14 (fun B k => z_isub B dX9_uses_13 k) ?_
  have j4 := hk_t
  refine ymw (σ' := (wx_I σ t 39 ((sx_I σ t 39) - 1))) 17 e_I (fun B hin k => pf_X9_140 (x := ((sx_I σ t 39) - 1)) B hk_t rfl dX9_uses_14 k) ?_
  have hT := TS_I (k := 39) (x := ((sx_I σ t 39) - 1)) hT hk_t (Or.inl rfl)
  have hk_t := kk_I (σ := σ) (a := t) (k := 39) (x := ((sx_I σ t 39) - 1)) hk_t
  refine ym 18 (fun B k => z_iload_n B dX9_uses_17 rfl 2 rfl k) ?_
  refine ym 19 (fun B k => z_istore_n (lv' := [(3, .int x1), (2, .int (sx_I σ a2 (ti x1))), (0, .ref t), (1, .int x1)]) B dX9_uses_18 rfl (by decide) rfl k) ?_
  refine y_sub [(0, .ref t), (2, .int (sx_I σ a2 (ti x1))), (3, .int x1)] [2, 1, 0] rfl ?_
  exact tl_X9_uses_19 h hT hk_t
set_option maxRecDepth 100000 in
set_option maxHeartbeats 4000000 in
theorem tb_X9_comes_518 {l : Launch} {g : gx_T} {σ : sx_T} {u : sx_T} {As : Array Value} {n0 : Nat} {t : Nat} (h : fb_X9_comes_518 n0 σ t = some u) (hT : TS g σ) (hk_t : sx_K σ t = 11) : ZY l g cX9_comes RX9 "comes" none 9 1 23 0 0 false As (QM g As (Qxv g u)) (True) u σ 518 [(0, .ref t)] [] := by
  unfold fb_X9_comes_518 at h
  refine ym 519 (fun B k => z_aload_n B dX9_comes_518 rfl 0 rfl k) ?_
  refine ym 520 (fun B k => z_iconst (v := 0) B dX9_comes_519 (by decide) k) ?_
  have j1 := hk_t
  refine ymw (σ' := (wx_I σ t 30 0)) 523 e_I (fun B hin k => pf_X9_116 (x := 0) B hk_t rfl dX9_comes_520 k) ?_
  have hT := TS_I (k := 30) (x := 0) hT hk_t (Or.inl rfl)
  have hk_t := kk_I (σ := σ) (a := t) (k := 30) (x := 0) hk_t
  obtain rfl := Option.some.inj h
  exact yr_v hT trivial rfl dX9_comes_523
set_option maxRecDepth 100000 in
set_option maxHeartbeats 4000000 in
theorem tb_X9_comes_515 {l : Launch} {g : gx_T} {σ : sx_T} {u : sx_T} {As : Array Value} {n0 : Nat} {t : Nat} {y0 : Int32} (h : fb_X9_comes_515 n0 σ t y0 = some u) (hT : TS g σ) (hk_t : sx_K σ t = 11) : ZY l g cX9_comes RX9 "comes" none 9 1 23 0 0 false As (QM g As (Qxv g u)) (True) u σ 515 [(0, .ref t)] [.int y0, .ref t] := by
  unfold fb_X9_comes_515 at h
  have j1 := hk_t
  refine ymw (σ' := (wx_I σ t 36 y0)) 518 e_I (fun B hin k => pf_X9_131 (x := y0) B hk_t rfl dX9_comes_515 k) ?_
  have hT := TS_I (k := 36) (x := y0) hT hk_t (Or.inl rfl)
  have hk_t := kk_I (σ := σ) (a := t) (k := 36) (x := y0) hk_t
  refine y_sub [(0, .ref t)] [0] rfl ?_
  exact tb_X9_comes_518 h hT hk_t
set_option maxRecDepth 100000 in
set_option maxHeartbeats 4000000 in
theorem tb_X9_comes_496 {l : Launch} {g : gx_T} {σ : sx_T} {u : sx_T} {As : Array Value} {n0 : Nat} {t : Nat} {x7 : Int64} {y0 : Int32} (h : fb_X9_comes_496 n0 σ t x7 y0 = some u) (hT : TS g σ) (hk_t : sx_K σ t = 11) : ZY l g cX9_comes RX9 "comes" none 9 1 23 0 0 false As (QM g As (Qxv g u)) (True) u σ 496 [(0, .ref t), (7, .long x7)] [.int y0, .ref t] := by
  unfold fb_X9_comes_496 at h
  have j1 := hk_t
  refine ymw (σ' := (wx_I σ t 29 y0)) 499 e_I (fun B hin k => pf_X9_113 (x := y0) B hk_t rfl dX9_comes_496 k) ?_
  have hT := TS_I (k := 29) (x := y0) hT hk_t (Or.inl rfl)
  have hk_t := kk_I (σ := σ) (a := t) (k := 29) (x := y0) hk_t
  refine ym 500 (fun B k => z_aload_n B dX9_comes_499 rfl 0 rfl k) ?_
  refine ym 502 (fun B k => z_lload B dX9_comes_500 1 rfl k) ?_
  refine ym 503 (fun B k => z_lconst (v := 1) B dX9_comes_502 (by decide) k) ?_
  refine ym 504 (fun B k => z_lcmp (v := lg_cmp x7 1) B dX9_comes_503 rfl k) ?_
  by_cases c2 : (lg_cmp x7 1) = 0
  · replace h := ite_p c2 h
    refine ym 507 (fun B k => z_if_ne (tgt := 514) B dX9_comes_504 (by decide) (fun q => absurd c2 q) (fun _ => k)) ?_
    refine ym 508 (fun B k => z_aload_n B dX9_comes_507 rfl 0 rfl k) ?_
    refine ym 511 (fun B k => gf_X9_131 (x := (sx_I σ t 36)) B hk_t (rI_n (by decide) rfl) dX9_comes_508 k) ?_
    refine ym 515 (fun B k => z_goto (tgt := 515) B dX9_comes_511 (by decide) k) ?_
    refine y_sub [(0, .ref t)] [0] rfl ?_
    exact tb_X9_comes_515 h hT hk_t
  · replace h := ite_n c2 h
    refine ym 514 (fun B k => z_if_ne (tgt := 514) B dX9_comes_504 (by decide) (fun _ => k) (fun q => absurd q c2)) ?_
    refine ym 515 (fun B k => z_iconst (v := 2) B dX9_comes_514 (by decide) k) ?_
    refine y_sub [(0, .ref t)] [0] rfl ?_
    exact tb_X9_comes_515 h hT hk_t
set_option maxRecDepth 100000 in
set_option maxHeartbeats 4000000 in
theorem tb_X9_comes_470 {l : Launch} {g : gx_T} {σ : sx_T} {u : sx_T} {As : Array Value} {n0 : Nat} {t : Nat} {x3 : Int64} {y0 : Int64} (h : fb_X9_comes_470 n0 σ t x3 y0 = some u) (hT : TS g σ) (hk_t : sx_K σ t = 11) : ZY l g cX9_comes RX9 "comes" none 9 1 23 0 0 false As (QM g As (Qxv g u)) (True) u σ 470 [(0, .ref t), (3, .long x3)] [.long y0] := by
  unfold fb_X9_comes_470 at h
  refine ym 472 (fun B k => z_lstore (lv' := [(7, .long y0), (0, .ref t), (3, .long x3)]) B dX9_comes_470 (by decide) rfl k) ?_
  refine ym 473 (fun B k => z_aload_n B dX9_comes_472 rfl 1 rfl k) ?_
  refine ym 475 (fun B k => z_lload B dX9_comes_473 0 rfl k) ?_
  refine ym 476 (fun B k => z_lconst (v := 1) B dX9_comes_475 (by decide) k) ?_
  refine ym 477 (fun B k => z_lcmp (v := lg_cmp y0 1) B dX9_comes_476 rfl k) ?_
  by_cases c1 : (lg_cmp y0 1) = 0
  · replace h := ite_p c1 h
    refine ym 480 (fun B k => z_if_ne (tgt := 492) B dX9_comes_477 (by decide) (fun q => absurd c1 q) (fun _ => k)) ?_
    refine ym 481 (fun B k => z_lload_n B dX9_comes_480 rfl 2 rfl k) ?_
    refine ym 483 (fun B k => z_lload B dX9_comes_481 0 rfl k) ?_
    refine ym 484 (fun B k => z_lsub B dX9_comes_483 k) ?_
    refine ym 487 (fun B k => z_ldc2 (v := 10) B dX9_comes_484 wg_1247 k) ?_
    refine ym 488 (fun B k => z_ldiv B dX9_comes_487 (by decide) k) ?_
    refine ym 489 (fun B k => z_l2i (v := ((x3 - y0) / 10).toInt32) B dX9_comes_488 rfl k) ?_
    refine ym 496 (fun B k => z_goto (tgt := 496) B dX9_comes_489 (by decide) k) ?_
    refine y_sub [(0, .ref t), (7, .long y0)] [1, 0] rfl ?_
    exact tb_X9_comes_496 h hT hk_t
  · replace h := ite_n c1 h
    refine ym 492 (fun B k => z_if_ne (tgt := 492) B dX9_comes_477 (by decide) (fun _ => k) (fun q => absurd q c1)) ?_
    refine ym 493 (fun B k => z_aload_n B dX9_comes_492 rfl 1 rfl k) ?_
    refine ym 496 (fun B k => gf_X9_113 (x := (sx_I σ t 29)) B hk_t rfl dX9_comes_493 k) ?_
    refine y_sub [(0, .ref t), (7, .long y0)] [1, 0] rfl ?_
    exact tb_X9_comes_496 h hT hk_t
set_option maxRecDepth 100000 in
set_option maxHeartbeats 4000000 in
theorem tb_X9_comes_434 {l : Launch} {g : gx_T} {σ : sx_T} {u : sx_T} {As : Array Value} {n0 : Nat} {t : Nat} {x2 : Int32} {x3 : Int64} {y0 : Int32} (h : fb_X9_comes_434 n0 σ t x2 x3 y0 = some u) (hT : TS g σ) (hk_t : sx_K σ t = 11) : ZY l g cX9_comes RX9 "comes" none 9 1 23 0 0 false As (QM g As (Qxv g u)) (True) u σ 434 [(0, .ref t), (2, .int x2), (3, .long x3)] [.int y0, .ref t] := by
  unfold fb_X9_comes_434 at h
  have j1 := hk_t
  refine ymw (σ' := (wx_I σ t 36 y0)) 437 e_I (fun B hin k => pf_X9_131 (x := y0) B hk_t rfl dX9_comes_434 k) ?_
  have hT := TS_I (k := 36) (x := y0) hT hk_t (Or.inl rfl)
  have hk_t := kk_I (σ := σ) (a := t) (k := 36) (x := y0) hk_t
  refine ym 438 (fun B k => z_iload_n B dX9_comes_437 rfl 1 rfl k) ?_
  refine ym 440 (fun B k => z_bipush (v := 8) B dX9_comes_438 (by decide) k) ?_
  by_cases c2 : x2 = 8
  · replace h := ite_p c2 h
    refine ym 443 (fun B k => z_icmp_ne (tgt := 518) B dX9_comes_440 (by decide) (fun q => absurd c2 q) (fun _ => k)) ?_
    refine ym 444 (fun B k => z_lload_n B dX9_comes_443 rfl 2 rfl k) ?_
    refine ym 447 (fun B k => z_ldc2 (v := 10) B dX9_comes_444 wg_1247 k) ?_
    refine ym 448 (fun B k => z_lrem B dX9_comes_447 (by decide) k) ?_
    refine ym 449 (fun B k => z_lconst (v := 0) B dX9_comes_448 (by decide) k) ?_
    refine ym 450 (fun B k => z_lcmp (v := lg_cmp (jreml x3 10) 0) B dX9_comes_449 rfl k) ?_
    by_cases c3 : 0 ≤ (lg_cmp (jreml x3 10) 0)
    · replace h := ite_p c3 h
      refine ym 465 (fun B k => z_if_ge (tgt := 465) B dX9_comes_450 (by decide) (fun _ => k) (fun q => absurd c3 q)) ?_
      refine ym 466 (fun B k => z_lload_n B dX9_comes_465 rfl 2 rfl k) ?_
      refine ym 469 (fun B k => z_ldc2 (v := 10) B dX9_comes_466 wg_1247 k) ?_
      refine ym 470 (fun B k => z_lrem B dX9_comes_469 (by decide) k) ?_
      refine y_sub [(0, .ref t), (3, .long x3)] [0, 2] rfl ?_
      exact tb_X9_comes_470 h hT hk_t
    · replace h := ite_n c3 h
      refine ym 453 (fun B k => z_if_ge (tgt := 465) B dX9_comes_450 (by decide) (fun q => absurd q c3) (fun _ => k)) ?_
      refine ym 454 (fun B k => z_lload_n B dX9_comes_453 rfl 2 rfl k) ?_
      refine ym 457 (fun B k => z_ldc2 (v := 10) B dX9_comes_454 wg_1247 k) ?_
      refine ym 458 (fun B k => z_lrem B dX9_comes_457 (by decide) k) ?_
      refine ym 461 (fun B k => z_ldc2 (v := 10) B dX9_comes_458 wg_1247 k) ?_
      refine ym 462 (fun B k => z_ladd B dX9_comes_461 k) ?_
      refine ym 470 (fun B k => z_goto (tgt := 470) B dX9_comes_462 (by decide) k) ?_
      refine y_sub [(0, .ref t), (3, .long x3)] [0, 2] rfl ?_
      exact tb_X9_comes_470 h hT hk_t
  · replace h := ite_n c2 h
    refine ym 518 (fun B k => z_icmp_ne (tgt := 518) B dX9_comes_440 (by decide) (fun _ => k) (fun q => absurd q c2)) ?_
    refine y_sub [(0, .ref t)] [0] rfl ?_
    exact tb_X9_comes_518 h hT hk_t
set_option maxRecDepth 100000 in
set_option maxHeartbeats 4000000 in
theorem tb_X9_comes_430 {l : Launch} {g : gx_T} {σ : sx_T} {u : sx_T} {As : Array Value} {n0 : Nat} {t : Nat} {x2 : Int32} {x3 : Int64} (h : fb_X9_comes_430 n0 σ t x2 x3 = some u) (hT : TS g σ) (hk_t : sx_K σ t = 11) : ZY l g cX9_comes RX9 "comes" none 9 1 23 0 0 false As (QM g As (Qxv g u)) (True) u σ 430 [(0, .ref t), (2, .int x2), (3, .long x3)] [.ref t] := by
  unfold fb_X9_comes_430 at h
  refine ym 431 (fun B k => z_aload_n B dX9_comes_430 rfl 0 rfl k) ?_
  refine ym 434 (fun B k => gf_X9_131 (x := (sx_I σ t 36)) B hk_t rfl dX9_comes_431 k) ?_
  refine y_sub [(0, .ref t), (2, .int x2), (3, .long x3)] [0, 1, 2] rfl ?_
  exact tb_X9_comes_434 h hT hk_t
set_option maxRecDepth 100000 in
set_option maxHeartbeats 4000000 in
theorem tb_X9_comes_409 {l : Launch} {g : gx_T} {σ : sx_T} {u : sx_T} {As : Array Value} {n0 : Nat} {t : Nat} {x2 : Int32} {x3 : Int64} {y0 : Int32} (h : fb_X9_comes_409 n0 σ t x2 x3 y0 = some u) (hT : TS g σ) (hk_t : sx_K σ t = 11) : ZY l g cX9_comes RX9 "comes" none 9 1 23 0 0 false As (QM g As (Qxv g u)) (True) u σ 409 [(0, .ref t), (2, .int x2), (3, .long x3)] [.int y0, .ref t] := by
  unfold fb_X9_comes_409 at h
  have j1 := hk_t
  refine ymw (σ' := (wx_I σ t 29 y0)) 412 e_I (fun B hin k => pf_X9_113 (x := y0) B hk_t rfl dX9_comes_409 k) ?_
  have hT := TS_I (k := 29) (x := y0) hT hk_t (Or.inl rfl)
  have hk_t := kk_I (σ := σ) (a := t) (k := 29) (x := y0) hk_t
  refine ym 413 (fun B k => z_aload_n B dX9_comes_412 rfl 0 rfl k) ?_
  refine ym 414 (fun B k => z_iload_n B dX9_comes_413 rfl 1 rfl k) ?_
  refine ym 415 (fun B k => z_iconst (v := 3) B dX9_comes_414 (by decide) k) ?_
  by_cases c2 : x2 = 3
  · replace h := ite_p c2 h
    refine ym 418 (fun B k => z_icmp_ne (tgt := 430) B dX9_comes_415 (by decide) (fun q => absurd c2 q) (fun _ => k)) ?_
    refine ym 419 (fun B k => z_aload_n B dX9_comes_418 rfl 0 rfl k) ?_
    refine ym 422 (fun B k => gf_X9_116 (x := (sx_I σ t 30)) B hk_t (rI_n (by decide) rfl) dX9_comes_419 k) ?_
    refine ym 423 (fun B k => z_iconst (v := 1) B dX9_comes_422 (by decide) k) ?_
    by_cases c3 : (sx_I σ t 30) = 1
    · replace h := ite_p c3 h
      refine ym 426 (fun B k => z_icmp_ne (tgt := 430) B dX9_comes_423 (by decide) (fun q => absurd c3 q) (fun _ => k)) ?_
      refine ym 427 (fun B k => z_iconst (v := 2) B dX9_comes_426 (by decide) k) ?_
      refine ym 434 (fun B k => z_goto (tgt := 434) B dX9_comes_427 (by decide) k) ?_
      refine y_sub [(0, .ref t), (2, .int x2), (3, .long x3)] [0, 1, 2] rfl ?_
      exact tb_X9_comes_434 h hT hk_t
    · replace h := ite_n c3 h
      refine ym 430 (fun B k => z_icmp_ne (tgt := 430) B dX9_comes_423 (by decide) (fun _ => k) (fun q => absurd q c3)) ?_
      refine y_sub [(0, .ref t), (2, .int x2), (3, .long x3)] [0, 1, 2] rfl ?_
      exact tb_X9_comes_430 h hT hk_t
  · replace h := ite_n c2 h
    refine ym 430 (fun B k => z_icmp_ne (tgt := 430) B dX9_comes_415 (by decide) (fun _ => k) (fun q => absurd q c2)) ?_
    refine y_sub [(0, .ref t), (2, .int x2), (3, .long x3)] [0, 1, 2] rfl ?_
    exact tb_X9_comes_430 h hT hk_t
set_option maxRecDepth 100000 in
set_option maxHeartbeats 4000000 in
theorem tb_X9_comes_405 {l : Launch} {g : gx_T} {σ : sx_T} {u : sx_T} {As : Array Value} {n0 : Nat} {t : Nat} {x2 : Int32} {x3 : Int64} (h : fb_X9_comes_405 n0 σ t x2 x3 = some u) (hT : TS g σ) (hk_t : sx_K σ t = 11) : ZY l g cX9_comes RX9 "comes" none 9 1 23 0 0 false As (QM g As (Qxv g u)) (True) u σ 405 [(0, .ref t), (2, .int x2), (3, .long x3)] [.ref t] := by
  unfold fb_X9_comes_405 at h
  refine ym 406 (fun B k => z_aload_n B dX9_comes_405 rfl 0 rfl k) ?_
  refine ym 409 (fun B k => gf_X9_113 (x := (sx_I σ t 29)) B hk_t rfl dX9_comes_406 k) ?_
  refine y_sub [(0, .ref t), (2, .int x2), (3, .long x3)] [0, 1, 2] rfl ?_
  exact tb_X9_comes_409 h hT hk_t
set_option maxRecDepth 100000 in
set_option maxHeartbeats 4000000 in
theorem tb_X9_comes_388 {l : Launch} {g : gx_T} {σ : sx_T} {u : sx_T} {As : Array Value} {n0 : Nat} {t : Nat} {x2 : Int32} {x3 : Int64} (h : fb_X9_comes_388 n0 σ t x2 x3 = some u) (hT : TS g σ) (hk_t : sx_K σ t = 11) : ZY l g cX9_comes RX9 "comes" none 9 1 23 0 0 false As (QM g As (Qxv g u)) (True) u σ 388 [(0, .ref t), (2, .int x2), (3, .long x3)] [.ref t] := by
  unfold fb_X9_comes_388 at h
  refine ym 389 (fun B k => z_iload_n B dX9_comes_388 rfl 1 rfl k) ?_
  refine ym 390 (fun B k => z_iconst (v := 5) B dX9_comes_389 (by decide) k) ?_
  by_cases c1 : x2 = 5
  · replace h := ite_p c1 h
    refine ym 393 (fun B k => z_icmp_ne (tgt := 405) B dX9_comes_390 (by decide) (fun q => absurd c1 q) (fun _ => k)) ?_
    refine ym 394 (fun B k => z_aload_n B dX9_comes_393 rfl 0 rfl k) ?_
    refine ym 397 (fun B k => gf_X9_116 (x := (sx_I σ t 30)) B hk_t rfl dX9_comes_394 k) ?_
    refine ym 398 (fun B k => z_iconst (v := 4) B dX9_comes_397 (by decide) k) ?_
    by_cases c2 : (sx_I σ t 30) = 4
    · replace h := ite_p c2 h
      refine ym 401 (fun B k => z_icmp_ne (tgt := 405) B dX9_comes_398 (by decide) (fun q => absurd c2 q) (fun _ => k)) ?_
      refine ym 402 (fun B k => z_iconst (v := 0) B dX9_comes_401 (by decide) k) ?_
      refine ym 409 (fun B k => z_goto (tgt := 409) B dX9_comes_402 (by decide) k) ?_
      refine y_sub [(0, .ref t), (2, .int x2), (3, .long x3)] [0, 1, 2] rfl ?_
      exact tb_X9_comes_409 h hT hk_t
    · replace h := ite_n c2 h
      refine ym 405 (fun B k => z_icmp_ne (tgt := 405) B dX9_comes_398 (by decide) (fun _ => k) (fun q => absurd q c2)) ?_
      refine y_sub [(0, .ref t), (2, .int x2), (3, .long x3)] [0, 1, 2] rfl ?_
      exact tb_X9_comes_405 h hT hk_t
  · replace h := ite_n c1 h
    refine ym 405 (fun B k => z_icmp_ne (tgt := 405) B dX9_comes_390 (by decide) (fun _ => k) (fun q => absurd q c1)) ?_
    refine y_sub [(0, .ref t), (2, .int x2), (3, .long x3)] [0, 1, 2] rfl ?_
    exact tb_X9_comes_405 h hT hk_t
set_option maxRecDepth 100000 in
set_option maxHeartbeats 4000000 in
theorem tb_X9_comes_356 {l : Launch} {g : gx_T} {σ : sx_T} {u : sx_T} {As : Array Value} {n0 : Nat} {t : Nat} (h : fb_X9_comes_356 n0 σ t = some u) (hT : TS g σ) (hk_t : sx_K σ t = 11) : ZY l g cX9_comes RX9 "comes" none 9 1 23 0 0 false As (QM g As (Qxv g u)) (True) u σ 356 [(0, .ref t)] [] := by
  unfold fb_X9_comes_356 at h
  refine ym 357 (fun B k => z_aload_n B dX9_comes_356 rfl 0 rfl k) ?_
  refine ym 358 (fun B k => z_iconst (v := 0) B dX9_comes_357 (by decide) k) ?_
  have j1 := hk_t
  refine ymw (σ' := (wx_I σ t 30 0)) 361 e_I (fun B hin k => pf_X9_116 (x := 0) B hk_t rfl dX9_comes_358 k) ?_
  have hT := TS_I (k := 30) (x := 0) hT hk_t (Or.inl rfl)
  have hk_t := kk_I (σ := σ) (a := t) (k := 30) (x := 0) hk_t
  refine ym 362 (fun B k => z_aload_n B dX9_comes_361 rfl 0 rfl k) ?_
  refine ym 363 (fun B k => z_iconst (v := 3) B dX9_comes_362 (by decide) k) ?_
  have j2 := hk_t
  refine ymw (σ' := (wx_I (wx_I σ t 30 0) t 36 3)) 366 e_I (fun B hin k => pf_X9_131 (x := 3) B hk_t rfl dX9_comes_363 k) ?_
  have hT := TS_I (k := 36) (x := 3) hT hk_t (Or.inl rfl)
  have hk_t := kk_I (σ := (wx_I σ t 30 0)) (a := t) (k := 36) (x := 3) hk_t
  refine ym 523 (fun B k => z_goto (tgt := 523) B dX9_comes_366 (by decide) k) ?_
  obtain rfl := Option.some.inj h
  exact yr_v hT trivial rfl dX9_comes_523
set_option maxRecDepth 100000 in
set_option maxHeartbeats 4000000 in
theorem tb_X9_comes_256 {l : Launch} {g : gx_T} {σ : sx_T} {u : sx_T} {As : Array Value} {n0 : Nat} {t : Nat} {y0 : Int32} (h : fb_X9_comes_256 n0 σ t y0 = some u) (hT : TS g σ) (hk_t : sx_K σ t = 11) : ZY l g cX9_comes RX9 "comes" none 9 1 23 0 0 false As (QM g As (Qxv g u)) (True) u σ 256 [(0, .ref t)] [.int y0, .ref t] := by
  unfold fb_X9_comes_256 at h
  have j1 := hk_t
  refine ymw (σ' := (wx_I σ t 29 y0)) 259 e_I (fun B hin k => pf_X9_113 (x := y0) B hk_t rfl dX9_comes_256 k) ?_
  have hT := TS_I (k := 29) (x := y0) hT hk_t (Or.inl rfl)
  have hk_t := kk_I (σ := σ) (a := t) (k := 29) (x := y0) hk_t
  refine ym 260 (fun B k => z_aload_n B dX9_comes_259 rfl 0 rfl k) ?_
  refine ym 261 (fun B k => z_iconst (v := 0) B dX9_comes_260 (by decide) k) ?_
  have j2 := hk_t
  refine ymw (σ' := (wx_I (wx_I σ t 29 y0) t 30 0)) 264 e_I (fun B hin k => pf_X9_116 (x := 0) B hk_t rfl dX9_comes_261 k) ?_
  have hT := TS_I (k := 30) (x := 0) hT hk_t (Or.inl rfl)
  have hk_t := kk_I (σ := (wx_I σ t 29 y0)) (a := t) (k := 30) (x := 0) hk_t
  refine ym 523 (fun B k => z_goto (tgt := 523) B dX9_comes_264 (by decide) k) ?_
  obtain rfl := Option.some.inj h
  exact yr_v hT trivial rfl dX9_comes_523
set_option maxRecDepth 100000 in
set_option maxHeartbeats 4000000 in
theorem tb_X9_comes_213 {l : Launch} {g : gx_T} {σ : sx_T} {u : sx_T} {As : Array Value} {n0 : Nat} {t : Nat} {x3 : Int64} (h : fb_X9_comes_213 n0 σ t x3 = some u) (hT : TS g σ) (hk_t : sx_K σ t = 11) : ZY l g cX9_comes RX9 "comes" none 9 1 23 0 0 false As (QM g As (Qxv g u)) (True) u σ 213 [(0, .ref t), (3, .long x3)] [] := by
  unfold fb_X9_comes_213 at h
  refine ym 214 (fun B k => z_lload_n B dX9_comes_213 rfl 1 rfl k) ?_
  refine ym 217 (fun B k => z_ldc2 (v := 100) B dX9_comes_214 wg_1238 k) ?_
  refine ym 218 (fun B k => z_ldiv B dX9_comes_217 (by decide) k) ?_
  refine ym 219 (fun B k => z_aload_n B dX9_comes_218 rfl 0 rfl k) ?_
  refine ym 222 (fun B k => gf_X9_119 (x := (sx_I σ t 31)) B hk_t rfl dX9_comes_219 k) ?_
  refine ym 223 (fun B k => z_i2l (v := (sx_I σ t 31).toInt64) B dX9_comes_222 rfl k) ?_
  refine ym 224 (fun B k => z_lcmp (v := lg_cmp (x3 / 100) ((sx_I σ t 31).toInt64)) B dX9_comes_223 rfl k) ?_
  by_cases c1 : (lg_cmp (x3 / 100) ((sx_I σ t 31).toInt64)) = 0
  · replace h := ite_p c1 h
    refine ym 227 (fun B k => z_if_ne (tgt := 523) B dX9_comes_224 (by decide) (fun q => absurd c1 q) (fun _ => k)) ?_
    refine ym 228 (fun B k => z_aload_n B dX9_comes_227 rfl 0 rfl k) ?_
    refine ym 229 (fun B k => z_aload_n B dX9_comes_228 rfl 0 rfl k) ?_
    refine ym 230 (fun B k => z_aload_n B dX9_comes_229 rfl 0 rfl k) ?_
    refine ym 233 (fun B k => gf_X9_119 (x := (sx_I σ t 31)) B hk_t rfl dX9_comes_230 k) ?_
    replace h := br_e h
    obtain ⟨r3, h2, h⟩ := h
    have m4 := ct_X9_keptOf l (g := g) h2 hT hk_t
    refine yc_Vi (Al := [.int (sx_I σ t 31)]) (rest := [.ref t]) 236 rfl cw_X9_149 cx_10 dX9_comes_233 m4 hk_t rfl (by decide) rfl (Nat.le_of_ble_eq_true rfl) ?_
    replace h := bd_e h
    obtain ⟨r6, u7, h5, h⟩ := h
    have m8 := ct_X9_uses l (g := g) h5 hT hk_t
    refine yc_Vi (Al := [.int r3]) (rest := []) 239 rfl cw_X9_153 cx_10 dX9_comes_236 m8 hk_t rfl (by decide) rfl (Nat.le_of_ble_eq_true rfl) ?_
    have hk_t := k_G m8.1.1 (by decide) hk_t
    have hT := m8.1.1.2.2.2
    refine ym 241 (fun B k => z_istore (lv' := [(7, .int r6), (0, .ref t), (3, .long x3)]) B dX9_comes_239 (by decide) rfl k) ?_
    refine ym 242 (fun B k => z_aload_n B dX9_comes_241 rfl 1 rfl k) ?_
    refine ym 243 (fun B k => z_aload_n B dX9_comes_242 rfl 1 rfl k) ?_
    refine ym 246 (fun B k => gf_X9_116 (x := (sx_I u7 t 30)) B hk_t rfl dX9_comes_243 k) ?_
    refine ym 247 (fun B k => z_iconst (v := 4) B dX9_comes_246 (by decide) k) ?_
    by_cases c9 : (sx_I u7 t 30) = 4
    · replace h := ite_p c9 h
      refine ym 250 (fun B k => z_icmp_ne (tgt := 254) B dX9_comes_247 (by decide) (fun q => absurd c9 q) (fun _ => k)) ?_
      refine ym 251 (fun B k => z_iconst (v := 1) B dX9_comes_250 (by decide) k) ?_
      refine ym 256 (fun B k => z_goto (tgt := 256) B dX9_comes_251 (by decide) k) ?_
      refine y_sub [(0, .ref t)] [1] rfl ?_
      exact tb_X9_comes_256 h hT hk_t
    · replace h := ite_n c9 h
      refine ym 254 (fun B k => z_icmp_ne (tgt := 254) B dX9_comes_247 (by decide) (fun _ => k) (fun q => absurd q c9)) ?_
      refine ym 256 (fun B k => z_iload B dX9_comes_254 0 rfl k) ?_
      refine y_sub [(0, .ref t)] [1] rfl ?_
      exact tb_X9_comes_256 h hT hk_t
  · replace h := ite_n c1 h
    refine ym 523 (fun B k => z_if_ne (tgt := 523) B dX9_comes_224 (by decide) (fun _ => k) (fun q => absurd q c1)) ?_
    obtain rfl := Option.some.inj h
    exact yr_v hT trivial rfl dX9_comes_523
set_option maxRecDepth 100000 in
set_option maxHeartbeats 4000000 in
theorem tb_X9_comes_136 {l : Launch} {g : gx_T} {σ : sx_T} {u : sx_T} {As : Array Value} {n0 : Nat} {t : Nat} {x1 : Int32} {x2 : Int32} {x3 : Int64} (h : fb_X9_comes_136 n0 σ t x1 x2 x3 = some u) (hT : TS g σ) (hk_t : sx_K σ t = 11) : ZY l g cX9_comes RX9 "comes" none 9 1 23 0 0 false As (QM g As (Qxv g u)) (True) u σ 136 [(0, .ref t), (1, .int x1), (2, .int x2), (3, .long x3)] [] := by
  unfold fb_X9_comes_136 at h
  refine ym 137 (fun B k => z_aload_n B dX9_comes_136 rfl 0 rfl k) ?_
  refine ym 138 (fun B k => z_dup B dX9_comes_137 rfl k) ?_
  refine ym 141 (fun B k => gf_X9_107 (x := (sx_I σ t 27)) B hk_t rfl dX9_comes_138 k) ?_
  refine ym 142 (fun B k => z_iconst (v := 1) B dX9_comes_141 (by decide) k) ?_
  refine ym 143 (fun B k => z_iadd B dX9_comes_142 k) ?_
  have j1 := hk_t
  refine ymw (σ' := (wx_I σ t 27 ((sx_I σ t 27) + 1))) 146 e_I (fun B hin k => pf_X9_107 (x := ((sx_I σ t 27) + 1)) B hk_t rfl dX9_comes_143 k) ?_
  have hT := TS_I (k := 27) (x := ((sx_I σ t 27) + 1)) hT hk_t (Or.inl rfl)
  have hk_t := kk_I (σ := σ) (a := t) (k := 27) (x := ((sx_I σ t 27) + 1)) hk_t
  refine ym 147 (fun B k => z_aload_n B dX9_comes_146 rfl 0 rfl k) ?_
  refine ym 148 (fun B k => z_iconst (v := 0) B dX9_comes_147 (by decide) k) ?_
  have j2 := hk_t
  refine ymw (σ' := (wx_I (wx_I σ t 27 ((sx_I σ t 27) + 1)) t 38 0)) 151 e_I (fun B hin k => pf_X9_137 (x := 0) B hk_t rfl dX9_comes_148 k) ?_
  have hT := TS_I (k := 38) (x := 0) hT hk_t (Or.inl rfl)
  have hk_t := kk_I (σ := (wx_I σ t 27 ((sx_I σ t 27) + 1))) (a := t) (k := 38) (x := 0) hk_t
  refine ym 152 (fun B k => z_iload_n B dX9_comes_151 rfl 2 rfl k) ?_
  refine ym 154 (fun B k => z_bipush (v := 6) B dX9_comes_152 (by decide) k) ?_
  by_cases c3 : x2 = 6
  · replace h := ite_p c3 h
    refine ym 157 (fun B k => z_icmp_ne (tgt := 267) B dX9_comes_154 (by decide) (fun q => absurd c3 q) (fun _ => k)) ?_
    refine ym 158 (fun B k => z_aload_n B dX9_comes_157 rfl 0 rfl k) ?_
    replace h := qv_e h
    obtain ⟨w4, e_w4, h⟩ := h
    have hq_w4 : rk (wx_I (wx_I σ t 27 ((sx_I σ t 27) + 1)) t 38 0) w4 13 := rk_T hT hk_t rfl (by decide) ((rR_I (rR_I rfl)).trans e_w4)
    refine ym 161 (fun B k => gf_X9_75 (x := w4) B hk_t ((rR_I (rR_I rfl)).trans e_w4) dX9_comes_158 k) ?_
    refine ym 162 (fun B k => z_aload_n B dX9_comes_161 rfl 0 rfl k) ?_
    refine ym 165 (fun B k => gf_X9_140 (x := (sx_I σ t 39)) B hk_t (rI_n (by decide) (rI_n (by decide) rfl)) dX9_comes_162 k) ?_
    refine ym 166 (fun B k => z_lload_n B dX9_comes_165 rfl 3 rfl k) ?_
    refine ym 169 (fun B k => z_ldc2 (v := 100) B dX9_comes_166 wg_1238 k) ?_
    refine ym 170 (fun B k => z_ldiv B dX9_comes_169 (by decide) k) ?_
    refine ym 171 (fun B k => z_l2i (v := (x3 / 100).toInt32) B dX9_comes_170 rfl k) ?_
    replace h := bq_e h
    obtain ⟨a5, rfl, h⟩ := h
    have hk_a5 := hq_w4 a5 rfl
    replace h := ck_e h
    obtain ⟨hi_6, h⟩ := h
    have j7 := hk_a5
    refine ymw (σ' := (wx_I (wx_I (wx_I σ t 27 ((sx_I σ t 27) + 1)) t 38 0) a5 (ti (sx_I σ t 39)) ((x3 / 100).toInt32))) 172 e_I (fun B _ k => z_iast (j := (ti (sx_I σ t 39))) B hk_a5 rfl hi_6 rfl dX9_comes_171 k) ?_
    have hT := TS_I (k := (ti (sx_I σ t 39))) (x := ((x3 / 100).toInt32)) hT hk_a5 (Or.inl rfl)
    have hk_t := kk_I (σ := (wx_I (wx_I σ t 27 ((sx_I σ t 27) + 1)) t 38 0)) (a := a5) (k := (ti (sx_I σ t 39))) (x := ((x3 / 100).toInt32)) hk_t
    refine ym 173 (fun B k => z_aload_n B dX9_comes_172 rfl 0 rfl k) ?_
    replace h := qv_e h
    obtain ⟨w8, e_w8, h⟩ := h
    have hq_w8 : rk (wx_I (wx_I (wx_I σ t 27 ((sx_I σ t 27) + 1)) t 38 0) a5 (ti (sx_I σ t 39)) ((x3 / 100).toInt32)) w8 13 := rk_T hT hk_t rfl (by decide) ((rR_I (rR_I (rR_I rfl))).trans e_w8)
    refine ym 176 (fun B k => gf_X9_78 (x := w8) B hk_t ((rR_I (rR_I (rR_I rfl))).trans e_w8) dX9_comes_173 k) ?_
    refine ym 177 (fun B k => z_aload_n B dX9_comes_176 rfl 0 rfl k) ?_
    refine ym 180 (fun B k => gf_X9_140 (x := (sx_I σ t 39)) B hk_t (rI_k (by decide) j7 (kd_I hk_t) (rI_n (by decide) (rI_n (by decide) rfl))) dX9_comes_177 k) ?_
    refine ym 181 (fun B k => z_lload_n B dX9_comes_180 rfl 3 rfl k) ?_
    refine ym 184 (fun B k => z_ldc2 (v := 100) B dX9_comes_181 wg_1238 k) ?_
    refine ym 185 (fun B k => z_lrem B dX9_comes_184 (by decide) k) ?_
    refine ym 186 (fun B k => z_l2i (v := (jreml x3 100).toInt32) B dX9_comes_185 rfl k) ?_
    replace h := bq_e h
    obtain ⟨a9, rfl, h⟩ := h
    have hk_a9 := hq_w8 a9 rfl
    replace h := ck_e h
    obtain ⟨hi_10, h⟩ := h
    have j11 := hk_a9
    refine ymw (σ' := (wx_I (wx_I (wx_I (wx_I σ t 27 ((sx_I σ t 27) + 1)) t 38 0) a5 (ti (sx_I σ t 39)) ((x3 / 100).toInt32)) a9 (ti (sx_I σ t 39)) ((jreml x3 100).toInt32))) 187 e_I (fun B _ k => z_iast (j := (ti (sx_I σ t 39))) B hk_a9 rfl hi_10 rfl dX9_comes_186 k) ?_
    have hT := TS_I (k := (ti (sx_I σ t 39))) (x := ((jreml x3 100).toInt32)) hT hk_a9 (Or.inl rfl)
    have hk_t := kk_I (σ := (wx_I (wx_I (wx_I σ t 27 ((sx_I σ t 27) + 1)) t 38 0) a5 (ti (sx_I σ t 39)) ((x3 / 100).toInt32))) (a := a9) (k := (ti (sx_I σ t 39))) (x := ((jreml x3 100).toInt32)) hk_t
    refine ym 188 (fun B k => z_aload_n B dX9_comes_187 rfl 0 rfl k) ?_
    refine ym 189 (fun B k => z_dup B dX9_comes_188 rfl k) ?_
    refine ym 192 (fun B k => gf_X9_140 (x := (sx_I σ t 39)) B hk_t (rI_k (by decide) j11 (kd_I hk_t) (rI_k (by decide) j7 (kd_I (kd_I hk_t)) (rI_n (by decide) (rI_n (by decide) rfl)))) dX9_comes_189 k) ?_
    refine ym 193 (fun B k => z_iconst (v := 1) B dX9_comes_192 (by decide) k) ?_
    refine ym 194 (fun B k => z_iadd B dX9_comes_193 k) ?_
    have j12 := hk_t
    refine ymw (σ' := (wx_I (wx_I (wx_I (wx_I (wx_I σ t 27 ((sx_I σ t 27) + 1)) t 38 0) a5 (ti (sx_I σ t 39)) ((x3 / 100).toInt32)) a9 (ti (sx_I σ t 39)) ((jreml x3 100).toInt32)) t 39 ((sx_I σ t 39) + 1))) 197 e_I (fun B hin k => pf_X9_140 (x := ((sx_I σ t 39) + 1)) B hk_t rfl dX9_comes_194 k) ?_
    have hT := TS_I (k := 39) (x := ((sx_I σ t 39) + 1)) hT hk_t (Or.inl rfl)
    have hk_t := kk_I (σ := (wx_I (wx_I (wx_I (wx_I σ t 27 ((sx_I σ t 27) + 1)) t 38 0) a5 (ti (sx_I σ t 39)) ((x3 / 100).toInt32)) a9 (ti (sx_I σ t 39)) ((jreml x3 100).toInt32))) (a := t) (k := 39) (x := ((sx_I σ t 39) + 1)) hk_t
    refine ym 198 (fun B k => z_aload_n B dX9_comes_197 rfl 0 rfl k) ?_
    refine ym 201 (fun B k => gf_X9_116 (x := (sx_I σ t 30)) B hk_t (rI_n (by decide) (rI_k (by decide) j11 (kd_I (kd_I hk_t)) (rI_k (by decide) j7 (kd_I (kd_I (kd_I hk_t))) (rI_n (by decide) (rI_n (by decide) rfl))))) dX9_comes_198 k) ?_
    refine ym 202 (fun B k => z_iconst (v := 3) B dX9_comes_201 (by decide) k) ?_
    by_cases c13 : (sx_I σ t 30) = 3
    · replace h := ite_p c13 h
      refine ym 213 (fun B k => z_icmp_eq (tgt := 213) B dX9_comes_202 (by decide) (fun _ => k) (fun q => absurd c13 q)) ?_
      refine y_sub [(0, .ref t), (3, .long x3)] [0, 3] rfl ?_
      exact tb_X9_comes_213 h hT hk_t
    · replace h := ite_n c13 h
      refine ym 205 (fun B k => z_icmp_eq (tgt := 213) B dX9_comes_202 (by decide) (fun q => absurd q c13) (fun _ => k)) ?_
      refine ym 206 (fun B k => z_aload_n B dX9_comes_205 rfl 0 rfl k) ?_
      refine ym 209 (fun B k => gf_X9_116 (x := (sx_I σ t 30)) B hk_t (rI_n (by decide) (rI_k (by decide) j11 (kd_I (kd_I hk_t)) (rI_k (by decide) j7 (kd_I (kd_I (kd_I hk_t))) (rI_n (by decide) (rI_n (by decide) rfl))))) dX9_comes_206 k) ?_
      refine ym 210 (fun B k => z_iconst (v := 4) B dX9_comes_209 (by decide) k) ?_
      by_cases c14 : (sx_I σ t 30) = 4
      · replace h := ite_p c14 h
        refine ym 213 (fun B k => z_icmp_ne (tgt := 523) B dX9_comes_210 (by decide) (fun q => absurd c14 q) (fun _ => k)) ?_
        refine y_sub [(0, .ref t), (3, .long x3)] [0, 3] rfl ?_
        exact tb_X9_comes_213 h hT hk_t
      · replace h := ite_n c14 h
        refine ym 523 (fun B k => z_icmp_ne (tgt := 523) B dX9_comes_210 (by decide) (fun _ => k) (fun q => absurd q c14)) ?_
        obtain rfl := Option.some.inj h
        exact yr_v hT trivial rfl dX9_comes_523
  · replace h := ite_n c3 h
    refine ym 267 (fun B k => z_icmp_ne (tgt := 267) B dX9_comes_154 (by decide) (fun _ => k) (fun q => absurd q c3)) ?_
    refine ym 268 (fun B k => z_iload_n B dX9_comes_267 rfl 2 rfl k) ?_
    refine ym 270 (fun B k => z_bipush (v := 12) B dX9_comes_268 (by decide) k) ?_
    by_cases c15 : x2 = 12
    · replace h := ite_p c15 h
      refine ym 273 (fun B k => z_icmp_ne (tgt := 369) B dX9_comes_270 (by decide) (fun q => absurd c15 q) (fun _ => k)) ?_
      refine ym 274 (fun B k => z_aload_n B dX9_comes_273 rfl 0 rfl k) ?_
      refine ym 277 (fun B k => gf_X9_125 (x := (sx_I σ t 34)) B hk_t (rI_n (by decide) (rI_n (by decide) rfl)) dX9_comes_274 k) ?_
      by_cases c16 : (sx_I σ t 34) = 0
      · replace h := ite_p c16 h
        refine ym 288 (fun B k => z_if_eq (tgt := 288) B dX9_comes_277 (by decide) (fun _ => k) (fun q => absurd c16 q)) ?_
        refine ym 289 (fun B k => z_aload_n B dX9_comes_288 rfl 0 rfl k) ?_
        refine ym 292 (fun B k => gf_X9_131 (x := (sx_I σ t 36)) B hk_t (rI_n (by decide) (rI_n (by decide) rfl)) dX9_comes_289 k) ?_
        by_cases c17 : (sx_I σ t 36) = 0
        · replace h := ite_p c17 h
          refine ym 295 (fun B k => z_if_ne (tgt := 523) B dX9_comes_292 (by decide) (fun q => absurd c17 q) (fun _ => k)) ?_
          refine ym 296 (fun B k => z_aload_n B dX9_comes_295 rfl 0 rfl k) ?_
          refine ym 299 (fun B k => gf_X9_116 (x := (sx_I σ t 30)) B hk_t (rI_n (by decide) (rI_n (by decide) rfl)) dX9_comes_296 k) ?_
          refine ym 300 (fun B k => z_iconst (v := 5) B dX9_comes_299 (by decide) k) ?_
          by_cases c18 : (sx_I σ t 30) = 5
          · replace h := ite_p c18 h
            refine ym 303 (fun B k => z_icmp_ne (tgt := 356) B dX9_comes_300 (by decide) (fun q => absurd c18 q) (fun _ => k)) ?_
            refine ym 304 (fun B k => z_aload_n B dX9_comes_303 rfl 0 rfl k) ?_
            refine ym 307 (fun B k => gf_X9_156 (x := (sx_I σ t 47)) B hk_t (rI_n (by decide) (rI_n (by decide) rfl)) dX9_comes_304 k) ?_
            by_cases c19 : (sx_I σ t 47) = 0
            · replace h := ite_p c19 h
              refine ym 356 (fun B k => z_if_eq (tgt := 356) B dX9_comes_307 (by decide) (fun _ => k) (fun q => absurd c19 q)) ?_
              refine y_sub [(0, .ref t)] [0] rfl ?_
              exact tb_X9_comes_356 h hT hk_t
            · replace h := ite_n c19 h
              refine ym 310 (fun B k => z_if_eq (tgt := 356) B dX9_comes_307 (by decide) (fun q => absurd q c19) (fun _ => k)) ?_
              refine ym 311 (fun B k => z_aload_n B dX9_comes_310 rfl 0 rfl k) ?_
              refine ym 314 (fun B k => gf_X9_107 (x := ((sx_I σ t 27) + 1)) B hk_t (rI_n (by decide) rI_s) dX9_comes_311 k) ?_
              refine ym 315 (fun B k => z_aload_n B dX9_comes_314 rfl 0 rfl k) ?_
              replace h := qv_e h
              obtain ⟨w20, e_w20, h⟩ := h
              have hq_w20 : rk (wx_I (wx_I σ t 27 ((sx_I σ t 27) + 1)) t 38 0) w20 13 := rk_T hT hk_t rfl (by decide) ((rR_I (rR_I rfl)).trans e_w20)
              refine ym 318 (fun B k => gf_X9_38 (x := w20) B hk_t ((rR_I (rR_I rfl)).trans e_w20) dX9_comes_315 k) ?_
              refine ym 319 (fun B k => z_iload_n B dX9_comes_318 rfl 1 rfl k) ?_
              replace h := bq_e h
              obtain ⟨a21, rfl, h⟩ := h
              have hk_a21 := hq_w20 a21 rfl
              replace h := ck_e h
              obtain ⟨hi_22, h⟩ := h
              refine ym 320 (fun B k => z_iald (j := (ti x1)) (x := (sx_I σ a21 (ti x1))) B hk_a21 rfl hi_22 (rI_k (by decide) j2 (kd_I hk_a21) (rI_k (by decide) j1 (kd_I (kd_I hk_a21)) rfl)) dX9_comes_319 k) ?_
              by_cases c23 : ((sx_I σ t 27) + 1) ≤ (sx_I σ a21 (ti x1))
              · replace h := ite_p c23 h
                refine ym 356 (fun B k => z_icmp_le (tgt := 356) B dX9_comes_320 (by decide) (fun _ => k) (fun q => absurd c23 q)) ?_
                refine y_sub [(0, .ref t)] [0] rfl ?_
                exact tb_X9_comes_356 h hT hk_t
              · replace h := ite_n c23 h
                refine ym 323 (fun B k => z_icmp_le (tgt := 356) B dX9_comes_320 (by decide) (fun q => absurd q c23) (fun _ => k)) ?_
                refine ym 324 (fun B k => z_aload_n B dX9_comes_323 rfl 0 rfl k) ?_
                replace h := qv_e h
                obtain ⟨w24, e_w24, h⟩ := h
                have hq_w24 : rk (wx_I (wx_I σ t 27 ((sx_I σ t 27) + 1)) t 38 0) w24 13 := rk_T hT hk_t rfl (by decide) ((rR_I (rR_I rfl)).trans e_w24)
                refine ym 327 (fun B k => gf_X9_38 (x := w24) B hk_t ((rR_I (rR_I rfl)).trans e_w24) dX9_comes_324 k) ?_
                refine ym 328 (fun B k => z_iload_n B dX9_comes_327 rfl 1 rfl k) ?_
                refine ym 329 (fun B k => z_aload_n B dX9_comes_328 rfl 0 rfl k) ?_
                refine ym 332 (fun B k => gf_X9_107 (x := ((sx_I σ t 27) + 1)) B hk_t (rI_n (by decide) rI_s) dX9_comes_329 k) ?_
                replace h := bq_e h
                obtain ⟨a25, rfl, h⟩ := h
                have hk_a25 := hq_w24 a25 rfl
                replace h := ck_e h
                obtain ⟨hi_26, h⟩ := h
                have j27 := hk_a25
                refine ymw (σ' := (wx_I (wx_I (wx_I σ t 27 ((sx_I σ t 27) + 1)) t 38 0) a25 (ti x1) ((sx_I σ t 27) + 1))) 333 e_I (fun B _ k => z_iast (j := (ti x1)) B hk_a25 rfl hi_26 rfl dX9_comes_332 k) ?_
                have hT := TS_I (k := (ti x1)) (x := ((sx_I σ t 27) + 1)) hT hk_a25 (Or.inl rfl)
                have hk_t := kk_I (σ := (wx_I (wx_I σ t 27 ((sx_I σ t 27) + 1)) t 38 0)) (a := a25) (k := (ti x1)) (x := ((sx_I σ t 27) + 1)) hk_t
                refine ym 334 (fun B k => z_aload_n B dX9_comes_333 rfl 0 rfl k) ?_
                replace h := qv_e h
                obtain ⟨w28, e_w28, h⟩ := h
                have hq_w28 : rk (wx_I (wx_I (wx_I σ t 27 ((sx_I σ t 27) + 1)) t 38 0) a25 (ti x1) ((sx_I σ t 27) + 1)) w28 13 := rk_T hT hk_t rfl (by decide) ((rR_I (rR_I (rR_I rfl))).trans e_w28)
                refine ym 337 (fun B k => gf_X9_87 (x := w28) B hk_t ((rR_I (rR_I (rR_I rfl))).trans e_w28) dX9_comes_334 k) ?_
                refine ym 338 (fun B k => z_aload_n B dX9_comes_337 rfl 0 rfl k) ?_
                refine ym 341 (fun B k => gf_X9_159 (x := (sx_I σ t 45)) B hk_t (rI_k (by decide) j27 (kd_I hk_t) (rI_n (by decide) (rI_n (by decide) rfl))) dX9_comes_338 k) ?_
                refine ym 342 (fun B k => z_aload_n B dX9_comes_341 rfl 0 rfl k) ?_
                refine ym 345 (fun B k => gf_X9_119 (x := (sx_I σ t 31)) B hk_t (rI_k (by decide) j27 (kd_I hk_t) (rI_n (by decide) (rI_n (by decide) rfl))) dX9_comes_342 k) ?_
                replace h := bq_e h
                obtain ⟨a29, rfl, h⟩ := h
                have hk_a29 := hq_w28 a29 rfl
                replace h := ck_e h
                obtain ⟨hi_30, h⟩ := h
                have j31 := hk_a29
                refine ymw (σ' := (wx_I (wx_I (wx_I (wx_I σ t 27 ((sx_I σ t 27) + 1)) t 38 0) a25 (ti x1) ((sx_I σ t 27) + 1)) a29 (ti (sx_I σ t 45)) (sx_I σ t 31))) 346 e_I (fun B _ k => z_iast (j := (ti (sx_I σ t 45))) B hk_a29 rfl hi_30 rfl dX9_comes_345 k) ?_
                have hT := TS_I (k := (ti (sx_I σ t 45))) (x := (sx_I σ t 31)) hT hk_a29 (Or.inl rfl)
                have hk_t := kk_I (σ := (wx_I (wx_I (wx_I σ t 27 ((sx_I σ t 27) + 1)) t 38 0) a25 (ti x1) ((sx_I σ t 27) + 1))) (a := a29) (k := (ti (sx_I σ t 45))) (x := (sx_I σ t 31)) hk_t
                refine ym 347 (fun B k => z_aload_n B dX9_comes_346 rfl 0 rfl k) ?_
                refine ym 348 (fun B k => z_dup B dX9_comes_347 rfl k) ?_
                refine ym 351 (fun B k => gf_X9_159 (x := (sx_I σ t 45)) B hk_t (rI_k (by decide) j31 (kd_I hk_t) (rI_k (by decide) j27 (kd_I (kd_I hk_t)) (rI_n (by decide) (rI_n (by decide) rfl)))) dX9_comes_348 k) ?_
                refine ym 352 (fun B k => z_iconst (v := 1) B dX9_comes_351 (by decide) k) ?_
                refine ym 353 (fun B k => z_iadd B dX9_comes_352 k) ?_
                have j32 := hk_t
                refine ymw (σ' := (wx_I (wx_I (wx_I (wx_I (wx_I σ t 27 ((sx_I σ t 27) + 1)) t 38 0) a25 (ti x1) ((sx_I σ t 27) + 1)) a29 (ti (sx_I σ t 45)) (sx_I σ t 31)) t 45 ((sx_I σ t 45) + 1))) 356 e_I (fun B hin k => pf_X9_159 (x := ((sx_I σ t 45) + 1)) B hk_t rfl dX9_comes_353 k) ?_
                have hT := TS_I (k := 45) (x := ((sx_I σ t 45) + 1)) hT hk_t (Or.inl rfl)
                have hk_t := kk_I (σ := (wx_I (wx_I (wx_I (wx_I σ t 27 ((sx_I σ t 27) + 1)) t 38 0) a25 (ti x1) ((sx_I σ t 27) + 1)) a29 (ti (sx_I σ t 45)) (sx_I σ t 31))) (a := t) (k := 45) (x := ((sx_I σ t 45) + 1)) hk_t
                refine y_sub [(0, .ref t)] [0] rfl ?_
                exact tb_X9_comes_356 h hT hk_t
          · replace h := ite_n c18 h
            refine ym 356 (fun B k => z_icmp_ne (tgt := 356) B dX9_comes_300 (by decide) (fun _ => k) (fun q => absurd q c18)) ?_
            refine y_sub [(0, .ref t)] [0] rfl ?_
            exact tb_X9_comes_356 h hT hk_t
        · replace h := ite_n c17 h
          refine ym 523 (fun B k => z_if_ne (tgt := 523) B dX9_comes_292 (by decide) (fun _ => k) (fun q => absurd q c17)) ?_
          obtain rfl := Option.some.inj h
          exact yr_v hT trivial rfl dX9_comes_523
      · replace h := ite_n c16 h
        refine ym 280 (fun B k => z_if_eq (tgt := 288) B dX9_comes_277 (by decide) (fun q => absurd q c16) (fun _ => k)) ?_
        refine ym 281 (fun B k => z_aload_n B dX9_comes_280 rfl 0 rfl k) ?_
        refine ym 282 (fun B k => z_iconst (v := 1) B dX9_comes_281 (by decide) k) ?_
        have j33 := hk_t
        refine ymw (σ' := (wx_I (wx_I (wx_I σ t 27 ((sx_I σ t 27) + 1)) t 38 0) t 35 1)) 285 e_I (fun B hin k => pf_X9_128 (x := 1) B (Or.inr rfl) hk_t rfl dX9_comes_282 k) ?_
        have hT := TS_I (k := 35) (x := 1) hT hk_t (Or.inr (Or.inr rfl))
        have hk_t := kk_I (σ := (wx_I (wx_I σ t 27 ((sx_I σ t 27) + 1)) t 38 0)) (a := t) (k := 35) (x := 1) hk_t
        refine ym 523 (fun B k => z_goto (tgt := 523) B dX9_comes_285 (by decide) k) ?_
        obtain rfl := Option.some.inj h
        exact yr_v hT trivial rfl dX9_comes_523
    · replace h := ite_n c15 h
      refine ym 369 (fun B k => z_icmp_ne (tgt := 369) B dX9_comes_270 (by decide) (fun _ => k) (fun q => absurd q c15)) ?_
      refine ym 370 (fun B k => z_aload_n B dX9_comes_369 rfl 0 rfl k) ?_
      refine ym 371 (fun B k => z_iload_n B dX9_comes_370 rfl 2 rfl k) ?_
      refine ym 372 (fun B k => z_iconst (v := 2) B dX9_comes_371 (by decide) k) ?_
      by_cases c34 : x2 = 2
      · replace h := ite_p c34 h
        refine ym 375 (fun B k => z_icmp_ne (tgt := 388) B dX9_comes_372 (by decide) (fun q => absurd c34 q) (fun _ => k)) ?_
        refine ym 376 (fun B k => z_aload_n B dX9_comes_375 rfl 0 rfl k) ?_
        refine ym 379 (fun B k => gf_X9_116 (x := (sx_I σ t 30)) B hk_t (rI_n (by decide) (rI_n (by decide) rfl)) dX9_comes_376 k) ?_
        refine ym 380 (fun B k => z_iconst (v := 1) B dX9_comes_379 (by decide) k) ?_
        by_cases c35 : (sx_I σ t 30) = 1
        · replace h := ite_p c35 h
          refine ym 383 (fun B k => z_icmp_ne (tgt := 388) B dX9_comes_380 (by decide) (fun q => absurd c35 q) (fun _ => k)) ?_
          refine ym 384 (fun B k => z_lload_n B dX9_comes_383 rfl 3 rfl k) ?_
          refine ym 385 (fun B k => z_l2i (v := x3.toInt32) B dX9_comes_384 rfl k) ?_
          refine ym 409 (fun B k => z_goto (tgt := 409) B dX9_comes_385 (by decide) k) ?_
          refine y_sub [(0, .ref t), (2, .int x2), (3, .long x3)] [0, 2, 3] rfl ?_
          exact tb_X9_comes_409 h hT hk_t
        · replace h := ite_n c35 h
          refine ym 388 (fun B k => z_icmp_ne (tgt := 388) B dX9_comes_380 (by decide) (fun _ => k) (fun q => absurd q c35)) ?_
          refine y_sub [(0, .ref t), (2, .int x2), (3, .long x3)] [0, 2, 3] rfl ?_
          exact tb_X9_comes_388 h hT hk_t
      · replace h := ite_n c34 h
        refine ym 388 (fun B k => z_icmp_ne (tgt := 388) B dX9_comes_372 (by decide) (fun _ => k) (fun q => absurd q c34)) ?_
        refine y_sub [(0, .ref t), (2, .int x2), (3, .long x3)] [0, 2, 3] rfl ?_
        exact tb_X9_comes_388 h hT hk_t
set_option maxRecDepth 100000 in
set_option maxHeartbeats 4000000 in
theorem tb_X9_comes_104 {l : Launch} {g : gx_T} {σ : sx_T} {u : sx_T} {As : Array Value} {n0 : Nat} {t : Nat} {x1 : Int32} {x2 : Int32} {x3 : Int64} (h : fb_X9_comes_104 n0 σ t x1 x2 x3 = some u) (hT : TS g σ) (hk_t : sx_K σ t = 11) : ZY l g cX9_comes RX9 "comes" none 9 1 23 0 0 false As (QM g As (Qxv g u)) (True) u σ 104 [(0, .ref t), (1, .int x1), (2, .int x2), (3, .long x3)] [] := by
  unfold fb_X9_comes_104 at h
  refine ym 105 (fun B k => z_iload_n B dX9_comes_104 rfl 2 rfl k) ?_
  refine ym 107 (fun B k => z_bipush (v := 8) B dX9_comes_105 (by decide) k) ?_
  by_cases c1 : x2 = 8
  · replace h := ite_p c1 h
    refine ym 110 (fun B k => z_icmp_ne (tgt := 122) B dX9_comes_107 (by decide) (fun q => absurd c1 q) (fun _ => k)) ?_
    refine ym 111 (fun B k => z_aload_n B dX9_comes_110 rfl 0 rfl k) ?_
    refine ym 114 (fun B k => gf_X9_116 (x := (sx_I σ t 30)) B hk_t rfl dX9_comes_111 k) ?_
    refine ym 115 (fun B k => z_iconst (v := 5) B dX9_comes_114 (by decide) k) ?_
    by_cases c2 : (sx_I σ t 30) = 5
    · replace h := ite_p c2 h
      refine ym 118 (fun B k => z_icmp_ne (tgt := 122) B dX9_comes_115 (by decide) (fun q => absurd c2 q) (fun _ => k)) ?_
      refine ym 119 (fun B k => z_iconst (v := 1) B dX9_comes_118 (by decide) k) ?_
      refine ym 123 (fun B k => z_goto (tgt := 123) B dX9_comes_119 (by decide) k) ?_
      refine ym 125 (fun B k => z_istore (lv' := [(6, .int 1), (0, .ref t), (1, .int x1), (2, .int x2), (3, .long x3)]) B dX9_comes_123 (by decide) rfl k) ?_
      refine ym 127 (fun B k => z_iload B dX9_comes_125 0 rfl k) ?_
      refine ym 136 (fun B k => z_if_ne (tgt := 136) B dX9_comes_127 (by decide) (fun _ => k) (fun q => absurd q (by decide))) ?_
      refine y_sub [(0, .ref t), (1, .int x1), (2, .int x2), (3, .long x3)] [1, 2, 3, 4] rfl ?_
      exact tb_X9_comes_136 h hT hk_t
    · replace h := ite_n c2 h
      refine ym 122 (fun B k => z_icmp_ne (tgt := 122) B dX9_comes_115 (by decide) (fun _ => k) (fun q => absurd q c2)) ?_
      refine ym 123 (fun B k => z_iconst (v := 0) B dX9_comes_122 (by decide) k) ?_
      refine ym 125 (fun B k => z_istore (lv' := [(6, .int 0), (0, .ref t), (1, .int x1), (2, .int x2), (3, .long x3)]) B dX9_comes_123 (by decide) rfl k) ?_
      refine ym 127 (fun B k => z_iload B dX9_comes_125 0 rfl k) ?_
      refine ym 130 (fun B k => z_if_ne (tgt := 136) B dX9_comes_127 (by decide) (fun q => absurd (by decide) q) (fun _ => k)) ?_
      refine ym 131 (fun B k => z_aload_n B dX9_comes_130 rfl 1 rfl k) ?_
      refine ym 132 (fun B k => z_iconst (v := 0) B dX9_comes_131 (by decide) k) ?_
      have j3 := hk_t
      refine ymw (σ' := (wx_I σ t 26 0)) 135 e_I (fun B hin k => pf_X9_103 (x := 0) B (Or.inl rfl) hk_t rfl dX9_comes_132 k) ?_
      have hT := TS_I (k := 26) (x := 0) hT hk_t (Or.inr (Or.inl rfl))
      have hk_t := kk_I (σ := σ) (a := t) (k := 26) (x := 0) hk_t
      obtain rfl := Option.some.inj h
      exact yr_v hT trivial rfl dX9_comes_135
  · replace h := ite_n c1 h
    refine ym 122 (fun B k => z_icmp_ne (tgt := 122) B dX9_comes_107 (by decide) (fun _ => k) (fun q => absurd q c1)) ?_
    refine ym 123 (fun B k => z_iconst (v := 0) B dX9_comes_122 (by decide) k) ?_
    refine ym 125 (fun B k => z_istore (lv' := [(6, .int 0), (0, .ref t), (1, .int x1), (2, .int x2), (3, .long x3)]) B dX9_comes_123 (by decide) rfl k) ?_
    refine ym 127 (fun B k => z_iload B dX9_comes_125 0 rfl k) ?_
    refine ym 130 (fun B k => z_if_ne (tgt := 136) B dX9_comes_127 (by decide) (fun q => absurd (by decide) q) (fun _ => k)) ?_
    refine ym 131 (fun B k => z_aload_n B dX9_comes_130 rfl 1 rfl k) ?_
    refine ym 132 (fun B k => z_iconst (v := 0) B dX9_comes_131 (by decide) k) ?_
    have j4 := hk_t
    refine ymw (σ' := (wx_I σ t 26 0)) 135 e_I (fun B hin k => pf_X9_103 (x := 0) B (Or.inl rfl) hk_t rfl dX9_comes_132 k) ?_
    have hT := TS_I (k := 26) (x := 0) hT hk_t (Or.inr (Or.inl rfl))
    have hk_t := kk_I (σ := σ) (a := t) (k := 26) (x := 0) hk_t
    obtain rfl := Option.some.inj h
    exact yr_v hT trivial rfl dX9_comes_135
set_option maxRecDepth 100000 in
set_option maxHeartbeats 4000000 in
theorem tb_X9_comes_83 {l : Launch} {g : gx_T} {σ : sx_T} {u : sx_T} {As : Array Value} {n0 : Nat} {t : Nat} {x1 : Int32} {x2 : Int32} {x3 : Int64} (h : fb_X9_comes_83 n0 σ t x1 x2 x3 = some u) (hT : TS g σ) (hk_t : sx_K σ t = 11) : ZY l g cX9_comes RX9 "comes" none 9 1 23 0 0 false As (QM g As (Qxv g u)) (True) u σ 83 [(0, .ref t), (1, .int x1), (2, .int x2), (3, .long x3)] [] := by
  unfold fb_X9_comes_83 at h
  refine ym 84 (fun B k => z_iload_n B dX9_comes_83 rfl 2 rfl k) ?_
  refine ym 85 (fun B k => z_iconst (v := 5) B dX9_comes_84 (by decide) k) ?_
  by_cases c1 : x2 = 5
  · replace h := ite_p c1 h
    refine ym 88 (fun B k => z_icmp_ne (tgt := 104) B dX9_comes_85 (by decide) (fun q => absurd c1 q) (fun _ => k)) ?_
    refine ym 89 (fun B k => z_aload_n B dX9_comes_88 rfl 0 rfl k) ?_
    refine ym 92 (fun B k => gf_X9_116 (x := (sx_I σ t 30)) B hk_t rfl dX9_comes_89 k) ?_
    refine ym 93 (fun B k => z_iconst (v := 2) B dX9_comes_92 (by decide) k) ?_
    by_cases c2 : (sx_I σ t 30) = 2
    · replace h := ite_p c2 h
      refine ym 118 (fun B k => z_icmp_eq (tgt := 118) B dX9_comes_93 (by decide) (fun _ => k) (fun q => absurd c2 q)) ?_
      refine ym 119 (fun B k => z_iconst (v := 1) B dX9_comes_118 (by decide) k) ?_
      refine ym 123 (fun B k => z_goto (tgt := 123) B dX9_comes_119 (by decide) k) ?_
      refine ym 125 (fun B k => z_istore (lv' := [(6, .int 1), (0, .ref t), (1, .int x1), (2, .int x2), (3, .long x3)]) B dX9_comes_123 (by decide) rfl k) ?_
      refine ym 127 (fun B k => z_iload B dX9_comes_125 0 rfl k) ?_
      refine ym 136 (fun B k => z_if_ne (tgt := 136) B dX9_comes_127 (by decide) (fun _ => k) (fun q => absurd q (by decide))) ?_
      refine y_sub [(0, .ref t), (1, .int x1), (2, .int x2), (3, .long x3)] [1, 2, 3, 4] rfl ?_
      exact tb_X9_comes_136 h hT hk_t
    · replace h := ite_n c2 h
      refine ym 96 (fun B k => z_icmp_eq (tgt := 118) B dX9_comes_93 (by decide) (fun q => absurd q c2) (fun _ => k)) ?_
      refine ym 97 (fun B k => z_aload_n B dX9_comes_96 rfl 0 rfl k) ?_
      refine ym 100 (fun B k => gf_X9_116 (x := (sx_I σ t 30)) B hk_t rfl dX9_comes_97 k) ?_
      refine ym 101 (fun B k => z_iconst (v := 4) B dX9_comes_100 (by decide) k) ?_
      by_cases c3 : (sx_I σ t 30) = 4
      · replace h := ite_p c3 h
        refine ym 118 (fun B k => z_icmp_eq (tgt := 118) B dX9_comes_101 (by decide) (fun _ => k) (fun q => absurd c3 q)) ?_
        refine ym 119 (fun B k => z_iconst (v := 1) B dX9_comes_118 (by decide) k) ?_
        refine ym 123 (fun B k => z_goto (tgt := 123) B dX9_comes_119 (by decide) k) ?_
        refine ym 125 (fun B k => z_istore (lv' := [(6, .int 1), (0, .ref t), (1, .int x1), (2, .int x2), (3, .long x3)]) B dX9_comes_123 (by decide) rfl k) ?_
        refine ym 127 (fun B k => z_iload B dX9_comes_125 0 rfl k) ?_
        refine ym 136 (fun B k => z_if_ne (tgt := 136) B dX9_comes_127 (by decide) (fun _ => k) (fun q => absurd q (by decide))) ?_
        refine y_sub [(0, .ref t), (1, .int x1), (2, .int x2), (3, .long x3)] [1, 2, 3, 4] rfl ?_
        exact tb_X9_comes_136 h hT hk_t
      · replace h := ite_n c3 h
        refine ym 104 (fun B k => z_icmp_eq (tgt := 118) B dX9_comes_101 (by decide) (fun q => absurd q c3) (fun _ => k)) ?_
        refine y_sub [(0, .ref t), (1, .int x1), (2, .int x2), (3, .long x3)] [0, 1, 2, 3] rfl ?_
        exact tb_X9_comes_104 h hT hk_t
  · replace h := ite_n c1 h
    refine ym 104 (fun B k => z_icmp_ne (tgt := 104) B dX9_comes_85 (by decide) (fun _ => k) (fun q => absurd q c1)) ?_
    refine y_sub [(0, .ref t), (1, .int x1), (2, .int x2), (3, .long x3)] [0, 1, 2, 3] rfl ?_
    exact tb_X9_comes_104 h hT hk_t
set_option maxRecDepth 100000 in
set_option maxHeartbeats 4000000 in
theorem tb_X9_comes_54 {l : Launch} {g : gx_T} {σ : sx_T} {u : sx_T} {As : Array Value} {n0 : Nat} {t : Nat} {x1 : Int32} {x2 : Int32} {x3 : Int64} {y0 : Int32} (h : fb_X9_comes_54 n0 σ t x1 x2 x3 y0 = some u) (hT : TS g σ) (hk_t : sx_K σ t = 11) (hz_y0 : y0 = 0 ∨ y0 = 1) : ZY l g cX9_comes RX9 "comes" none 9 1 23 0 0 false As (QM g As (Qxv g u)) (True) u σ 54 [(0, .ref t), (1, .int x1), (2, .int x2), (3, .long x3)] [.int y0] := by
  unfold fb_X9_comes_54 at h
  refine ym 56 (fun B k => z_istore (lv' := [(5, .int y0), (0, .ref t), (1, .int x1), (2, .int x2), (3, .long x3)]) B dX9_comes_54 (by decide) rfl k) ?_
  refine ym 57 (fun B k => z_iload_n B dX9_comes_56 rfl 3 rfl k) ?_
  refine ym 59 (fun B k => z_bipush (v := 6) B dX9_comes_57 (by decide) k) ?_
  by_cases c1 : x2 = 6
  · replace h := ite_p c1 h
    refine ym 118 (fun B k => z_icmp_eq (tgt := 118) B dX9_comes_59 (by decide) (fun _ => k) (fun q => absurd c1 q)) ?_
    refine ym 119 (fun B k => z_iconst (v := 1) B dX9_comes_118 (by decide) k) ?_
    refine ym 123 (fun B k => z_goto (tgt := 123) B dX9_comes_119 (by decide) k) ?_
    refine ym 125 (fun B k => z_istore (lv' := [(6, .int 1), (5, .int y0), (0, .ref t), (1, .int x1), (2, .int x2), (3, .long x3)]) B dX9_comes_123 (by decide) rfl k) ?_
    refine ym 127 (fun B k => z_iload B dX9_comes_125 0 rfl k) ?_
    refine ym 136 (fun B k => z_if_ne (tgt := 136) B dX9_comes_127 (by decide) (fun _ => k) (fun q => absurd q (by decide))) ?_
    refine y_sub [(0, .ref t), (1, .int x1), (2, .int x2), (3, .long x3)] [2, 3, 4, 5] rfl ?_
    exact tb_X9_comes_136 h hT hk_t
  · replace h := ite_n c1 h
    refine ym 62 (fun B k => z_icmp_eq (tgt := 118) B dX9_comes_59 (by decide) (fun q => absurd q c1) (fun _ => k)) ?_
    refine ym 63 (fun B k => z_iload_n B dX9_comes_62 rfl 3 rfl k) ?_
    refine ym 65 (fun B k => z_bipush (v := 12) B dX9_comes_63 (by decide) k) ?_
    by_cases c2 : x2 = 12
    · replace h := ite_p c2 h
      refine ym 118 (fun B k => z_icmp_eq (tgt := 118) B dX9_comes_65 (by decide) (fun _ => k) (fun q => absurd c2 q)) ?_
      refine ym 119 (fun B k => z_iconst (v := 1) B dX9_comes_118 (by decide) k) ?_
      refine ym 123 (fun B k => z_goto (tgt := 123) B dX9_comes_119 (by decide) k) ?_
      refine ym 125 (fun B k => z_istore (lv' := [(6, .int 1), (5, .int y0), (0, .ref t), (1, .int x1), (2, .int x2), (3, .long x3)]) B dX9_comes_123 (by decide) rfl k) ?_
      refine ym 127 (fun B k => z_iload B dX9_comes_125 0 rfl k) ?_
      refine ym 136 (fun B k => z_if_ne (tgt := 136) B dX9_comes_127 (by decide) (fun _ => k) (fun q => absurd q (by decide))) ?_
      refine y_sub [(0, .ref t), (1, .int x1), (2, .int x2), (3, .long x3)] [2, 3, 4, 5] rfl ?_
      exact tb_X9_comes_136 h hT hk_t
    · replace h := ite_n c2 h
      refine ym 68 (fun B k => z_icmp_eq (tgt := 118) B dX9_comes_65 (by decide) (fun q => absurd q c2) (fun _ => k)) ?_
      refine ym 70 (fun B k => z_iload B dX9_comes_68 0 rfl k) ?_
      by_cases c3 : y0 = 0
      · replace h := ite_p c3 h
        refine ym 83 (fun B k => z_if_eq (tgt := 83) B dX9_comes_70 (by decide) (fun _ => k) (fun q => absurd c3 q)) ?_
        refine y_sub [(0, .ref t), (1, .int x1), (2, .int x2), (3, .long x3)] [1, 2, 3, 4] rfl ?_
        exact tb_X9_comes_83 h hT hk_t
      · replace h := ite_n c3 h
        refine ym 73 (fun B k => z_if_eq (tgt := 83) B dX9_comes_70 (by decide) (fun q => absurd q c3) (fun _ => k)) ?_
        refine ym 74 (fun B k => z_iload_n B dX9_comes_73 rfl 3 rfl k) ?_
        refine ym 75 (fun B k => z_iconst (v := 2) B dX9_comes_74 (by decide) k) ?_
        by_cases c4 : x2 = 2
        · replace h := ite_p c4 h
          refine ym 118 (fun B k => z_icmp_eq (tgt := 118) B dX9_comes_75 (by decide) (fun _ => k) (fun q => absurd c4 q)) ?_
          refine ym 119 (fun B k => z_iconst (v := 1) B dX9_comes_118 (by decide) k) ?_
          refine ym 123 (fun B k => z_goto (tgt := 123) B dX9_comes_119 (by decide) k) ?_
          refine ym 125 (fun B k => z_istore (lv' := [(6, .int 1), (5, .int y0), (0, .ref t), (1, .int x1), (2, .int x2), (3, .long x3)]) B dX9_comes_123 (by decide) rfl k) ?_
          refine ym 127 (fun B k => z_iload B dX9_comes_125 0 rfl k) ?_
          refine ym 136 (fun B k => z_if_ne (tgt := 136) B dX9_comes_127 (by decide) (fun _ => k) (fun q => absurd q (by decide))) ?_
          refine y_sub [(0, .ref t), (1, .int x1), (2, .int x2), (3, .long x3)] [2, 3, 4, 5] rfl ?_
          exact tb_X9_comes_136 h hT hk_t
        · replace h := ite_n c4 h
          refine ym 78 (fun B k => z_icmp_eq (tgt := 118) B dX9_comes_75 (by decide) (fun q => absurd q c4) (fun _ => k)) ?_
          refine ym 79 (fun B k => z_iload_n B dX9_comes_78 rfl 3 rfl k) ?_
          refine ym 80 (fun B k => z_iconst (v := 3) B dX9_comes_79 (by decide) k) ?_
          by_cases c5 : x2 = 3
          · replace h := ite_p c5 h
            refine ym 118 (fun B k => z_icmp_eq (tgt := 118) B dX9_comes_80 (by decide) (fun _ => k) (fun q => absurd c5 q)) ?_
            refine ym 119 (fun B k => z_iconst (v := 1) B dX9_comes_118 (by decide) k) ?_
            refine ym 123 (fun B k => z_goto (tgt := 123) B dX9_comes_119 (by decide) k) ?_
            refine ym 125 (fun B k => z_istore (lv' := [(6, .int 1), (5, .int y0), (0, .ref t), (1, .int x1), (2, .int x2), (3, .long x3)]) B dX9_comes_123 (by decide) rfl k) ?_
            refine ym 127 (fun B k => z_iload B dX9_comes_125 0 rfl k) ?_
            refine ym 136 (fun B k => z_if_ne (tgt := 136) B dX9_comes_127 (by decide) (fun _ => k) (fun q => absurd q (by decide))) ?_
            refine y_sub [(0, .ref t), (1, .int x1), (2, .int x2), (3, .long x3)] [2, 3, 4, 5] rfl ?_
            exact tb_X9_comes_136 h hT hk_t
          · replace h := ite_n c5 h
            refine ym 83 (fun B k => z_icmp_eq (tgt := 118) B dX9_comes_80 (by decide) (fun q => absurd q c5) (fun _ => k)) ?_
            refine y_sub [(0, .ref t), (1, .int x1), (2, .int x2), (3, .long x3)] [1, 2, 3, 4] rfl ?_
            exact tb_X9_comes_83 h hT hk_t
set_option maxRecDepth 100000 in
set_option maxHeartbeats 4000000 in
theorem tb_X9_comes_49 {l : Launch} {g : gx_T} {σ : sx_T} {u : sx_T} {As : Array Value} {n0 : Nat} {t : Nat} {x1 : Int32} {x2 : Int32} {x3 : Int64} (h : fb_X9_comes_49 n0 σ t x1 x2 x3 = some u) (hT : TS g σ) (hk_t : sx_K σ t = 11) : ZY l g cX9_comes RX9 "comes" none 9 1 23 0 0 false As (QM g As (Qxv g u)) (True) u σ 49 [(0, .ref t), (1, .int x1), (2, .int x2), (3, .long x3)] [] := by
  unfold fb_X9_comes_49 at h
  refine ym 50 (fun B k => z_iconst (v := 1) B dX9_comes_49 (by decide) k) ?_
  refine ym 54 (fun B k => z_goto (tgt := 54) B dX9_comes_50 (by decide) k) ?_
  refine y_sub [(0, .ref t), (1, .int x1), (2, .int x2), (3, .long x3)] [0, 1, 2, 3] rfl ?_
  exact tb_X9_comes_54 h hT hk_t (Or.inr rfl)
set_option maxRecDepth 100000 in
set_option maxHeartbeats 4000000 in
theorem ct_X9_comes (l : Launch) {g : gx_T} {σ : sx_T} {u : sx_T} {n0 : Nat} {t : Nat} {x1 : Int32} (h : f_X9_comes n0 σ t x1 = some u) (hT : TS g σ) (hk_t : sx_K σ t = 11) : CT l g yX9_comes cX9_comes 9 none 1 23 [.ref t, .int x1] (True) u σ (Qxv g u) := by
  refine yc_met (by decide) (Nat.le_of_ble_eq_true rfl) ?_
  refine yc_lv (show lv_args 0 [.ref t, .int x1] = [(0, .ref t), (1, .int x1)] from rfl) ?_
  show ZY l g _ _ _ _ _ _ _ _ _ _ _ _ _ _ σ 0 [(0, .ref t), (1, .int x1)] []
  unfold f_X9_comes at h
  refine ym 1 (fun B k => z_aload_n B dX9_comes_0 rfl 0 rfl k) ?_
  replace h := qv_e h
  obtain ⟨w1, e_w1, h⟩ := h
  have hq_w1 : rk σ w1 13 := rk_T hT hk_t rfl (by decide) e_w1
  refine ym 4 (fun B k => gf_X9_44 (x := w1) B hk_t e_w1 dX9_comes_1 k) ?_
  refine ym 7 (fun B k => z_sipush (v := 160) B dX9_comes_4 (by decide) k) ?_
  refine ym 8 (fun B k => z_iload_n B dX9_comes_7 rfl 1 rfl k) ?_
  refine ym 9 (fun B k => z_imul B dX9_comes_8 k) ?_
  refine ym 10 (fun B k => z_aload_n B dX9_comes_9 rfl 0 rfl k) ?_
  refine ym 13 (fun B k => gf_X9_107 (x := (sx_I σ t 27)) B hk_t rfl dX9_comes_10 k) ?_
  refine ym 14 (fun B k => z_iadd B dX9_comes_13 k) ?_
  replace h := bq_e h
  obtain ⟨a2, rfl, h⟩ := h
  have hk_a2 := hq_w1 a2 rfl
  replace h := ck_e h
  obtain ⟨hi_3, h⟩ := h
  refine ym 15 (fun B k => z_iald (j := (ti ((160 * x1) + (sx_I σ t 27)))) (x := (sx_I σ a2 (ti ((160 * x1) + (sx_I σ t 27))))) B hk_a2 rfl hi_3 rfl dX9_comes_14 k) ?_
  refine ym 16 (fun B k => z_istore_n (lv' := [(2, .int (sx_I σ a2 (ti ((160 * x1) + (sx_I σ t 27))))), (0, .ref t), (1, .int x1)]) B dX9_comes_15 rfl (by decide) rfl k) ?_
  refine ym 17 (fun B k => z_aload_n B dX9_comes_16 rfl 1 rfl k) ?_
  replace h := qv_e h
  obtain ⟨w4, e_w4, h⟩ := h
  have hq_w4 : rk σ w4 14 := rk_T hT hk_t rfl (by decide) e_w4
  refine ym 20 (fun B k => gf_X9_47 (x := w4) B hk_t e_w4 dX9_comes_17 k) ?_
  refine ym 23 (fun B k => z_sipush (v := 160) B dX9_comes_20 (by decide) k) ?_
  refine ym 24 (fun B k => z_iload_n B dX9_comes_23 rfl 2 rfl k) ?_
  refine ym 25 (fun B k => z_imul B dX9_comes_24 k) ?_
  refine ym 26 (fun B k => z_aload_n B dX9_comes_25 rfl 1 rfl k) ?_
  refine ym 29 (fun B k => gf_X9_107 (x := (sx_I σ t 27)) B hk_t rfl dX9_comes_26 k) ?_
  refine ym 30 (fun B k => z_iadd B dX9_comes_29 k) ?_
  replace h := bq_e h
  obtain ⟨a5, rfl, h⟩ := h
  have hk_a5 := hq_w4 a5 rfl
  replace h := ck_e h
  obtain ⟨hi_6, h⟩ := h
  refine ym 31 (fun B k => z_lald (j := (ti ((160 * x1) + (sx_I σ t 27)))) (x := (sx_J σ a5 (ti ((160 * x1) + (sx_I σ t 27))))) B hk_a5 rfl hi_6 rfl dX9_comes_30 k) ?_
  refine ym 32 (fun B k => z_lstore_n (lv' := [(3, .long (sx_J σ a5 (ti ((160 * x1) + (sx_I σ t 27))))), (2, .int (sx_I σ a2 (ti ((160 * x1) + (sx_I σ t 27))))), (0, .ref t), (1, .int x1)]) B dX9_comes_31 rfl (by decide) rfl k) ?_
  refine ym 33 (fun B k => z_aload_n B dX9_comes_32 rfl 2 rfl k) ?_
  refine ym 36 (fun B k => gf_X9_116 (x := (sx_I σ t 30)) B hk_t rfl dX9_comes_33 k) ?_
  refine ym 37 (fun B k => z_iconst (v := 1) B dX9_comes_36 (by decide) k) ?_
  by_cases c7 : (sx_I σ t 30) = 1
  · replace h := ite_p c7 h
    refine ym 49 (fun B k => z_icmp_eq (tgt := 49) B dX9_comes_37 (by decide) (fun _ => k) (fun q => absurd c7 q)) ?_
    refine y_sub [(0, .ref t), (1, .int x1), (2, .int (sx_I σ a2 (ti ((160 * x1) + (sx_I σ t 27))))), (3, .long (sx_J σ a5 (ti ((160 * x1) + (sx_I σ t 27)))))] [2, 3, 1, 0] rfl ?_
    exact tb_X9_comes_49 h hT hk_t
  · replace h := ite_n c7 h
    refine ym 40 (fun B k => z_icmp_eq (tgt := 49) B dX9_comes_37 (by decide) (fun q => absurd q c7) (fun _ => k)) ?_
    refine ym 41 (fun B k => z_aload_n B dX9_comes_40 rfl 2 rfl k) ?_
    refine ym 44 (fun B k => gf_X9_116 (x := (sx_I σ t 30)) B hk_t rfl dX9_comes_41 k) ?_
    refine ym 46 (fun B k => z_bipush (v := 6) B dX9_comes_44 (by decide) k) ?_
    by_cases c8 : (sx_I σ t 30) = 6
    · replace h := ite_p c8 h
      refine ym 49 (fun B k => z_icmp_ne (tgt := 53) B dX9_comes_46 (by decide) (fun q => absurd c8 q) (fun _ => k)) ?_
      refine y_sub [(0, .ref t), (1, .int x1), (2, .int (sx_I σ a2 (ti ((160 * x1) + (sx_I σ t 27))))), (3, .long (sx_J σ a5 (ti ((160 * x1) + (sx_I σ t 27)))))] [2, 3, 1, 0] rfl ?_
      exact tb_X9_comes_49 h hT hk_t
    · replace h := ite_n c8 h
      refine ym 53 (fun B k => z_icmp_ne (tgt := 53) B dX9_comes_46 (by decide) (fun _ => k) (fun q => absurd q c8)) ?_
      refine ym 54 (fun B k => z_iconst (v := 0) B dX9_comes_53 (by decide) k) ?_
      refine y_sub [(0, .ref t), (1, .int x1), (2, .int (sx_I σ a2 (ti ((160 * x1) + (sx_I σ t 27))))), (3, .long (sx_J σ a5 (ti ((160 * x1) + (sx_I σ t 27)))))] [2, 3, 1, 0] rfl ?_
      exact tb_X9_comes_54 h hT hk_t (Or.inl rfl)
