set_option maxRecDepth 100000 in
set_option maxHeartbeats 4000000 in
theorem ct_X8_aboutAnew (l : Launch) {g : gx_T} {σ : sx_T} {u : sx_T} {r : Int32} {n0 : Nat} {t : Nat} {x1 : Int32} {x2 : Int32} (h : f_X8_aboutAnew n0 σ t x1 x2 = some (.inl r, u)) (hT : TS g σ) (hk_t : sx_K σ t = 10) : CT l g yX8_aboutAnew cX8_aboutAnew 5 (some .int) 7 136 [.ref t, .int x1, .int x2] (True) u σ (Qxi g r u) := by
  refine yc_met (by decide) (Nat.le_of_ble_eq_true rfl) ?_
  refine yc_lv (show lv_args 0 [.ref t, .int x1, .int x2] = [(0, .ref t), (1, .int x1), (2, .int x2)] from rfl) ?_
  show ZY l g _ _ _ _ _ _ _ _ _ _ _ _ _ _ σ 0 [(0, .ref t), (1, .int x1), (2, .int x2)] []
  unfold f_X8_aboutAnew at h
  refine ym 1 (fun B k => z_aload_n B dX8_aboutAnew_0 rfl 0 rfl k) ?_
  refine ym 2 (fun B k => z_iload_n B dX8_aboutAnew_1 rfl 1 rfl k) ?_
  replace h := br_e h
  obtain ⟨r2, h1, h⟩ := h
  have m3 := ct_X8_flowAt l (g := g) h1 hT hk_t
  refine yc_Vq (Al := [.int x1]) (rest := []) 5 rfl cw_X8_99 cx_9 dX8_aboutAnew_2 m3 hk_t rfl (by decide) rfl (Nat.le_of_ble_eq_true rfl) ?_
  have hq_r2 := m3.1.2
  refine ym 6 (fun B k => z_qstore_n (r := r2) (lv' := [(3, va_rf r2), (0, .ref t), (1, .int x1), (2, .int x2)]) B dX8_aboutAnew_5 rfl (by decide) rfl k) ?_
  refine ym 7 (fun B k => z_qload_n (r := r2) B dX8_aboutAnew_6 rfl 0 rfl k) ?_
  rcases r2 with _ | a4
  · replace h := oc_n h
    refine ym 10 (fun B k => z_ifnonnull (r := none) (tgt := 20) B dX8_aboutAnew_7 (by decide) (fun a h => nomatch h) (fun _ => k)) ?_
    exact nomatch (Prod.mk.inj (Option.some.inj h)).1
  · replace h := oc_s h
    have hk_a4 := hq_r2 a4 rfl
    refine ym 20 (fun B k => z_ifnonnull (r := (some a4)) (tgt := 20) B dX8_aboutAnew_7 (by decide) (fun _ _ => k) (fun h => nomatch h)) ?_
    refine ym 21 (fun B k => z_iload_n B dX8_aboutAnew_20 rfl 3 rfl k) ?_
    refine ym 23 (fun B k => z_bipush (v := 9) B dX8_aboutAnew_21 (by decide) k) ?_
    replace h := br_e h
    obtain ⟨r6, h5, h⟩ := h
    have m7 := ct_X8_isBelow l (g := g) h5 hT
    refine yc_Si (Al := [.int x2, .int 9]) (rest := []) 26 rfl cw_X8_68 dX8_aboutAnew_23 m7 rfl (by decide) rfl (Nat.le_of_ble_eq_true rfl) ?_
    have hz_r6 := m7.1.2
    by_cases c8 : r6 = 0
    · replace h := ite_p c8 h
      refine ym 29 (fun B k => z_if_ne (tgt := 39) B dX8_aboutAnew_26 (by decide) (fun q => absurd c8 q) (fun _ => k)) ?_
      exact nomatch (Prod.mk.inj (Option.some.inj h)).1
    · replace h := ite_n c8 h
      refine ym 39 (fun B k => z_if_ne (tgt := 39) B dX8_aboutAnew_26 (by decide) (fun _ => k) (fun q => absurd q c8)) ?_
      refine ym 40 (fun B k => z_aload_n B dX8_aboutAnew_39 rfl 1 rfl k) ?_
      refine ym 41 (fun B k => z_aload_n B dX8_aboutAnew_40 rfl 0 rfl k) ?_
      replace h := bd_e h
      obtain ⟨r10, u11, h9, h⟩ := h
      have m12 := ct_X8_replayed l (g := g) h9 hT hk_t (rk_a hk_a4)
      refine yc_Vq (Al := [.ref a4]) (rest := []) 44 rfl cw_X8_129 cx_9 dX8_aboutAnew_41 m12 hk_t rfl (by decide) rfl (Nat.le_of_ble_eq_true rfl) ?_
      have hk_a4 := k_G m12.1.1 (by decide) hk_a4
      have hk_t := k_G m12.1.1 (by decide) hk_t
      have hT := m12.1.1.2.2.2
      have hq_r10 := m12.1.2
      refine ym 46 (fun B k => z_qstore (r := r10) (lv' := [(4, va_rf r10), (3, .ref a4), (0, .ref t), (1, .int x1), (2, .int x2)]) B dX8_aboutAnew_44 (by decide) rfl k) ?_
      refine ym 48 (fun B k => z_qload (r := r10) B dX8_aboutAnew_46 0 rfl k) ?_
      replace h := bq_e h
      obtain ⟨a13, rfl, h⟩ := h
      have hk_a13 := hq_r10 a13 rfl
      refine ym 51 (fun B k => gf_X8_133 (x := (sx_I u11 a13 19)) B hk_a13 rfl dX8_aboutAnew_48 k) ?_
      by_cases c14 : (sx_I u11 a13 19) = 0
      · replace h := ite_p c14 h
        refine ym 64 (fun B k => z_if_eq (tgt := 64) B dX8_aboutAnew_51 (by decide) (fun _ => k) (fun q => absurd c14 q)) ?_
        refine ym 65 (fun B k => z_aload_n B dX8_aboutAnew_64 rfl 2 rfl k) ?_
        refine ym 66 (fun B k => z_aload_n B dX8_aboutAnew_65 rfl 1 rfl k) ?_
        refine ym 68 (fun B k => z_aload B dX8_aboutAnew_66 0 rfl k) ?_
        refine ym 69 (fun B k => z_iload_n B dX8_aboutAnew_68 rfl 4 rfl k) ?_
        replace h := br_e h
        obtain ⟨r16, h15, h⟩ := h
        have m17 := ct_X8_fact l (g := g) h15 hT hk_t (rk_a hk_a4) (rk_a hk_a13)
        refine yc_Vi (Al := [.ref a4, .ref a13, .int x2]) (rest := []) 72 rfl cw_X8_255 cx_9 dX8_aboutAnew_69 m17 hk_t rfl (by decide) rfl (Nat.le_of_ble_eq_true rfl) ?_
        obtain ⟨h1, rfl⟩ := Prod.mk.inj (Option.some.inj h)
        obtain rfl := Sum.inl.inj h1
        exact yr_i hT trivial rfl dX8_aboutAnew_72
      · replace h := ite_n c14 h
        refine ym 54 (fun B k => z_if_eq (tgt := 64) B dX8_aboutAnew_51 (by decide) (fun q => absurd q c14) (fun _ => k)) ?_
        exact nomatch (Prod.mk.inj (Option.some.inj h)).1
set_option maxRecDepth 100000 in
set_option maxHeartbeats 4000000 in
theorem ct_X8_aboutAnewx (l : Launch) (hlt : l.stackTraces = false) {g : gx_T} {σ : sx_T} {u : sx_T} {E : String} {n0 : Nat} {t : Nat} {x1 : Int32} {x2 : Int32} (h : f_X8_aboutAnew n0 σ t x1 x2 = some (.inr E, u)) (hT : TS g σ) (hk_t : sx_K σ t = 10) {Qc : Array Value → State → Outcome → State → Prop} : CX l g yX8_aboutAnew cX8_aboutAnew 5 (some .int) 7 136 [.ref t, .int x1, .int x2] E u σ Qc := by
  refine yc_metX (by decide) (Nat.le_of_ble_eq_true rfl) ?_
  refine yc_lv (show lv_args 0 [.ref t, .int x1, .int x2] = [(0, .ref t), (1, .int x1), (2, .int x2)] from rfl) ?_
  show ZY l g _ _ _ _ _ _ _ _ _ _ _ _ _ _ σ 0 [(0, .ref t), (1, .int x1), (2, .int x2)] []
  unfold f_X8_aboutAnew at h
  refine ym 1 (fun B k => z_aload_n B dX8_aboutAnew_0 rfl 0 rfl k) ?_
  refine ym 2 (fun B k => z_iload_n B dX8_aboutAnew_1 rfl 1 rfl k) ?_
  replace h := br_e h
  obtain ⟨r2, h1, h⟩ := h
  have m3 := ct_X8_flowAt l (g := g) h1 hT hk_t
  refine yc_Vq (Al := [.int x1]) (rest := []) 5 rfl cw_X8_99 cx_9 dX8_aboutAnew_2 m3 hk_t rfl (by decide) rfl (Nat.le_of_ble_eq_true rfl) ?_
  have hq_r2 := m3.1.2
  refine ym 6 (fun B k => z_qstore_n (r := r2) (lv' := [(3, va_rf r2), (0, .ref t), (1, .int x1), (2, .int x2)]) B dX8_aboutAnew_5 rfl (by decide) rfl k) ?_
  refine ym 7 (fun B k => z_qload_n (r := r2) B dX8_aboutAnew_6 rfl 0 rfl k) ?_
  rcases r2 with _ | a4
  · replace h := oc_n h
    refine ym 10 (fun B k => z_ifnonnull (r := none) (tgt := 20) B dX8_aboutAnew_7 (by decide) (fun a h => nomatch h) (fun _ => k)) ?_
    obtain ⟨h1, rfl⟩ := Prod.mk.inj (Option.some.inj h)
    cases h1
    exact yt_throw hT hlt (text := "no such workflow") tw_X8_72_153_76 dX8_aboutAnew_10 dX8_aboutAnew_13 dX8_aboutAnew_14 dX8_aboutAnew_16 dX8_aboutAnew_19 (by decide) (by decide)
  · replace h := oc_s h
    have hk_a4 := hq_r2 a4 rfl
    refine ym 20 (fun B k => z_ifnonnull (r := (some a4)) (tgt := 20) B dX8_aboutAnew_7 (by decide) (fun _ _ => k) (fun h => nomatch h)) ?_
    refine ym 21 (fun B k => z_iload_n B dX8_aboutAnew_20 rfl 3 rfl k) ?_
    refine ym 23 (fun B k => z_bipush (v := 9) B dX8_aboutAnew_21 (by decide) k) ?_
    replace h := br_e h
    obtain ⟨r6, h5, h⟩ := h
    have m7 := ct_X8_isBelow l (g := g) h5 hT
    refine yc_Si (Al := [.int x2, .int 9]) (rest := []) 26 rfl cw_X8_68 dX8_aboutAnew_23 m7 rfl (by decide) rfl (Nat.le_of_ble_eq_true rfl) ?_
    have hz_r6 := m7.1.2
    by_cases c8 : r6 = 0
    · replace h := ite_p c8 h
      refine ym 29 (fun B k => z_if_ne (tgt := 39) B dX8_aboutAnew_26 (by decide) (fun q => absurd c8 q) (fun _ => k)) ?_
      obtain ⟨h1, rfl⟩ := Prod.mk.inj (Option.some.inj h)
      cases h1
      exact yt_throw hT hlt (text := "no such fact") tw_X8_83_251_87 dX8_aboutAnew_29 dX8_aboutAnew_32 dX8_aboutAnew_33 dX8_aboutAnew_35 dX8_aboutAnew_38 (by decide) (by decide)
    · replace h := ite_n c8 h
      refine ym 39 (fun B k => z_if_ne (tgt := 39) B dX8_aboutAnew_26 (by decide) (fun _ => k) (fun q => absurd q c8)) ?_
      refine ym 40 (fun B k => z_aload_n B dX8_aboutAnew_39 rfl 1 rfl k) ?_
      refine ym 41 (fun B k => z_aload_n B dX8_aboutAnew_40 rfl 0 rfl k) ?_
      replace h := bd_e h
      obtain ⟨r10, u11, h9, h⟩ := h
      have m12 := ct_X8_replayed l (g := g) h9 hT hk_t (rk_a hk_a4)
      refine yc_Vq (Al := [.ref a4]) (rest := []) 44 rfl cw_X8_129 cx_9 dX8_aboutAnew_41 m12 hk_t rfl (by decide) rfl (Nat.le_of_ble_eq_true rfl) ?_
      have hk_a4 := k_G m12.1.1 (by decide) hk_a4
      have hk_t := k_G m12.1.1 (by decide) hk_t
      have hT := m12.1.1.2.2.2
      have hq_r10 := m12.1.2
      refine ym 46 (fun B k => z_qstore (r := r10) (lv' := [(4, va_rf r10), (3, .ref a4), (0, .ref t), (1, .int x1), (2, .int x2)]) B dX8_aboutAnew_44 (by decide) rfl k) ?_
      refine ym 48 (fun B k => z_qload (r := r10) B dX8_aboutAnew_46 0 rfl k) ?_
      replace h := bq_e h
      obtain ⟨a13, rfl, h⟩ := h
      have hk_a13 := hq_r10 a13 rfl
      refine ym 51 (fun B k => gf_X8_133 (x := (sx_I u11 a13 19)) B hk_a13 rfl dX8_aboutAnew_48 k) ?_
      by_cases c14 : (sx_I u11 a13 19) = 0
      · replace h := ite_p c14 h
        refine ym 64 (fun B k => z_if_eq (tgt := 64) B dX8_aboutAnew_51 (by decide) (fun _ => k) (fun q => absurd c14 q)) ?_
        refine ym 65 (fun B k => z_aload_n B dX8_aboutAnew_64 rfl 2 rfl k) ?_
        refine ym 66 (fun B k => z_aload_n B dX8_aboutAnew_65 rfl 1 rfl k) ?_
        refine ym 68 (fun B k => z_aload B dX8_aboutAnew_66 0 rfl k) ?_
        refine ym 69 (fun B k => z_iload_n B dX8_aboutAnew_68 rfl 4 rfl k) ?_
        replace h := br_e h
        obtain ⟨r16, h15, h⟩ := h
        have m17 := ct_X8_fact l (g := g) h15 hT hk_t (rk_a hk_a4) (rk_a hk_a13)
        refine yc_Vi (Al := [.ref a4, .ref a13, .int x2]) (rest := []) 72 rfl cw_X8_255 cx_9 dX8_aboutAnew_69 m17 hk_t rfl (by decide) rfl (Nat.le_of_ble_eq_true rfl) ?_
        exact nomatch (Prod.mk.inj (Option.some.inj h)).1
      · replace h := ite_n c14 h
        refine ym 54 (fun B k => z_if_eq (tgt := 64) B dX8_aboutAnew_51 (by decide) (fun q => absurd q c14) (fun _ => k)) ?_
        obtain ⟨h1, rfl⟩ := Prod.mk.inj (Option.some.inj h)
        cases h1
        exact yt_throw hT hlt (text := "it does not go with the code") tw_X8_145_253_149 dX8_aboutAnew_54 dX8_aboutAnew_57 dX8_aboutAnew_58 dX8_aboutAnew_60 dX8_aboutAnew_63 (by decide) (by decide)
set_option maxRecDepth 100000 in
set_option maxHeartbeats 4000000 in
theorem ct_X8_parent (l : Launch) {g : gx_T} {σ : sx_T} {u : sx_T} {r : Int32}  {t : Nat} {x1 : Int32} (h : f_X8_parent σ t x1 = some (.inl r, u)) (hT : TS g σ) (hk_t : sx_K σ t = 10) : CT l g yX8_parent cX8_parent 3 (some .int) 7 136 [.ref t, .int x1] (True) u σ (Qxi g r u) := by
  refine yc_met (by decide) (Nat.le_of_ble_eq_true rfl) ?_
  refine yc_lv (show lv_args 0 [.ref t, .int x1] = [(0, .ref t), (1, .int x1)] from rfl) ?_
  show ZY l g _ _ _ _ _ _ _ _ _ _ _ _ _ _ σ 0 [(0, .ref t), (1, .int x1)] []
  unfold f_X8_parent at h
  refine ym 1 (fun B k => z_aload_n B dX8_parent_0 rfl 0 rfl k) ?_
  refine ym 2 (fun B k => z_iload_n B dX8_parent_1 rfl 1 rfl k) ?_
  replace h := br_e h
  obtain ⟨r2, h1, h⟩ := h
  have m3 := ct_X8_flowAt l (g := g) h1 hT hk_t
  refine yc_Vq (Al := [.int x1]) (rest := []) 5 rfl cw_X8_99 cx_9 dX8_parent_2 m3 hk_t rfl (by decide) rfl (Nat.le_of_ble_eq_true rfl) ?_
  have hq_r2 := m3.1.2
  refine ym 6 (fun B k => z_qstore_n (r := r2) (lv' := [(2, va_rf r2), (0, .ref t), (1, .int x1)]) B dX8_parent_5 rfl (by decide) rfl k) ?_
  refine ym 7 (fun B k => z_qload_n (r := r2) B dX8_parent_6 rfl 0 rfl k) ?_
  rcases r2 with _ | a4
  · replace h := oc_n h
    refine ym 10 (fun B k => z_ifnonnull (r := none) (tgt := 20) B dX8_parent_7 (by decide) (fun a h => nomatch h) (fun _ => k)) ?_
    exact nomatch (Prod.mk.inj (Option.some.inj h)).1
  · replace h := oc_s h
    have hk_a4 := hq_r2 a4 rfl
    refine ym 20 (fun B k => z_ifnonnull (r := (some a4)) (tgt := 20) B dX8_parent_7 (by decide) (fun _ _ => k) (fun h => nomatch h)) ?_
    refine ym 21 (fun B k => z_aload_n B dX8_parent_20 rfl 0 rfl k) ?_
    refine ym 24 (fun B k => gf_X8_259 (x := (sx_I σ a4 4)) B hk_a4 rfl dX8_parent_21 k) ?_
    obtain ⟨h1, rfl⟩ := Prod.mk.inj (Option.some.inj h)
    obtain rfl := Sum.inl.inj h1
    exact yr_i hT trivial rfl dX8_parent_24
set_option maxRecDepth 100000 in
set_option maxHeartbeats 4000000 in
theorem ct_X8_parentx (l : Launch) (hlt : l.stackTraces = false) {g : gx_T} {σ : sx_T} {u : sx_T} {E : String}  {t : Nat} {x1 : Int32} (h : f_X8_parent σ t x1 = some (.inr E, u)) (hT : TS g σ) (hk_t : sx_K σ t = 10) {Qc : Array Value → State → Outcome → State → Prop} : CX l g yX8_parent cX8_parent 3 (some .int) 7 136 [.ref t, .int x1] E u σ Qc := by
  refine yc_metX (by decide) (Nat.le_of_ble_eq_true rfl) ?_
  refine yc_lv (show lv_args 0 [.ref t, .int x1] = [(0, .ref t), (1, .int x1)] from rfl) ?_
  show ZY l g _ _ _ _ _ _ _ _ _ _ _ _ _ _ σ 0 [(0, .ref t), (1, .int x1)] []
  unfold f_X8_parent at h
  refine ym 1 (fun B k => z_aload_n B dX8_parent_0 rfl 0 rfl k) ?_
  refine ym 2 (fun B k => z_iload_n B dX8_parent_1 rfl 1 rfl k) ?_
  replace h := br_e h
  obtain ⟨r2, h1, h⟩ := h
  have m3 := ct_X8_flowAt l (g := g) h1 hT hk_t
  refine yc_Vq (Al := [.int x1]) (rest := []) 5 rfl cw_X8_99 cx_9 dX8_parent_2 m3 hk_t rfl (by decide) rfl (Nat.le_of_ble_eq_true rfl) ?_
  have hq_r2 := m3.1.2
  refine ym 6 (fun B k => z_qstore_n (r := r2) (lv' := [(2, va_rf r2), (0, .ref t), (1, .int x1)]) B dX8_parent_5 rfl (by decide) rfl k) ?_
  refine ym 7 (fun B k => z_qload_n (r := r2) B dX8_parent_6 rfl 0 rfl k) ?_
  rcases r2 with _ | a4
  · replace h := oc_n h
    refine ym 10 (fun B k => z_ifnonnull (r := none) (tgt := 20) B dX8_parent_7 (by decide) (fun a h => nomatch h) (fun _ => k)) ?_
    obtain ⟨h1, rfl⟩ := Prod.mk.inj (Option.some.inj h)
    cases h1
    exact yt_throw hT hlt (text := "no such workflow") tw_X8_72_153_76 dX8_parent_10 dX8_parent_13 dX8_parent_14 dX8_parent_16 dX8_parent_19 (by decide) (by decide)
  · replace h := oc_s h
    have hk_a4 := hq_r2 a4 rfl
    refine ym 20 (fun B k => z_ifnonnull (r := (some a4)) (tgt := 20) B dX8_parent_7 (by decide) (fun _ _ => k) (fun h => nomatch h)) ?_
    refine ym 21 (fun B k => z_aload_n B dX8_parent_20 rfl 0 rfl k) ?_
    refine ym 24 (fun B k => gf_X8_259 (x := (sx_I σ a4 4)) B hk_a4 rfl dX8_parent_21 k) ?_
    exact nomatch (Prod.mk.inj (Option.some.inj h)).1
set_option maxRecDepth 100000 in
set_option maxHeartbeats 4000000 in
theorem ct_X8_events (l : Launch) {g : gx_T} {σ : sx_T} {u : sx_T} {r : Int32}  {t : Nat} {x1 : Int32} (h : f_X8_events σ t x1 = some (.inl r, u)) (hT : TS g σ) (hk_t : sx_K σ t = 10) : CT l g yX8_events cX8_events 3 (some .int) 7 136 [.ref t, .int x1] (True) u σ (Qxi g r u) := by
  refine yc_met (by decide) (Nat.le_of_ble_eq_true rfl) ?_
  refine yc_lv (show lv_args 0 [.ref t, .int x1] = [(0, .ref t), (1, .int x1)] from rfl) ?_
  show ZY l g _ _ _ _ _ _ _ _ _ _ _ _ _ _ σ 0 [(0, .ref t), (1, .int x1)] []
  unfold f_X8_events at h
  refine ym 1 (fun B k => z_aload_n B dX8_events_0 rfl 0 rfl k) ?_
  refine ym 2 (fun B k => z_iload_n B dX8_events_1 rfl 1 rfl k) ?_
  replace h := br_e h
  obtain ⟨r2, h1, h⟩ := h
  have m3 := ct_X8_flowAt l (g := g) h1 hT hk_t
  refine yc_Vq (Al := [.int x1]) (rest := []) 5 rfl cw_X8_99 cx_9 dX8_events_2 m3 hk_t rfl (by decide) rfl (Nat.le_of_ble_eq_true rfl) ?_
  have hq_r2 := m3.1.2
  refine ym 6 (fun B k => z_qstore_n (r := r2) (lv' := [(2, va_rf r2), (0, .ref t), (1, .int x1)]) B dX8_events_5 rfl (by decide) rfl k) ?_
  refine ym 7 (fun B k => z_qload_n (r := r2) B dX8_events_6 rfl 0 rfl k) ?_
  rcases r2 with _ | a4
  · replace h := oc_n h
    refine ym 10 (fun B k => z_ifnonnull (r := none) (tgt := 20) B dX8_events_7 (by decide) (fun a h => nomatch h) (fun _ => k)) ?_
    exact nomatch (Prod.mk.inj (Option.some.inj h)).1
  · replace h := oc_s h
    have hk_a4 := hq_r2 a4 rfl
    refine ym 20 (fun B k => z_ifnonnull (r := (some a4)) (tgt := 20) B dX8_events_7 (by decide) (fun _ _ => k) (fun h => nomatch h)) ?_
    refine ym 21 (fun B k => z_aload_n B dX8_events_20 rfl 0 rfl k) ?_
    replace h := qv_e h
    obtain ⟨w5, e_w5, h⟩ := h
    have hq_w5 : rk σ w5 3 := rk_T hT hk_a4 rfl (by decide) e_w5
    refine ym 24 (fun B k => gf_X8_179 (x := w5) B hk_a4 e_w5 dX8_events_21 k) ?_
    replace h := bq_e h
    obtain ⟨a6, rfl, h⟩ := h
    have hk_a6 := hq_w5 a6 rfl
    replace h := br_e h
    obtain ⟨r8, h7, h⟩ := h
    have m9 := ct_X1_size l (g := g) h7 hT hk_a6
    refine yc_Vi (Al := []) (rest := []) 27 rfl cw_X8_183 cx_2 dX8_events_24 m9 hk_a6 rfl (by decide) rfl (Nat.le_of_ble_eq_true rfl) ?_
    obtain ⟨h1, rfl⟩ := Prod.mk.inj (Option.some.inj h)
    obtain rfl := Sum.inl.inj h1
    exact yr_i hT trivial rfl dX8_events_27
set_option maxRecDepth 100000 in
set_option maxHeartbeats 4000000 in
theorem ct_X8_eventsx (l : Launch) (hlt : l.stackTraces = false) {g : gx_T} {σ : sx_T} {u : sx_T} {E : String}  {t : Nat} {x1 : Int32} (h : f_X8_events σ t x1 = some (.inr E, u)) (hT : TS g σ) (hk_t : sx_K σ t = 10) {Qc : Array Value → State → Outcome → State → Prop} : CX l g yX8_events cX8_events 3 (some .int) 7 136 [.ref t, .int x1] E u σ Qc := by
  refine yc_metX (by decide) (Nat.le_of_ble_eq_true rfl) ?_
  refine yc_lv (show lv_args 0 [.ref t, .int x1] = [(0, .ref t), (1, .int x1)] from rfl) ?_
  show ZY l g _ _ _ _ _ _ _ _ _ _ _ _ _ _ σ 0 [(0, .ref t), (1, .int x1)] []
  unfold f_X8_events at h
  refine ym 1 (fun B k => z_aload_n B dX8_events_0 rfl 0 rfl k) ?_
  refine ym 2 (fun B k => z_iload_n B dX8_events_1 rfl 1 rfl k) ?_
  replace h := br_e h
  obtain ⟨r2, h1, h⟩ := h
  have m3 := ct_X8_flowAt l (g := g) h1 hT hk_t
  refine yc_Vq (Al := [.int x1]) (rest := []) 5 rfl cw_X8_99 cx_9 dX8_events_2 m3 hk_t rfl (by decide) rfl (Nat.le_of_ble_eq_true rfl) ?_
  have hq_r2 := m3.1.2
  refine ym 6 (fun B k => z_qstore_n (r := r2) (lv' := [(2, va_rf r2), (0, .ref t), (1, .int x1)]) B dX8_events_5 rfl (by decide) rfl k) ?_
  refine ym 7 (fun B k => z_qload_n (r := r2) B dX8_events_6 rfl 0 rfl k) ?_
  rcases r2 with _ | a4
  · replace h := oc_n h
    refine ym 10 (fun B k => z_ifnonnull (r := none) (tgt := 20) B dX8_events_7 (by decide) (fun a h => nomatch h) (fun _ => k)) ?_
    obtain ⟨h1, rfl⟩ := Prod.mk.inj (Option.some.inj h)
    cases h1
    exact yt_throw hT hlt (text := "no such workflow") tw_X8_72_153_76 dX8_events_10 dX8_events_13 dX8_events_14 dX8_events_16 dX8_events_19 (by decide) (by decide)
  · replace h := oc_s h
    have hk_a4 := hq_r2 a4 rfl
    refine ym 20 (fun B k => z_ifnonnull (r := (some a4)) (tgt := 20) B dX8_events_7 (by decide) (fun _ _ => k) (fun h => nomatch h)) ?_
    refine ym 21 (fun B k => z_aload_n B dX8_events_20 rfl 0 rfl k) ?_
    replace h := qv_e h
    obtain ⟨w5, e_w5, h⟩ := h
    have hq_w5 : rk σ w5 3 := rk_T hT hk_a4 rfl (by decide) e_w5
    refine ym 24 (fun B k => gf_X8_179 (x := w5) B hk_a4 e_w5 dX8_events_21 k) ?_
    replace h := bq_e h
    obtain ⟨a6, rfl, h⟩ := h
    have hk_a6 := hq_w5 a6 rfl
    replace h := br_e h
    obtain ⟨r8, h7, h⟩ := h
    have m9 := ct_X1_size l (g := g) h7 hT hk_a6
    refine yc_Vi (Al := []) (rest := []) 27 rfl cw_X8_183 cx_2 dX8_events_24 m9 hk_a6 rfl (by decide) rfl (Nat.le_of_ble_eq_true rfl) ?_
    exact nomatch (Prod.mk.inj (Option.some.inj h)).1
set_option maxRecDepth 100000 in
set_option maxHeartbeats 4000000 in
theorem tb_X8_kind_24 {l : Launch} {g : gx_T} {σ : sx_T} {u : sx_T} {r : Int32} {As : Array Value}   (h : fb_X8_kind_24 σ  = some (.inl r, u)) (hT : TS g σ)  : ZY l g cX8_kind RX8 "kind" (some .int) 4 7 136 0 0 false As (QM g As (Qxi g r u)) (True) u σ 24 [] [] := by
  unfold fb_X8_kind_24 at h
  exact nomatch (Prod.mk.inj (Option.some.inj h)).1
set_option maxRecDepth 100000 in
set_option maxHeartbeats 4000000 in
theorem ct_X8_kind (l : Launch) {g : gx_T} {σ : sx_T} {u : sx_T} {r : Int32}  {t : Nat} {x1 : Int32} {x2 : Int32} (h : f_X8_kind σ t x1 x2 = some (.inl r, u)) (hT : TS g σ) (hk_t : sx_K σ t = 10) : CT l g yX8_kind cX8_kind 4 (some .int) 7 136 [.ref t, .int x1, .int x2] (True) u σ (Qxi g r u) := by
  refine yc_met (by decide) (Nat.le_of_ble_eq_true rfl) ?_
  refine yc_lv (show lv_args 0 [.ref t, .int x1, .int x2] = [(0, .ref t), (1, .int x1), (2, .int x2)] from rfl) ?_
  show ZY l g _ _ _ _ _ _ _ _ _ _ _ _ _ _ σ 0 [(0, .ref t), (1, .int x1), (2, .int x2)] []
  unfold f_X8_kind at h
  refine ym 1 (fun B k => z_aload_n B dX8_kind_0 rfl 0 rfl k) ?_
  refine ym 2 (fun B k => z_iload_n B dX8_kind_1 rfl 1 rfl k) ?_
  replace h := br_e h
  obtain ⟨r2, h1, h⟩ := h
  have m3 := ct_X8_flowAt l (g := g) h1 hT hk_t
  refine yc_Vq (Al := [.int x1]) (rest := []) 5 rfl cw_X8_99 cx_9 dX8_kind_2 m3 hk_t rfl (by decide) rfl (Nat.le_of_ble_eq_true rfl) ?_
  have hq_r2 := m3.1.2
  refine ym 6 (fun B k => z_qstore_n (r := r2) (lv' := [(3, va_rf r2), (0, .ref t), (1, .int x1), (2, .int x2)]) B dX8_kind_5 rfl (by decide) rfl k) ?_
  refine ym 7 (fun B k => z_qload_n (r := r2) B dX8_kind_6 rfl 0 rfl k) ?_
  rcases r2 with _ | a4
  · replace h := oc_n h
    refine ym 24 (fun B k => z_ifnull (r := none) (tgt := 24) B dX8_kind_7 (by decide) (fun _ => k) (fun a h => nomatch h)) ?_
    refine y_sub [] [] rfl ?_
    exact tb_X8_kind_24 h hT 
  · replace h := oc_s h
    have hk_a4 := hq_r2 a4 rfl
    refine ym 10 (fun B k => z_ifnull (r := (some a4)) (tgt := 24) B dX8_kind_7 (by decide) (fun h => nomatch h) (fun _ _ => k)) ?_
    refine ym 11 (fun B k => z_iload_n B dX8_kind_10 rfl 3 rfl k) ?_
    refine ym 12 (fun B k => z_aload_n B dX8_kind_11 rfl 0 rfl k) ?_
    replace h := qv_e h
    obtain ⟨w5, e_w5, h⟩ := h
    have hq_w5 : rk σ w5 3 := rk_T hT hk_a4 rfl (by decide) e_w5
    refine ym 15 (fun B k => gf_X8_179 (x := w5) B hk_a4 e_w5 dX8_kind_12 k) ?_
    replace h := bq_e h
    obtain ⟨a6, rfl, h⟩ := h
    have hk_a6 := hq_w5 a6 rfl
    replace h := br_e h
    obtain ⟨r8, h7, h⟩ := h
    have m9 := ct_X1_size l (g := g) h7 hT hk_a6
    refine yc_Vi (Al := []) (rest := [.int x2]) 18 rfl cw_X8_183 cx_2 dX8_kind_15 m9 hk_a6 rfl (by decide) rfl (Nat.le_of_ble_eq_true rfl) ?_
    replace h := br_e h
    obtain ⟨r11, h10, h⟩ := h
    have m12 := ct_X8_isBelow l (g := g) h10 hT
    refine yc_Si (Al := [.int x2, .int r8]) (rest := []) 21 rfl cw_X8_68 dX8_kind_18 m12 rfl (by decide) rfl (Nat.le_of_ble_eq_true rfl) ?_
    have hz_r11 := m12.1.2
    by_cases c13 : r11 = 0
    · replace h := ite_p c13 h
      refine ym 24 (fun B k => z_if_ne (tgt := 35) B dX8_kind_21 (by decide) (fun q => absurd c13 q) (fun _ => k)) ?_
      refine y_sub [] [] rfl ?_
      exact tb_X8_kind_24 h hT 
    · replace h := ite_n c13 h
      refine ym 35 (fun B k => z_if_ne (tgt := 35) B dX8_kind_21 (by decide) (fun _ => k) (fun q => absurd q c13)) ?_
      refine ym 36 (fun B k => z_aload_n B dX8_kind_35 rfl 0 rfl k) ?_
      replace h := qv_e h
      obtain ⟨w14, e_w14, h⟩ := h
      have hq_w14 : rk σ w14 3 := rk_T hT hk_a4 rfl (by decide) e_w14
      refine ym 39 (fun B k => gf_X8_179 (x := w14) B hk_a4 e_w14 dX8_kind_36 k) ?_
      refine ym 40 (fun B k => z_iload_n B dX8_kind_39 rfl 3 rfl k) ?_
      replace h := bq_e h
      obtain ⟨a15, rfl, h⟩ := h
      have hk_a15 := hq_w14 a15 rfl
      replace h := br_e h
      obtain ⟨r17, h16, h⟩ := h
      have m18 := ct_X1_kindAt l (g := g) h16 hT hk_a15
      refine yc_Vi (Al := [.int x2]) (rest := []) 43 rfl cw_X8_186 cx_2 dX8_kind_40 m18 hk_a15 rfl (by decide) rfl (Nat.le_of_ble_eq_true rfl) ?_
      obtain ⟨h1, rfl⟩ := Prod.mk.inj (Option.some.inj h)
      obtain rfl := Sum.inl.inj h1
      exact yr_i hT trivial rfl dX8_kind_43
set_option maxRecDepth 100000 in
set_option maxHeartbeats 4000000 in
theorem tb_X8_kind_24x {l : Launch} {g : gx_T} {σ : sx_T} {u : sx_T} {E : String} {As : Array Value} {Qc : Array Value → State → Outcome → State → Prop} (hlt : l.stackTraces = false)   (h : fb_X8_kind_24 σ  = some (.inr E, u)) (hT : TS g σ)  : ZY l g cX8_kind RX8 "kind" (some .int) 4 7 136 1 6 true As (QX g As Qc E u) True u σ 24 [] [] := by
  unfold fb_X8_kind_24 at h
  obtain ⟨h1, rfl⟩ := Prod.mk.inj (Option.some.inj h)
  cases h1
  exact yt_throwW hT hlt (text := "no such event") tw_X8_72_262_76 dX8_kind_24 dX8_kind_27 dX8_kind_28 dX8_kind_31 dX8_kind_34 (by decide) (by decide)
set_option maxRecDepth 100000 in
set_option maxHeartbeats 4000000 in
theorem ct_X8_kindx (l : Launch) (hlt : l.stackTraces = false) {g : gx_T} {σ : sx_T} {u : sx_T} {E : String}  {t : Nat} {x1 : Int32} {x2 : Int32} (h : f_X8_kind σ t x1 x2 = some (.inr E, u)) (hT : TS g σ) (hk_t : sx_K σ t = 10) {Qc : Array Value → State → Outcome → State → Prop} : CX l g yX8_kind cX8_kind 4 (some .int) 7 136 [.ref t, .int x1, .int x2] E u σ Qc := by
  refine yc_metX (by decide) (Nat.le_of_ble_eq_true rfl) ?_
  refine yc_lv (show lv_args 0 [.ref t, .int x1, .int x2] = [(0, .ref t), (1, .int x1), (2, .int x2)] from rfl) ?_
  show ZY l g _ _ _ _ _ _ _ _ _ _ _ _ _ _ σ 0 [(0, .ref t), (1, .int x1), (2, .int x2)] []
  unfold f_X8_kind at h
  refine ym 1 (fun B k => z_aload_n B dX8_kind_0 rfl 0 rfl k) ?_
  refine ym 2 (fun B k => z_iload_n B dX8_kind_1 rfl 1 rfl k) ?_
  replace h := br_e h
  obtain ⟨r2, h1, h⟩ := h
  have m3 := ct_X8_flowAt l (g := g) h1 hT hk_t
  refine yc_Vq (Al := [.int x1]) (rest := []) 5 rfl cw_X8_99 cx_9 dX8_kind_2 m3 hk_t rfl (by decide) rfl (Nat.le_of_ble_eq_true rfl) ?_
  have hq_r2 := m3.1.2
  refine ym 6 (fun B k => z_qstore_n (r := r2) (lv' := [(3, va_rf r2), (0, .ref t), (1, .int x1), (2, .int x2)]) B dX8_kind_5 rfl (by decide) rfl k) ?_
  refine ym 7 (fun B k => z_qload_n (r := r2) B dX8_kind_6 rfl 0 rfl k) ?_
  rcases r2 with _ | a4
  · replace h := oc_n h
    refine ym 24 (fun B k => z_ifnull (r := none) (tgt := 24) B dX8_kind_7 (by decide) (fun _ => k) (fun a h => nomatch h)) ?_
    refine y_sub [] [] rfl ?_
    exact tb_X8_kind_24x hlt h hT 
  · replace h := oc_s h
    have hk_a4 := hq_r2 a4 rfl
    refine ym 10 (fun B k => z_ifnull (r := (some a4)) (tgt := 24) B dX8_kind_7 (by decide) (fun h => nomatch h) (fun _ _ => k)) ?_
    refine ym 11 (fun B k => z_iload_n B dX8_kind_10 rfl 3 rfl k) ?_
    refine ym 12 (fun B k => z_aload_n B dX8_kind_11 rfl 0 rfl k) ?_
    replace h := qv_e h
    obtain ⟨w5, e_w5, h⟩ := h
    have hq_w5 : rk σ w5 3 := rk_T hT hk_a4 rfl (by decide) e_w5
    refine ym 15 (fun B k => gf_X8_179 (x := w5) B hk_a4 e_w5 dX8_kind_12 k) ?_
    replace h := bq_e h
    obtain ⟨a6, rfl, h⟩ := h
    have hk_a6 := hq_w5 a6 rfl
    replace h := br_e h
    obtain ⟨r8, h7, h⟩ := h
    have m9 := ct_X1_size l (g := g) h7 hT hk_a6
    refine yc_Vi (Al := []) (rest := [.int x2]) 18 rfl cw_X8_183 cx_2 dX8_kind_15 m9 hk_a6 rfl (by decide) rfl (Nat.le_of_ble_eq_true rfl) ?_
    replace h := br_e h
    obtain ⟨r11, h10, h⟩ := h
    have m12 := ct_X8_isBelow l (g := g) h10 hT
    refine yc_Si (Al := [.int x2, .int r8]) (rest := []) 21 rfl cw_X8_68 dX8_kind_18 m12 rfl (by decide) rfl (Nat.le_of_ble_eq_true rfl) ?_
    have hz_r11 := m12.1.2
    by_cases c13 : r11 = 0
    · replace h := ite_p c13 h
      refine ym 24 (fun B k => z_if_ne (tgt := 35) B dX8_kind_21 (by decide) (fun q => absurd c13 q) (fun _ => k)) ?_
      refine y_sub [] [] rfl ?_
      exact tb_X8_kind_24x hlt h hT 
    · replace h := ite_n c13 h
      refine ym 35 (fun B k => z_if_ne (tgt := 35) B dX8_kind_21 (by decide) (fun _ => k) (fun q => absurd q c13)) ?_
      refine ym 36 (fun B k => z_aload_n B dX8_kind_35 rfl 0 rfl k) ?_
      replace h := qv_e h
      obtain ⟨w14, e_w14, h⟩ := h
      have hq_w14 : rk σ w14 3 := rk_T hT hk_a4 rfl (by decide) e_w14
      refine ym 39 (fun B k => gf_X8_179 (x := w14) B hk_a4 e_w14 dX8_kind_36 k) ?_
      refine ym 40 (fun B k => z_iload_n B dX8_kind_39 rfl 3 rfl k) ?_
      replace h := bq_e h
      obtain ⟨a15, rfl, h⟩ := h
      have hk_a15 := hq_w14 a15 rfl
      replace h := br_e h
      obtain ⟨r17, h16, h⟩ := h
      have m18 := ct_X1_kindAt l (g := g) h16 hT hk_a15
      refine yc_Vi (Al := [.int x2]) (rest := []) 43 rfl cw_X8_186 cx_2 dX8_kind_40 m18 hk_a15 rfl (by decide) rfl (Nat.le_of_ble_eq_true rfl) ?_
      exact nomatch (Prod.mk.inj (Option.some.inj h)).1
set_option maxRecDepth 100000 in
set_option maxHeartbeats 4000000 in
theorem tb_X8_number_24 {l : Launch} {g : gx_T} {σ : sx_T} {u : sx_T} {r : Int64} {As : Array Value}   (h : fb_X8_number_24 σ  = some (.inl r, u)) (hT : TS g σ)  : ZY l g cX8_number RX8 "number" (some .long) 4 7 136 0 0 false As (QM g As (Qxl g r u)) (True) u σ 24 [] [] := by
  unfold fb_X8_number_24 at h
  exact nomatch (Prod.mk.inj (Option.some.inj h)).1
set_option maxRecDepth 100000 in
set_option maxHeartbeats 4000000 in
theorem ct_X8_number (l : Launch) {g : gx_T} {σ : sx_T} {u : sx_T} {r : Int64}  {t : Nat} {x1 : Int32} {x2 : Int32} (h : f_X8_number σ t x1 x2 = some (.inl r, u)) (hT : TS g σ) (hk_t : sx_K σ t = 10) : CT l g yX8_number cX8_number 4 (some .long) 7 136 [.ref t, .int x1, .int x2] (True) u σ (Qxl g r u) := by
  refine yc_met (by decide) (Nat.le_of_ble_eq_true rfl) ?_
  refine yc_lv (show lv_args 0 [.ref t, .int x1, .int x2] = [(0, .ref t), (1, .int x1), (2, .int x2)] from rfl) ?_
  show ZY l g _ _ _ _ _ _ _ _ _ _ _ _ _ _ σ 0 [(0, .ref t), (1, .int x1), (2, .int x2)] []
  unfold f_X8_number at h
  refine ym 1 (fun B k => z_aload_n B dX8_number_0 rfl 0 rfl k) ?_
  refine ym 2 (fun B k => z_iload_n B dX8_number_1 rfl 1 rfl k) ?_
  replace h := br_e h
  obtain ⟨r2, h1, h⟩ := h
  have m3 := ct_X8_flowAt l (g := g) h1 hT hk_t
  refine yc_Vq (Al := [.int x1]) (rest := []) 5 rfl cw_X8_99 cx_9 dX8_number_2 m3 hk_t rfl (by decide) rfl (Nat.le_of_ble_eq_true rfl) ?_
  have hq_r2 := m3.1.2
  refine ym 6 (fun B k => z_qstore_n (r := r2) (lv' := [(3, va_rf r2), (0, .ref t), (1, .int x1), (2, .int x2)]) B dX8_number_5 rfl (by decide) rfl k) ?_
  refine ym 7 (fun B k => z_qload_n (r := r2) B dX8_number_6 rfl 0 rfl k) ?_
  rcases r2 with _ | a4
  · replace h := oc_n h
    refine ym 24 (fun B k => z_ifnull (r := none) (tgt := 24) B dX8_number_7 (by decide) (fun _ => k) (fun a h => nomatch h)) ?_
    refine y_sub [] [] rfl ?_
    exact tb_X8_number_24 h hT 
  · replace h := oc_s h
    have hk_a4 := hq_r2 a4 rfl
    refine ym 10 (fun B k => z_ifnull (r := (some a4)) (tgt := 24) B dX8_number_7 (by decide) (fun h => nomatch h) (fun _ _ => k)) ?_
    refine ym 11 (fun B k => z_iload_n B dX8_number_10 rfl 3 rfl k) ?_
    refine ym 12 (fun B k => z_aload_n B dX8_number_11 rfl 0 rfl k) ?_
    replace h := qv_e h
    obtain ⟨w5, e_w5, h⟩ := h
    have hq_w5 : rk σ w5 3 := rk_T hT hk_a4 rfl (by decide) e_w5
    refine ym 15 (fun B k => gf_X8_179 (x := w5) B hk_a4 e_w5 dX8_number_12 k) ?_
    replace h := bq_e h
    obtain ⟨a6, rfl, h⟩ := h
    have hk_a6 := hq_w5 a6 rfl
    replace h := br_e h
    obtain ⟨r8, h7, h⟩ := h
    have m9 := ct_X1_size l (g := g) h7 hT hk_a6
    refine yc_Vi (Al := []) (rest := [.int x2]) 18 rfl cw_X8_183 cx_2 dX8_number_15 m9 hk_a6 rfl (by decide) rfl (Nat.le_of_ble_eq_true rfl) ?_
    replace h := br_e h
    obtain ⟨r11, h10, h⟩ := h
    have m12 := ct_X8_isBelow l (g := g) h10 hT
    refine yc_Si (Al := [.int x2, .int r8]) (rest := []) 21 rfl cw_X8_68 dX8_number_18 m12 rfl (by decide) rfl (Nat.le_of_ble_eq_true rfl) ?_
    have hz_r11 := m12.1.2
    by_cases c13 : r11 = 0
    · replace h := ite_p c13 h
      refine ym 24 (fun B k => z_if_ne (tgt := 35) B dX8_number_21 (by decide) (fun q => absurd c13 q) (fun _ => k)) ?_
      refine y_sub [] [] rfl ?_
      exact tb_X8_number_24 h hT 
    · replace h := ite_n c13 h
      refine ym 35 (fun B k => z_if_ne (tgt := 35) B dX8_number_21 (by decide) (fun _ => k) (fun q => absurd q c13)) ?_
      refine ym 36 (fun B k => z_aload_n B dX8_number_35 rfl 0 rfl k) ?_
      replace h := qv_e h
      obtain ⟨w14, e_w14, h⟩ := h
      have hq_w14 : rk σ w14 3 := rk_T hT hk_a4 rfl (by decide) e_w14
      refine ym 39 (fun B k => gf_X8_179 (x := w14) B hk_a4 e_w14 dX8_number_36 k) ?_
      refine ym 40 (fun B k => z_iload_n B dX8_number_39 rfl 3 rfl k) ?_
      replace h := bq_e h
      obtain ⟨a15, rfl, h⟩ := h
      have hk_a15 := hq_w14 a15 rfl
      replace h := br_e h
      obtain ⟨r17, h16, h⟩ := h
      have m18 := ct_X1_numberAt l (g := g) h16 hT hk_a15
      refine yc_Vl (Al := [.int x2]) (rest := []) 43 rfl cw_X8_189 cx_2 dX8_number_40 m18 hk_a15 rfl (by decide) rfl (Nat.le_of_ble_eq_true rfl) ?_
      obtain ⟨h1, rfl⟩ := Prod.mk.inj (Option.some.inj h)
      obtain rfl := Sum.inl.inj h1
      exact yr_l hT trivial rfl dX8_number_43
set_option maxRecDepth 100000 in
set_option maxHeartbeats 4000000 in
theorem tb_X8_number_24x {l : Launch} {g : gx_T} {σ : sx_T} {u : sx_T} {E : String} {As : Array Value} {Qc : Array Value → State → Outcome → State → Prop} (hlt : l.stackTraces = false)   (h : fb_X8_number_24 σ  = some (.inr E, u)) (hT : TS g σ)  : ZY l g cX8_number RX8 "number" (some .long) 4 7 136 1 6 true As (QX g As Qc E u) True u σ 24 [] [] := by
  unfold fb_X8_number_24 at h
  obtain ⟨h1, rfl⟩ := Prod.mk.inj (Option.some.inj h)
  cases h1
  exact yt_throwW hT hlt (text := "no such event") tw_X8_72_262_76 dX8_number_24 dX8_number_27 dX8_number_28 dX8_number_31 dX8_number_34 (by decide) (by decide)
set_option maxRecDepth 100000 in
set_option maxHeartbeats 4000000 in
theorem ct_X8_numberx (l : Launch) (hlt : l.stackTraces = false) {g : gx_T} {σ : sx_T} {u : sx_T} {E : String}  {t : Nat} {x1 : Int32} {x2 : Int32} (h : f_X8_number σ t x1 x2 = some (.inr E, u)) (hT : TS g σ) (hk_t : sx_K σ t = 10) {Qc : Array Value → State → Outcome → State → Prop} : CX l g yX8_number cX8_number 4 (some .long) 7 136 [.ref t, .int x1, .int x2] E u σ Qc := by
  refine yc_metX (by decide) (Nat.le_of_ble_eq_true rfl) ?_
  refine yc_lv (show lv_args 0 [.ref t, .int x1, .int x2] = [(0, .ref t), (1, .int x1), (2, .int x2)] from rfl) ?_
  show ZY l g _ _ _ _ _ _ _ _ _ _ _ _ _ _ σ 0 [(0, .ref t), (1, .int x1), (2, .int x2)] []
  unfold f_X8_number at h
  refine ym 1 (fun B k => z_aload_n B dX8_number_0 rfl 0 rfl k) ?_
  refine ym 2 (fun B k => z_iload_n B dX8_number_1 rfl 1 rfl k) ?_
  replace h := br_e h
  obtain ⟨r2, h1, h⟩ := h
  have m3 := ct_X8_flowAt l (g := g) h1 hT hk_t
  refine yc_Vq (Al := [.int x1]) (rest := []) 5 rfl cw_X8_99 cx_9 dX8_number_2 m3 hk_t rfl (by decide) rfl (Nat.le_of_ble_eq_true rfl) ?_
  have hq_r2 := m3.1.2
  refine ym 6 (fun B k => z_qstore_n (r := r2) (lv' := [(3, va_rf r2), (0, .ref t), (1, .int x1), (2, .int x2)]) B dX8_number_5 rfl (by decide) rfl k) ?_
  refine ym 7 (fun B k => z_qload_n (r := r2) B dX8_number_6 rfl 0 rfl k) ?_
  rcases r2 with _ | a4
  · replace h := oc_n h
    refine ym 24 (fun B k => z_ifnull (r := none) (tgt := 24) B dX8_number_7 (by decide) (fun _ => k) (fun a h => nomatch h)) ?_
    refine y_sub [] [] rfl ?_
    exact tb_X8_number_24x hlt h hT 
  · replace h := oc_s h
    have hk_a4 := hq_r2 a4 rfl
    refine ym 10 (fun B k => z_ifnull (r := (some a4)) (tgt := 24) B dX8_number_7 (by decide) (fun h => nomatch h) (fun _ _ => k)) ?_
    refine ym 11 (fun B k => z_iload_n B dX8_number_10 rfl 3 rfl k) ?_
    refine ym 12 (fun B k => z_aload_n B dX8_number_11 rfl 0 rfl k) ?_
    replace h := qv_e h
    obtain ⟨w5, e_w5, h⟩ := h
    have hq_w5 : rk σ w5 3 := rk_T hT hk_a4 rfl (by decide) e_w5
    refine ym 15 (fun B k => gf_X8_179 (x := w5) B hk_a4 e_w5 dX8_number_12 k) ?_
    replace h := bq_e h
    obtain ⟨a6, rfl, h⟩ := h
    have hk_a6 := hq_w5 a6 rfl
    replace h := br_e h
    obtain ⟨r8, h7, h⟩ := h
    have m9 := ct_X1_size l (g := g) h7 hT hk_a6
    refine yc_Vi (Al := []) (rest := [.int x2]) 18 rfl cw_X8_183 cx_2 dX8_number_15 m9 hk_a6 rfl (by decide) rfl (Nat.le_of_ble_eq_true rfl) ?_
    replace h := br_e h
    obtain ⟨r11, h10, h⟩ := h
    have m12 := ct_X8_isBelow l (g := g) h10 hT
    refine yc_Si (Al := [.int x2, .int r8]) (rest := []) 21 rfl cw_X8_68 dX8_number_18 m12 rfl (by decide) rfl (Nat.le_of_ble_eq_true rfl) ?_
    have hz_r11 := m12.1.2
    by_cases c13 : r11 = 0
    · replace h := ite_p c13 h
      refine ym 24 (fun B k => z_if_ne (tgt := 35) B dX8_number_21 (by decide) (fun q => absurd c13 q) (fun _ => k)) ?_
      refine y_sub [] [] rfl ?_
      exact tb_X8_number_24x hlt h hT 
    · replace h := ite_n c13 h
      refine ym 35 (fun B k => z_if_ne (tgt := 35) B dX8_number_21 (by decide) (fun _ => k) (fun q => absurd q c13)) ?_
      refine ym 36 (fun B k => z_aload_n B dX8_number_35 rfl 0 rfl k) ?_
      replace h := qv_e h
      obtain ⟨w14, e_w14, h⟩ := h
      have hq_w14 : rk σ w14 3 := rk_T hT hk_a4 rfl (by decide) e_w14
      refine ym 39 (fun B k => gf_X8_179 (x := w14) B hk_a4 e_w14 dX8_number_36 k) ?_
      refine ym 40 (fun B k => z_iload_n B dX8_number_39 rfl 3 rfl k) ?_
      replace h := bq_e h
      obtain ⟨a15, rfl, h⟩ := h
      have hk_a15 := hq_w14 a15 rfl
      replace h := br_e h
      obtain ⟨r17, h16, h⟩ := h
      have m18 := ct_X1_numberAt l (g := g) h16 hT hk_a15
      refine yc_Vl (Al := [.int x2]) (rest := []) 43 rfl cw_X8_189 cx_2 dX8_number_40 m18 hk_a15 rfl (by decide) rfl (Nat.le_of_ble_eq_true rfl) ?_
      exact nomatch (Prod.mk.inj (Option.some.inj h)).1
set_option maxRecDepth 100000 in
set_option maxHeartbeats 4000000 in
theorem ct_X7_fact (l : Launch) {g : gx_T} {σ : sx_T} {r : Int32}  {t : Nat} {x1 : Int32} (h : f_X7_fact σ t x1 = some r) (hT : TS g σ) (hk_t : sx_K σ t = 9) : CT l g yX7_fact cX7_fact 2 (some .int) 0 0 [.ref t, .int x1] (True) σ σ (Qxi g r σ) := by
  refine yc_met (by decide) (Nat.le_of_ble_eq_true rfl) ?_
  refine yc_lv (show lv_args 0 [.ref t, .int x1] = [(0, .ref t), (1, .int x1)] from rfl) ?_
  show ZY l g _ _ _ _ _ _ _ _ _ _ _ _ _ _ σ 0 [(0, .ref t), (1, .int x1)] []
  unfold f_X7_fact at h
  refine ym 1 (fun B k => z_iload_n B dX7_fact_0 rfl 1 rfl k) ?_
  by_cases c1 : x1 = 0
  · replace h := ite_p c1 h
    refine ym 36 (fun B k => z_tableIn (tgt := 36) B dX7_fact_1 (by rw [c1]; decide) (by rw [c1]; decide) (show _ = some (35 : Int) by rw [c1]; decide) (by decide) k) ?_
    refine ym 37 (fun B k => z_aload_n B dX7_fact_36 rfl 0 rfl k) ?_
    replace h := qv_e h
    obtain ⟨w2, e_w2, h⟩ := h
    have hq_w2 : rk σ w2 2 := rk_T hT hk_t rfl (by decide) e_w2
    refine ym 40 (fun B k => gf_X7_18 (x := w2) B hk_t e_w2 dX7_fact_37 k) ?_
    replace h := bq_e h
    obtain ⟨a3, rfl, h⟩ := h
    have hk_a3 := hq_w2 a3 rfl
    refine ym 43 (fun B k => gf_X7_25 (x := (sx_I σ a3 0)) B hk_a3 rfl dX7_fact_40 k) ?_
    obtain rfl := Option.some.inj h
    exact yr_i hT trivial rfl dX7_fact_43
  replace h := ite_n c1 h
  by_cases c4 : x1 = 1
  · replace h := ite_p c4 h
    refine ym 44 (fun B k => z_tableIn (tgt := 44) B dX7_fact_1 (by rw [c4]; decide) (by rw [c4]; decide) (show _ = some (43 : Int) by rw [c4]; decide) (by decide) k) ?_
    refine ym 45 (fun B k => z_aload_n B dX7_fact_44 rfl 0 rfl k) ?_
    refine ym 48 (fun B k => gf_X7_22 (x := (sx_I σ t 2)) B hk_t rfl dX7_fact_45 k) ?_
    obtain rfl := Option.some.inj h
    exact yr_i hT trivial rfl dX7_fact_48
  replace h := ite_n c4 h
  by_cases c5 : x1 = 2
  · replace h := ite_p c5 h
    refine ym 49 (fun B k => z_tableIn (tgt := 49) B dX7_fact_1 (by rw [c5]; decide) (by rw [c5]; decide) (show _ = some (48 : Int) by rw [c5]; decide) (by decide) k) ?_
    refine ym 50 (fun B k => z_aload_n B dX7_fact_49 rfl 0 rfl k) ?_
    refine ym 53 (fun B k => gf_X7_9 (x := (sx_I σ t 3)) B hk_t rfl dX7_fact_50 k) ?_
    obtain rfl := Option.some.inj h
    exact yr_i hT trivial rfl dX7_fact_53
  replace h := ite_n c5 h
  by_cases c6 : x1 = 3
  · replace h := ite_p c6 h
    refine ym 54 (fun B k => z_tableIn (tgt := 54) B dX7_fact_1 (by rw [c6]; decide) (by rw [c6]; decide) (show _ = some (53 : Int) by rw [c6]; decide) (by decide) k) ?_
    refine ym 55 (fun B k => z_aload_n B dX7_fact_54 rfl 0 rfl k) ?_
    refine ym 58 (fun B k => gf_X7_28 (x := (sx_I σ t 4)) B hk_t rfl dX7_fact_55 k) ?_
    obtain rfl := Option.some.inj h
    exact yr_i hT trivial rfl dX7_fact_58
  replace h := ite_n c6 h
  by_cases c7 : x1 = 4
  · replace h := ite_p c7 h
    refine ym 59 (fun B k => z_tableIn (tgt := 59) B dX7_fact_1 (by rw [c7]; decide) (by rw [c7]; decide) (show _ = some (58 : Int) by rw [c7]; decide) (by decide) k) ?_
    refine ym 60 (fun B k => z_aload_n B dX7_fact_59 rfl 0 rfl k) ?_
    refine ym 63 (fun B k => gf_X7_31 (x := (sx_I σ t 5)) B hk_t rfl dX7_fact_60 k) ?_
    obtain rfl := Option.some.inj h
    exact yr_i hT trivial rfl dX7_fact_63
  replace h := ite_n c7 h
  refine ym 64 (fun B k => z_tabDf (tgt := 64) (vs := [0, 1, 2, 3, 4]) B dX7_fact_1 (by decide) (by decide) (by decide) (by intro v hv; simp only [List.mem_cons, List.not_mem_nil, or_false] at hv; rcases hv with rfl | rfl | rfl | rfl | rfl; all_goals assumption) k) ?_
  refine ym 65 (fun B k => z_aload_n B dX7_fact_64 rfl 0 rfl k) ?_
  refine ym 68 (fun B k => gf_X7_34 (x := (sx_I σ t 6)) B hk_t rfl dX7_fact_65 k) ?_
  obtain rfl := Option.some.inj h
  exact yr_i hT trivial rfl dX7_fact_68
set_option maxRecDepth 100000 in
set_option maxHeartbeats 4000000 in
theorem ct_X8_task (l : Launch) {g : gx_T} {σ : sx_T} {u : sx_T} {r : Int32}  {t : Nat} {x1 : Int32} {x2 : Int32} (h : f_X8_task σ t x1 x2 = some (.inl r, u)) (hT : TS g σ) (hk_t : sx_K σ t = 10) : CT l g yX8_task cX8_task 4 (some .int) 7 136 [.ref t, .int x1, .int x2] (True) u σ (Qxi g r u) := by
  refine yc_met (by decide) (Nat.le_of_ble_eq_true rfl) ?_
  refine yc_lv (show lv_args 0 [.ref t, .int x1, .int x2] = [(0, .ref t), (1, .int x1), (2, .int x2)] from rfl) ?_
  show ZY l g _ _ _ _ _ _ _ _ _ _ _ _ _ _ σ 0 [(0, .ref t), (1, .int x1), (2, .int x2)] []
  unfold f_X8_task at h
  refine ym 1 (fun B k => z_aload_n B dX8_task_0 rfl 0 rfl k) ?_
  refine ym 2 (fun B k => z_iload_n B dX8_task_1 rfl 1 rfl k) ?_
  replace h := br_e h
  obtain ⟨r2, h1, h⟩ := h
  have m3 := ct_X8_taskAt l (g := g) h1 hT hk_t
  refine yc_Vq (Al := [.int x1]) (rest := []) 5 rfl cw_X8_265 cx_9 dX8_task_2 m3 hk_t rfl (by decide) rfl (Nat.le_of_ble_eq_true rfl) ?_
  have hq_r2 := m3.1.2
  refine ym 6 (fun B k => z_qstore_n (r := r2) (lv' := [(3, va_rf r2), (0, .ref t), (1, .int x1), (2, .int x2)]) B dX8_task_5 rfl (by decide) rfl k) ?_
  refine ym 7 (fun B k => z_qload_n (r := r2) B dX8_task_6 rfl 0 rfl k) ?_
  rcases r2 with _ | a4
  · replace h := oc_n h
    refine ym 10 (fun B k => z_ifnonnull (r := none) (tgt := 21) B dX8_task_7 (by decide) (fun a h => nomatch h) (fun _ => k)) ?_
    exact nomatch (Prod.mk.inj (Option.some.inj h)).1
  · replace h := oc_s h
    have hk_a4 := hq_r2 a4 rfl
    refine ym 21 (fun B k => z_ifnonnull (r := (some a4)) (tgt := 21) B dX8_task_7 (by decide) (fun _ _ => k) (fun h => nomatch h)) ?_
    refine ym 22 (fun B k => z_iload_n B dX8_task_21 rfl 3 rfl k) ?_
    refine ym 24 (fun B k => z_bipush (v := 6) B dX8_task_22 (by decide) k) ?_
    replace h := br_e h
    obtain ⟨r6, h5, h⟩ := h
    have m7 := ct_X8_isBelow l (g := g) h5 hT
    refine yc_Si (Al := [.int x2, .int 6]) (rest := []) 27 rfl cw_X8_68 dX8_task_24 m7 rfl (by decide) rfl (Nat.le_of_ble_eq_true rfl) ?_
    have hz_r6 := m7.1.2
    by_cases c8 : r6 = 0
    · replace h := ite_p c8 h
      refine ym 30 (fun B k => z_if_ne (tgt := 40) B dX8_task_27 (by decide) (fun q => absurd c8 q) (fun _ => k)) ?_
      exact nomatch (Prod.mk.inj (Option.some.inj h)).1
    · replace h := ite_n c8 h
      refine ym 40 (fun B k => z_if_ne (tgt := 40) B dX8_task_27 (by decide) (fun _ => k) (fun q => absurd q c8)) ?_
      refine ym 41 (fun B k => z_aload_n B dX8_task_40 rfl 0 rfl k) ?_
      refine ym 42 (fun B k => z_iload_n B dX8_task_41 rfl 3 rfl k) ?_
      replace h := br_e h
      obtain ⟨r10, h9, h⟩ := h
      have m11 := ct_X7_fact l (g := g) h9 hT hk_a4
      refine yc_Vi (Al := [.int x2]) (rest := []) 45 rfl cw_X8_270 cx_8 dX8_task_42 m11 hk_a4 rfl (by decide) rfl (Nat.le_of_ble_eq_true rfl) ?_
      obtain ⟨h1, rfl⟩ := Prod.mk.inj (Option.some.inj h)
      obtain rfl := Sum.inl.inj h1
      exact yr_i hT trivial rfl dX8_task_45
set_option maxRecDepth 100000 in
set_option maxHeartbeats 4000000 in
theorem ct_X8_taskx (l : Launch) (hlt : l.stackTraces = false) {g : gx_T} {σ : sx_T} {u : sx_T} {E : String}  {t : Nat} {x1 : Int32} {x2 : Int32} (h : f_X8_task σ t x1 x2 = some (.inr E, u)) (hT : TS g σ) (hk_t : sx_K σ t = 10) {Qc : Array Value → State → Outcome → State → Prop} : CX l g yX8_task cX8_task 4 (some .int) 7 136 [.ref t, .int x1, .int x2] E u σ Qc := by
  refine yc_metX (by decide) (Nat.le_of_ble_eq_true rfl) ?_
  refine yc_lv (show lv_args 0 [.ref t, .int x1, .int x2] = [(0, .ref t), (1, .int x1), (2, .int x2)] from rfl) ?_
  show ZY l g _ _ _ _ _ _ _ _ _ _ _ _ _ _ σ 0 [(0, .ref t), (1, .int x1), (2, .int x2)] []
  unfold f_X8_task at h
  refine ym 1 (fun B k => z_aload_n B dX8_task_0 rfl 0 rfl k) ?_
  refine ym 2 (fun B k => z_iload_n B dX8_task_1 rfl 1 rfl k) ?_
  replace h := br_e h
  obtain ⟨r2, h1, h⟩ := h
  have m3 := ct_X8_taskAt l (g := g) h1 hT hk_t
  refine yc_Vq (Al := [.int x1]) (rest := []) 5 rfl cw_X8_265 cx_9 dX8_task_2 m3 hk_t rfl (by decide) rfl (Nat.le_of_ble_eq_true rfl) ?_
  have hq_r2 := m3.1.2
  refine ym 6 (fun B k => z_qstore_n (r := r2) (lv' := [(3, va_rf r2), (0, .ref t), (1, .int x1), (2, .int x2)]) B dX8_task_5 rfl (by decide) rfl k) ?_
  refine ym 7 (fun B k => z_qload_n (r := r2) B dX8_task_6 rfl 0 rfl k) ?_
  rcases r2 with _ | a4
  · replace h := oc_n h
    refine ym 10 (fun B k => z_ifnonnull (r := none) (tgt := 21) B dX8_task_7 (by decide) (fun a h => nomatch h) (fun _ => k)) ?_
    obtain ⟨h1, rfl⟩ := Prod.mk.inj (Option.some.inj h)
    cases h1
    exact yt_throwW hT hlt (text := "no such task") tw_X8_72_268_76 dX8_task_10 dX8_task_13 dX8_task_14 dX8_task_17 dX8_task_20 (by decide) (by decide)
  · replace h := oc_s h
    have hk_a4 := hq_r2 a4 rfl
    refine ym 21 (fun B k => z_ifnonnull (r := (some a4)) (tgt := 21) B dX8_task_7 (by decide) (fun _ _ => k) (fun h => nomatch h)) ?_
    refine ym 22 (fun B k => z_iload_n B dX8_task_21 rfl 3 rfl k) ?_
    refine ym 24 (fun B k => z_bipush (v := 6) B dX8_task_22 (by decide) k) ?_
    replace h := br_e h
    obtain ⟨r6, h5, h⟩ := h
    have m7 := ct_X8_isBelow l (g := g) h5 hT
    refine yc_Si (Al := [.int x2, .int 6]) (rest := []) 27 rfl cw_X8_68 dX8_task_24 m7 rfl (by decide) rfl (Nat.le_of_ble_eq_true rfl) ?_
    have hz_r6 := m7.1.2
    by_cases c8 : r6 = 0
    · replace h := ite_p c8 h
      refine ym 30 (fun B k => z_if_ne (tgt := 40) B dX8_task_27 (by decide) (fun q => absurd c8 q) (fun _ => k)) ?_
      obtain ⟨h1, rfl⟩ := Prod.mk.inj (Option.some.inj h)
      cases h1
      exact yt_throw hT hlt (text := "no such fact") tw_X8_83_251_87 dX8_task_30 dX8_task_33 dX8_task_34 dX8_task_36 dX8_task_39 (by decide) (by decide)
    · replace h := ite_n c8 h
      refine ym 40 (fun B k => z_if_ne (tgt := 40) B dX8_task_27 (by decide) (fun _ => k) (fun q => absurd q c8)) ?_
      refine ym 41 (fun B k => z_aload_n B dX8_task_40 rfl 0 rfl k) ?_
      refine ym 42 (fun B k => z_iload_n B dX8_task_41 rfl 3 rfl k) ?_
      replace h := br_e h
      obtain ⟨r10, h9, h⟩ := h
      have m11 := ct_X7_fact l (g := g) h9 hT hk_a4
      refine yc_Vi (Al := [.int x2]) (rest := []) 45 rfl cw_X8_270 cx_8 dX8_task_42 m11 hk_a4 rfl (by decide) rfl (Nat.le_of_ble_eq_true rfl) ?_
      exact nomatch (Prod.mk.inj (Option.some.inj h)).1
set_option maxRecDepth 100000 in
set_option maxHeartbeats 4000000 in
theorem ct_X9_in (l : Launch) {g : gx_T} {σ : sx_T} {r : Int32}  {x0 : Int32} {x1 : Int32} {x2 : Int32} (h : f_X9_in σ x0 x1 x2 = some r) (hT : TS g σ)  : CT l g yX9_in cX9_in 3 (some .boolean) 0 0 [.int x0, .int x1, .int x2] (r = 0 ∨ r = 1) σ σ (Qxi g r σ) := by
  refine yc_met (by decide) (Nat.le_of_ble_eq_true rfl) ?_
  refine yc_lv (show lv_args 0 [.int x0, .int x1, .int x2] = [(0, .int x0), (1, .int x1), (2, .int x2)] from rfl) ?_
  show ZY l g _ _ _ _ _ _ _ _ _ _ _ _ _ _ σ 0 [(0, .int x0), (1, .int x1), (2, .int x2)] []
  unfold f_X9_in at h
  refine ym 1 (fun B k => z_iload_n B dX9_in_0 rfl 0 rfl k) ?_
  refine ym 2 (fun B k => z_iload_n B dX9_in_1 rfl 1 rfl k) ?_
  by_cases c1 : x0 < x1
  · replace h := ite_p c1 h
    refine ym 14 (fun B k => z_icmp_lt (tgt := 14) B dX9_in_2 (by decide) (fun _ => k) (fun q => absurd c1 q)) ?_
    refine ym 15 (fun B k => z_iconst (v := 0) B dX9_in_14 (by decide) k) ?_
    obtain rfl := Option.some.inj h
    exact yr_z hT (Or.inl rfl) rfl (Or.inl rfl) dX9_in_15
  · replace h := ite_n c1 h
    refine ym 5 (fun B k => z_icmp_lt (tgt := 14) B dX9_in_2 (by decide) (fun q => absurd q c1) (fun _ => k)) ?_
    refine ym 6 (fun B k => z_iload_n B dX9_in_5 rfl 0 rfl k) ?_
    refine ym 7 (fun B k => z_iload_n B dX9_in_6 rfl 2 rfl k) ?_
    by_cases c2 : x2 < x0
    · replace h := ite_p c2 h
      refine ym 14 (fun B k => z_icmp_gt (tgt := 14) B dX9_in_7 (by decide) (fun _ => k) (fun q => absurd c2 q)) ?_
      refine ym 15 (fun B k => z_iconst (v := 0) B dX9_in_14 (by decide) k) ?_
      obtain rfl := Option.some.inj h
      exact yr_z hT (Or.inl rfl) rfl (Or.inl rfl) dX9_in_15
    · replace h := ite_n c2 h
      refine ym 10 (fun B k => z_icmp_gt (tgt := 14) B dX9_in_7 (by decide) (fun q => absurd q c2) (fun _ => k)) ?_
      refine ym 11 (fun B k => z_iconst (v := 1) B dX9_in_10 (by decide) k) ?_
      refine ym 15 (fun B k => z_goto (tgt := 15) B dX9_in_11 (by decide) k) ?_
      obtain rfl := Option.some.inj h
      exact yr_z hT (Or.inr rfl) rfl (Or.inr rfl) dX9_in_15
set_option maxRecDepth 100000 in
set_option maxHeartbeats 4000000 in
theorem ct_X9_isStep (l : Launch) {g : gx_T} {σ : sx_T} {r : Int32}  {x0 : Int32} {x1 : Int32} (h : f_X9_isStep σ x0 x1 = some r) (hT : TS g σ)  : CT l g yX9_isStep cX9_isStep 2 (some .boolean) 1 22 [.int x0, .int x1] (r = 0 ∨ r = 1) σ σ (Qxi g r σ) := by
  refine yc_met (by decide) (Nat.le_of_ble_eq_true rfl) ?_
  refine yc_lv (show lv_args 0 [.int x0, .int x1] = [(0, .int x0), (1, .int x1)] from rfl) ?_
  show ZY l g _ _ _ _ _ _ _ _ _ _ _ _ _ _ σ 0 [(0, .int x0), (1, .int x1)] []
  unfold f_X9_isStep at h
  refine ym 1 (fun B k => z_iload_n B dX9_isStep_0 rfl 0 rfl k) ?_
  refine ym 2 (fun B k => z_iconst (v := 0) B dX9_isStep_1 (by decide) k) ?_
  refine ym 3 (fun B k => z_iconst (v := 5) B dX9_isStep_2 (by decide) k) ?_
  replace h := br_e h
  obtain ⟨r2, h1, h⟩ := h
  have m3 := ct_X9_in l (g := g) h1 hT
  refine yc_Si (Al := [.int x0, .int 0, .int 5]) (rest := []) 6 rfl cw_X9_96 dX9_isStep_3 m3 rfl (by decide) rfl (Nat.le_of_ble_eq_true rfl) ?_
  have hz_r2 := m3.1.2
  by_cases c4 : r2 = 0
  · replace h := ite_p c4 h
    refine ym 23 (fun B k => z_if_eq (tgt := 23) B dX9_isStep_6 (by decide) (fun _ => k) (fun q => absurd c4 q)) ?_
    refine ym 24 (fun B k => z_iconst (v := 0) B dX9_isStep_23 (by decide) k) ?_
    obtain rfl := Option.some.inj h
    exact yr_z hT (Or.inl rfl) rfl (Or.inl rfl) dX9_isStep_24
  · replace h := ite_n c4 h
    refine ym 9 (fun B k => z_if_eq (tgt := 23) B dX9_isStep_6 (by decide) (fun q => absurd q c4) (fun _ => k)) ?_
    refine ym 10 (fun B k => z_iload_n B dX9_isStep_9 rfl 1 rfl k) ?_
    refine ym 11 (fun B k => z_iconst (v := 0) B dX9_isStep_10 (by decide) k) ?_
    refine ym 13 (fun B k => z_bipush (v := 19) B dX9_isStep_11 (by decide) k) ?_
    replace h := br_e h
    obtain ⟨r6, h5, h⟩ := h
    have m7 := ct_X9_in l (g := g) h5 hT
    refine yc_Si (Al := [.int x1, .int 0, .int 19]) (rest := []) 16 rfl cw_X9_96 dX9_isStep_13 m7 rfl (by decide) rfl (Nat.le_of_ble_eq_true rfl) ?_
    have hz_r6 := m7.1.2
    by_cases c8 : r6 = 0
    · replace h := ite_p c8 h
      refine ym 23 (fun B k => z_if_eq (tgt := 23) B dX9_isStep_16 (by decide) (fun _ => k) (fun q => absurd c8 q)) ?_
      refine ym 24 (fun B k => z_iconst (v := 0) B dX9_isStep_23 (by decide) k) ?_
      obtain rfl := Option.some.inj h
      exact yr_z hT (Or.inl rfl) rfl (Or.inl rfl) dX9_isStep_24
    · replace h := ite_n c8 h
      refine ym 19 (fun B k => z_if_eq (tgt := 23) B dX9_isStep_16 (by decide) (fun q => absurd q c8) (fun _ => k)) ?_
      refine ym 20 (fun B k => z_iconst (v := 1) B dX9_isStep_19 (by decide) k) ?_
      refine ym 24 (fun B k => z_goto (tgt := 24) B dX9_isStep_20 (by decide) k) ?_
      obtain rfl := Option.some.inj h
      exact yr_z hT (Or.inr rfl) rfl (Or.inr rfl) dX9_isStep_24
set_option maxRecDepth 100000 in
set_option maxHeartbeats 4000000 in
theorem ct_X9_isOperation (l : Launch) {g : gx_T} {σ : sx_T} {r : Int32}  {x0 : Int32} {x1 : Int32} {x2 : Int32} (h : f_X9_isOperation σ x0 x1 x2 = some r) (hT : TS g σ)  : CT l g yX9_isOperation cX9_isOperation 3 (some .boolean) 1 22 [.int x0, .int x1, .int x2] (r = 0 ∨ r = 1) σ σ (Qxi g r σ) := by
  refine yc_met (by decide) (Nat.le_of_ble_eq_true rfl) ?_
  refine yc_lv (show lv_args 0 [.int x0, .int x1, .int x2] = [(0, .int x0), (1, .int x1), (2, .int x2)] from rfl) ?_
  show ZY l g _ _ _ _ _ _ _ _ _ _ _ _ _ _ σ 0 [(0, .int x0), (1, .int x1), (2, .int x2)] []
  unfold f_X9_isOperation at h
  refine ym 1 (fun B k => z_iload_n B dX9_isOperation_0 rfl 0 rfl k) ?_
  refine ym 2 (fun B k => z_iconst (v := 0) B dX9_isOperation_1 (by decide) k) ?_
  refine ym 4 (fun B k => z_bipush (v := 17) B dX9_isOperation_2 (by decide) k) ?_
  replace h := br_e h
  obtain ⟨r2, h1, h⟩ := h
  have m3 := ct_X9_in l (g := g) h1 hT
  refine yc_Si (Al := [.int x0, .int 0, .int 17]) (rest := []) 7 rfl cw_X9_96 dX9_isOperation_4 m3 rfl (by decide) rfl (Nat.le_of_ble_eq_true rfl) ?_
  have hz_r2 := m3.1.2
  by_cases c4 : r2 = 0
  · replace h := ite_p c4 h
    refine ym 34 (fun B k => z_if_eq (tgt := 34) B dX9_isOperation_7 (by decide) (fun _ => k) (fun q => absurd c4 q)) ?_
    refine ym 35 (fun B k => z_iconst (v := 0) B dX9_isOperation_34 (by decide) k) ?_
    obtain rfl := Option.some.inj h
    exact yr_z hT (Or.inl rfl) rfl (Or.inl rfl) dX9_isOperation_35
  · replace h := ite_n c4 h
    refine ym 10 (fun B k => z_if_eq (tgt := 34) B dX9_isOperation_7 (by decide) (fun q => absurd q c4) (fun _ => k)) ?_
    refine ym 11 (fun B k => z_iload_n B dX9_isOperation_10 rfl 1 rfl k) ?_
    refine ym 12 (fun B k => z_iconst (v := 0) B dX9_isOperation_11 (by decide) k) ?_
    refine ym 14 (fun B k => z_bipush (v := 99) B dX9_isOperation_12 (by decide) k) ?_
    replace h := br_e h
    obtain ⟨r6, h5, h⟩ := h
    have m7 := ct_X9_in l (g := g) h5 hT
    refine yc_Si (Al := [.int x1, .int 0, .int 99]) (rest := []) 17 rfl cw_X9_96 dX9_isOperation_14 m7 rfl (by decide) rfl (Nat.le_of_ble_eq_true rfl) ?_
    have hz_r6 := m7.1.2
    by_cases c8 : r6 = 0
    · replace h := ite_p c8 h
      refine ym 34 (fun B k => z_if_eq (tgt := 34) B dX9_isOperation_17 (by decide) (fun _ => k) (fun q => absurd c8 q)) ?_
      refine ym 35 (fun B k => z_iconst (v := 0) B dX9_isOperation_34 (by decide) k) ?_
      obtain rfl := Option.some.inj h
      exact yr_z hT (Or.inl rfl) rfl (Or.inl rfl) dX9_isOperation_35
    · replace h := ite_n c8 h
      refine ym 20 (fun B k => z_if_eq (tgt := 34) B dX9_isOperation_17 (by decide) (fun q => absurd q c8) (fun _ => k)) ?_
      refine ym 21 (fun B k => z_iload_n B dX9_isOperation_20 rfl 2 rfl k) ?_
      refine ym 22 (fun B k => z_iconst (v := 0) B dX9_isOperation_21 (by decide) k) ?_
      refine ym 24 (fun B k => z_bipush (v := 99) B dX9_isOperation_22 (by decide) k) ?_
      replace h := br_e h
      obtain ⟨r10, h9, h⟩ := h
      have m11 := ct_X9_in l (g := g) h9 hT
      refine yc_Si (Al := [.int x2, .int 0, .int 99]) (rest := []) 27 rfl cw_X9_96 dX9_isOperation_24 m11 rfl (by decide) rfl (Nat.le_of_ble_eq_true rfl) ?_
      have hz_r10 := m11.1.2
      by_cases c12 : r10 = 0
      · replace h := ite_p c12 h
        refine ym 34 (fun B k => z_if_eq (tgt := 34) B dX9_isOperation_27 (by decide) (fun _ => k) (fun q => absurd c12 q)) ?_
        refine ym 35 (fun B k => z_iconst (v := 0) B dX9_isOperation_34 (by decide) k) ?_
        obtain rfl := Option.some.inj h
        exact yr_z hT (Or.inl rfl) rfl (Or.inl rfl) dX9_isOperation_35
      · replace h := ite_n c12 h
        refine ym 30 (fun B k => z_if_eq (tgt := 34) B dX9_isOperation_27 (by decide) (fun q => absurd q c12) (fun _ => k)) ?_
        refine ym 31 (fun B k => z_iconst (v := 1) B dX9_isOperation_30 (by decide) k) ?_
        refine ym 35 (fun B k => z_goto (tgt := 35) B dX9_isOperation_31 (by decide) k) ?_
        obtain rfl := Option.some.inj h
        exact yr_z hT (Or.inr rfl) rfl (Or.inr rfl) dX9_isOperation_35
set_option maxRecDepth 100000 in
set_option maxHeartbeats 4000000 in
theorem tb_X9_needs__18 {l : Launch} {g : gx_T} {σ : sx_T} {u : sx_T} {r : Int32} {As : Array Value}  {t : Nat} {y0 : Int32} (h : fb_X9_needs__18 σ t y0 = some (r, u)) (hT : TS g σ) (hk_t : sx_K σ t = 11) : ZY l g cX9_needs_ RX9 "needs" (some .boolean) 3 0 0 0 0 false As (QM g As (Qxi g r u)) (r = 0 ∨ r = 1) u σ 18 [(0, .ref t)] [.int y0, .ref t] := by
  unfold fb_X9_needs__18 at h
  refine ymw (σ' := (wx_I σ t 0 y0)) 21 e_I (fun B hin k => pf_X9_90 (x := y0) B hk_t rfl dX9_needs__18 k) ?_
  have hT := TS_I (k := 0) (x := y0) hT hk_t (Or.inl rfl)
  have hk_t := kk_I (σ := σ) (a := t) (k := 0) (x := y0) hk_t
  refine ym 22 (fun B k => z_aload_n B dX9_needs__21 rfl 0 rfl k) ?_
  refine ym 25 (fun B k => gf_X9_90 (x := y0) B hk_t rI_s dX9_needs__22 k) ?_
  by_cases c1 : y0 = 0
  · replace h := ite_p c1 h
    refine ym 28 (fun B k => z_if_ne (tgt := 32) B dX9_needs__25 (by decide) (fun q => absurd c1 q) (fun _ => k)) ?_
    refine ym 29 (fun B k => z_iconst (v := 1) B dX9_needs__28 (by decide) k) ?_
    refine ym 33 (fun B k => z_goto (tgt := 33) B dX9_needs__29 (by decide) k) ?_
    obtain ⟨rfl, rfl⟩ := Prod.mk.inj (Option.some.inj h)
    exact yr_z hT (Or.inr rfl) rfl (Or.inr rfl) dX9_needs__33
  · replace h := ite_n c1 h
    refine ym 32 (fun B k => z_if_ne (tgt := 32) B dX9_needs__25 (by decide) (fun _ => k) (fun q => absurd q c1)) ?_
    refine ym 33 (fun B k => z_iconst (v := 0) B dX9_needs__32 (by decide) k) ?_
    obtain ⟨rfl, rfl⟩ := Prod.mk.inj (Option.some.inj h)
    exact yr_z hT (Or.inl rfl) rfl (Or.inl rfl) dX9_needs__33
set_option maxRecDepth 100000 in
set_option maxHeartbeats 4000000 in
theorem ct_X9_needs_ (l : Launch) {g : gx_T} {σ : sx_T} {u : sx_T} {r : Int32}  {t : Nat} {x1 : Int32} {x2 : Int32} (h : f_X9_needs_ σ t x1 x2 = some (r, u)) (hT : TS g σ) (hk_t : sx_K σ t = 11) (hz_x1 : x1 = 0 ∨ x1 = 1) (hz_x2 : x2 = 0 ∨ x2 = 1) : CT l g yX9_needs_ cX9_needs_ 3 (some .boolean) 0 0 [.ref t, .int x1, .int x2] (r = 0 ∨ r = 1) u σ (Qxi g r u) := by
  refine yc_met (by decide) (Nat.le_of_ble_eq_true rfl) ?_
  refine yc_lv (show lv_args 0 [.ref t, .int x1, .int x2] = [(0, .ref t), (1, .int x1), (2, .int x2)] from rfl) ?_
  show ZY l g _ _ _ _ _ _ _ _ _ _ _ _ _ _ σ 0 [(0, .ref t), (1, .int x1), (2, .int x2)] []
  unfold f_X9_needs_ at h
  refine ym 1 (fun B k => z_aload_n B dX9_needs__0 rfl 0 rfl k) ?_
  refine ym 2 (fun B k => z_iload_n B dX9_needs__1 rfl 1 rfl k) ?_
  by_cases c1 : x1 = 0
  · replace h := ite_p c1 h
    refine ym 5 (fun B k => z_if_ne (tgt := 9) B dX9_needs__2 (by decide) (fun q => absurd c1 q) (fun _ => k)) ?_
    refine ym 6 (fun B k => z_iconst (v := 1) B dX9_needs__5 (by decide) k) ?_
    refine ym 18 (fun B k => z_goto (tgt := 18) B dX9_needs__6 (by decide) k) ?_
    refine y_sub [(0, .ref t)] [0] rfl ?_
    exact tb_X9_needs__18 h hT hk_t
  · replace h := ite_n c1 h
    refine ym 9 (fun B k => z_if_ne (tgt := 9) B dX9_needs__2 (by decide) (fun _ => k) (fun q => absurd q c1)) ?_
    refine ym 10 (fun B k => z_iload_n B dX9_needs__9 rfl 2 rfl k) ?_
    by_cases c2 : x2 = 0
    · replace h := ite_p c2 h
      refine ym 17 (fun B k => z_if_eq (tgt := 17) B dX9_needs__10 (by decide) (fun _ => k) (fun q => absurd c2 q)) ?_
      refine ym 18 (fun B k => z_iconst (v := 2) B dX9_needs__17 (by decide) k) ?_
      refine y_sub [(0, .ref t)] [0] rfl ?_
      exact tb_X9_needs__18 h hT hk_t
    · replace h := ite_n c2 h
      refine ym 13 (fun B k => z_if_eq (tgt := 17) B dX9_needs__10 (by decide) (fun q => absurd q c2) (fun _ => k)) ?_
      refine ym 14 (fun B k => z_iconst (v := 0) B dX9_needs__13 (by decide) k) ?_
      refine ym 18 (fun B k => z_goto (tgt := 18) B dX9_needs__14 (by decide) k) ?_
      refine y_sub [(0, .ref t)] [0] rfl ?_
      exact tb_X9_needs__18 h hT hk_t
set_option maxRecDepth 100000 in
set_option maxHeartbeats 4000000 in
theorem ct_X9_lays (l : Launch) {g : gx_T} {σ : sx_T} {u : sx_T}  {t : Nat} {x1 : Int32} {x2 : Int32} {x3 : Int32} {x4 : Int32} {x5 : Int32} (h : f_X9_lays σ t x1 x2 x3 x4 x5 = some u) (hT : TS g σ) (hk_t : sx_K σ t = 11) : CT l g yX9_lays cX9_lays 6 none 0 0 [.ref t, .int x1, .int x2, .int x3, .int x4, .int x5] (True) u σ (Qxv g u) := by
  refine yc_met (by decide) (Nat.le_of_ble_eq_true rfl) ?_
  refine yc_lv (show lv_args 0 [.ref t, .int x1, .int x2, .int x3, .int x4, .int x5] = [(0, .ref t), (1, .int x1), (2, .int x2), (3, .int x3), (4, .int x4), (5, .int x5)] from rfl) ?_
  show ZY l g _ _ _ _ _ _ _ _ _ _ _ _ _ _ σ 0 [(0, .ref t), (1, .int x1), (2, .int x2), (3, .int x3), (4, .int x4), (5, .int x5)] []
  unfold f_X9_lays at h
  refine ym 1 (fun B k => z_aload_n B dX9_lays_0 rfl 0 rfl k) ?_
  replace h := qv_e h
  obtain ⟨w1, e_w1, h⟩ := h
  have hq_w1 : rk σ w1 13 := rk_T hT hk_t rfl (by decide) e_w1
  refine ym 4 (fun B k => gf_X9_13 (x := w1) B hk_t e_w1 dX9_lays_1 k) ?_
  refine ym 6 (fun B k => z_bipush (v := 20) B dX9_lays_4 (by decide) k) ?_
  refine ym 7 (fun B k => z_iload_n B dX9_lays_6 rfl 1 rfl k) ?_
  refine ym 8 (fun B k => z_imul B dX9_lays_7 k) ?_
  refine ym 9 (fun B k => z_iload_n B dX9_lays_8 rfl 2 rfl k) ?_
  refine ym 10 (fun B k => z_iadd B dX9_lays_9 k) ?_
  refine ym 11 (fun B k => z_iload_n B dX9_lays_10 rfl 3 rfl k) ?_
  replace h := bq_e h
  obtain ⟨a2, rfl, h⟩ := h
  have hk_a2 := hq_w1 a2 rfl
  replace h := ck_e h
  obtain ⟨hi_3, h⟩ := h
  refine ymw (σ' := (wx_I σ a2 (ti ((20 * x1) + x2)) x3)) 12 e_I (fun B _ k => z_iast (j := (ti ((20 * x1) + x2))) B hk_a2 rfl hi_3 rfl dX9_lays_11 k) ?_
  have hT := TS_I (k := (ti ((20 * x1) + x2))) (x := x3) hT hk_a2 (Or.inl rfl)
  have hk_t := kk_I (σ := σ) (a := a2) (k := (ti ((20 * x1) + x2))) (x := x3) hk_t
  refine ym 13 (fun B k => z_aload_n B dX9_lays_12 rfl 0 rfl k) ?_
  replace h := qv_e h
  obtain ⟨w4, e_w4, h⟩ := h
  have hq_w4 : rk (wx_I σ a2 (ti ((20 * x1) + x2)) x3) w4 13 := rk_T hT hk_t rfl (by decide) ((rR_I rfl).trans e_w4)
  refine ym 16 (fun B k => gf_X9_17 (x := w4) B hk_t ((rR_I rfl).trans e_w4) dX9_lays_13 k) ?_
  refine ym 18 (fun B k => z_bipush (v := 20) B dX9_lays_16 (by decide) k) ?_
  refine ym 19 (fun B k => z_iload_n B dX9_lays_18 rfl 1 rfl k) ?_
  refine ym 20 (fun B k => z_imul B dX9_lays_19 k) ?_
  refine ym 21 (fun B k => z_iload_n B dX9_lays_20 rfl 2 rfl k) ?_
  refine ym 22 (fun B k => z_iadd B dX9_lays_21 k) ?_
  refine ym 24 (fun B k => z_iload B dX9_lays_22 4 rfl k) ?_
  replace h := bq_e h
  obtain ⟨a5, rfl, h⟩ := h
  have hk_a5 := hq_w4 a5 rfl
  replace h := ck_e h
  obtain ⟨hi_6, h⟩ := h
  refine ymw (σ' := (wx_I (wx_I σ a2 (ti ((20 * x1) + x2)) x3) a5 (ti ((20 * x1) + x2)) x4)) 25 e_I (fun B _ k => z_iast (j := (ti ((20 * x1) + x2))) B hk_a5 rfl hi_6 rfl dX9_lays_24 k) ?_
  have hT := TS_I (k := (ti ((20 * x1) + x2))) (x := x4) hT hk_a5 (Or.inl rfl)
  have hk_t := kk_I (σ := (wx_I σ a2 (ti ((20 * x1) + x2)) x3)) (a := a5) (k := (ti ((20 * x1) + x2))) (x := x4) hk_t
  refine ym 26 (fun B k => z_aload_n B dX9_lays_25 rfl 0 rfl k) ?_
  replace h := qv_e h
  obtain ⟨w7, e_w7, h⟩ := h
  have hq_w7 : rk (wx_I (wx_I σ a2 (ti ((20 * x1) + x2)) x3) a5 (ti ((20 * x1) + x2)) x4) w7 13 := rk_T hT hk_t rfl (by decide) ((rR_I (rR_I rfl)).trans e_w7)
  refine ym 29 (fun B k => gf_X9_20 (x := w7) B hk_t ((rR_I (rR_I rfl)).trans e_w7) dX9_lays_26 k) ?_
  refine ym 31 (fun B k => z_bipush (v := 20) B dX9_lays_29 (by decide) k) ?_
  refine ym 32 (fun B k => z_iload_n B dX9_lays_31 rfl 1 rfl k) ?_
  refine ym 33 (fun B k => z_imul B dX9_lays_32 k) ?_
  refine ym 34 (fun B k => z_iload_n B dX9_lays_33 rfl 2 rfl k) ?_
  refine ym 35 (fun B k => z_iadd B dX9_lays_34 k) ?_
  refine ym 37 (fun B k => z_iload B dX9_lays_35 5 rfl k) ?_
  replace h := bq_e h
  obtain ⟨a8, rfl, h⟩ := h
  have hk_a8 := hq_w7 a8 rfl
  replace h := ck_e h
  obtain ⟨hi_9, h⟩ := h
  refine ymw (σ' := (wx_I (wx_I (wx_I σ a2 (ti ((20 * x1) + x2)) x3) a5 (ti ((20 * x1) + x2)) x4) a8 (ti ((20 * x1) + x2)) x5)) 38 e_I (fun B _ k => z_iast (j := (ti ((20 * x1) + x2))) B hk_a8 rfl hi_9 rfl dX9_lays_37 k) ?_
  have hT := TS_I (k := (ti ((20 * x1) + x2))) (x := x5) hT hk_a8 (Or.inl rfl)
  have hk_t := kk_I (σ := (wx_I (wx_I σ a2 (ti ((20 * x1) + x2)) x3) a5 (ti ((20 * x1) + x2)) x4)) (a := a8) (k := (ti ((20 * x1) + x2))) (x := x5) hk_t
  obtain rfl := Option.some.inj h
  exact yr_v hT trivial rfl dX9_lays_38
set_option maxRecDepth 100000 in
set_option maxHeartbeats 4000000 in
theorem ct_X9_begins (l : Launch) {g : gx_T} {σ : sx_T} {u : sx_T}  {t : Nat} (h : f_X9_begins σ t = some u) (hT : TS g σ) (hk_t : sx_K σ t = 11) : CT l g yX9_begins cX9_begins 1 none 0 0 [.ref t] (True) u σ (Qxv g u) := by
  refine yc_met (by decide) (Nat.le_of_ble_eq_true rfl) ?_
  refine yc_lv (show lv_args 0 [.ref t] = [(0, .ref t)] from rfl) ?_
  show ZY l g _ _ _ _ _ _ _ _ _ _ _ _ _ _ σ 0 [(0, .ref t)] []
  unfold f_X9_begins at h
  refine ym 1 (fun B k => z_aload_n B dX9_begins_0 rfl 0 rfl k) ?_
  refine ym 2 (fun B k => z_iconst (v := 1) B dX9_begins_1 (by decide) k) ?_
  refine ymw (σ' := (wx_I σ t 26 1)) 5 e_I (fun B hin k => pf_X9_103 (x := 1) B (Or.inr rfl) hk_t rfl dX9_begins_2 k) ?_
  have hT := TS_I (k := 26) (x := 1) hT hk_t (Or.inr (Or.inr rfl))
  have hk_t := kk_I (σ := σ) (a := t) (k := 26) (x := 1) hk_t
  refine ym 6 (fun B k => z_aload_n B dX9_begins_5 rfl 0 rfl k) ?_
  refine ym 7 (fun B k => z_iconst (v := 0) B dX9_begins_6 (by decide) k) ?_
  refine ymw (σ' := (wx_I (wx_I σ t 26 1) t 27 0)) 10 e_I (fun B hin k => pf_X9_107 (x := 0) B hk_t rfl dX9_begins_7 k) ?_
  have hT := TS_I (k := 27) (x := 0) hT hk_t (Or.inl rfl)
  have hk_t := kk_I (σ := (wx_I σ t 26 1)) (a := t) (k := 27) (x := 0) hk_t
  refine ym 11 (fun B k => z_aload_n B dX9_begins_10 rfl 0 rfl k) ?_
  refine ym 12 (fun B k => z_iconst (v := 0) B dX9_begins_11 (by decide) k) ?_
  refine ymw (σ' := (wx_I (wx_I (wx_I σ t 26 1) t 27 0) t 28 0)) 15 e_I (fun B hin k => pf_X9_110 (x := 0) B hk_t rfl dX9_begins_12 k) ?_
  have hT := TS_I (k := 28) (x := 0) hT hk_t (Or.inl rfl)
  have hk_t := kk_I (σ := (wx_I (wx_I σ t 26 1) t 27 0)) (a := t) (k := 28) (x := 0) hk_t
  refine ym 16 (fun B k => z_aload_n B dX9_begins_15 rfl 0 rfl k) ?_
  refine ym 17 (fun B k => z_iconst (v := 0) B dX9_begins_16 (by decide) k) ?_
  refine ymw (σ' := (wx_I (wx_I (wx_I (wx_I σ t 26 1) t 27 0) t 28 0) t 29 0)) 20 e_I (fun B hin k => pf_X9_113 (x := 0) B hk_t rfl dX9_begins_17 k) ?_
  have hT := TS_I (k := 29) (x := 0) hT hk_t (Or.inl rfl)
  have hk_t := kk_I (σ := (wx_I (wx_I (wx_I σ t 26 1) t 27 0) t 28 0)) (a := t) (k := 29) (x := 0) hk_t
  refine ym 21 (fun B k => z_aload_n B dX9_begins_20 rfl 0 rfl k) ?_
  refine ym 22 (fun B k => z_iconst (v := 0) B dX9_begins_21 (by decide) k) ?_
  refine ymw (σ' := (wx_I (wx_I (wx_I (wx_I (wx_I σ t 26 1) t 27 0) t 28 0) t 29 0) t 30 0)) 25 e_I (fun B hin k => pf_X9_116 (x := 0) B hk_t rfl dX9_begins_22 k) ?_
  have hT := TS_I (k := 30) (x := 0) hT hk_t (Or.inl rfl)
  have hk_t := kk_I (σ := (wx_I (wx_I (wx_I (wx_I σ t 26 1) t 27 0) t 28 0) t 29 0)) (a := t) (k := 30) (x := 0) hk_t
  refine ym 26 (fun B k => z_aload_n B dX9_begins_25 rfl 0 rfl k) ?_
  refine ym 27 (fun B k => z_iconst (v := 0) B dX9_begins_26 (by decide) k) ?_
  refine ymw (σ' := (wx_I (wx_I (wx_I (wx_I (wx_I (wx_I σ t 26 1) t 27 0) t 28 0) t 29 0) t 30 0) t 31 0)) 30 e_I (fun B hin k => pf_X9_119 (x := 0) B hk_t rfl dX9_begins_27 k) ?_
  have hT := TS_I (k := 31) (x := 0) hT hk_t (Or.inl rfl)
  have hk_t := kk_I (σ := (wx_I (wx_I (wx_I (wx_I (wx_I σ t 26 1) t 27 0) t 28 0) t 29 0) t 30 0)) (a := t) (k := 31) (x := 0) hk_t
  refine ym 31 (fun B k => z_aload_n B dX9_begins_30 rfl 0 rfl k) ?_
  refine ym 32 (fun B k => z_iconst (v := 0) B dX9_begins_31 (by decide) k) ?_
  refine ymw (σ' := (wx_I (wx_I (wx_I (wx_I (wx_I (wx_I (wx_I σ t 26 1) t 27 0) t 28 0) t 29 0) t 30 0) t 31 0) t 32 0)) 35 e_I (fun B hin k => pf_X9_122 (x := 0) B hk_t rfl dX9_begins_32 k) ?_
  have hT := TS_I (k := 32) (x := 0) hT hk_t (Or.inl rfl)
  have hk_t := kk_I (σ := (wx_I (wx_I (wx_I (wx_I (wx_I (wx_I σ t 26 1) t 27 0) t 28 0) t 29 0) t 30 0) t 31 0)) (a := t) (k := 32) (x := 0) hk_t
  refine ym 36 (fun B k => z_aload_n B dX9_begins_35 rfl 0 rfl k) ?_
  refine ym 37 (fun B k => z_iconst (v := 0) B dX9_begins_36 (by decide) k) ?_
  refine ymw (σ' := (wx_I (wx_I (wx_I (wx_I (wx_I (wx_I (wx_I (wx_I σ t 26 1) t 27 0) t 28 0) t 29 0) t 30 0) t 31 0) t 32 0) t 34 0)) 40 e_I (fun B hin k => pf_X9_125 (x := 0) B (Or.inl rfl) hk_t rfl dX9_begins_37 k) ?_
  have hT := TS_I (k := 34) (x := 0) hT hk_t (Or.inr (Or.inl rfl))
  have hk_t := kk_I (σ := (wx_I (wx_I (wx_I (wx_I (wx_I (wx_I (wx_I σ t 26 1) t 27 0) t 28 0) t 29 0) t 30 0) t 31 0) t 32 0)) (a := t) (k := 34) (x := 0) hk_t
  refine ym 41 (fun B k => z_aload_n B dX9_begins_40 rfl 0 rfl k) ?_
  refine ym 42 (fun B k => z_iconst (v := 0) B dX9_begins_41 (by decide) k) ?_
  refine ymw (σ' := (wx_I (wx_I (wx_I (wx_I (wx_I (wx_I (wx_I (wx_I (wx_I σ t 26 1) t 27 0) t 28 0) t 29 0) t 30 0) t 31 0) t 32 0) t 34 0) t 35 0)) 45 e_I (fun B hin k => pf_X9_128 (x := 0) B (Or.inl rfl) hk_t rfl dX9_begins_42 k) ?_
  have hT := TS_I (k := 35) (x := 0) hT hk_t (Or.inr (Or.inl rfl))
  have hk_t := kk_I (σ := (wx_I (wx_I (wx_I (wx_I (wx_I (wx_I (wx_I (wx_I σ t 26 1) t 27 0) t 28 0) t 29 0) t 30 0) t 31 0) t 32 0) t 34 0)) (a := t) (k := 35) (x := 0) hk_t
  refine ym 46 (fun B k => z_aload_n B dX9_begins_45 rfl 0 rfl k) ?_
  refine ym 47 (fun B k => z_iconst (v := 0) B dX9_begins_46 (by decide) k) ?_
  refine ymw (σ' := (wx_I (wx_I (wx_I (wx_I (wx_I (wx_I (wx_I (wx_I (wx_I (wx_I σ t 26 1) t 27 0) t 28 0) t 29 0) t 30 0) t 31 0) t 32 0) t 34 0) t 35 0) t 36 0)) 50 e_I (fun B hin k => pf_X9_131 (x := 0) B hk_t rfl dX9_begins_47 k) ?_
  have hT := TS_I (k := 36) (x := 0) hT hk_t (Or.inl rfl)
  have hk_t := kk_I (σ := (wx_I (wx_I (wx_I (wx_I (wx_I (wx_I (wx_I (wx_I (wx_I σ t 26 1) t 27 0) t 28 0) t 29 0) t 30 0) t 31 0) t 32 0) t 34 0) t 35 0)) (a := t) (k := 36) (x := 0) hk_t
  refine ym 51 (fun B k => z_aload_n B dX9_begins_50 rfl 0 rfl k) ?_
  refine ym 52 (fun B k => z_iconst (v := 0) B dX9_begins_51 (by decide) k) ?_
  refine ymw (σ' := (wx_I (wx_I (wx_I (wx_I (wx_I (wx_I (wx_I (wx_I (wx_I (wx_I (wx_I σ t 26 1) t 27 0) t 28 0) t 29 0) t 30 0) t 31 0) t 32 0) t 34 0) t 35 0) t 36 0) t 37 0)) 55 e_I (fun B hin k => pf_X9_134 (x := 0) B hk_t rfl dX9_begins_52 k) ?_
  have hT := TS_I (k := 37) (x := 0) hT hk_t (Or.inl rfl)
  have hk_t := kk_I (σ := (wx_I (wx_I (wx_I (wx_I (wx_I (wx_I (wx_I (wx_I (wx_I (wx_I σ t 26 1) t 27 0) t 28 0) t 29 0) t 30 0) t 31 0) t 32 0) t 34 0) t 35 0) t 36 0)) (a := t) (k := 37) (x := 0) hk_t
  refine ym 56 (fun B k => z_aload_n B dX9_begins_55 rfl 0 rfl k) ?_
  refine ym 57 (fun B k => z_iconst (v := 0) B dX9_begins_56 (by decide) k) ?_
  refine ymw (σ' := (wx_I (wx_I (wx_I (wx_I (wx_I (wx_I (wx_I (wx_I (wx_I (wx_I (wx_I (wx_I σ t 26 1) t 27 0) t 28 0) t 29 0) t 30 0) t 31 0) t 32 0) t 34 0) t 35 0) t 36 0) t 37 0) t 38 0)) 60 e_I (fun B hin k => pf_X9_137 (x := 0) B hk_t rfl dX9_begins_57 k) ?_
  have hT := TS_I (k := 38) (x := 0) hT hk_t (Or.inl rfl)
  have hk_t := kk_I (σ := (wx_I (wx_I (wx_I (wx_I (wx_I (wx_I (wx_I (wx_I (wx_I (wx_I (wx_I σ t 26 1) t 27 0) t 28 0) t 29 0) t 30 0) t 31 0) t 32 0) t 34 0) t 35 0) t 36 0) t 37 0)) (a := t) (k := 38) (x := 0) hk_t
  refine ym 61 (fun B k => z_aload_n B dX9_begins_60 rfl 0 rfl k) ?_
  refine ym 62 (fun B k => z_iconst (v := 0) B dX9_begins_61 (by decide) k) ?_
  refine ymw (σ' := (wx_I (wx_I (wx_I (wx_I (wx_I (wx_I (wx_I (wx_I (wx_I (wx_I (wx_I (wx_I (wx_I σ t 26 1) t 27 0) t 28 0) t 29 0) t 30 0) t 31 0) t 32 0) t 34 0) t 35 0) t 36 0) t 37 0) t 38 0) t 39 0)) 65 e_I (fun B hin k => pf_X9_140 (x := 0) B hk_t rfl dX9_begins_62 k) ?_
  have hT := TS_I (k := 39) (x := 0) hT hk_t (Or.inl rfl)
  have hk_t := kk_I (σ := (wx_I (wx_I (wx_I (wx_I (wx_I (wx_I (wx_I (wx_I (wx_I (wx_I (wx_I (wx_I σ t 26 1) t 27 0) t 28 0) t 29 0) t 30 0) t 31 0) t 32 0) t 34 0) t 35 0) t 36 0) t 37 0) t 38 0)) (a := t) (k := 39) (x := 0) hk_t
  obtain rfl := Option.some.inj h
  exact yr_v hT trivial rfl dX9_begins_65
set_option maxRecDepth 100000 in
set_option maxHeartbeats 4000000 in
theorem tl_X9_keptOf_2 {l : Launch} {g : gx_T} {r : Int32} {As : Array Value} {n0 : Nat} : ∀ {n : Nat} {σ : sx_T} {t : Nat} {x1 : Int32} {x2 : Int32}, fl_X9_keptOf_2 n0 n σ t x1 x2 = some r → TS g σ → sx_K σ t = 11 → ZY l g cX9_keptOf RX9 "keptOf" (some .int) 3 0 0 0 0 false As (QM g As (Qxi g r σ)) (True) σ σ 2 [(0, .ref t), (1, .int x1), (2, .int x2)] [] := by
  intro n
  induction n with
  | zero =>
    intro σ t x1 x2 h
    exact nomatch h
  | succ n ih_ =>
    have ih := @ih_
    intro σ t x1 x2 h hT hk_t
    unfold fl_X9_keptOf_2 at h
    refine ym 3 (fun B k => z_iload_n B dX9_keptOf_2 rfl 2 rfl k) ?_
    refine ym 4 (fun B k => z_aload_n B dX9_keptOf_3 rfl 0 rfl k) ?_
    refine ym 7 (fun B k => gf_X9_140 (x := (sx_I σ t 39)) B hk_t rfl dX9_keptOf_4 k) ?_
    by_cases c1 : (sx_I σ t 39) ≤ x2
    · replace h := ite_p c1 h
      refine ym 28 (fun B k => z_icmp_ge (tgt := 28) B dX9_keptOf_7 (by decide) (fun _ => k) (fun q => absurd c1 q)) ?_
      refine ym 29 (fun B k => z_iconst (v := (-1)) B dX9_keptOf_28 (by decide) k) ?_
      obtain rfl := Option.some.inj h
      exact yr_i hT trivial rfl dX9_keptOf_29
    · replace h := ite_n c1 h
      refine ym 10 (fun B k => z_icmp_ge (tgt := 28) B dX9_keptOf_7 (by decide) (fun q => absurd q c1) (fun _ => k)) ?_
      refine ym 11 (fun B k => z_aload_n B dX9_keptOf_10 rfl 0 rfl k) ?_
      replace h := qv_e h
      obtain ⟨w2, e_w2, h⟩ := h
      have hq_w2 : rk σ w2 13 := rk_T hT hk_t rfl (by decide) e_w2
      refine ym 14 (fun B k => gf_X9_75 (x := w2) B hk_t e_w2 dX9_keptOf_11 k) ?_
      refine ym 15 (fun B k => z_iload_n B dX9_keptOf_14 rfl 2 rfl k) ?_
      replace h := bq_e h
      obtain ⟨a3, rfl, h⟩ := h
      have hk_a3 := hq_w2 a3 rfl
      replace h := ck_e h
      obtain ⟨hi_4, h⟩ := h
      refine ym 16 (fun B k => z_iald (j := (ti x2)) (x := (sx_I σ a3 (ti x2))) B hk_a3 rfl hi_4 rfl dX9_keptOf_15 k) ?_
      refine ym 17 (fun B k => z_iload_n B dX9_keptOf_16 rfl 1 rfl k) ?_
      by_cases c5 : (sx_I σ a3 (ti x2)) = x1
      · replace h := ite_p c5 h
        refine ym 20 (fun B k => z_icmp_ne (tgt := 22) B dX9_keptOf_17 (by decide) (fun q => absurd c5 q) (fun _ => k)) ?_
        refine ym 21 (fun B k => z_iload_n B dX9_keptOf_20 rfl 2 rfl k) ?_
        obtain rfl := Option.some.inj h
        exact yr_i hT trivial rfl dX9_keptOf_21
      · replace h := ite_n c5 h
        refine ym 22 (fun B k => z_icmp_ne (tgt := 22) B dX9_keptOf_17 (by decide) (fun _ => k) (fun q => absurd q c5)) ?_
        refine ym 25 (fun B k => z_iinc (v := x2 + 1) (lv' := [(2, .int (x2 + 1)), (0, .ref t), (1, .int x1)]) B dX9_keptOf_22 2 rfl rfl (by decide) rfl k) ?_
        refine ym 2 (fun B k => z_goto (tgt := 2) B dX9_keptOf_25 (by decide) k) ?_
        refine y_sub [(0, .ref t), (1, .int x1), (2, .int (x2 + 1))] [1, 2, 0] rfl ?_
        exact ih h hT hk_t
set_option maxRecDepth 100000 in
set_option maxHeartbeats 4000000 in
theorem ct_X9_keptOf (l : Launch) {g : gx_T} {σ : sx_T} {r : Int32} {n0 : Nat} {t : Nat} {x1 : Int32} (h : f_X9_keptOf n0 σ t x1 = some r) (hT : TS g σ) (hk_t : sx_K σ t = 11) : CT l g yX9_keptOf cX9_keptOf 3 (some .int) 0 0 [.ref t, .int x1] (True) σ σ (Qxi g r σ) := by
  refine yc_met (by decide) (Nat.le_of_ble_eq_true rfl) ?_
  refine yc_lv (show lv_args 0 [.ref t, .int x1] = [(0, .ref t), (1, .int x1)] from rfl) ?_
  show ZY l g _ _ _ _ _ _ _ _ _ _ _ _ _ _ σ 0 [(0, .ref t), (1, .int x1)] []
  unfold f_X9_keptOf at h
  refine ym 1 (fun B k => z_iconst (v := 0) B dX9_keptOf_0 (by decide) k) ?_
  refine ym 2 (fun B k => z_istore_n (lv' := [(2, .int 0), (0, .ref t), (1, .int x1)]) B dX9_keptOf_1 rfl (by decide) rfl k) ?_
  refine y_sub [(0, .ref t), (1, .int x1), (2, .int 0)] [1, 2, 0] rfl ?_
  exact tl_X9_keptOf_2 h hT hk_t
set_option maxRecDepth 100000 in
set_option maxHeartbeats 4000000 in
theorem tl_X9_uses_19 {l : Launch} {g : gx_T} {u : sx_T} {r : Int32} {As : Array Value} {n0 : Nat} : ∀ {n : Nat} {σ : sx_T} {t : Nat} {x2 : Int32} {x3 : Int32}, fl_X9_uses_19 n0 n σ t x2 x3 = some (r, u) → TS g σ → sx_K σ t = 11 → ZY l g cX9_uses RX9 "uses" (some .int) 4 0 0 0 0 false As (QM g As (Qxi g r u)) (True) u σ 19 [(0, .ref t), (2, .int x2), (3, .int x3)] [] := by
  intro n
  induction n with
  | zero =>
    intro σ t x2 x3 h
    exact nomatch h
  | succ n ih_ =>
    have ih := @ih_
    intro σ t x2 x3 h hT hk_t
    unfold fl_X9_uses_19 at h
    refine ym 20 (fun B k => z_iload_n B dX9_uses_19 rfl 2 rfl k) ?_
    refine ym 21 (fun B k => z_aload_n B dX9_uses_20 rfl 0 rfl k) ?_
    refine ym 24 (fun B k => gf_X9_140 (x := (sx_I σ t 39)) B hk_t rfl dX9_uses_21 k) ?_
    by_cases c1 : (sx_I σ t 39) ≤ x3
    · replace h := ite_p c1 h
      refine ym 61 (fun B k => z_icmp_ge (tgt := 61) B dX9_uses_24 (by decide) (fun _ => k) (fun q => absurd c1 q)) ?_
      refine ym 62 (fun B k => z_iload_n B dX9_uses_61 rfl 1 rfl k) ?_
      obtain ⟨rfl, rfl⟩ := Prod.mk.inj (Option.some.inj h)
      exact yr_i hT trivial rfl dX9_uses_62
    · replace h := ite_n c1 h
      refine ym 27 (fun B k => z_icmp_ge (tgt := 61) B dX9_uses_24 (by decide) (fun q => absurd q c1) (fun _ => k)) ?_
      refine ym 28 (fun B k => z_aload_n B dX9_uses_27 rfl 0 rfl k) ?_
      replace h := qv_e h
      obtain ⟨w2, e_w2, h⟩ := h
      have hq_w2 : rk σ w2 13 := rk_T hT hk_t rfl (by decide) e_w2
      refine ym 31 (fun B k => gf_X9_75 (x := w2) B hk_t e_w2 dX9_uses_28 k) ?_
      refine ym 32 (fun B k => z_iload_n B dX9_uses_31 rfl 2 rfl k) ?_
      refine ym 33 (fun B k => z_aload_n B dX9_uses_32 rfl 0 rfl k) ?_
      replace h := qv_e h
      obtain ⟨w3, e_w3, h⟩ := h
      have hq_w3 : rk σ w3 13 := rk_T hT hk_t rfl (by decide) e_w3
      refine ym 36 (fun B k => gf_X9_75 (x := w3) B hk_t e_w3 dX9_uses_33 k) ?_
      refine ym 37 (fun B k => z_iload_n B dX9_uses_36 rfl 2 rfl k) ?_
      refine ym 38 (fun B k => z_iconst (v := 1) B dX9_uses_37 (by decide) k) ?_
      refine ym 39 (fun B k => z_iadd B dX9_uses_38 k) ?_
      replace h := bq_e h
      obtain ⟨a4, rfl, h⟩ := h
      have hk_a4 := hq_w3 a4 rfl
      replace h := ck_e h
      obtain ⟨hi_5, h⟩ := h
      refine ym 40 (fun B k => z_iald (j := (ti (x3 + 1))) (x := (sx_I σ a4 (ti (x3 + 1)))) B hk_a4 rfl hi_5 rfl dX9_uses_39 k) ?_
      replace h := bq_e h
      obtain ⟨a6, rfl, h⟩ := h
      have hk_a6 := hq_w2 a6 rfl
      replace h := ck_e h
      obtain ⟨hi_7, h⟩ := h
      refine ymw (σ' := (wx_I σ a6 (ti x3) (sx_I σ a4 (ti (x3 + 1))))) 41 e_I (fun B _ k => z_iast (j := (ti x3)) B hk_a6 rfl hi_7 rfl dX9_uses_40 k) ?_
      have hT := TS_I (k := (ti x3)) (x := (sx_I σ a4 (ti (x3 + 1)))) hT hk_a6 (Or.inl rfl)
      have hk_t := kk_I (σ := σ) (a := a6) (k := (ti x3)) (x := (sx_I σ a4 (ti (x3 + 1)))) hk_t
      refine ym 42 (fun B k => z_aload_n B dX9_uses_41 rfl 0 rfl k) ?_
      replace h := qv_e h
      obtain ⟨w8, e_w8, h⟩ := h
      have hq_w8 : rk (wx_I σ a6 (ti x3) (sx_I σ a4 (ti (x3 + 1)))) w8 13 := rk_T hT hk_t rfl (by decide) ((rR_I rfl).trans e_w8)
      refine ym 45 (fun B k => gf_X9_78 (x := w8) B hk_t ((rR_I rfl).trans e_w8) dX9_uses_42 k) ?_
      refine ym 46 (fun B k => z_iload_n B dX9_uses_45 rfl 2 rfl k) ?_
      refine ym 47 (fun B k => z_aload_n B dX9_uses_46 rfl 0 rfl k) ?_
      replace h := qv_e h
      obtain ⟨w9, e_w9, h⟩ := h
      have hq_w9 : rk (wx_I σ a6 (ti x3) (sx_I σ a4 (ti (x3 + 1)))) w9 13 := rk_T hT hk_t rfl (by decide) ((rR_I rfl).trans e_w9)
      refine ym 50 (fun B k => gf_X9_78 (x := w9) B hk_t ((rR_I rfl).trans e_w9) dX9_uses_47 k) ?_
      refine ym 51 (fun B k => z_iload_n B dX9_uses_50 rfl 2 rfl k) ?_
      refine ym 52 (fun B k => z_iconst (v := 1) B dX9_uses_51 (by decide) k) ?_
      refine ym 53 (fun B k => z_iadd B dX9_uses_52 k) ?_
      replace h := bq_e h
      obtain ⟨a10, rfl, h⟩ := h
      have hk_a10 := hq_w9 a10 rfl
      replace h := ck_e h
      obtain ⟨hi_11, h⟩ := h
      refine ym 54 (fun B k => z_iald (j := (ti (x3 + 1))) (x := (sx_I (wx_I σ a6 (ti x3) (sx_I σ a4 (ti (x3 + 1)))) a10 (ti (x3 + 1)))) B hk_a10 rfl hi_11 rfl dX9_uses_53 k) ?_
      replace h := bq_e h
      obtain ⟨a12, rfl, h⟩ := h
      have hk_a12 := hq_w8 a12 rfl
      replace h := ck_e h
      obtain ⟨hi_13, h⟩ := h
      refine ymw (σ' := (wx_I (wx_I σ a6 (ti x3) (sx_I σ a4 (ti (x3 + 1)))) a12 (ti x3) (sx_I (wx_I σ a6 (ti x3) (sx_I σ a4 (ti (x3 + 1)))) a10 (ti (x3 + 1))))) 55 e_I (fun B _ k => z_iast (j := (ti x3)) B hk_a12 rfl hi_13 rfl dX9_uses_54 k) ?_
      have hT := TS_I (k := (ti x3)) (x := (sx_I (wx_I σ a6 (ti x3) (sx_I σ a4 (ti (x3 + 1)))) a10 (ti (x3 + 1)))) hT hk_a12 (Or.inl rfl)
      have hk_t := kk_I (σ := (wx_I σ a6 (ti x3) (sx_I σ a4 (ti (x3 + 1))))) (a := a12) (k := (ti x3)) (x := (sx_I (wx_I σ a6 (ti x3) (sx_I σ a4 (ti (x3 + 1)))) a10 (ti (x3 + 1)))) hk_t
      refine ym 58 (fun B k => z_iinc (v := x3 + 1) (lv' := [(3, .int (x3 + 1)), (0, .ref t), (2, .int x2)]) B dX9_uses_55 2 rfl rfl (by decide) rfl k) ?_
      refine ym 19 (fun B k => z_goto (tgt := 19) B dX9_uses_58 (by decide) k) ?_
      refine y_sub [(0, .ref t), (2, .int x2), (3, .int (x3 + 1))] [1, 2, 0] rfl ?_
      exact ih h hT hk_t
set_option maxRecDepth 100000 in
set_option maxHeartbeats 4000000 in
theorem ct_X9_uses (l : Launch) {g : gx_T} {σ : sx_T} {u : sx_T} {r : Int32} {n0 : Nat} {t : Nat} {x1 : Int32} (h : f_X9_uses n0 σ t x1 = some (r, u)) (hT : TS g σ) (hk_t : sx_K σ t = 11) : CT l g yX9_uses cX9_uses 4 (some .int) 0 0 [.ref t, .int x1] (True) u σ (Qxi g r u) := by
  refine yc_met (by decide) (Nat.le_of_ble_eq_true rfl) ?_
  refine yc_lv (show lv_args 0 [.ref t, .int x1] = [(0, .ref t), (1, .int x1)] from rfl) ?_
  show ZY l g _ _ _ _ _ _ _ _ _ _ _ _ _ _ σ 0 [(0, .ref t), (1, .int x1)] []
  unfold f_X9_uses at h
  refine ym 1 (fun B k => z_aload_n B dX9_uses_0 rfl 0 rfl k) ?_
  replace h := qv_e h
  obtain ⟨w1, e_w1, h⟩ := h
  have hq_w1 : rk σ w1 13 := rk_T hT hk_t rfl (by decide) e_w1
  refine ym 4 (fun B k => gf_X9_78 (x := w1) B hk_t e_w1 dX9_uses_1 k) ?_
  refine ym 5 (fun B k => z_iload_n B dX9_uses_4 rfl 1 rfl k) ?_
  replace h := bq_e h
  obtain ⟨a2, rfl, h⟩ := h
  have hk_a2 := hq_w1 a2 rfl
  replace h := ck_e h
  obtain ⟨hi_3, h⟩ := h
  refine ym 6 (fun B k => z_iald (j := (ti x1)) (x := (sx_I σ a2 (ti x1))) B hk_a2 rfl hi_3 rfl dX9_uses_5 k) ?_
  refine ym 7 (fun B k => z_istore_n (lv' := [(2, .int (sx_I σ a2 (ti x1))), (0, .ref t), (1, .int x1)]) B dX9_uses_6 rfl (by decide) rfl k) ?_
  refine ym 8 (fun B k => z_aload_n B dX9_uses_7 rfl 1 rfl k) ?_
  refine ym 9 (fun B k => z_dup B dX9_uses_8 rfl k) ?_
  refine ym 12 (fun B k => gf_X9_140 (x := (sx_I σ t 39)) B hk_t rfl dX9_uses_9 k) ?_
  refine ym 13 (fun B k => z_iconst (v := 1) B dX9_uses_12 (by decide) k) ?_
  refine ym 14 (fun B k => z_isub B dX9_uses_13 k) ?_
  refine ymw (σ' := (wx_I σ t 39 ((sx_I σ t 39) - 1))) 17 e_I (fun B hin k => pf_X9_140 (x := ((sx_I σ t 39) - 1)) B hk_t rfl dX9_uses_14 k) ?_
  have hT := TS_I (k := 39) (x := ((sx_I σ t 39) - 1)) hT hk_t (Or.inl rfl)
  have hk_t := kk_I (σ := σ) (a := t) (k := 39) (x := ((sx_I σ t 39) - 1)) hk_t
  refine ym 18 (fun B k => z_iload_n B dX9_uses_17 rfl 2 rfl k) ?_
  refine ym 19 (fun B k => z_istore_n (lv' := [(3, .int x1), (2, .int (sx_I σ a2 (ti x1))), (0, .ref t), (1, .int x1)]) B dX9_uses_18 rfl (by decide) rfl k) ?_
  refine y_sub [(0, .ref t), (2, .int (sx_I σ a2 (ti x1))), (3, .int x1)] [2, 1, 0] rfl ?_
  exact tl_X9_uses_19 h hT hk_t
