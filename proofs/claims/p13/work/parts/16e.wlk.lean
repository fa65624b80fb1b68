set_option maxRecDepth 100000 in
set_option maxHeartbeats 4000000 in
theorem tl_X8_openAgain_29 {l : Launch} {g : gx_T} {u : sx_T} {r : Option Nat} {As : Array Value} {n0 : Nat} : ∀ {n : Nat} {σ : sx_T} {t : Nat} {v1 : Option Nat} {x2 : Int32} {v3 : Option Nat} {x4 : Int32}, fl_X8_openAgain_29 n0 n σ t v1 x2 v3 x4 = some (r, u) → TS g σ → sx_K σ t = 10 → rk σ v1 2 → rk σ v3 2 → ZY l g cX8_openAgain RX8 "openAgain" (some (.object "Loomkeeper$Flow")) 5 9 231 0 0 false As (QM g As (Qxq g r u)) (rk u r 2) u σ 29 [(0, .ref t), (1, va_rf v1), (2, .int x2), (3, va_rf v3), (4, .int x4)] [] := by
  intro n
  induction n with
  | zero =>
    intro σ t v1 x2 v3 x4 h
    exact nomatch h
  | succ n ih_ =>
    have ih := @ih_
    intro σ t v1 x2 v3 x4 h hT hk_t hq_v1 hq_v3
    unfold fl_X8_openAgain_29 at h
    refine ym 31 (fun B k => z_iload B dX8_openAgain_29 4 rfl k) ?_
    refine ym 32 (fun B k => z_iload_n B dX8_openAgain_31 rfl 2 rfl k) ?_
    by_cases c1 : x2 ≤ x4
    · replace h := ite_p c1 h
      refine ym 66 (fun B k => z_icmp_ge (tgt := 66) B dX8_openAgain_32 (by decide) (fun _ => k) (fun q => absurd c1 q)) ?_
      refine ym 67 (fun B k => z_qload_n (r := v3) B dX8_openAgain_66 rfl 3 rfl k) ?_
      replace h := bq_e h
      obtain ⟨a2, rfl, h⟩ := h
      have hk_a2 := hq_v3 a2 rfl
      replace h := qv_e h
      obtain ⟨w3, e_w3, h⟩ := h
      have hq_w3 : rk σ w3 7 := rk_T hT hk_a2 rfl (by decide) e_w3
      refine ym 70 (fun B k => gf_X8_249 (x := w3) B hk_a2 e_w3 dX8_openAgain_67 k) ?_
      refine ym 71 (fun B k => z_iload_n B dX8_openAgain_70 rfl 2 rfl k) ?_
      replace h := bq_e h
      obtain ⟨a4, rfl, h⟩ := h
      have hk_a4 := hq_w3 a4 rfl
      replace h := br_e h
      obtain ⟨u6, h5, h⟩ := h
      have m7 := ct_X5_advance l (g := g) h5 hT hk_a4
      refine yc_Vv (Al := [.int x2]) (rest := []) 74 rfl cw_X8_289 cx_6 dX8_openAgain_71 m7 hk_a4 rfl (by decide) rfl (Nat.le_of_ble_eq_true rfl) ?_
      have hk_t := k_G m7.1.1 (by decide) hk_t
      have hq_v1 := rk_G m7.1.1 (by decide) hq_v1
      have hk_a2 := k_G m7.1.1 (by decide) hk_a2
      have hT := m7.1.1.2.2.2
      refine ym 75 (fun B k => z_aload_n B dX8_openAgain_74 rfl 3 rfl k) ?_
      refine ym 76 (fun B k => z_iload_n B dX8_openAgain_75 rfl 2 rfl k) ?_
      have j8 := hk_a2
      refine ymw (σ' := (wx_I u6 a2 8 x2)) 79 e_I (fun B hin k => pf_X8_394 (x := x2) B hk_a2 rfl dX8_openAgain_76 k) ?_
      have hT := TS_I (k := 8) (x := x2) hT hk_a2 (Or.inl rfl)
      have hk_t := kk_I (σ := u6) (a := a2) (k := 8) (x := x2) hk_t
      have hq_v1 := qk_I (σ := u6) (a := a2) (k := 8) (x := x2) hq_v1
      have hk_a2 := kk_I (σ := u6) (a := a2) (k := 8) (x := x2) hk_a2
      refine ym 80 (fun B k => z_aload_n B dX8_openAgain_79 rfl 3 rfl k) ?_
      replace h := qv_e h
      obtain ⟨w9, e_w9, h⟩ := h
      have hq_w9 : rk (wx_I u6 a2 8 x2) w9 7 := rk_T hT hk_a2 rfl (by decide) ((rR_I rfl).trans e_w9)
      refine ym 83 (fun B k => gf_X8_249 (x := w9) B hk_a2 ((rR_I rfl).trans e_w9) dX8_openAgain_80 k) ?_
      replace h := bq_e h
      obtain ⟨a10, rfl, h⟩ := h
      have hk_a10 := hq_w9 a10 rfl
      replace h := br_e h
      obtain ⟨r12, h11, h⟩ := h
      have m13 := ct_X5_waitsForActivity l (g := g) h11 hT hk_a10
      refine yc_Vi (Al := []) (rest := []) 86 rfl cw_X8_301 cx_6 dX8_openAgain_83 m13 hk_a10 rfl (by decide) rfl (Nat.le_of_ble_eq_true rfl) ?_
      have hz_r12 := m13.1.2
      by_cases c14 : r12 = 0
      · replace h := ite_p c14 h
        refine ym 102 (fun B k => z_if_eq (tgt := 102) B dX8_openAgain_86 (by decide) (fun _ => k) (fun q => absurd c14 q)) ?_
        refine ym 103 (fun B k => z_aload_n B dX8_openAgain_102 rfl 3 rfl k) ?_
        obtain ⟨rfl, rfl⟩ := Prod.mk.inj (Option.some.inj h)
        exact yr_q (v := (some a2)) hT (rk_a hk_a2) rfl dX8_openAgain_103
      · replace h := ite_n c14 h
        refine ym 89 (fun B k => z_if_eq (tgt := 102) B dX8_openAgain_86 (by decide) (fun q => absurd q c14) (fun _ => k)) ?_
        refine ym 90 (fun B k => z_aload_n B dX8_openAgain_89 rfl 0 rfl k) ?_
        refine ym 91 (fun B k => z_aload_n B dX8_openAgain_90 rfl 3 rfl k) ?_
        refine ym 92 (fun B k => z_aload_n B dX8_openAgain_91 rfl 3 rfl k) ?_
        replace h := qv_e h
        obtain ⟨w15, e_w15, h⟩ := h
        have hq_w15 : rk (wx_I u6 a2 8 x2) w15 7 := rk_T hT hk_a2 rfl (by decide) ((rR_I rfl).trans e_w15)
        refine ym 95 (fun B k => gf_X8_249 (x := w15) B hk_a2 ((rR_I rfl).trans e_w15) dX8_openAgain_92 k) ?_
        replace h := bq_e h
        obtain ⟨a16, rfl, h⟩ := h
        have hk_a16 := hq_w15 a16 rfl
        refine ym 98 (fun B k => gf_X8_367 (x := (sx_J u6 a16 17)) B hk_a16 (rJ_I rfl) dX8_openAgain_95 k) ?_
        refine ym 99 (fun B k => z_l2i (v := (sx_J u6 a16 17).toInt32) B dX8_openAgain_98 rfl k) ?_
        replace h := br_e h
        obtain ⟨u18, h17, h⟩ := h
        have m19 := ct_X8_schedule l (g := g) h17 hT hk_t (rk_a hk_a2)
        refine yc_Vv (Al := [.ref a2, .int ((sx_J u6 a16 17).toInt32)]) (rest := []) 102 rfl cw_X8_377 cx_9 dX8_openAgain_99 m19 hk_t rfl (by decide) rfl (Nat.le_of_ble_eq_true rfl) ?_
        have hk_t := k_G m19.1.1 (by decide) hk_t
        have hq_v1 := rk_G m19.1.1 (by decide) hq_v1
        have hk_a2 := k_G m19.1.1 (by decide) hk_a2
        have hT := m19.1.1.2.2.2
        refine ym 103 (fun B k => z_aload_n B dX8_openAgain_102 rfl 3 rfl k) ?_
        obtain ⟨rfl, rfl⟩ := Prod.mk.inj (Option.some.inj h)
        exact yr_q (v := (some a2)) hT (rk_a hk_a2) rfl dX8_openAgain_103
    · replace h := ite_n c1 h
      refine ym 35 (fun B k => z_icmp_ge (tgt := 66) B dX8_openAgain_32 (by decide) (fun q => absurd q c1) (fun _ => k)) ?_
      refine ym 36 (fun B k => z_qload_n (r := v3) B dX8_openAgain_35 rfl 3 rfl k) ?_
      replace h := bq_e h
      obtain ⟨a20, rfl, h⟩ := h
      have hk_a20 := hq_v3 a20 rfl
      replace h := qv_e h
      obtain ⟨w21, e_w21, h⟩ := h
      have hq_w21 : rk σ w21 3 := rk_T hT hk_a20 rfl (by decide) e_w21
      refine ym 39 (fun B k => gf_X8_179 (x := w21) B hk_a20 e_w21 dX8_openAgain_36 k) ?_
      refine ym 40 (fun B k => z_qload_n (r := v1) B dX8_openAgain_39 rfl 1 rfl k) ?_
      replace h := bq_e h
      obtain ⟨a22, rfl, h⟩ := h
      have hk_a22 := hq_v1 a22 rfl
      replace h := qv_e h
      obtain ⟨w23, e_w23, h⟩ := h
      have hq_w23 : rk σ w23 3 := rk_T hT hk_a22 rfl (by decide) e_w23
      refine ym 43 (fun B k => gf_X8_179 (x := w23) B hk_a22 e_w23 dX8_openAgain_40 k) ?_
      refine ym 45 (fun B k => z_iload B dX8_openAgain_43 4 rfl k) ?_
      replace h := bq_e h
      obtain ⟨a24, rfl, h⟩ := h
      have hk_a24 := hq_w23 a24 rfl
      replace h := br_e h
      obtain ⟨r26, h25, h⟩ := h
      have m27 := ct_X1_kindAt l (g := g) h25 hT hk_a24
      refine yc_Vi (Al := [.int x4]) (rest := [va_rf w21]) 48 rfl cw_X8_186 cx_2 dX8_openAgain_45 m27 hk_a24 rfl (by decide) rfl (by cases w21 <;> exact Nat.le_of_ble_eq_true rfl) ?_
      refine ym 49 (fun B k => z_aload_n B dX8_openAgain_48 rfl 1 rfl k) ?_
      replace h := qv_e h
      obtain ⟨w28, e_w28, h⟩ := h
      have hq_w28 : rk σ w28 3 := rk_T hT hk_a22 rfl (by decide) e_w28
      refine ym 52 (fun B k => gf_X8_179 (x := w28) B hk_a22 e_w28 dX8_openAgain_49 k) ?_
      refine ym 54 (fun B k => z_iload B dX8_openAgain_52 4 rfl k) ?_
      replace h := bq_e h
      obtain ⟨a29, rfl, h⟩ := h
      have hk_a29 := hq_w28 a29 rfl
      replace h := br_e h
      obtain ⟨r31, h30, h⟩ := h
      have m32 := ct_X1_numberAt l (g := g) h30 hT hk_a29
      refine yc_Vl (Al := [.int x4]) (rest := [.int r26, va_rf w21]) 57 rfl cw_X8_189 cx_2 dX8_openAgain_54 m32 hk_a29 rfl (by decide) rfl (by cases w21 <;> exact Nat.le_of_ble_eq_true rfl) ?_
      replace h := bq_e h
      obtain ⟨a33, rfl, h⟩ := h
      have hk_a33 := hq_w21 a33 rfl
      replace h := br_e h
      obtain ⟨u35, h34, h⟩ := h
      have m36 := ct_X1_add l (g := g) h34 hT hk_a33
      refine yc_Vv (Al := [.int r26, .long r31]) (rest := []) 60 rfl cw_X8_333 cx_2 dX8_openAgain_57 m36 hk_a33 rfl (by decide) rfl (Nat.le_of_ble_eq_true rfl) ?_
      have hk_t := k_G m36.1.1 (by decide) hk_t
      have hk_a22 := k_G m36.1.1 (by decide) hk_a22
      have hk_a20 := k_G m36.1.1 (by decide) hk_a20
      have hT := m36.1.1.2.2.2
      refine ym 63 (fun B k => z_iinc (v := x4 + 1) (lv' := [(4, .int (x4 + 1)), (0, .ref t), (1, .ref a22), (2, .int x2), (3, .ref a20)]) B dX8_openAgain_60 4 rfl rfl (by decide) rfl k) ?_
      refine ym 29 (fun B k => z_goto (tgt := 29) B dX8_openAgain_63 (by decide) k) ?_
      refine y_sub [(0, .ref t), (1, .ref a22), (2, .int x2), (3, .ref a20), (4, .int (x4 + 1))] [1, 2, 3, 4, 0] rfl ?_
      exact ih h hT hk_t (rk_a hk_a22) (rk_a hk_a20)
set_option maxRecDepth 100000 in
set_option maxHeartbeats 4000000 in
theorem ct_X8_openAgain (l : Launch) {g : gx_T} {σ : sx_T} {u : sx_T} {r : Option Nat} {n0 : Nat} {t : Nat} {v1 : Option Nat} {x2 : Int32} (h : f_X8_openAgain n0 σ t v1 x2 = some (r, u)) (hT : TS g σ) (hk_t : sx_K σ t = 10) (hq_v1 : rk σ v1 2) : CT l g yX8_openAgain cX8_openAgain 5 (some (.object "Loomkeeper$Flow")) 9 231 [.ref t, va_rf v1, .int x2] (rk u r 2) u σ (Qxq g r u) := by
  refine yc_met (by decide) (by cases v1 <;> exact Nat.le_of_ble_eq_true rfl) ?_
  refine yc_lv (show lv_args 0 [.ref t, va_rf v1, .int x2] = [(0, .ref t), (1, va_rf v1), (2, .int x2)] from (by cases v1 <;> rfl)) ?_
  show ZY l g _ _ _ _ _ _ _ _ _ _ _ _ _ _ σ 0 [(0, .ref t), (1, va_rf v1), (2, .int x2)] []
  unfold f_X8_openAgain at h
  refine ym 1 (fun B k => z_aload_n B dX8_openAgain_0 rfl 0 rfl k) ?_
  refine ym 2 (fun B k => z_qload_n (r := v1) B dX8_openAgain_1 rfl 1 rfl k) ?_
  replace h := bq_e h
  obtain ⟨a1, rfl, h⟩ := h
  have hk_a1 := hq_v1 a1 rfl
  replace h := qv_e h
  obtain ⟨w2, e_w2, h⟩ := h
  have hq_w2 : rk σ w2 6 := rk_T hT hk_a1 rfl (by decide) e_w2
  refine ym 5 (fun B k => gf_X8_103 (x := w2) B hk_a1 e_w2 dX8_openAgain_2 k) ?_
  refine ym 6 (fun B k => z_aload_n B dX8_openAgain_5 rfl 1 rfl k) ?_
  replace h := qv_e h
  obtain ⟨w3, e_w3, h⟩ := h
  have hq_w3 : rk σ w3 3 := rk_T hT hk_a1 rfl (by decide) e_w3
  refine ym 9 (fun B k => gf_X8_179 (x := w3) B hk_a1 e_w3 dX8_openAgain_6 k) ?_
  refine ym 10 (fun B k => z_iconst (v := 0) B dX8_openAgain_9 (by decide) k) ?_
  replace h := bq_e h
  obtain ⟨a4, rfl, h⟩ := h
  have hk_a4 := hq_w3 a4 rfl
  replace h := br_e h
  obtain ⟨r6, h5, h⟩ := h
  have m7 := ct_X1_numberAt l (g := g) h5 hT hk_a4
  refine yc_Vl (Al := [.int 0]) (rest := [va_rf w2, .ref t]) 13 rfl cw_X8_189 cx_2 dX8_openAgain_10 m7 hk_a4 rfl (by decide) rfl (by cases w2 <;> exact Nat.le_of_ble_eq_true rfl) ?_
  refine ym 14 (fun B k => z_l2i (v := r6.toInt32) B dX8_openAgain_13 rfl k) ?_
  refine ym 15 (fun B k => z_iconst (v := (-1)) B dX8_openAgain_14 (by decide) k) ?_
  refine ym 16 (fun B k => z_iconst (v := (-1)) B dX8_openAgain_15 (by decide) k) ?_
  replace h := bd_e h
  obtain ⟨r9, u10, h8, h⟩ := h
  have m11 := ct_X8_open l (g := g) h8 hT hk_t hq_w2
  refine yc_Vq (Al := [va_rf w2, .int r6.toInt32, .int (-1), .int (-1)]) (rest := []) 19 rfl cw_X8_141 cx_9 dX8_openAgain_16 m11 hk_t rfl (by decide) rfl (Nat.le_of_ble_eq_true rfl) ?_
  have hk_t := k_G m11.1.1 (by decide) hk_t
  have hk_a1 := k_G m11.1.1 (by decide) hk_a1
  have hT := m11.1.1.2.2.2
  have hq_r9 := m11.1.2
  refine ym 20 (fun B k => z_qstore_n (r := r9) (lv' := [(3, va_rf r9), (0, .ref t), (1, .ref a1), (2, .int x2)]) B dX8_openAgain_19 rfl (by decide) rfl k) ?_
  refine ym 21 (fun B k => z_qload_n (r := r9) B dX8_openAgain_20 rfl 0 rfl k) ?_
  rcases r9 with _ | a12
  · replace h := oc_n h
    refine ym 24 (fun B k => z_ifnonnull (r := none) (tgt := 26) B dX8_openAgain_21 (by decide) (fun a h => nomatch h) (fun _ => k)) ?_
    refine ym 25 (fun B k => z_null B dX8_openAgain_24 k) ?_
    obtain ⟨rfl, rfl⟩ := Prod.mk.inj (Option.some.inj h)
    exact yr_q (v := none) hT rk_n rfl dX8_openAgain_25
  · replace h := oc_s h
    have hk_a12 := hq_r9 a12 rfl
    refine ym 26 (fun B k => z_ifnonnull (r := (some a12)) (tgt := 26) B dX8_openAgain_21 (by decide) (fun _ _ => k) (fun h => nomatch h)) ?_
    refine ym 27 (fun B k => z_iconst (v := 1) B dX8_openAgain_26 (by decide) k) ?_
    refine ym 29 (fun B k => z_istore (lv' := [(4, .int 1), (3, .ref a12), (0, .ref t), (1, .ref a1), (2, .int x2)]) B dX8_openAgain_27 (by decide) rfl k) ?_
    refine y_sub [(0, .ref t), (1, .ref a1), (2, .int x2), (3, .ref a12), (4, .int 1)] [2, 3, 4, 1, 0] rfl ?_
    exact tl_X8_openAgain_29 h hT hk_t (rk_a hk_a1) (rk_a hk_a12)
set_option maxRecDepth 100000 in
set_option maxHeartbeats 4000000 in
theorem tl_X8_reset_95 {l : Launch} {g : gx_T} {u : sx_T} {r : Int32} {As : Array Value} {n0 : Nat} : ∀ {n : Nat} {σ : sx_T} {t : Nat} {v3 : Option Nat} {v4 : Option Nat} {x5 : Int32}, fl_X8_reset_95 n0 n σ t v3 v4 x5 = some (.inl r, u) → TS g σ → sx_K σ t = 10 → rk σ v3 2 → rk σ v4 2 → ZY l g cX8_reset RX8 "reset" (some .int) 6 12 304 0 0 false As (QM g As (Qxi g r u)) (True) u σ 95 [(0, .ref t), (3, va_rf v3), (4, va_rf v4), (5, .int x5)] [] := by
  intro n
  induction n with
  | zero =>
    intro σ t v3 v4 x5 h
    exact nomatch h
  | succ n ih_ =>
    have ih := @ih_
    intro σ t v3 v4 x5 h hT hk_t hq_v3 hq_v4
    unfold fl_X8_reset_95 at h
    refine ym 97 (fun B k => z_iload B dX8_reset_95 3 rfl k) ?_
    refine ym 98 (fun B k => z_qload_n (r := v3) B dX8_reset_97 rfl 1 rfl k) ?_
    replace h := bq_e h
    obtain ⟨a1, rfl, h⟩ := h
    have hk_a1 := hq_v3 a1 rfl
    replace h := qv_e h
    obtain ⟨w2, e_w2, h⟩ := h
    have hq_w2 : rk σ w2 3 := rk_T hT hk_a1 rfl (by decide) e_w2
    refine ym 101 (fun B k => gf_X8_179 (x := w2) B hk_a1 e_w2 dX8_reset_98 k) ?_
    replace h := bq_e h
    obtain ⟨a3, rfl, h⟩ := h
    have hk_a3 := hq_w2 a3 rfl
    replace h := br_e h
    obtain ⟨r5, h4, h⟩ := h
    have m6 := ct_X1_size l (g := g) h4 hT hk_a3
    refine yc_Vi (Al := []) (rest := [.int x5]) 104 rfl cw_X8_183 cx_2 dX8_reset_101 m6 hk_a3 rfl (by decide) rfl (Nat.le_of_ble_eq_true rfl) ?_
    by_cases c7 : r5 ≤ x5
    · replace h := ite_p c7 h
      refine ym 145 (fun B k => z_icmp_ge (tgt := 145) B dX8_reset_104 (by decide) (fun _ => k) (fun q => absurd c7 q)) ?_
      refine ym 147 (fun B k => z_qload (r := v4) B dX8_reset_145 2 rfl k) ?_
      replace h := bq_e h
      obtain ⟨a8, rfl, h⟩ := h
      have hk_a8 := hq_v4 a8 rfl
      refine ym 150 (fun B k => gf_X8_150 (x := (sx_I σ a8 0)) B hk_a8 rfl dX8_reset_147 k) ?_
      obtain ⟨h1, rfl⟩ := Prod.mk.inj (Option.some.inj h)
      obtain rfl := Sum.inl.inj h1
      exact yr_i hT trivial rfl dX8_reset_150
    · replace h := ite_n c7 h
      refine ym 107 (fun B k => z_icmp_ge (tgt := 145) B dX8_reset_104 (by decide) (fun q => absurd q c7) (fun _ => k)) ?_
      refine ym 108 (fun B k => z_aload_n B dX8_reset_107 rfl 1 rfl k) ?_
      replace h := qv_e h
      obtain ⟨w9, e_w9, h⟩ := h
      have hq_w9 : rk σ w9 3 := rk_T hT hk_a1 rfl (by decide) e_w9
      refine ym 111 (fun B k => gf_X8_179 (x := w9) B hk_a1 e_w9 dX8_reset_108 k) ?_
      refine ym 113 (fun B k => z_iload B dX8_reset_111 3 rfl k) ?_
      replace h := bq_e h
      obtain ⟨a10, rfl, h⟩ := h
      have hk_a10 := hq_w9 a10 rfl
      replace h := br_e h
      obtain ⟨r12, h11, h⟩ := h
      have m13 := ct_X1_kindAt l (g := g) h11 hT hk_a10
      refine yc_Vi (Al := [.int x5]) (rest := []) 116 rfl cw_X8_186 cx_2 dX8_reset_113 m13 hk_a10 rfl (by decide) rfl (Nat.le_of_ble_eq_true rfl) ?_
      refine ym 118 (fun B k => z_bipush (v := 6) B dX8_reset_116 (by decide) k) ?_
      by_cases c14 : r12 = 6
      · replace h := ite_p c14 h
        refine ym 121 (fun B k => z_icmp_ne (tgt := 139) B dX8_reset_118 (by decide) (fun q => absurd c14 q) (fun _ => k)) ?_
        refine ym 122 (fun B k => z_aload_n B dX8_reset_121 rfl 0 rfl k) ?_
        refine ym 124 (fun B k => z_qload (r := v4) B dX8_reset_122 2 rfl k) ?_
        refine ym 126 (fun B k => z_bipush (v := 6) B dX8_reset_124 (by decide) k) ?_
        refine ym 127 (fun B k => z_aload_n B dX8_reset_126 rfl 1 rfl k) ?_
        replace h := qv_e h
        obtain ⟨w15, e_w15, h⟩ := h
        have hq_w15 : rk σ w15 3 := rk_T hT hk_a1 rfl (by decide) e_w15
        refine ym 130 (fun B k => gf_X8_179 (x := w15) B hk_a1 e_w15 dX8_reset_127 k) ?_
        refine ym 132 (fun B k => z_iload B dX8_reset_130 3 rfl k) ?_
        replace h := bq_e h
        obtain ⟨a16, rfl, h⟩ := h
        have hk_a16 := hq_w15 a16 rfl
        replace h := br_e h
        obtain ⟨r18, h17, h⟩ := h
        have m19 := ct_X1_numberAt l (g := g) h17 hT hk_a16
        refine yc_Vl (Al := [.int x5]) (rest := [.int 6, va_rf v4, .ref t]) 135 rfl cw_X8_189 cx_2 dX8_reset_132 m19 hk_a16 rfl (by decide) rfl (by cases v4 <;> exact Nat.le_of_ble_eq_true rfl) ?_
        replace h := bd_e h
        obtain ⟨r21, u22, h20, h⟩ := h
        have m23 := ct_X8_send l (g := g) h20 hT hk_t hq_v4
        refine yc_Vi (Al := [va_rf v4, .int 6, .long r18]) (rest := []) 138 rfl cw_X8_159 cx_9 dX8_reset_135 m23 hk_t rfl (by decide) rfl (Nat.le_of_ble_eq_true rfl) ?_
        have hk_t := k_G m23.1.1 (by decide) hk_t
        have hk_a1 := k_G m23.1.1 (by decide) hk_a1
        have hq_v4 := rk_G m23.1.1 (by decide) hq_v4
        have hT := m23.1.1.2.2.2
        have hz_r21 := m23.1.2
        refine ym 139 (fun B k => z_pop B dX8_reset_138 rfl k) ?_
        refine ym 142 (fun B k => z_iinc (v := x5 + 1) (lv' := [(5, .int (x5 + 1)), (0, .ref t), (3, .ref a1), (4, va_rf v4)]) B dX8_reset_139 3 rfl rfl (by decide) (by cases v4 <;> rfl) k) ?_
        refine ym 95 (fun B k => z_goto (tgt := 95) B dX8_reset_142 (by decide) k) ?_
        refine y_sub [(0, .ref t), (3, .ref a1), (4, va_rf v4), (5, .int (x5 + 1))] [1, 2, 3, 0] rfl ?_
        exact ih h hT hk_t (rk_a hk_a1) hq_v4
      · replace h := ite_n c14 h
        refine ym 139 (fun B k => z_icmp_ne (tgt := 139) B dX8_reset_118 (by decide) (fun _ => k) (fun q => absurd q c14)) ?_
        refine ym 142 (fun B k => z_iinc (v := x5 + 1) (lv' := [(5, .int (x5 + 1)), (0, .ref t), (3, .ref a1), (4, va_rf v4)]) B dX8_reset_139 3 rfl rfl (by decide) (by cases v4 <;> rfl) k) ?_
        refine ym 95 (fun B k => z_goto (tgt := 95) B dX8_reset_142 (by decide) k) ?_
        refine y_sub [(0, .ref t), (3, .ref a1), (4, va_rf v4), (5, .int (x5 + 1))] [1, 2, 3, 0] rfl ?_
        exact ih h hT hk_t (rk_a hk_a1) hq_v4
set_option maxRecDepth 100000 in
set_option maxHeartbeats 4000000 in
theorem tb_X8_reset_69 {l : Launch} {g : gx_T} {σ : sx_T} {u : sx_T} {r : Int32} {As : Array Value} {n0 : Nat} {t : Nat} {x2 : Int32} {v3 : Option Nat} {w0_ : Option Nat} (h : fb_X8_reset_69 n0 σ t x2 v3 w0_ = some (.inl r, u)) (hT : TS g σ) (hk_t : sx_K σ t = 10) (hq_v3 : rk σ v3 2) (hq_w0_ : rk σ w0_ 2) : ZY l g cX8_reset RX8 "reset" (some .int) 6 12 304 0 0 false As (QM g As (Qxi g r u)) (True) u σ 69 [(0, .ref t), (2, .int x2), (3, va_rf v3)] [va_rf w0_] := by
  unfold fb_X8_reset_69 at h
  refine ym 71 (fun B k => z_qstore (r := w0_) (lv' := [(4, va_rf w0_), (0, .ref t), (2, .int x2), (3, va_rf v3)]) B dX8_reset_69 (by decide) (by cases v3 <;> rfl) k) ?_
  refine ym 73 (fun B k => z_qload (r := w0_) B dX8_reset_71 0 rfl k) ?_
  rcases w0_ with _ | a1
  · replace h := oc_n h
    refine ym 76 (fun B k => z_ifnonnull (r := none) (tgt := 86) B dX8_reset_73 (by decide) (fun a h => nomatch h) (fun _ => k)) ?_
    exact nomatch (Prod.mk.inj (Option.some.inj h)).1
  · replace h := oc_s h
    have hk_a1 := hq_w0_ a1 rfl
    refine ym 86 (fun B k => z_ifnonnull (r := (some a1)) (tgt := 86) B dX8_reset_73 (by decide) (fun _ _ => k) (fun h => nomatch h)) ?_
    refine ym 87 (fun B k => z_aload_n B dX8_reset_86 rfl 1 rfl k) ?_
    refine ym 89 (fun B k => z_aload B dX8_reset_87 0 rfl k) ?_
    replace h := br_e h
    obtain ⟨u3, h2, h⟩ := h
    have m4 := ct_X8_goOn l (g := g) h2 hT hk_t (rk_a hk_a1)
    refine yc_Vv (Al := [.ref a1]) (rest := []) 92 rfl cw_X8_111 cx_9 dX8_reset_89 m4 hk_t rfl (by decide) rfl (Nat.le_of_ble_eq_true rfl) ?_
    have hk_a1 := k_G m4.1.1 (by decide) hk_a1
    have hk_t := k_G m4.1.1 (by decide) hk_t
    have hq_v3 := rk_G m4.1.1 (by decide) hq_v3
    have hT := m4.1.1.2.2.2
    refine ym 93 (fun B k => z_iload_n B dX8_reset_92 rfl 2 rfl k) ?_
    refine ym 95 (fun B k => z_istore (lv' := [(5, .int x2), (4, .ref a1), (0, .ref t), (2, .int x2), (3, va_rf v3)]) B dX8_reset_93 (by decide) rfl k) ?_
    refine y_sub [(0, .ref t), (3, va_rf v3), (4, .ref a1), (5, .int x2)] [2, 4, 1, 0] rfl ?_
    exact tl_X8_reset_95 h hT hk_t hq_v3 (rk_a hk_a1)
set_option maxRecDepth 100000 in
set_option maxHeartbeats 4000000 in
theorem tb_X8_reset_68 {l : Launch} {g : gx_T} {σ : sx_T} {u : sx_T} {r : Int32} {As : Array Value} {n0 : Nat} {t : Nat} {x2 : Int32} {v3 : Option Nat} (h : fb_X8_reset_68 n0 σ t x2 v3 = some (.inl r, u)) (hT : TS g σ) (hk_t : sx_K σ t = 10) (hq_v3 : rk σ v3 2) : ZY l g cX8_reset RX8 "reset" (some .int) 6 12 304 0 0 false As (QM g As (Qxi g r u)) (True) u σ 68 [(0, .ref t), (2, .int x2), (3, va_rf v3)] [] := by
  unfold fb_X8_reset_68 at h
  refine ym 69 (fun B k => z_null B dX8_reset_68 k) ?_
  refine y_sub [(0, .ref t), (2, .int x2), (3, va_rf v3)] [0, 1, 2] rfl ?_
  exact tb_X8_reset_69 h hT hk_t hq_v3 rk_n
set_option maxRecDepth 100000 in
set_option maxHeartbeats 4000000 in
theorem tb_X8_reset_33 {l : Launch} {g : gx_T} {σ : sx_T} {u : sx_T} {r : Int32} {As : Array Value} {n0 : Nat}  (h : fb_X8_reset_33 n0 σ  = some (.inl r, u)) (hT : TS g σ)  : ZY l g cX8_reset RX8 "reset" (some .int) 6 12 304 0 0 false As (QM g As (Qxi g r u)) (True) u σ 33 [] [] := by
  unfold fb_X8_reset_33 at h
  exact nomatch (Prod.mk.inj (Option.some.inj h)).1
set_option maxRecDepth 100000 in
set_option maxHeartbeats 4000000 in
theorem ct_X8_reset (l : Launch) {g : gx_T} {σ : sx_T} {u : sx_T} {r : Int32} {n0 : Nat} {t : Nat} {x1 : Int32} {x2 : Int32} (h : f_X8_reset n0 σ t x1 x2 = some (.inl r, u)) (hT : TS g σ) (hk_t : sx_K σ t = 10) : CT l g yX8_reset cX8_reset 6 (some .int) 12 304 [.ref t, .int x1, .int x2] (True) u σ (Qxi g r u) := by
  refine yc_met (by decide) (Nat.le_of_ble_eq_true rfl) ?_
  refine yc_lv (show lv_args 0 [.ref t, .int x1, .int x2] = [(0, .ref t), (1, .int x1), (2, .int x2)] from rfl) ?_
  show ZY l g _ _ _ _ _ _ _ _ _ _ _ _ _ _ σ 0 [(0, .ref t), (1, .int x1), (2, .int x2)] []
  unfold f_X8_reset at h
  refine ym 1 (fun B k => z_aload_n B dX8_reset_0 rfl 0 rfl k) ?_
  refine ym 2 (fun B k => z_iload_n B dX8_reset_1 rfl 1 rfl k) ?_
  replace h := br_e h
  obtain ⟨r2, h1, h⟩ := h
  have m3 := ct_X8_flowAt l (g := g) h1 hT hk_t
  refine yc_Vq (Al := [.int x1]) (rest := []) 5 rfl cw_X8_99 cx_9 dX8_reset_2 m3 hk_t rfl (by decide) rfl (Nat.le_of_ble_eq_true rfl) ?_
  have hq_r2 := m3.1.2
  refine ym 6 (fun B k => z_qstore_n (r := r2) (lv' := [(3, va_rf r2), (0, .ref t), (1, .int x1), (2, .int x2)]) B dX8_reset_5 rfl (by decide) rfl k) ?_
  refine ym 7 (fun B k => z_qload_n (r := r2) B dX8_reset_6 rfl 0 rfl k) ?_
  rcases r2 with _ | a4
  · replace h := oc_n h
    refine ym 10 (fun B k => z_ifnonnull (r := none) (tgt := 20) B dX8_reset_7 (by decide) (fun a h => nomatch h) (fun _ => k)) ?_
    exact nomatch (Prod.mk.inj (Option.some.inj h)).1
  · replace h := oc_s h
    have hk_a4 := hq_r2 a4 rfl
    refine ym 20 (fun B k => z_ifnonnull (r := (some a4)) (tgt := 20) B dX8_reset_7 (by decide) (fun _ _ => k) (fun h => nomatch h)) ?_
    refine ym 21 (fun B k => z_iload_n B dX8_reset_20 rfl 3 rfl k) ?_
    refine ym 22 (fun B k => z_iconst (v := 1) B dX8_reset_21 (by decide) k) ?_
    by_cases c5 : x2 < 1
    · replace h := ite_p c5 h
      refine ym 33 (fun B k => z_icmp_lt (tgt := 33) B dX8_reset_22 (by decide) (fun _ => k) (fun q => absurd c5 q)) ?_
      refine y_sub [] [] rfl ?_
      exact tb_X8_reset_33 h hT 
    · replace h := ite_n c5 h
      refine ym 25 (fun B k => z_icmp_lt (tgt := 33) B dX8_reset_22 (by decide) (fun q => absurd q c5) (fun _ => k)) ?_
      refine ym 26 (fun B k => z_iload_n B dX8_reset_25 rfl 3 rfl k) ?_
      refine ym 27 (fun B k => z_aload_n B dX8_reset_26 rfl 0 rfl k) ?_
      replace h := br_e h
      obtain ⟨r7, h6, h⟩ := h
      have m8 := ct_X0_eventsAheadOfEnd l (g := g) h6 hT hk_a4
      refine yc_Vi (Al := []) (rest := [.int x2]) 30 rfl cw_X8_163 cx_1 dX8_reset_27 m8 hk_a4 rfl (by decide) rfl (Nat.le_of_ble_eq_true rfl) ?_
      by_cases c9 : x2 ≤ r7
      · replace h := ite_p c9 h
        refine ym 43 (fun B k => z_icmp_le (tgt := 43) B dX8_reset_30 (by decide) (fun _ => k) (fun q => absurd c9 q)) ?_
        refine ym 44 (fun B k => z_aload_n B dX8_reset_43 rfl 0 rfl k) ?_
        replace h := br_e h
        obtain ⟨r11, h10, h⟩ := h
        have m12 := ct_X0_hasEnded l (g := g) h10 hT hk_a4
        refine yc_Vi (Al := []) (rest := []) 47 rfl cw_X8_107 cx_1 dX8_reset_44 m12 hk_a4 rfl (by decide) rfl (Nat.le_of_ble_eq_true rfl) ?_
        have hz_r11 := m12.1.2
        by_cases c13 : r11 = 0
        · replace h := ite_p c13 h
          refine ym 68 (fun B k => z_if_eq (tgt := 68) B dX8_reset_47 (by decide) (fun _ => k) (fun q => absurd c13 q)) ?_
          refine y_sub [(0, .ref t), (2, .int x2), (3, .ref a4)] [1, 3, 0] rfl ?_
          exact tb_X8_reset_68 h hT hk_t (rk_a hk_a4)
        · replace h := ite_n c13 h
          refine ym 50 (fun B k => z_if_eq (tgt := 68) B dX8_reset_47 (by decide) (fun q => absurd q c13) (fun _ => k)) ?_
          refine ym 51 (fun B k => z_aload_n B dX8_reset_50 rfl 1 rfl k) ?_
          refine ym 52 (fun B k => z_aload_n B dX8_reset_51 rfl 0 rfl k) ?_
          refine ym 53 (fun B k => z_iload_n B dX8_reset_52 rfl 3 rfl k) ?_
          replace h := bd_e h
          obtain ⟨r15, u16, h14, h⟩ := h
          have m17 := ct_X8_canLead l (g := g) h14 hT hk_t (rk_a hk_a4)
          refine yc_Vi (Al := [.ref a4, .int x2]) (rest := []) 56 rfl cw_X8_169 cx_9 dX8_reset_53 m17 hk_t rfl (by decide) rfl (Nat.le_of_ble_eq_true rfl) ?_
          have hk_a4 := k_G m17.1.1 (by decide) hk_a4
          have hk_t := k_G m17.1.1 (by decide) hk_t
          have hT := m17.1.1.2.2.2
          have hz_r15 := m17.1.2
          by_cases c18 : r15 = 0
          · replace h := ite_p c18 h
            refine ym 68 (fun B k => z_if_eq (tgt := 68) B dX8_reset_56 (by decide) (fun _ => k) (fun q => absurd c18 q)) ?_
            refine y_sub [(0, .ref t), (2, .int x2), (3, .ref a4)] [1, 3, 0] rfl ?_
            exact tb_X8_reset_68 h hT hk_t (rk_a hk_a4)
          · replace h := ite_n c18 h
            refine ym 59 (fun B k => z_if_eq (tgt := 68) B dX8_reset_56 (by decide) (fun q => absurd q c18) (fun _ => k)) ?_
            refine ym 60 (fun B k => z_aload_n B dX8_reset_59 rfl 1 rfl k) ?_
            refine ym 61 (fun B k => z_aload_n B dX8_reset_60 rfl 0 rfl k) ?_
            refine ym 62 (fun B k => z_iload_n B dX8_reset_61 rfl 3 rfl k) ?_
            replace h := bd_e h
            obtain ⟨r20, u21, h19, h⟩ := h
            have m22 := ct_X8_openAgain l (g := g) h19 hT hk_t (rk_a hk_a4)
            refine yc_Vq (Al := [.ref a4, .int x2]) (rest := []) 65 rfl cw_X8_173 cx_9 dX8_reset_62 m22 hk_t rfl (by decide) rfl (Nat.le_of_ble_eq_true rfl) ?_
            have hk_a4 := k_G m22.1.1 (by decide) hk_a4
            have hk_t := k_G m22.1.1 (by decide) hk_t
            have hT := m22.1.1.2.2.2
            have hq_r20 := m22.1.2
            refine ym 69 (fun B k => z_goto (tgt := 69) B dX8_reset_65 (by decide) k) ?_
            refine y_sub [(0, .ref t), (2, .int x2), (3, .ref a4)] [1, 3, 0] rfl ?_
            exact tb_X8_reset_69 h hT hk_t (rk_a hk_a4) hq_r20
      · replace h := ite_n c9 h
        refine ym 33 (fun B k => z_icmp_le (tgt := 43) B dX8_reset_30 (by decide) (fun q => absurd q c9) (fun _ => k)) ?_
        refine y_sub [] [] rfl ?_
        exact tb_X8_reset_33 h hT 
set_option maxRecDepth 100000 in
set_option maxHeartbeats 4000000 in
theorem tl_X8_reset_95x {l : Launch} {g : gx_T} {u : sx_T} {E : String} {As : Array Value} {Qc : Array Value → State → Outcome → State → Prop} (hlt : l.stackTraces = false) {n0 : Nat} : ∀ {n : Nat} {σ : sx_T} {t : Nat} {v3 : Option Nat} {v4 : Option Nat} {x5 : Int32}, fl_X8_reset_95 n0 n σ t v3 v4 x5 = some (.inr E, u) → TS g σ → sx_K σ t = 10 → rk σ v3 2 → rk σ v4 2 → ZY l g cX8_reset RX8 "reset" (some .int) 6 12 304 1 6 true As (QX g As Qc E u) True u σ 95 [(0, .ref t), (3, va_rf v3), (4, va_rf v4), (5, .int x5)] [] := by
  intro n
  induction n with
  | zero =>
    intro σ t v3 v4 x5 h
    exact nomatch h
  | succ n ih_ =>
    have ih := @ih_
    intro σ t v3 v4 x5 h hT hk_t hq_v3 hq_v4
    unfold fl_X8_reset_95 at h
    refine ym 97 (fun B k => z_iload B dX8_reset_95 3 rfl k) ?_
    refine ym 98 (fun B k => z_qload_n (r := v3) B dX8_reset_97 rfl 1 rfl k) ?_
    replace h := bq_e h
    obtain ⟨a1, rfl, h⟩ := h
    have hk_a1 := hq_v3 a1 rfl
    replace h := qv_e h
    obtain ⟨w2, e_w2, h⟩ := h
    have hq_w2 : rk σ w2 3 := rk_T hT hk_a1 rfl (by decide) e_w2
    refine ym 101 (fun B k => gf_X8_179 (x := w2) B hk_a1 e_w2 dX8_reset_98 k) ?_
    replace h := bq_e h
    obtain ⟨a3, rfl, h⟩ := h
    have hk_a3 := hq_w2 a3 rfl
    replace h := br_e h
    obtain ⟨r5, h4, h⟩ := h
    have m6 := ct_X1_size l (g := g) h4 hT hk_a3
    refine yc_Vi (Al := []) (rest := [.int x5]) 104 rfl cw_X8_183 cx_2 dX8_reset_101 m6 hk_a3 rfl (by decide) rfl (Nat.le_of_ble_eq_true rfl) ?_
    by_cases c7 : r5 ≤ x5
    · replace h := ite_p c7 h
      refine ym 145 (fun B k => z_icmp_ge (tgt := 145) B dX8_reset_104 (by decide) (fun _ => k) (fun q => absurd c7 q)) ?_
      refine ym 147 (fun B k => z_qload (r := v4) B dX8_reset_145 2 rfl k) ?_
      replace h := bq_e h
      obtain ⟨a8, rfl, h⟩ := h
      have hk_a8 := hq_v4 a8 rfl
      refine ym 150 (fun B k => gf_X8_150 (x := (sx_I σ a8 0)) B hk_a8 rfl dX8_reset_147 k) ?_
      exact nomatch (Prod.mk.inj (Option.some.inj h)).1
    · replace h := ite_n c7 h
      refine ym 107 (fun B k => z_icmp_ge (tgt := 145) B dX8_reset_104 (by decide) (fun q => absurd q c7) (fun _ => k)) ?_
      refine ym 108 (fun B k => z_aload_n B dX8_reset_107 rfl 1 rfl k) ?_
      replace h := qv_e h
      obtain ⟨w9, e_w9, h⟩ := h
      have hq_w9 : rk σ w9 3 := rk_T hT hk_a1 rfl (by decide) e_w9
      refine ym 111 (fun B k => gf_X8_179 (x := w9) B hk_a1 e_w9 dX8_reset_108 k) ?_
      refine ym 113 (fun B k => z_iload B dX8_reset_111 3 rfl k) ?_
      replace h := bq_e h
      obtain ⟨a10, rfl, h⟩ := h
      have hk_a10 := hq_w9 a10 rfl
      replace h := br_e h
      obtain ⟨r12, h11, h⟩ := h
      have m13 := ct_X1_kindAt l (g := g) h11 hT hk_a10
      refine yc_Vi (Al := [.int x5]) (rest := []) 116 rfl cw_X8_186 cx_2 dX8_reset_113 m13 hk_a10 rfl (by decide) rfl (Nat.le_of_ble_eq_true rfl) ?_
      refine ym 118 (fun B k => z_bipush (v := 6) B dX8_reset_116 (by decide) k) ?_
      by_cases c14 : r12 = 6
      · replace h := ite_p c14 h
        refine ym 121 (fun B k => z_icmp_ne (tgt := 139) B dX8_reset_118 (by decide) (fun q => absurd c14 q) (fun _ => k)) ?_
        refine ym 122 (fun B k => z_aload_n B dX8_reset_121 rfl 0 rfl k) ?_
        refine ym 124 (fun B k => z_qload (r := v4) B dX8_reset_122 2 rfl k) ?_
        refine ym 126 (fun B k => z_bipush (v := 6) B dX8_reset_124 (by decide) k) ?_
        refine ym 127 (fun B k => z_aload_n B dX8_reset_126 rfl 1 rfl k) ?_
        replace h := qv_e h
        obtain ⟨w15, e_w15, h⟩ := h
        have hq_w15 : rk σ w15 3 := rk_T hT hk_a1 rfl (by decide) e_w15
        refine ym 130 (fun B k => gf_X8_179 (x := w15) B hk_a1 e_w15 dX8_reset_127 k) ?_
        refine ym 132 (fun B k => z_iload B dX8_reset_130 3 rfl k) ?_
        replace h := bq_e h
        obtain ⟨a16, rfl, h⟩ := h
        have hk_a16 := hq_w15 a16 rfl
        replace h := br_e h
        obtain ⟨r18, h17, h⟩ := h
        have m19 := ct_X1_numberAt l (g := g) h17 hT hk_a16
        refine yc_Vl (Al := [.int x5]) (rest := [.int 6, va_rf v4, .ref t]) 135 rfl cw_X8_189 cx_2 dX8_reset_132 m19 hk_a16 rfl (by decide) rfl (by cases v4 <;> exact Nat.le_of_ble_eq_true rfl) ?_
        replace h := bd_e h
        obtain ⟨r21, u22, h20, h⟩ := h
        have m23 := ct_X8_send l (g := g) h20 hT hk_t hq_v4
        refine yc_Vi (Al := [va_rf v4, .int 6, .long r18]) (rest := []) 138 rfl cw_X8_159 cx_9 dX8_reset_135 m23 hk_t rfl (by decide) rfl (Nat.le_of_ble_eq_true rfl) ?_
        have hk_t := k_G m23.1.1 (by decide) hk_t
        have hk_a1 := k_G m23.1.1 (by decide) hk_a1
        have hq_v4 := rk_G m23.1.1 (by decide) hq_v4
        have hT := m23.1.1.2.2.2
        have hz_r21 := m23.1.2
        refine ym 139 (fun B k => z_pop B dX8_reset_138 rfl k) ?_
        refine ym 142 (fun B k => z_iinc (v := x5 + 1) (lv' := [(5, .int (x5 + 1)), (0, .ref t), (3, .ref a1), (4, va_rf v4)]) B dX8_reset_139 3 rfl rfl (by decide) (by cases v4 <;> rfl) k) ?_
        refine ym 95 (fun B k => z_goto (tgt := 95) B dX8_reset_142 (by decide) k) ?_
        refine y_sub [(0, .ref t), (3, .ref a1), (4, va_rf v4), (5, .int (x5 + 1))] [1, 2, 3, 0] rfl ?_
        exact ih h hT hk_t (rk_a hk_a1) hq_v4
      · replace h := ite_n c14 h
        refine ym 139 (fun B k => z_icmp_ne (tgt := 139) B dX8_reset_118 (by decide) (fun _ => k) (fun q => absurd q c14)) ?_
        refine ym 142 (fun B k => z_iinc (v := x5 + 1) (lv' := [(5, .int (x5 + 1)), (0, .ref t), (3, .ref a1), (4, va_rf v4)]) B dX8_reset_139 3 rfl rfl (by decide) (by cases v4 <;> rfl) k) ?_
        refine ym 95 (fun B k => z_goto (tgt := 95) B dX8_reset_142 (by decide) k) ?_
        refine y_sub [(0, .ref t), (3, .ref a1), (4, va_rf v4), (5, .int (x5 + 1))] [1, 2, 3, 0] rfl ?_
        exact ih h hT hk_t (rk_a hk_a1) hq_v4
set_option maxRecDepth 100000 in
set_option maxHeartbeats 4000000 in
theorem tb_X8_reset_69x {l : Launch} {g : gx_T} {σ : sx_T} {u : sx_T} {E : String} {As : Array Value} {Qc : Array Value → State → Outcome → State → Prop} (hlt : l.stackTraces = false) {n0 : Nat} {t : Nat} {x2 : Int32} {v3 : Option Nat} {w0_ : Option Nat} (h : fb_X8_reset_69 n0 σ t x2 v3 w0_ = some (.inr E, u)) (hT : TS g σ) (hk_t : sx_K σ t = 10) (hq_v3 : rk σ v3 2) (hq_w0_ : rk σ w0_ 2) : ZY l g cX8_reset RX8 "reset" (some .int) 6 12 304 1 6 true As (QX g As Qc E u) True u σ 69 [(0, .ref t), (2, .int x2), (3, va_rf v3)] [va_rf w0_] := by
  unfold fb_X8_reset_69 at h
  refine ym 71 (fun B k => z_qstore (r := w0_) (lv' := [(4, va_rf w0_), (0, .ref t), (2, .int x2), (3, va_rf v3)]) B dX8_reset_69 (by decide) (by cases v3 <;> rfl) k) ?_
  refine ym 73 (fun B k => z_qload (r := w0_) B dX8_reset_71 0 rfl k) ?_
  rcases w0_ with _ | a1
  · replace h := oc_n h
    refine ym 76 (fun B k => z_ifnonnull (r := none) (tgt := 86) B dX8_reset_73 (by decide) (fun a h => nomatch h) (fun _ => k)) ?_
    obtain ⟨h1, rfl⟩ := Prod.mk.inj (Option.some.inj h)
    cases h1
    exact yt_throw hT hlt (text := "it cannot be reset") tw_X8_145_177_149 dX8_reset_76 dX8_reset_79 dX8_reset_80 dX8_reset_82 dX8_reset_85 (by decide) (by decide)
  · replace h := oc_s h
    have hk_a1 := hq_w0_ a1 rfl
    refine ym 86 (fun B k => z_ifnonnull (r := (some a1)) (tgt := 86) B dX8_reset_73 (by decide) (fun _ _ => k) (fun h => nomatch h)) ?_
    refine ym 87 (fun B k => z_aload_n B dX8_reset_86 rfl 1 rfl k) ?_
    refine ym 89 (fun B k => z_aload B dX8_reset_87 0 rfl k) ?_
    replace h := br_e h
    obtain ⟨u3, h2, h⟩ := h
    have m4 := ct_X8_goOn l (g := g) h2 hT hk_t (rk_a hk_a1)
    refine yc_Vv (Al := [.ref a1]) (rest := []) 92 rfl cw_X8_111 cx_9 dX8_reset_89 m4 hk_t rfl (by decide) rfl (Nat.le_of_ble_eq_true rfl) ?_
    have hk_a1 := k_G m4.1.1 (by decide) hk_a1
    have hk_t := k_G m4.1.1 (by decide) hk_t
    have hq_v3 := rk_G m4.1.1 (by decide) hq_v3
    have hT := m4.1.1.2.2.2
    refine ym 93 (fun B k => z_iload_n B dX8_reset_92 rfl 2 rfl k) ?_
    refine ym 95 (fun B k => z_istore (lv' := [(5, .int x2), (4, .ref a1), (0, .ref t), (2, .int x2), (3, va_rf v3)]) B dX8_reset_93 (by decide) rfl k) ?_
    refine y_sub [(0, .ref t), (3, va_rf v3), (4, .ref a1), (5, .int x2)] [2, 4, 1, 0] rfl ?_
    exact tl_X8_reset_95x hlt h hT hk_t hq_v3 (rk_a hk_a1)
set_option maxRecDepth 100000 in
set_option maxHeartbeats 4000000 in
theorem tb_X8_reset_68x {l : Launch} {g : gx_T} {σ : sx_T} {u : sx_T} {E : String} {As : Array Value} {Qc : Array Value → State → Outcome → State → Prop} (hlt : l.stackTraces = false) {n0 : Nat} {t : Nat} {x2 : Int32} {v3 : Option Nat} (h : fb_X8_reset_68 n0 σ t x2 v3 = some (.inr E, u)) (hT : TS g σ) (hk_t : sx_K σ t = 10) (hq_v3 : rk σ v3 2) : ZY l g cX8_reset RX8 "reset" (some .int) 6 12 304 1 6 true As (QX g As Qc E u) True u σ 68 [(0, .ref t), (2, .int x2), (3, va_rf v3)] [] := by
  unfold fb_X8_reset_68 at h
  refine ym 69 (fun B k => z_null B dX8_reset_68 k) ?_
  refine y_sub [(0, .ref t), (2, .int x2), (3, va_rf v3)] [0, 1, 2] rfl ?_
  exact tb_X8_reset_69x hlt h hT hk_t hq_v3 rk_n
set_option maxRecDepth 100000 in
set_option maxHeartbeats 4000000 in
theorem tb_X8_reset_33x {l : Launch} {g : gx_T} {σ : sx_T} {u : sx_T} {E : String} {As : Array Value} {Qc : Array Value → State → Outcome → State → Prop} (hlt : l.stackTraces = false) {n0 : Nat}  (h : fb_X8_reset_33 n0 σ  = some (.inr E, u)) (hT : TS g σ)  : ZY l g cX8_reset RX8 "reset" (some .int) 6 12 304 1 6 true As (QX g As Qc E u) True u σ 33 [] [] := by
  unfold fb_X8_reset_33 at h
  obtain ⟨h1, rfl⟩ := Prod.mk.inj (Option.some.inj h)
  cases h1
  exact yt_throw hT hlt (text := "there are not so many events") tw_X8_83_167_87 dX8_reset_33 dX8_reset_36 dX8_reset_37 dX8_reset_39 dX8_reset_42 (by decide) (by decide)
set_option maxRecDepth 100000 in
set_option maxHeartbeats 4000000 in
theorem ct_X8_resetx (l : Launch) (hlt : l.stackTraces = false) {g : gx_T} {σ : sx_T} {u : sx_T} {E : String} {n0 : Nat} {t : Nat} {x1 : Int32} {x2 : Int32} (h : f_X8_reset n0 σ t x1 x2 = some (.inr E, u)) (hT : TS g σ) (hk_t : sx_K σ t = 10) {Qc : Array Value → State → Outcome → State → Prop} : CX l g yX8_reset cX8_reset 6 (some .int) 12 304 [.ref t, .int x1, .int x2] E u σ Qc := by
  refine yc_metX (by decide) (Nat.le_of_ble_eq_true rfl) ?_
  refine yc_lv (show lv_args 0 [.ref t, .int x1, .int x2] = [(0, .ref t), (1, .int x1), (2, .int x2)] from rfl) ?_
  show ZY l g _ _ _ _ _ _ _ _ _ _ _ _ _ _ σ 0 [(0, .ref t), (1, .int x1), (2, .int x2)] []
  unfold f_X8_reset at h
  refine ym 1 (fun B k => z_aload_n B dX8_reset_0 rfl 0 rfl k) ?_
  refine ym 2 (fun B k => z_iload_n B dX8_reset_1 rfl 1 rfl k) ?_
  replace h := br_e h
  obtain ⟨r2, h1, h⟩ := h
  have m3 := ct_X8_flowAt l (g := g) h1 hT hk_t
  refine yc_Vq (Al := [.int x1]) (rest := []) 5 rfl cw_X8_99 cx_9 dX8_reset_2 m3 hk_t rfl (by decide) rfl (Nat.le_of_ble_eq_true rfl) ?_
  have hq_r2 := m3.1.2
  refine ym 6 (fun B k => z_qstore_n (r := r2) (lv' := [(3, va_rf r2), (0, .ref t), (1, .int x1), (2, .int x2)]) B dX8_reset_5 rfl (by decide) rfl k) ?_
  refine ym 7 (fun B k => z_qload_n (r := r2) B dX8_reset_6 rfl 0 rfl k) ?_
  rcases r2 with _ | a4
  · replace h := oc_n h
    refine ym 10 (fun B k => z_ifnonnull (r := none) (tgt := 20) B dX8_reset_7 (by decide) (fun a h => nomatch h) (fun _ => k)) ?_
    obtain ⟨h1, rfl⟩ := Prod.mk.inj (Option.some.inj h)
    cases h1
    exact yt_throw hT hlt (text := "no such workflow") tw_X8_72_153_76 dX8_reset_10 dX8_reset_13 dX8_reset_14 dX8_reset_16 dX8_reset_19 (by decide) (by decide)
  · replace h := oc_s h
    have hk_a4 := hq_r2 a4 rfl
    refine ym 20 (fun B k => z_ifnonnull (r := (some a4)) (tgt := 20) B dX8_reset_7 (by decide) (fun _ _ => k) (fun h => nomatch h)) ?_
    refine ym 21 (fun B k => z_iload_n B dX8_reset_20 rfl 3 rfl k) ?_
    refine ym 22 (fun B k => z_iconst (v := 1) B dX8_reset_21 (by decide) k) ?_
    by_cases c5 : x2 < 1
    · replace h := ite_p c5 h
      refine ym 33 (fun B k => z_icmp_lt (tgt := 33) B dX8_reset_22 (by decide) (fun _ => k) (fun q => absurd c5 q)) ?_
      refine y_sub [] [] rfl ?_
      exact tb_X8_reset_33x hlt h hT 
    · replace h := ite_n c5 h
      refine ym 25 (fun B k => z_icmp_lt (tgt := 33) B dX8_reset_22 (by decide) (fun q => absurd q c5) (fun _ => k)) ?_
      refine ym 26 (fun B k => z_iload_n B dX8_reset_25 rfl 3 rfl k) ?_
      refine ym 27 (fun B k => z_aload_n B dX8_reset_26 rfl 0 rfl k) ?_
      replace h := br_e h
      obtain ⟨r7, h6, h⟩ := h
      have m8 := ct_X0_eventsAheadOfEnd l (g := g) h6 hT hk_a4
      refine yc_Vi (Al := []) (rest := [.int x2]) 30 rfl cw_X8_163 cx_1 dX8_reset_27 m8 hk_a4 rfl (by decide) rfl (Nat.le_of_ble_eq_true rfl) ?_
      by_cases c9 : x2 ≤ r7
      · replace h := ite_p c9 h
        refine ym 43 (fun B k => z_icmp_le (tgt := 43) B dX8_reset_30 (by decide) (fun _ => k) (fun q => absurd c9 q)) ?_
        refine ym 44 (fun B k => z_aload_n B dX8_reset_43 rfl 0 rfl k) ?_
        replace h := br_e h
        obtain ⟨r11, h10, h⟩ := h
        have m12 := ct_X0_hasEnded l (g := g) h10 hT hk_a4
        refine yc_Vi (Al := []) (rest := []) 47 rfl cw_X8_107 cx_1 dX8_reset_44 m12 hk_a4 rfl (by decide) rfl (Nat.le_of_ble_eq_true rfl) ?_
        have hz_r11 := m12.1.2
        by_cases c13 : r11 = 0
        · replace h := ite_p c13 h
          refine ym 68 (fun B k => z_if_eq (tgt := 68) B dX8_reset_47 (by decide) (fun _ => k) (fun q => absurd c13 q)) ?_
          refine y_sub [(0, .ref t), (2, .int x2), (3, .ref a4)] [1, 3, 0] rfl ?_
          exact tb_X8_reset_68x hlt h hT hk_t (rk_a hk_a4)
        · replace h := ite_n c13 h
          refine ym 50 (fun B k => z_if_eq (tgt := 68) B dX8_reset_47 (by decide) (fun q => absurd q c13) (fun _ => k)) ?_
          refine ym 51 (fun B k => z_aload_n B dX8_reset_50 rfl 1 rfl k) ?_
          refine ym 52 (fun B k => z_aload_n B dX8_reset_51 rfl 0 rfl k) ?_
          refine ym 53 (fun B k => z_iload_n B dX8_reset_52 rfl 3 rfl k) ?_
          replace h := bd_e h
          obtain ⟨r15, u16, h14, h⟩ := h
          have m17 := ct_X8_canLead l (g := g) h14 hT hk_t (rk_a hk_a4)
          refine yc_Vi (Al := [.ref a4, .int x2]) (rest := []) 56 rfl cw_X8_169 cx_9 dX8_reset_53 m17 hk_t rfl (by decide) rfl (Nat.le_of_ble_eq_true rfl) ?_
          have hk_a4 := k_G m17.1.1 (by decide) hk_a4
          have hk_t := k_G m17.1.1 (by decide) hk_t
          have hT := m17.1.1.2.2.2
          have hz_r15 := m17.1.2
          by_cases c18 : r15 = 0
          · replace h := ite_p c18 h
            refine ym 68 (fun B k => z_if_eq (tgt := 68) B dX8_reset_56 (by decide) (fun _ => k) (fun q => absurd c18 q)) ?_
            refine y_sub [(0, .ref t), (2, .int x2), (3, .ref a4)] [1, 3, 0] rfl ?_
            exact tb_X8_reset_68x hlt h hT hk_t (rk_a hk_a4)
          · replace h := ite_n c18 h
            refine ym 59 (fun B k => z_if_eq (tgt := 68) B dX8_reset_56 (by decide) (fun q => absurd q c18) (fun _ => k)) ?_
            refine ym 60 (fun B k => z_aload_n B dX8_reset_59 rfl 1 rfl k) ?_
            refine ym 61 (fun B k => z_aload_n B dX8_reset_60 rfl 0 rfl k) ?_
            refine ym 62 (fun B k => z_iload_n B dX8_reset_61 rfl 3 rfl k) ?_
            replace h := bd_e h
            obtain ⟨r20, u21, h19, h⟩ := h
            have m22 := ct_X8_openAgain l (g := g) h19 hT hk_t (rk_a hk_a4)
            refine yc_Vq (Al := [.ref a4, .int x2]) (rest := []) 65 rfl cw_X8_173 cx_9 dX8_reset_62 m22 hk_t rfl (by decide) rfl (Nat.le_of_ble_eq_true rfl) ?_
            have hk_a4 := k_G m22.1.1 (by decide) hk_a4
            have hk_t := k_G m22.1.1 (by decide) hk_t
            have hT := m22.1.1.2.2.2
            have hq_r20 := m22.1.2
            refine ym 69 (fun B k => z_goto (tgt := 69) B dX8_reset_65 (by decide) k) ?_
            refine y_sub [(0, .ref t), (2, .int x2), (3, .ref a4)] [1, 3, 0] rfl ?_
            exact tb_X8_reset_69x hlt h hT hk_t (rk_a hk_a4) hq_r20
      · replace h := ite_n c9 h
        refine ym 33 (fun B k => z_icmp_le (tgt := 43) B dX8_reset_30 (by decide) (fun q => absurd q c9) (fun _ => k)) ?_
        refine y_sub [] [] rfl ?_
        exact tb_X8_reset_33x hlt h hT 
set_option maxRecDepth 100000 in
set_option maxHeartbeats 4000000 in
theorem tb_X8_complete_14 {l : Launch} {g : gx_T} {σ : sx_T} {u : sx_T} {r : Int32} {As : Array Value} {n0 : Nat}  (h : fb_X8_complete_14 n0 σ  = some (.inl r, u)) (hT : TS g σ)  : ZY l g cX8_complete RX8 "complete" (some .boolean) 4 11 280 0 0 false As (QM g As (Qxi g r u)) (r = 0 ∨ r = 1) u σ 14 [] [] := by
  unfold fb_X8_complete_14 at h
  exact nomatch (Prod.mk.inj (Option.some.inj h)).1
set_option maxRecDepth 100000 in
set_option maxHeartbeats 4000000 in
theorem ct_X8_complete (l : Launch) {g : gx_T} {σ : sx_T} {u : sx_T} {r : Int32} {n0 : Nat} {t : Nat} {x1 : Int32} {x2 : Int32} (h : f_X8_complete n0 σ t x1 x2 = some (.inl r, u)) (hT : TS g σ) (hk_t : sx_K σ t = 10) : CT l g yX8_complete cX8_complete 4 (some .boolean) 11 280 [.ref t, .int x1, .int x2] (r = 0 ∨ r = 1) u σ (Qxi g r u) := by
  refine yc_met (by decide) (Nat.le_of_ble_eq_true rfl) ?_
  refine yc_lv (show lv_args 0 [.ref t, .int x1, .int x2] = [(0, .ref t), (1, .int x1), (2, .int x2)] from rfl) ?_
  show ZY l g _ _ _ _ _ _ _ _ _ _ _ _ _ _ σ 0 [(0, .ref t), (1, .int x1), (2, .int x2)] []
  unfold f_X8_complete at h
  refine ym 1 (fun B k => z_iload_n B dX8_complete_0 rfl 2 rfl k) ?_
  refine ym 4 (fun B k => z_sipush (v := (-999)) B dX8_complete_1 (by decide) k) ?_
  by_cases c1 : x2 < (-999)
  · replace h := ite_p c1 h
    refine ym 14 (fun B k => z_icmp_lt (tgt := 14) B dX8_complete_4 (by decide) (fun _ => k) (fun q => absurd c1 q)) ?_
    refine y_sub [] [] rfl ?_
    exact tb_X8_complete_14 h hT 
  · replace h := ite_n c1 h
    refine ym 7 (fun B k => z_icmp_lt (tgt := 14) B dX8_complete_4 (by decide) (fun q => absurd q c1) (fun _ => k)) ?_
    refine ym 8 (fun B k => z_iload_n B dX8_complete_7 rfl 2 rfl k) ?_
    refine ym 11 (fun B k => z_sipush (v := 999) B dX8_complete_8 (by decide) k) ?_
    by_cases c2 : x2 ≤ 999
    · replace h := ite_p c2 h
      refine ym 24 (fun B k => z_icmp_le (tgt := 24) B dX8_complete_11 (by decide) (fun _ => k) (fun q => absurd c2 q)) ?_
      refine ym 25 (fun B k => z_aload_n B dX8_complete_24 rfl 0 rfl k) ?_
      refine ym 26 (fun B k => z_iload_n B dX8_complete_25 rfl 1 rfl k) ?_
      replace h := br_e h
      obtain ⟨r4, h3, h⟩ := h
      have m5 := ct_X8_runningTask l (g := g) h3 hT hk_t
      refine yc_Vq (Al := [.int x1]) (rest := []) 29 rfl cw_X8_225 cx_9 dX8_complete_26 m5 hk_t rfl (by decide) rfl (Nat.le_of_ble_eq_true rfl) ?_
      have hq_r4 := m5.1.2
      refine ym 30 (fun B k => z_qstore_n (r := r4) (lv' := [(3, va_rf r4), (0, .ref t), (1, .int x1), (2, .int x2)]) B dX8_complete_29 rfl (by decide) rfl k) ?_
      refine ym 31 (fun B k => z_qload_n (r := r4) B dX8_complete_30 rfl 0 rfl k) ?_
      rcases r4 with _ | a6
      · replace h := oc_n h
        refine ym 34 (fun B k => z_ifnonnull (r := none) (tgt := 36) B dX8_complete_31 (by decide) (fun a h => nomatch h) (fun _ => k)) ?_
        refine ym 35 (fun B k => z_iconst (v := 0) B dX8_complete_34 (by decide) k) ?_
        obtain ⟨h1, rfl⟩ := Prod.mk.inj (Option.some.inj h)
        obtain rfl := Sum.inl.inj h1
        exact yr_z hT (Or.inl rfl) rfl (Or.inl rfl) dX8_complete_35
      · replace h := oc_s h
        have hk_a6 := hq_r4 a6 rfl
        refine ym 36 (fun B k => z_ifnonnull (r := (some a6)) (tgt := 36) B dX8_complete_31 (by decide) (fun _ _ => k) (fun h => nomatch h)) ?_
        refine ym 37 (fun B k => z_aload_n B dX8_complete_36 rfl 0 rfl k) ?_
        refine ym 38 (fun B k => z_iconst (v := 2) B dX8_complete_37 (by decide) k) ?_
        refine ym 39 (fun B k => z_iload_n B dX8_complete_38 rfl 3 rfl k) ?_
        replace h := br_e h
        obtain ⟨u8, h7, h⟩ := h
        have m9 := ct_X7_finish l (g := g) h7 hT hk_a6
        refine yc_Vv (Al := [.int 2, .int x2]) (rest := []) 42 rfl cw_X8_229 cx_8 dX8_complete_39 m9 hk_a6 rfl (by decide) rfl (Nat.le_of_ble_eq_true rfl) ?_
        have hk_a6 := k_G m9.1.1 (by decide) hk_a6
        have hk_t := k_G m9.1.1 (by decide) hk_t
        have hT := m9.1.1.2.2.2
        refine ym 43 (fun B k => z_aload_n B dX8_complete_42 rfl 1 rfl k) ?_
        refine ym 44 (fun B k => z_aload_n B dX8_complete_43 rfl 0 rfl k) ?_
        replace h := qv_e h
        obtain ⟨w10, e_w10, h⟩ := h
        have hq_w10 : rk u8 w10 2 := rk_T hT hk_a6 rfl (by decide) e_w10
        refine ym 47 (fun B k => gf_X8_215 (x := w10) B hk_a6 e_w10 dX8_complete_44 k) ?_
        replace h := br_e h
        obtain ⟨u12, h11, h⟩ := h
        have m13 := ct_X8_goOn l (g := g) h11 hT hk_t hq_w10
        refine yc_Vv (Al := [va_rf w10]) (rest := []) 50 rfl cw_X8_111 cx_9 dX8_complete_47 m13 hk_t rfl (by decide) rfl (Nat.le_of_ble_eq_true rfl) ?_
        have hk_a6 := k_G m13.1.1 (by decide) hk_a6
        have hk_t := k_G m13.1.1 (by decide) hk_t
        have hT := m13.1.1.2.2.2
        refine ym 51 (fun B k => z_iconst (v := 1) B dX8_complete_50 (by decide) k) ?_
        obtain ⟨h1, rfl⟩ := Prod.mk.inj (Option.some.inj h)
        obtain rfl := Sum.inl.inj h1
        exact yr_z hT (Or.inr rfl) rfl (Or.inr rfl) dX8_complete_51
    · replace h := ite_n c2 h
      refine ym 14 (fun B k => z_icmp_le (tgt := 24) B dX8_complete_11 (by decide) (fun q => absurd q c2) (fun _ => k)) ?_
      refine y_sub [] [] rfl ?_
      exact tb_X8_complete_14 h hT 
set_option maxRecDepth 100000 in
set_option maxHeartbeats 4000000 in
theorem tb_X8_complete_14x {l : Launch} {g : gx_T} {σ : sx_T} {u : sx_T} {E : String} {As : Array Value} {Qc : Array Value → State → Outcome → State → Prop} (hlt : l.stackTraces = false) {n0 : Nat}  (h : fb_X8_complete_14 n0 σ  = some (.inr E, u)) (hT : TS g σ)  : ZY l g cX8_complete RX8 "complete" (some .boolean) 4 11 280 1 6 true As (QX g As Qc E u) True u σ 14 [] [] := by
  unfold fb_X8_complete_14 at h
  obtain ⟨h1, rfl⟩ := Prod.mk.inj (Option.some.inj h)
  cases h1
  exact yt_throw hT hlt (text := "result is out of range") tw_X8_83_223_87 dX8_complete_14 dX8_complete_17 dX8_complete_18 dX8_complete_20 dX8_complete_23 (by decide) (by decide)
set_option maxRecDepth 100000 in
set_option maxHeartbeats 4000000 in
theorem ct_X8_completex (l : Launch) (hlt : l.stackTraces = false) {g : gx_T} {σ : sx_T} {u : sx_T} {E : String} {n0 : Nat} {t : Nat} {x1 : Int32} {x2 : Int32} (h : f_X8_complete n0 σ t x1 x2 = some (.inr E, u)) (hT : TS g σ) (hk_t : sx_K σ t = 10) {Qc : Array Value → State → Outcome → State → Prop} : CX l g yX8_complete cX8_complete 4 (some .boolean) 11 280 [.ref t, .int x1, .int x2] E u σ Qc := by
  refine yc_metX (by decide) (Nat.le_of_ble_eq_true rfl) ?_
  refine yc_lv (show lv_args 0 [.ref t, .int x1, .int x2] = [(0, .ref t), (1, .int x1), (2, .int x2)] from rfl) ?_
  show ZY l g _ _ _ _ _ _ _ _ _ _ _ _ _ _ σ 0 [(0, .ref t), (1, .int x1), (2, .int x2)] []
  unfold f_X8_complete at h
  refine ym 1 (fun B k => z_iload_n B dX8_complete_0 rfl 2 rfl k) ?_
  refine ym 4 (fun B k => z_sipush (v := (-999)) B dX8_complete_1 (by decide) k) ?_
  by_cases c1 : x2 < (-999)
  · replace h := ite_p c1 h
    refine ym 14 (fun B k => z_icmp_lt (tgt := 14) B dX8_complete_4 (by decide) (fun _ => k) (fun q => absurd c1 q)) ?_
    refine y_sub [] [] rfl ?_
    exact tb_X8_complete_14x hlt h hT 
  · replace h := ite_n c1 h
    refine ym 7 (fun B k => z_icmp_lt (tgt := 14) B dX8_complete_4 (by decide) (fun q => absurd q c1) (fun _ => k)) ?_
    refine ym 8 (fun B k => z_iload_n B dX8_complete_7 rfl 2 rfl k) ?_
    refine ym 11 (fun B k => z_sipush (v := 999) B dX8_complete_8 (by decide) k) ?_
    by_cases c2 : x2 ≤ 999
    · replace h := ite_p c2 h
      refine ym 24 (fun B k => z_icmp_le (tgt := 24) B dX8_complete_11 (by decide) (fun _ => k) (fun q => absurd c2 q)) ?_
      refine ym 25 (fun B k => z_aload_n B dX8_complete_24 rfl 0 rfl k) ?_
      refine ym 26 (fun B k => z_iload_n B dX8_complete_25 rfl 1 rfl k) ?_
      replace h := br_e h
      obtain ⟨r4, h3, h⟩ := h
      have m5 := ct_X8_runningTask l (g := g) h3 hT hk_t
      refine yc_Vq (Al := [.int x1]) (rest := []) 29 rfl cw_X8_225 cx_9 dX8_complete_26 m5 hk_t rfl (by decide) rfl (Nat.le_of_ble_eq_true rfl) ?_
      have hq_r4 := m5.1.2
      refine ym 30 (fun B k => z_qstore_n (r := r4) (lv' := [(3, va_rf r4), (0, .ref t), (1, .int x1), (2, .int x2)]) B dX8_complete_29 rfl (by decide) rfl k) ?_
      refine ym 31 (fun B k => z_qload_n (r := r4) B dX8_complete_30 rfl 0 rfl k) ?_
      rcases r4 with _ | a6
      · replace h := oc_n h
        refine ym 34 (fun B k => z_ifnonnull (r := none) (tgt := 36) B dX8_complete_31 (by decide) (fun a h => nomatch h) (fun _ => k)) ?_
        refine ym 35 (fun B k => z_iconst (v := 0) B dX8_complete_34 (by decide) k) ?_
        exact nomatch (Prod.mk.inj (Option.some.inj h)).1
      · replace h := oc_s h
        have hk_a6 := hq_r4 a6 rfl
        refine ym 36 (fun B k => z_ifnonnull (r := (some a6)) (tgt := 36) B dX8_complete_31 (by decide) (fun _ _ => k) (fun h => nomatch h)) ?_
        refine ym 37 (fun B k => z_aload_n B dX8_complete_36 rfl 0 rfl k) ?_
        refine ym 38 (fun B k => z_iconst (v := 2) B dX8_complete_37 (by decide) k) ?_
        refine ym 39 (fun B k => z_iload_n B dX8_complete_38 rfl 3 rfl k) ?_
        replace h := br_e h
        obtain ⟨u8, h7, h⟩ := h
        have m9 := ct_X7_finish l (g := g) h7 hT hk_a6
        refine yc_Vv (Al := [.int 2, .int x2]) (rest := []) 42 rfl cw_X8_229 cx_8 dX8_complete_39 m9 hk_a6 rfl (by decide) rfl (Nat.le_of_ble_eq_true rfl) ?_
        have hk_a6 := k_G m9.1.1 (by decide) hk_a6
        have hk_t := k_G m9.1.1 (by decide) hk_t
        have hT := m9.1.1.2.2.2
        refine ym 43 (fun B k => z_aload_n B dX8_complete_42 rfl 1 rfl k) ?_
        refine ym 44 (fun B k => z_aload_n B dX8_complete_43 rfl 0 rfl k) ?_
        replace h := qv_e h
        obtain ⟨w10, e_w10, h⟩ := h
        have hq_w10 : rk u8 w10 2 := rk_T hT hk_a6 rfl (by decide) e_w10
        refine ym 47 (fun B k => gf_X8_215 (x := w10) B hk_a6 e_w10 dX8_complete_44 k) ?_
        replace h := br_e h
        obtain ⟨u12, h11, h⟩ := h
        have m13 := ct_X8_goOn l (g := g) h11 hT hk_t hq_w10
        refine yc_Vv (Al := [va_rf w10]) (rest := []) 50 rfl cw_X8_111 cx_9 dX8_complete_47 m13 hk_t rfl (by decide) rfl (Nat.le_of_ble_eq_true rfl) ?_
        have hk_a6 := k_G m13.1.1 (by decide) hk_a6
        have hk_t := k_G m13.1.1 (by decide) hk_t
        have hT := m13.1.1.2.2.2
        refine ym 51 (fun B k => z_iconst (v := 1) B dX8_complete_50 (by decide) k) ?_
        exact nomatch (Prod.mk.inj (Option.some.inj h)).1
    · replace h := ite_n c2 h
      refine ym 14 (fun B k => z_icmp_le (tgt := 24) B dX8_complete_11 (by decide) (fun q => absurd q c2) (fun _ => k)) ?_
      refine y_sub [] [] rfl ?_
      exact tb_X8_complete_14x hlt h hT 
set_option maxRecDepth 100000 in
set_option maxHeartbeats 4000000 in
theorem tb_J3_checkIndex_8e157_9 {l : Launch} {g : gx_T} {σ : sx_T} {r : Int32} {As : Array Value}  {x0 : Int32} {x1 : Int32} {v2 : Option Nat} (h : fb_J3_checkIndex_8e157_9 σ x0 x1 v2 = some r) (hT : TS g σ)  : ZY l g cJ3_checkIndex_8e157 RJ3 "checkIndex" (some .int) 3 0 0 0 0 false As (QM g As (Qxi g r σ)) (True) σ σ 9 [(0, .int x0), (1, .int x1), (2, va_rf v2)] [] := by
  unfold fb_J3_checkIndex_8e157_9 at h
  refine ym 10 (fun B k => z_qload_n (r := v2) B dJ3_checkIndex_8e157_9 rfl 2 rfl k) ?_
  refine ym 11 (fun B k => z_iload_n B dJ3_checkIndex_8e157_10 rfl 0 rfl k) ?_
  refine ym 12 (fun B k => z_iload_n B dJ3_checkIndex_8e157_11 rfl 1 rfl k) ?_
  exact nomatch h
set_option maxRecDepth 100000 in
set_option maxHeartbeats 4000000 in
theorem ct_J3_checkIndex_8e157 (l : Launch) {g : gx_T} {σ : sx_T} {r : Int32}  {x0 : Int32} {x1 : Int32} {v2 : Option Nat} (h : f_J3_checkIndex_8e157 σ x0 x1 v2 = some r) (hT : TS g σ)  : CT l g yJ3_checkIndex_8e157 cJ3_checkIndex_8e157 3 (some .int) 0 0 [.int x0, .int x1, va_rf v2] (True) σ σ (Qxi g r σ) := by
  refine yc_met (by decide) (by cases v2 <;> exact Nat.le_of_ble_eq_true rfl) ?_
  refine yc_lv (show lv_args 0 [.int x0, .int x1, va_rf v2] = [(0, .int x0), (1, .int x1), (2, va_rf v2)] from (by cases v2 <;> rfl)) ?_
  show ZY l g _ _ _ _ _ _ _ _ _ _ _ _ _ _ σ 0 [(0, .int x0), (1, .int x1), (2, va_rf v2)] []
  unfold f_J3_checkIndex_8e157 at h
  refine ym 1 (fun B k => z_iload_n B dJ3_checkIndex_8e157_0 rfl 0 rfl k) ?_
  by_cases c1 : x0 < 0
  · replace h := ite_p c1 h
    refine ym 9 (fun B k => z_if_lt (tgt := 9) B dJ3_checkIndex_8e157_1 (by decide) (fun _ => k) (fun q => absurd c1 q)) ?_
    refine y_sub [(0, .int x0), (1, .int x1), (2, va_rf v2)] [0, 1, 2] rfl ?_
    exact tb_J3_checkIndex_8e157_9 h hT 
  · replace h := ite_n c1 h
    refine ym 4 (fun B k => z_if_lt (tgt := 9) B dJ3_checkIndex_8e157_1 (by decide) (fun q => absurd q c1) (fun _ => k)) ?_
    refine ym 5 (fun B k => z_iload_n B dJ3_checkIndex_8e157_4 rfl 0 rfl k) ?_
    refine ym 6 (fun B k => z_iload_n B dJ3_checkIndex_8e157_5 rfl 1 rfl k) ?_
    by_cases c2 : x0 < x1
    · replace h := ite_p c2 h
      refine ym 16 (fun B k => z_icmp_lt (tgt := 16) B dJ3_checkIndex_8e157_6 (by decide) (fun _ => k) (fun q => absurd c2 q)) ?_
      refine ym 17 (fun B k => z_iload_n B dJ3_checkIndex_8e157_16 rfl 0 rfl k) ?_
      obtain rfl := Option.some.inj h
      exact yr_i hT trivial rfl dJ3_checkIndex_8e157_17
    · replace h := ite_n c2 h
      refine ym 9 (fun B k => z_icmp_lt (tgt := 16) B dJ3_checkIndex_8e157_6 (by decide) (fun q => absurd q c2) (fun _ => k)) ?_
      refine y_sub [(0, .int x0), (1, .int x1), (2, va_rf v2)] [0, 1, 2] rfl ?_
      exact tb_J3_checkIndex_8e157_9 h hT 
set_option maxRecDepth 100000 in
set_option maxHeartbeats 4000000 in
theorem ct_J15_checkIndex_7cf53 (l : Launch) {g : gx_T} {σ : sx_T} {r : Int32}  {x0 : Int32} {x1 : Int32} (h : f_J15_checkIndex_7cf53 σ x0 x1 = some r) (hT : TS g σ)  : CT l g yJ15_checkIndex_7cf53 cJ15_checkIndex_7cf53 2 (some .int) 1 22 [.int x0, .int x1] (True) σ σ (Qxi g r σ) := by
  refine yc_met (by decide) (Nat.le_of_ble_eq_true rfl) ?_
  refine yc_lv (show lv_args 0 [.int x0, .int x1] = [(0, .int x0), (1, .int x1)] from rfl) ?_
  show ZY l g _ _ _ _ _ _ _ _ _ _ _ _ _ _ σ 0 [(0, .int x0), (1, .int x1)] []
  unfold f_J15_checkIndex_7cf53 at h
  refine ym 1 (fun B k => z_iload_n B dJ15_checkIndex_7cf53_0 rfl 0 rfl k) ?_
  refine ym 2 (fun B k => z_iload_n B dJ15_checkIndex_7cf53_1 rfl 1 rfl k) ?_
  refine ym 3 (fun B k => z_null B dJ15_checkIndex_7cf53_2 k) ?_
  replace h := br_e h
  obtain ⟨r2, h1, h⟩ := h
  have m3 := ct_J3_checkIndex_8e157 l (g := g) h1 hT
  refine yc_Si (Al := [.int x0, .int x1, .null]) (rest := []) 6 rfl cw_J15_105 dJ15_checkIndex_7cf53_3 m3 rfl (by decide) rfl (Nat.le_of_ble_eq_true rfl) ?_
  obtain rfl := Option.some.inj h
  exact yr_i hT trivial rfl dJ15_checkIndex_7cf53_6
set_option maxRecDepth 100000 in
set_option maxHeartbeats 4000000 in
theorem ct_Jx4a65c_elementData_915e3 (l : Launch) {g : gx_T} {σ : sx_T} {r : Option Nat}  {t : Nat} {x1 : Int32} (h : f_Jx4a65c_elementData_915e3 σ t x1 = some r) (hT : TS g σ) (hk_t : sx_K σ t = 1) : CT l g yJx4a65c_elementData_915e3 cJx4a65c_elementData_915e3 2 (some (.object "java/lang/Object")) 0 0 [.ref t, .int x1] (rk σ r 9) σ σ (Qxq g r σ) := by
  refine yc_met (by decide) (Nat.le_of_ble_eq_true rfl) ?_
  refine yc_lv (show lv_args 0 [.ref t, .int x1] = [(0, .ref t), (1, .int x1)] from rfl) ?_
  show ZY l g _ _ _ _ _ _ _ _ _ _ _ _ _ _ σ 0 [(0, .ref t), (1, .int x1)] []
  unfold f_Jx4a65c_elementData_915e3 at h
  refine ym 1 (fun B k => z_aload_n B dJx4a65c_elementData_915e3_0 rfl 0 rfl k) ?_
  replace h := qv_e h
  obtain ⟨w1, e_w1, h⟩ := h
  have hq_w1 : rkE g σ w1 := rkE_T hT hk_t e_w1
  refine ym 4 (fun B k => gf_Jx4a65c_9 (x := w1) B hk_t e_w1 dJx4a65c_elementData_915e3_1 k) ?_
  refine ym 5 (fun B k => z_iload_n B dJx4a65c_elementData_915e3_4 rfl 1 rfl k) ?_
  replace h := bq_e h
  obtain ⟨a2, rfl, h⟩ := h
  have hk_a2 := hq_w1 a2 rfl
  replace h := gk_e h
  obtain ⟨hk_a2, h⟩ := h
  replace h := ck_e h
  obtain ⟨hi_3, h⟩ := h
  replace h := qv_e h
  obtain ⟨w4, e_w4, h⟩ := h
  have hq_w4 : rk σ w4 9 := rk_T hT hk_a2 rfl (by decide) e_w4
  refine ym 6 (fun B k => z_qald (j := (ti x1)) (kd := 17) (ti := 5) (r := w4) B hk_a2 (by decide) rfl rfl hi_3 e_w4 dJx4a65c_elementData_915e3_5 k) ?_
  obtain rfl := Option.some.inj h
  exact yr_q (v := w4) hT hq_w4 rfl dJx4a65c_elementData_915e3_6
set_option maxRecDepth 100000 in
set_option maxHeartbeats 4000000 in
theorem ct_Jx4a65c_get_915e3 (l : Launch) {g : gx_T} {σ : sx_T} {r : Option Nat}  {t : Nat} {x1 : Int32} (h : f_Jx4a65c_get_915e3 σ t x1 = some r) (hT : TS g σ) (hk_t : sx_K σ t = 1) : CT l g yJx4a65c_get_915e3 cJx4a65c_get_915e3 2 (some (.object "java/lang/Object")) 2 43 [.ref t, .int x1] (rk σ r 9) σ σ (Qxq g r σ) := by
  refine yc_met (by decide) (Nat.le_of_ble_eq_true rfl) ?_
  refine yc_lv (show lv_args 0 [.ref t, .int x1] = [(0, .ref t), (1, .int x1)] from rfl) ?_
  show ZY l g _ _ _ _ _ _ _ _ _ _ _ _ _ _ σ 0 [(0, .ref t), (1, .int x1)] []
  unfold f_Jx4a65c_get_915e3 at h
  refine ym 1 (fun B k => z_iload_n B dJx4a65c_get_915e3_0 rfl 1 rfl k) ?_
  refine ym 2 (fun B k => z_aload_n B dJx4a65c_get_915e3_1 rfl 0 rfl k) ?_
  refine ym 5 (fun B k => gf_Jx4a65c_48 (x := (sx_I σ t 2)) B hk_t rfl dJx4a65c_get_915e3_2 k) ?_
  replace h := br_e h
  obtain ⟨r2, h1, h⟩ := h
  have m3 := ct_J15_checkIndex_7cf53 l (g := g) h1 hT
  refine yc_Si (Al := [.int x1, .int (sx_I σ t 2)]) (rest := []) 8 rfl cw_Jx4a65c_118 dJx4a65c_get_915e3_5 m3 rfl (by decide) rfl (Nat.le_of_ble_eq_true rfl) ?_
  refine ym 9 (fun B k => z_pop B dJx4a65c_get_915e3_8 rfl k) ?_
  refine ym 10 (fun B k => z_aload_n B dJx4a65c_get_915e3_9 rfl 0 rfl k) ?_
  refine ym 11 (fun B k => z_iload_n B dJx4a65c_get_915e3_10 rfl 1 rfl k) ?_
  replace h := br_e h
  obtain ⟨r5, h4, h⟩ := h
  have m6 := ct_Jx4a65c_elementData_915e3 l (g := g) h4 hT hk_t
  refine yc_Vq (Al := [.int x1]) (rest := []) 14 rfl cw_Jx4a65c_123 cx_0 dJx4a65c_get_915e3_11 m6 hk_t rfl (by decide) rfl (Nat.le_of_ble_eq_true rfl) ?_
  have hq_r5 := m6.1.2
  obtain rfl := Option.some.inj h
  exact yr_q (v := r5) hT hq_r5 rfl dJx4a65c_get_915e3_14
set_option maxRecDepth 100000 in
set_option maxHeartbeats 4000000 in
theorem ct_X8_taskAt (l : Launch) {g : gx_T} {σ : sx_T} {r : Option Nat}  {t : Nat} {x1 : Int32} (h : f_X8_taskAt σ t x1 = some r) (hT : TS g σ) (hk_t : sx_K σ t = 10) : CT l g yX8_taskAt cX8_taskAt 2 (some (.object "Loomkeeper$Task")) 3 64 [.ref t, .int x1] (rk σ r 9) σ σ (Qxq g r σ) := by
  refine yc_met (by decide) (Nat.le_of_ble_eq_true rfl) ?_
  refine yc_lv (show lv_args 0 [.ref t, .int x1] = [(0, .ref t), (1, .int x1)] from rfl) ?_
  show ZY l g _ _ _ _ _ _ _ _ _ _ _ _ _ _ σ 0 [(0, .ref t), (1, .int x1)] []
  unfold f_X8_taskAt at h
  refine ym 1 (fun B k => z_iload_n B dX8_taskAt_0 rfl 1 rfl k) ?_
  by_cases c1 : x1 < 0
  · replace h := ite_p c1 h
    refine ym 29 (fun B k => z_if_lt (tgt := 29) B dX8_taskAt_1 (by decide) (fun _ => k) (fun q => absurd c1 q)) ?_
    refine ym 30 (fun B k => z_null B dX8_taskAt_29 k) ?_
    obtain rfl := Option.some.inj h
    exact yr_q (v := none) hT rk_n rfl dX8_taskAt_30
  · replace h := ite_n c1 h
    refine ym 4 (fun B k => z_if_lt (tgt := 29) B dX8_taskAt_1 (by decide) (fun q => absurd q c1) (fun _ => k)) ?_
    refine ym 5 (fun B k => z_iload_n B dX8_taskAt_4 rfl 1 rfl k) ?_
    refine ym 6 (fun B k => z_aload_n B dX8_taskAt_5 rfl 0 rfl k) ?_
    replace h := qv_e h
    obtain ⟨w2, e_w2, h⟩ := h
    have hq_w2 : rk σ w2 1 := rk_T hT hk_t rfl (by decide) e_w2
    refine ym 9 (fun B k => gf_X8_28 (x := w2) B hk_t e_w2 dX8_taskAt_6 k) ?_
    replace h := bq_e h
    obtain ⟨a3, rfl, h⟩ := h
    have hk_a3 := hq_w2 a3 rfl
    replace h := br_e h
    obtain ⟨r5, h4, h⟩ := h
    have m6 := ct_Jx4a65c_size_8abf5 l (g := g) h4 hT hk_a3
    refine yc_Vi (Al := []) (rest := [.int x1]) 12 rfl cw_X8_264 cx_0 dX8_taskAt_9 m6 hk_a3 rfl (by decide) rfl (Nat.le_of_ble_eq_true rfl) ?_
    by_cases c7 : r5 ≤ x1
    · replace h := ite_p c7 h
      refine ym 29 (fun B k => z_icmp_ge (tgt := 29) B dX8_taskAt_12 (by decide) (fun _ => k) (fun q => absurd c7 q)) ?_
      refine ym 30 (fun B k => z_null B dX8_taskAt_29 k) ?_
      obtain rfl := Option.some.inj h
      exact yr_q (v := none) hT rk_n rfl dX8_taskAt_30
    · replace h := ite_n c7 h
      refine ym 15 (fun B k => z_icmp_ge (tgt := 29) B dX8_taskAt_12 (by decide) (fun q => absurd q c7) (fun _ => k)) ?_
      refine ym 16 (fun B k => z_aload_n B dX8_taskAt_15 rfl 0 rfl k) ?_
      replace h := qv_e h
      obtain ⟨w8, e_w8, h⟩ := h
      have hq_w8 : rk σ w8 1 := rk_T hT hk_t rfl (by decide) e_w8
      refine ym 19 (fun B k => gf_X8_28 (x := w8) B hk_t e_w8 dX8_taskAt_16 k) ?_
      refine ym 20 (fun B k => z_iload_n B dX8_taskAt_19 rfl 1 rfl k) ?_
      replace h := bq_e h
      obtain ⟨a9, rfl, h⟩ := h
      have hk_a9 := hq_w8 a9 rfl
      replace h := br_e h
      obtain ⟨r11, h10, h⟩ := h
      have m12 := ct_Jx4a65c_get_915e3 l (g := g) h10 hT hk_a9
      refine yc_Vq (Al := [.int x1]) (rest := []) 23 rfl cw_X8_272 cx_0 dX8_taskAt_20 m12 hk_a9 rfl (by decide) rfl (Nat.le_of_ble_eq_true rfl) ?_
      have hq_r11 := m12.1.2
      refine ym 26 (fun B k => z_castQ B cx_8 wg_566 hq_r11 dX8_taskAt_23 k) ?_
      refine ym 30 (fun B k => z_goto (tgt := 30) B dX8_taskAt_26 (by decide) k) ?_
      obtain rfl := Option.some.inj h
      exact yr_q (v := r11) hT hq_r11 rfl dX8_taskAt_30
set_option maxRecDepth 100000 in
set_option maxHeartbeats 4000000 in
theorem tb_X7_isDue_16 {l : Launch} {g : gx_T} {σ : sx_T} {r : Int32} {As : Array Value}  {t : Nat} {x1 : Int32} (h : fb_X7_isDue_16 σ t x1 = some r) (hT : TS g σ) (hk_t : sx_K σ t = 9) : ZY l g cX7_isDue RX7 "isDue" (some .boolean) 2 0 0 0 0 false As (QM g As (Qxi g r σ)) (r = 0 ∨ r = 1) σ σ 16 [(0, .ref t), (1, .int x1)] [] := by
  unfold fb_X7_isDue_16 at h
  refine ym 17 (fun B k => z_aload_n B dX7_isDue_16 rfl 0 rfl k) ?_
  refine ym 20 (fun B k => gf_X7_34 (x := (sx_I σ t 6)) B hk_t rfl dX7_isDue_17 k) ?_
  refine ym 21 (fun B k => z_iload_n B dX7_isDue_20 rfl 1 rfl k) ?_
  by_cases c1 : x1 < (sx_I σ t 6)
  · replace h := ite_p c1 h
    refine ym 41 (fun B k => z_icmp_gt (tgt := 41) B dX7_isDue_21 (by decide) (fun _ => k) (fun q => absurd c1 q)) ?_
    refine ym 42 (fun B k => z_iconst (v := 0) B dX7_isDue_41 (by decide) k) ?_
    obtain rfl := Option.some.inj h
    exact yr_z hT (Or.inl rfl) rfl (Or.inl rfl) dX7_isDue_42
  · replace h := ite_n c1 h
    refine ym 24 (fun B k => z_icmp_gt (tgt := 41) B dX7_isDue_21 (by decide) (fun q => absurd q c1) (fun _ => k)) ?_
    refine ym 25 (fun B k => z_aload_n B dX7_isDue_24 rfl 0 rfl k) ?_
    replace h := qv_e h
    obtain ⟨w2, e_w2, h⟩ := h
    have hq_w2 : rk σ w2 2 := rk_T hT hk_t rfl (by decide) e_w2
    refine ym 28 (fun B k => gf_X7_18 (x := w2) B hk_t e_w2 dX7_isDue_25 k) ?_
    replace h := bq_e h
    obtain ⟨a3, rfl, h⟩ := h
    have hk_a3 := hq_w2 a3 rfl
    replace h := qv_e h
    obtain ⟨w4, e_w4, h⟩ := h
    have hq_w4 : rk σ w4 7 := rk_T hT hk_a3 rfl (by decide) e_w4
    refine ym 31 (fun B k => gf_X7_58 (x := w4) B hk_a3 e_w4 dX7_isDue_28 k) ?_
    replace h := bq_e h
    obtain ⟨a5, rfl, h⟩ := h
    have hk_a5 := hq_w4 a5 rfl
    refine ym 34 (fun B k => gf_X7_62 (x := (sx_I σ a5 19)) B hk_a5 rfl dX7_isDue_31 k) ?_
    by_cases c6 : (sx_I σ a5 19) = 0
    · replace h := ite_p c6 h
      refine ym 37 (fun B k => z_if_ne (tgt := 41) B dX7_isDue_34 (by decide) (fun q => absurd c6 q) (fun _ => k)) ?_
      refine ym 38 (fun B k => z_iconst (v := 1) B dX7_isDue_37 (by decide) k) ?_
      refine ym 42 (fun B k => z_goto (tgt := 42) B dX7_isDue_38 (by decide) k) ?_
      obtain rfl := Option.some.inj h
      exact yr_z hT (Or.inr rfl) rfl (Or.inr rfl) dX7_isDue_42
    · replace h := ite_n c6 h
      refine ym 41 (fun B k => z_if_ne (tgt := 41) B dX7_isDue_34 (by decide) (fun _ => k) (fun q => absurd q c6)) ?_
      refine ym 42 (fun B k => z_iconst (v := 0) B dX7_isDue_41 (by decide) k) ?_
      obtain rfl := Option.some.inj h
      exact yr_z hT (Or.inl rfl) rfl (Or.inl rfl) dX7_isDue_42
set_option maxRecDepth 100000 in
set_option maxHeartbeats 4000000 in
theorem ct_X7_isDue (l : Launch) {g : gx_T} {σ : sx_T} {r : Int32}  {t : Nat} {x1 : Int32} (h : f_X7_isDue σ t x1 = some r) (hT : TS g σ) (hk_t : sx_K σ t = 9) : CT l g yX7_isDue cX7_isDue 2 (some .boolean) 0 0 [.ref t, .int x1] (r = 0 ∨ r = 1) σ σ (Qxi g r σ) := by
  refine yc_met (by decide) (Nat.le_of_ble_eq_true rfl) ?_
  refine yc_lv (show lv_args 0 [.ref t, .int x1] = [(0, .ref t), (1, .int x1)] from rfl) ?_
  show ZY l g _ _ _ _ _ _ _ _ _ _ _ _ _ _ σ 0 [(0, .ref t), (1, .int x1)] []
  unfold f_X7_isDue at h
  refine ym 1 (fun B k => z_aload_n B dX7_isDue_0 rfl 0 rfl k) ?_
  refine ym 4 (fun B k => gf_X7_9 (x := (sx_I σ t 3)) B hk_t rfl dX7_isDue_1 k) ?_
  refine ym 5 (fun B k => z_iconst (v := 1) B dX7_isDue_4 (by decide) k) ?_
  by_cases c1 : (sx_I σ t 3) = 1
  · replace h := ite_p c1 h
    refine ym 16 (fun B k => z_icmp_eq (tgt := 16) B dX7_isDue_5 (by decide) (fun _ => k) (fun q => absurd c1 q)) ?_
    refine y_sub [(0, .ref t), (1, .int x1)] [0, 1] rfl ?_
    exact tb_X7_isDue_16 h hT hk_t
  · replace h := ite_n c1 h
    refine ym 8 (fun B k => z_icmp_eq (tgt := 16) B dX7_isDue_5 (by decide) (fun q => absurd q c1) (fun _ => k)) ?_
    refine ym 9 (fun B k => z_aload_n B dX7_isDue_8 rfl 0 rfl k) ?_
    refine ym 12 (fun B k => gf_X7_9 (x := (sx_I σ t 3)) B hk_t rfl dX7_isDue_9 k) ?_
    refine ym 13 (fun B k => z_iconst (v := 2) B dX7_isDue_12 (by decide) k) ?_
    by_cases c2 : (sx_I σ t 3) = 2
    · replace h := ite_p c2 h
      refine ym 16 (fun B k => z_icmp_ne (tgt := 41) B dX7_isDue_13 (by decide) (fun q => absurd c2 q) (fun _ => k)) ?_
      refine y_sub [(0, .ref t), (1, .int x1)] [0, 1] rfl ?_
      exact tb_X7_isDue_16 h hT hk_t
    · replace h := ite_n c2 h
      refine ym 41 (fun B k => z_icmp_ne (tgt := 41) B dX7_isDue_13 (by decide) (fun _ => k) (fun q => absurd q c2)) ?_
      refine ym 42 (fun B k => z_iconst (v := 0) B dX7_isDue_41 (by decide) k) ?_
      obtain rfl := Option.some.inj h
      exact yr_z hT (Or.inl rfl) rfl (Or.inl rfl) dX7_isDue_42
set_option maxRecDepth 100000 in
set_option maxHeartbeats 4000000 in
theorem ct_X7_pass (l : Launch) {g : gx_T} {σ : sx_T} {u : sx_T}  {t : Nat} {x1 : Int32} (h : f_X7_pass σ t x1 = some u) (hT : TS g σ) (hk_t : sx_K σ t = 9) : CT l g yX7_pass cX7_pass 2 none 3 66 [.ref t, .int x1] (True) u σ (Qxv g u) := by
  refine yc_met (by decide) (Nat.le_of_ble_eq_true rfl) ?_
  refine yc_lv (show lv_args 0 [.ref t, .int x1] = [(0, .ref t), (1, .int x1)] from rfl) ?_
  show ZY l g _ _ _ _ _ _ _ _ _ _ _ _ _ _ σ 0 [(0, .ref t), (1, .int x1)] []
  unfold f_X7_pass at h
  refine ym 1 (fun B k => z_aload_n B dX7_pass_0 rfl 0 rfl k) ?_
  refine ym 4 (fun B k => gf_X7_9 (x := (sx_I σ t 3)) B hk_t rfl dX7_pass_1 k) ?_
  refine ym 5 (fun B k => z_iconst (v := 1) B dX7_pass_4 (by decide) k) ?_
  by_cases c1 : (sx_I σ t 3) = 1
  · replace h := ite_p c1 h
    refine ym 8 (fun B k => z_icmp_ne (tgt := 14) B dX7_pass_5 (by decide) (fun q => absurd c1 q) (fun _ => k)) ?_
    refine ym 9 (fun B k => z_aload_n B dX7_pass_8 rfl 0 rfl k) ?_
    refine ym 10 (fun B k => z_iload_n B dX7_pass_9 rfl 1 rfl k) ?_
    replace h := br_e h
    obtain ⟨u3, h2, h⟩ := h
    have m4 := ct_X7_loseTry l (g := g) h2 hT hk_t
    refine yc_Vv (Al := [.int x1]) (rest := []) 13 rfl cw_X7_68 cx_8 dX7_pass_10 m4 hk_t rfl (by decide) rfl (Nat.le_of_ble_eq_true rfl) ?_
    have hk_t := k_G m4.1.1 (by decide) hk_t
    have hT := m4.1.1.2.2.2
    obtain rfl := Option.some.inj h
    exact yr_v hT trivial rfl dX7_pass_13
  · replace h := ite_n c1 h
    refine ym 14 (fun B k => z_icmp_ne (tgt := 14) B dX7_pass_5 (by decide) (fun _ => k) (fun q => absurd q c1)) ?_
    refine ym 15 (fun B k => z_aload_n B dX7_pass_14 rfl 0 rfl k) ?_
    refine ym 16 (fun B k => z_iconst (v := 0) B dX7_pass_15 (by decide) k) ?_
    have j5 := hk_t
    refine ymw (σ' := (wx_I σ t 3 0)) 19 e_I (fun B hin k => pf_X7_9 (x := 0) B hk_t rfl dX7_pass_16 k) ?_
    have hT := TS_I (k := 3) (x := 0) hT hk_t (Or.inl rfl)
    have hk_t := kk_I (σ := σ) (a := t) (k := 3) (x := 0) hk_t
    refine ym 20 (fun B k => z_aload_n B dX7_pass_19 rfl 0 rfl k) ?_
    refine ym 21 (fun B k => z_iconst (v := 0) B dX7_pass_20 (by decide) k) ?_
    have j6 := hk_t
    refine ymw (σ' := (wx_I (wx_I σ t 3 0) t 6 0)) 24 e_I (fun B hin k => pf_X7_34 (x := 0) B hk_t rfl dX7_pass_21 k) ?_
    have hT := TS_I (k := 6) (x := 0) hT hk_t (Or.inl rfl)
    have hk_t := kk_I (σ := (wx_I σ t 3 0)) (a := t) (k := 6) (x := 0) hk_t
    obtain rfl := Option.some.inj h
    exact yr_v hT trivial rfl dX7_pass_24
set_option maxRecDepth 100000 in
set_option maxHeartbeats 4000000 in
theorem tl_X8_passTasks_2 {l : Launch} {g : gx_T} {u : sx_T} {As : Array Value} {n0 : Nat} : ∀ {n : Nat} {σ : sx_T} {t : Nat} {x1 : Int32}, fl_X8_passTasks_2 n0 n σ t x1 = some u → TS g σ → sx_K σ t = 10 → ZY l g cX8_passTasks RX8 "passTasks" none 3 11 280 0 0 false As (QM g As (Qxv g u)) (True) u σ 2 [(0, .ref t), (1, .int x1)] [] := by
  intro n
  induction n with
  | zero =>
    intro σ t x1 h
    exact nomatch h
  | succ n ih_ =>
    have ih := @ih_
    intro σ t x1 h hT hk_t
    unfold fl_X8_passTasks_2 at h
    refine ym 3 (fun B k => z_iload_n B dX8_passTasks_2 rfl 1 rfl k) ?_
    refine ym 4 (fun B k => z_aload_n B dX8_passTasks_3 rfl 0 rfl k) ?_
    replace h := qv_e h
    obtain ⟨w1, e_w1, h⟩ := h
    have hq_w1 : rk σ w1 1 := rk_T hT hk_t rfl (by decide) e_w1
    refine ym 7 (fun B k => gf_X8_28 (x := w1) B hk_t e_w1 dX8_passTasks_4 k) ?_
    replace h := bq_e h
    obtain ⟨a2, rfl, h⟩ := h
    have hk_a2 := hq_w1 a2 rfl
    replace h := br_e h
    obtain ⟨r4, h3, h⟩ := h
    have m5 := ct_Jx4a65c_size_8abf5 l (g := g) h3 hT hk_a2
    refine yc_Vi (Al := []) (rest := [.int x1]) 10 rfl cw_X8_264 cx_0 dX8_passTasks_7 m5 hk_a2 rfl (by decide) rfl (Nat.le_of_ble_eq_true rfl) ?_
    by_cases c6 : r4 ≤ x1
    · replace h := ite_p c6 h
      refine ym 56 (fun B k => z_icmp_ge (tgt := 56) B dX8_passTasks_10 (by decide) (fun _ => k) (fun q => absurd c6 q)) ?_
      obtain rfl := Option.some.inj h
      exact yr_v hT trivial rfl dX8_passTasks_56
    · replace h := ite_n c6 h
      refine ym 13 (fun B k => z_icmp_ge (tgt := 56) B dX8_passTasks_10 (by decide) (fun q => absurd q c6) (fun _ => k)) ?_
      refine ym 14 (fun B k => z_aload_n B dX8_passTasks_13 rfl 0 rfl k) ?_
      refine ym 15 (fun B k => z_iload_n B dX8_passTasks_14 rfl 1 rfl k) ?_
      replace h := br_e h
      obtain ⟨r8, h7, h⟩ := h
      have m9 := ct_X8_taskAt l (g := g) h7 hT hk_t
      refine yc_Vq (Al := [.int x1]) (rest := []) 18 rfl cw_X8_265 cx_9 dX8_passTasks_15 m9 hk_t rfl (by decide) rfl (Nat.le_of_ble_eq_true rfl) ?_
      have hq_r8 := m9.1.2
      refine ym 19 (fun B k => z_qstore_n (r := r8) (lv' := [(2, va_rf r8), (0, .ref t), (1, .int x1)]) B dX8_passTasks_18 rfl (by decide) rfl k) ?_
      refine ym 20 (fun B k => z_qload_n (r := r8) B dX8_passTasks_19 rfl 0 rfl k) ?_
      rcases r8 with _ | a10
      · replace h := oc_n h
        refine ym 50 (fun B k => z_ifnull (r := none) (tgt := 50) B dX8_passTasks_20 (by decide) (fun _ => k) (fun a h => nomatch h)) ?_
        refine ym 53 (fun B k => z_iinc (v := x1 + 1) (lv' := [(1, .int (x1 + 1)), (2, .null), (0, .ref t)]) B dX8_passTasks_50 2 rfl rfl (by decide) rfl k) ?_
        refine ym 2 (fun B k => z_goto (tgt := 2) B dX8_passTasks_53 (by decide) k) ?_
        refine y_sub [(0, .ref t), (1, .int (x1 + 1))] [2, 0] rfl ?_
        exact ih h hT hk_t
      · replace h := oc_s h
        have hk_a10 := hq_r8 a10 rfl
        refine ym 23 (fun B k => z_ifnull (r := (some a10)) (tgt := 50) B dX8_passTasks_20 (by decide) (fun h => nomatch h) (fun _ _ => k)) ?_
        refine ym 24 (fun B k => z_aload_n B dX8_passTasks_23 rfl 0 rfl k) ?_
        refine ym 25 (fun B k => z_aload_n B dX8_passTasks_24 rfl 1 rfl k) ?_
        refine ym 28 (fun B k => gf_X8_206 (x := (sx_I σ t 8)) B hk_t rfl dX8_passTasks_25 k) ?_
        replace h := br_e h
        obtain ⟨r12, h11, h⟩ := h
        have m13 := ct_X7_isDue l (g := g) h11 hT hk_a10
        refine yc_Vi (Al := [.int (sx_I σ t 8)]) (rest := []) 31 rfl cw_X8_420 cx_8 dX8_passTasks_28 m13 hk_a10 rfl (by decide) rfl (Nat.le_of_ble_eq_true rfl) ?_
        have hz_r12 := m13.1.2
        by_cases c14 : r12 = 0
        · replace h := ite_p c14 h
          refine ym 50 (fun B k => z_if_eq (tgt := 50) B dX8_passTasks_31 (by decide) (fun _ => k) (fun q => absurd c14 q)) ?_
          refine ym 53 (fun B k => z_iinc (v := x1 + 1) (lv' := [(1, .int (x1 + 1)), (2, .ref a10), (0, .ref t)]) B dX8_passTasks_50 2 rfl rfl (by decide) rfl k) ?_
          refine ym 2 (fun B k => z_goto (tgt := 2) B dX8_passTasks_53 (by decide) k) ?_
          refine y_sub [(0, .ref t), (1, .int (x1 + 1))] [2, 0] rfl ?_
          exact ih h hT hk_t
        · replace h := ite_n c14 h
          refine ym 34 (fun B k => z_if_eq (tgt := 50) B dX8_passTasks_31 (by decide) (fun q => absurd q c14) (fun _ => k)) ?_
          refine ym 35 (fun B k => z_aload_n B dX8_passTasks_34 rfl 0 rfl k) ?_
          refine ym 36 (fun B k => z_aload_n B dX8_passTasks_35 rfl 1 rfl k) ?_
          refine ym 39 (fun B k => gf_X8_206 (x := (sx_I σ t 8)) B hk_t rfl dX8_passTasks_36 k) ?_
          replace h := br_e h
          obtain ⟨u16, h15, h⟩ := h
          have m17 := ct_X7_pass l (g := g) h15 hT hk_a10
          refine yc_Vv (Al := [.int (sx_I σ t 8)]) (rest := []) 42 rfl cw_X8_423 cx_8 dX8_passTasks_39 m17 hk_a10 rfl (by decide) rfl (Nat.le_of_ble_eq_true rfl) ?_
          have hk_a10 := k_G m17.1.1 (by decide) hk_a10
          have hk_t := k_G m17.1.1 (by decide) hk_t
          have hT := m17.1.1.2.2.2
          refine ym 43 (fun B k => z_aload_n B dX8_passTasks_42 rfl 1 rfl k) ?_
          refine ym 44 (fun B k => z_aload_n B dX8_passTasks_43 rfl 0 rfl k) ?_
          replace h := qv_e h
          obtain ⟨w18, e_w18, h⟩ := h
          have hq_w18 : rk u16 w18 2 := rk_T hT hk_a10 rfl (by decide) e_w18
          refine ym 47 (fun B k => gf_X8_215 (x := w18) B hk_a10 e_w18 dX8_passTasks_44 k) ?_
          replace h := br_e h
          obtain ⟨u20, h19, h⟩ := h
          have m21 := ct_X8_goOn l (g := g) h19 hT hk_t hq_w18
          refine yc_Vv (Al := [va_rf w18]) (rest := []) 50 rfl cw_X8_111 cx_9 dX8_passTasks_47 m21 hk_t rfl (by decide) rfl (Nat.le_of_ble_eq_true rfl) ?_
          have hk_a10 := k_G m21.1.1 (by decide) hk_a10
          have hk_t := k_G m21.1.1 (by decide) hk_t
          have hT := m21.1.1.2.2.2
          refine ym 53 (fun B k => z_iinc (v := x1 + 1) (lv' := [(1, .int (x1 + 1)), (2, .ref a10), (0, .ref t)]) B dX8_passTasks_50 2 rfl rfl (by decide) rfl k) ?_
          refine ym 2 (fun B k => z_goto (tgt := 2) B dX8_passTasks_53 (by decide) k) ?_
          refine y_sub [(0, .ref t), (1, .int (x1 + 1))] [2, 0] rfl ?_
          exact ih h hT hk_t
set_option maxRecDepth 100000 in
set_option maxHeartbeats 4000000 in
theorem ct_X8_passTasks (l : Launch) {g : gx_T} {σ : sx_T} {u : sx_T} {n0 : Nat} {t : Nat} (h : f_X8_passTasks n0 σ t = some u) (hT : TS g σ) (hk_t : sx_K σ t = 10) : CT l g yX8_passTasks cX8_passTasks 3 none 11 280 [.ref t] (True) u σ (Qxv g u) := by
  refine yc_met (by decide) (Nat.le_of_ble_eq_true rfl) ?_
  refine yc_lv (show lv_args 0 [.ref t] = [(0, .ref t)] from rfl) ?_
  show ZY l g _ _ _ _ _ _ _ _ _ _ _ _ _ _ σ 0 [(0, .ref t)] []
  unfold f_X8_passTasks at h
  refine ym 1 (fun B k => z_iconst (v := 0) B dX8_passTasks_0 (by decide) k) ?_
  refine ym 2 (fun B k => z_istore_n (lv' := [(1, .int 0), (0, .ref t)]) B dX8_passTasks_1 rfl (by decide) rfl k) ?_
  refine y_sub [(0, .ref t), (1, .int 0)] [1, 0] rfl ?_
  exact tl_X8_passTasks_2 h hT hk_t
set_option maxRecDepth 100000 in
set_option maxHeartbeats 4000000 in
theorem tb_X5_isDue_23 {l : Launch} {g : gx_T} {σ : sx_T} {r : Int32} {As : Array Value}  {t : Nat} {x1 : Int32} (h : fb_X5_isDue_23 σ t x1 = some r) (hT : TS g σ) (hk_t : sx_K σ t = 7) : ZY l g cX5_isDue RX5 "isDue" (some .boolean) 2 0 0 0 0 false As (QM g As (Qxi g r σ)) (r = 0 ∨ r = 1) σ σ 23 [(0, .ref t), (1, .int x1)] [] := by
  unfold fb_X5_isDue_23 at h
  refine ym 24 (fun B k => z_aload_n B dX5_isDue_23 rfl 0 rfl k) ?_
  refine ym 27 (fun B k => gf_X5_65 (x := (sx_J σ t 11)) B hk_t rfl dX5_isDue_24 k) ?_
  refine ym 28 (fun B k => z_iload_n B dX5_isDue_27 rfl 1 rfl k) ?_
  refine ym 29 (fun B k => z_i2l (v := x1.toInt64) B dX5_isDue_28 rfl k) ?_
  refine ym 30 (fun B k => z_lcmp (v := lg_cmp (sx_J σ t 11) x1.toInt64) B dX5_isDue_29 rfl k) ?_
  by_cases c1 : 0 < (lg_cmp (sx_J σ t 11) x1.toInt64)
  · replace h := ite_p c1 h
    refine ym 37 (fun B k => z_if_gt (tgt := 37) B dX5_isDue_30 (by decide) (fun _ => k) (fun q => absurd c1 q)) ?_
    refine ym 38 (fun B k => z_iconst (v := 0) B dX5_isDue_37 (by decide) k) ?_
    obtain rfl := Option.some.inj h
    exact yr_z hT (Or.inl rfl) rfl (Or.inl rfl) dX5_isDue_38
  · replace h := ite_n c1 h
    refine ym 33 (fun B k => z_if_gt (tgt := 37) B dX5_isDue_30 (by decide) (fun q => absurd q c1) (fun _ => k)) ?_
    refine ym 34 (fun B k => z_iconst (v := 1) B dX5_isDue_33 (by decide) k) ?_
    refine ym 38 (fun B k => z_goto (tgt := 38) B dX5_isDue_34 (by decide) k) ?_
    obtain rfl := Option.some.inj h
    exact yr_z hT (Or.inr rfl) rfl (Or.inr rfl) dX5_isDue_38
set_option maxRecDepth 100000 in
set_option maxHeartbeats 4000000 in
theorem ct_X5_isDue (l : Launch) {g : gx_T} {σ : sx_T} {r : Int32}  {t : Nat} {x1 : Int32} (h : f_X5_isDue σ t x1 = some r) (hT : TS g σ) (hk_t : sx_K σ t = 7) : CT l g yX5_isDue cX5_isDue 2 (some .boolean) 0 0 [.ref t, .int x1] (r = 0 ∨ r = 1) σ σ (Qxi g r σ) := by
  refine yc_met (by decide) (Nat.le_of_ble_eq_true rfl) ?_
  refine yc_lv (show lv_args 0 [.ref t, .int x1] = [(0, .ref t), (1, .int x1)] from rfl) ?_
  show ZY l g _ _ _ _ _ _ _ _ _ _ _ _ _ _ σ 0 [(0, .ref t), (1, .int x1)] []
  unfold f_X5_isDue at h
  refine ym 1 (fun B k => z_aload_n B dX5_isDue_0 rfl 0 rfl k) ?_
  refine ym 4 (fun B k => gf_X5_91 (x := (sx_I σ t 19)) B hk_t rfl dX5_isDue_1 k) ?_
  by_cases c1 : (sx_I σ t 19) = 0
  · replace h := ite_p c1 h
    refine ym 7 (fun B k => z_if_ne (tgt := 37) B dX5_isDue_4 (by decide) (fun q => absurd c1 q) (fun _ => k)) ?_
    refine ym 8 (fun B k => z_aload_n B dX5_isDue_7 rfl 0 rfl k) ?_
    refine ym 11 (fun B k => gf_X5_56 (x := (sx_I σ t 8)) B hk_t rfl dX5_isDue_8 k) ?_
    refine ym 12 (fun B k => z_iconst (v := 2) B dX5_isDue_11 (by decide) k) ?_
    by_cases c2 : (sx_I σ t 8) = 2
    · replace h := ite_p c2 h
      refine ym 23 (fun B k => z_icmp_eq (tgt := 23) B dX5_isDue_12 (by decide) (fun _ => k) (fun q => absurd c2 q)) ?_
      refine y_sub [(0, .ref t), (1, .int x1)] [0, 1] rfl ?_
      exact tb_X5_isDue_23 h hT hk_t
    · replace h := ite_n c2 h
      refine ym 15 (fun B k => z_icmp_eq (tgt := 23) B dX5_isDue_12 (by decide) (fun q => absurd q c2) (fun _ => k)) ?_
      refine ym 16 (fun B k => z_aload_n B dX5_isDue_15 rfl 0 rfl k) ?_
      refine ym 19 (fun B k => gf_X5_56 (x := (sx_I σ t 8)) B hk_t rfl dX5_isDue_16 k) ?_
      refine ym 20 (fun B k => z_iconst (v := 4) B dX5_isDue_19 (by decide) k) ?_
      by_cases c3 : (sx_I σ t 8) = 4
      · replace h := ite_p c3 h
        refine ym 23 (fun B k => z_icmp_ne (tgt := 37) B dX5_isDue_20 (by decide) (fun q => absurd c3 q) (fun _ => k)) ?_
        refine y_sub [(0, .ref t), (1, .int x1)] [0, 1] rfl ?_
        exact tb_X5_isDue_23 h hT hk_t
      · replace h := ite_n c3 h
        refine ym 37 (fun B k => z_icmp_ne (tgt := 37) B dX5_isDue_20 (by decide) (fun _ => k) (fun q => absurd q c3)) ?_
        refine ym 38 (fun B k => z_iconst (v := 0) B dX5_isDue_37 (by decide) k) ?_
        obtain rfl := Option.some.inj h
        exact yr_z hT (Or.inl rfl) rfl (Or.inl rfl) dX5_isDue_38
  · replace h := ite_n c1 h
    refine ym 37 (fun B k => z_if_ne (tgt := 37) B dX5_isDue_4 (by decide) (fun _ => k) (fun q => absurd q c1)) ?_
    refine ym 38 (fun B k => z_iconst (v := 0) B dX5_isDue_37 (by decide) k) ?_
    obtain rfl := Option.some.inj h
    exact yr_z hT (Or.inl rfl) rfl (Or.inl rfl) dX5_isDue_38
set_option maxRecDepth 100000 in
set_option maxHeartbeats 4000000 in
theorem tl_X8_passTimers_2 {l : Launch} {g : gx_T} {u : sx_T} {As : Array Value} {n0 : Nat} : ∀ {n : Nat} {σ : sx_T} {t : Nat} {x1 : Int32}, fl_X8_passTimers_2 n0 n σ t x1 = some u → TS g σ → sx_K σ t = 10 → ZY l g cX8_passTimers RX8 "passTimers" none 3 11 280 0 0 false As (QM g As (Qxv g u)) (True) u σ 2 [(0, .ref t), (1, .int x1)] [] := by
  intro n
  induction n with
  | zero =>
    intro σ t x1 h
    exact nomatch h
  | succ n ih_ =>
    have ih := @ih_
    intro σ t x1 h hT hk_t
    unfold fl_X8_passTimers_2 at h
    refine ym 3 (fun B k => z_iload_n B dX8_passTimers_2 rfl 1 rfl k) ?_
    refine ym 4 (fun B k => z_aload_n B dX8_passTimers_3 rfl 0 rfl k) ?_
    refine ym 7 (fun B k => gf_X8_96 (x := (sx_I σ t 7)) B hk_t rfl dX8_passTimers_4 k) ?_
    by_cases c1 : (sx_I σ t 7) ≤ x1
    · replace h := ite_p c1 h
      refine ym 54 (fun B k => z_icmp_ge (tgt := 54) B dX8_passTimers_7 (by decide) (fun _ => k) (fun q => absurd c1 q)) ?_
      obtain rfl := Option.some.inj h
      exact yr_v hT trivial rfl dX8_passTimers_54
    · replace h := ite_n c1 h
      refine ym 10 (fun B k => z_icmp_ge (tgt := 54) B dX8_passTimers_7 (by decide) (fun q => absurd q c1) (fun _ => k)) ?_
      refine ym 11 (fun B k => z_aload_n B dX8_passTimers_10 rfl 0 rfl k) ?_
      refine ym 12 (fun B k => z_iload_n B dX8_passTimers_11 rfl 1 rfl k) ?_
      replace h := br_e h
      obtain ⟨r3, h2, h⟩ := h
      have m4 := ct_X8_flowAt l (g := g) h2 hT hk_t
      refine yc_Vq (Al := [.int x1]) (rest := []) 15 rfl cw_X8_99 cx_9 dX8_passTimers_12 m4 hk_t rfl (by decide) rfl (Nat.le_of_ble_eq_true rfl) ?_
      have hq_r3 := m4.1.2
      refine ym 16 (fun B k => z_qstore_n (r := r3) (lv' := [(2, va_rf r3), (0, .ref t), (1, .int x1)]) B dX8_passTimers_15 rfl (by decide) rfl k) ?_
      refine ym 17 (fun B k => z_qload_n (r := r3) B dX8_passTimers_16 rfl 0 rfl k) ?_
      rcases r3 with _ | a5
      · replace h := oc_n h
        refine ym 48 (fun B k => z_ifnull (r := none) (tgt := 48) B dX8_passTimers_17 (by decide) (fun _ => k) (fun a h => nomatch h)) ?_
        refine ym 51 (fun B k => z_iinc (v := x1 + 1) (lv' := [(1, .int (x1 + 1)), (2, .null), (0, .ref t)]) B dX8_passTimers_48 2 rfl rfl (by decide) rfl k) ?_
        refine ym 2 (fun B k => z_goto (tgt := 2) B dX8_passTimers_51 (by decide) k) ?_
        refine y_sub [(0, .ref t), (1, .int (x1 + 1))] [2, 0] rfl ?_
        exact ih h hT hk_t
      · replace h := oc_s h
        have hk_a5 := hq_r3 a5 rfl
        refine ym 20 (fun B k => z_ifnull (r := (some a5)) (tgt := 48) B dX8_passTimers_17 (by decide) (fun h => nomatch h) (fun _ _ => k)) ?_
        refine ym 21 (fun B k => z_aload_n B dX8_passTimers_20 rfl 0 rfl k) ?_
        replace h := qv_e h
        obtain ⟨w6, e_w6, h⟩ := h
        have hq_w6 : rk σ w6 7 := rk_T hT hk_a5 rfl (by decide) e_w6
        refine ym 24 (fun B k => gf_X8_249 (x := w6) B hk_a5 e_w6 dX8_passTimers_21 k) ?_
        refine ym 25 (fun B k => z_aload_n B dX8_passTimers_24 rfl 1 rfl k) ?_
        refine ym 28 (fun B k => gf_X8_206 (x := (sx_I σ t 8)) B hk_t rfl dX8_passTimers_25 k) ?_
        replace h := bq_e h
        obtain ⟨a7, rfl, h⟩ := h
        have hk_a7 := hq_w6 a7 rfl
        replace h := br_e h
        obtain ⟨r9, h8, h⟩ := h
        have m10 := ct_X5_isDue l (g := g) h8 hT hk_a7
        refine yc_Vi (Al := [.int (sx_I σ t 8)]) (rest := []) 31 rfl cw_X8_426 cx_6 dX8_passTimers_28 m10 hk_a7 rfl (by decide) rfl (Nat.le_of_ble_eq_true rfl) ?_
        have hz_r9 := m10.1.2
        by_cases c11 : r9 = 0
        · replace h := ite_p c11 h
          refine ym 48 (fun B k => z_if_eq (tgt := 48) B dX8_passTimers_31 (by decide) (fun _ => k) (fun q => absurd c11 q)) ?_
          refine ym 51 (fun B k => z_iinc (v := x1 + 1) (lv' := [(1, .int (x1 + 1)), (2, .ref a5), (0, .ref t)]) B dX8_passTimers_48 2 rfl rfl (by decide) rfl k) ?_
          refine ym 2 (fun B k => z_goto (tgt := 2) B dX8_passTimers_51 (by decide) k) ?_
          refine y_sub [(0, .ref t), (1, .int (x1 + 1))] [2, 0] rfl ?_
          exact ih h hT hk_t
        · replace h := ite_n c11 h
          refine ym 34 (fun B k => z_if_eq (tgt := 48) B dX8_passTimers_31 (by decide) (fun q => absurd q c11) (fun _ => k)) ?_
          refine ym 35 (fun B k => z_aload_n B dX8_passTimers_34 rfl 0 rfl k) ?_
          replace h := qv_e h
          obtain ⟨w12, e_w12, h⟩ := h
          have hq_w12 : rk σ w12 3 := rk_T hT hk_a5 rfl (by decide) e_w12
          refine ym 38 (fun B k => gf_X8_179 (x := w12) B hk_a5 e_w12 dX8_passTimers_35 k) ?_
          refine ym 39 (fun B k => z_iconst (v := 5) B dX8_passTimers_38 (by decide) k) ?_
          refine ym 40 (fun B k => z_lconst (v := 0) B dX8_passTimers_39 (by decide) k) ?_
          replace h := bq_e h
          obtain ⟨a13, rfl, h⟩ := h
          have hk_a13 := hq_w12 a13 rfl
          replace h := br_e h
          obtain ⟨u15, h14, h⟩ := h
          have m16 := ct_X1_add l (g := g) h14 hT hk_a13
          refine yc_Vv (Al := [.int 5, .long 0]) (rest := []) 43 rfl cw_X8_333 cx_2 dX8_passTimers_40 m16 hk_a13 rfl (by decide) rfl (Nat.le_of_ble_eq_true rfl) ?_
          have hk_a5 := k_G m16.1.1 (by decide) hk_a5
          have hk_t := k_G m16.1.1 (by decide) hk_t
          have hT := m16.1.1.2.2.2
          refine ym 44 (fun B k => z_aload_n B dX8_passTimers_43 rfl 1 rfl k) ?_
          refine ym 45 (fun B k => z_aload_n B dX8_passTimers_44 rfl 0 rfl k) ?_
          replace h := br_e h
          obtain ⟨u18, h17, h⟩ := h
          have m19 := ct_X8_goOn l (g := g) h17 hT hk_t (rk_a hk_a5)
          refine yc_Vv (Al := [.ref a5]) (rest := []) 48 rfl cw_X8_111 cx_9 dX8_passTimers_45 m19 hk_t rfl (by decide) rfl (Nat.le_of_ble_eq_true rfl) ?_
          have hk_a5 := k_G m19.1.1 (by decide) hk_a5
          have hk_t := k_G m19.1.1 (by decide) hk_t
          have hT := m19.1.1.2.2.2
          refine ym 51 (fun B k => z_iinc (v := x1 + 1) (lv' := [(1, .int (x1 + 1)), (2, .ref a5), (0, .ref t)]) B dX8_passTimers_48 2 rfl rfl (by decide) rfl k) ?_
          refine ym 2 (fun B k => z_goto (tgt := 2) B dX8_passTimers_51 (by decide) k) ?_
          refine y_sub [(0, .ref t), (1, .int (x1 + 1))] [2, 0] rfl ?_
          exact ih h hT hk_t
set_option maxRecDepth 100000 in
set_option maxHeartbeats 4000000 in
theorem ct_X8_passTimers (l : Launch) {g : gx_T} {σ : sx_T} {u : sx_T} {n0 : Nat} {t : Nat} (h : f_X8_passTimers n0 σ t = some u) (hT : TS g σ) (hk_t : sx_K σ t = 10) : CT l g yX8_passTimers cX8_passTimers 3 none 11 280 [.ref t] (True) u σ (Qxv g u) := by
  refine yc_met (by decide) (Nat.le_of_ble_eq_true rfl) ?_
  refine yc_lv (show lv_args 0 [.ref t] = [(0, .ref t)] from rfl) ?_
  show ZY l g _ _ _ _ _ _ _ _ _ _ _ _ _ _ σ 0 [(0, .ref t)] []
  unfold f_X8_passTimers at h
  refine ym 1 (fun B k => z_iconst (v := 0) B dX8_passTimers_0 (by decide) k) ?_
  refine ym 2 (fun B k => z_istore_n (lv' := [(1, .int 0), (0, .ref t)]) B dX8_passTimers_1 rfl (by decide) rfl k) ?_
  refine y_sub [(0, .ref t), (1, .int 0)] [1, 0] rfl ?_
  exact tl_X8_passTimers_2 h hT hk_t
set_option maxRecDepth 100000 in
set_option maxHeartbeats 4000000 in
theorem tl_X8_tick_23 {l : Launch} {g : gx_T} {u : sx_T} {r : Int32} {As : Array Value} {n0 : Nat} : ∀ {n : Nat} {σ : sx_T} {t : Nat} {x1 : Int32} {x2 : Int32}, fl_X8_tick_23 n0 n σ t x1 x2 = some (.inl r, u) → TS g σ → sx_K σ t = 10 → ZY l g cX8_tick RX8 "tick" (some .int) 3 12 302 0 0 false As (QM g As (Qxi g r u)) (True) u σ 23 [(0, .ref t), (1, .int x1), (2, .int x2)] [] := by
  intro n
  induction n with
  | zero =>
    intro σ t x1 x2 h
    exact nomatch h
  | succ n ih_ =>
    have ih := @ih_
    intro σ t x1 x2 h hT hk_t
    unfold fl_X8_tick_23 at h
    refine ym 24 (fun B k => z_iload_n B dX8_tick_23 rfl 2 rfl k) ?_
    refine ym 25 (fun B k => z_iload_n B dX8_tick_24 rfl 1 rfl k) ?_
    by_cases c1 : x1 ≤ x2
    · replace h := ite_p c1 h
      refine ym 52 (fun B k => z_icmp_ge (tgt := 52) B dX8_tick_25 (by decide) (fun _ => k) (fun q => absurd c1 q)) ?_
      refine ym 53 (fun B k => z_aload_n B dX8_tick_52 rfl 0 rfl k) ?_
      refine ym 56 (fun B k => gf_X8_206 (x := (sx_I σ t 8)) B hk_t rfl dX8_tick_53 k) ?_
      obtain ⟨h1, rfl⟩ := Prod.mk.inj (Option.some.inj h)
      obtain rfl := Sum.inl.inj h1
      exact yr_i hT trivial rfl dX8_tick_56
    · replace h := ite_n c1 h
      refine ym 28 (fun B k => z_icmp_ge (tgt := 52) B dX8_tick_25 (by decide) (fun q => absurd q c1) (fun _ => k)) ?_
      refine ym 29 (fun B k => z_aload_n B dX8_tick_28 rfl 0 rfl k) ?_
      refine ym 30 (fun B k => z_dup B dX8_tick_29 rfl k) ?_
      refine ym 33 (fun B k => gf_X8_206 (x := (sx_I σ t 8)) B hk_t rfl dX8_tick_30 k) ?_
      refine ym 34 (fun B k => z_iconst (v := 1) B dX8_tick_33 (by decide) k) ?_
      refine ym 35 (fun B k => z_iadd B dX8_tick_34 k) ?_
      have j2 := hk_t
      refine ymw (σ' := (wx_I σ t 8 ((sx_I σ t 8) + 1))) 38 e_I (fun B hin k => pf_X8_206 (x := ((sx_I σ t 8) + 1)) B hk_t rfl dX8_tick_35 k) ?_
      have hT := TS_I (k := 8) (x := ((sx_I σ t 8) + 1)) hT hk_t (Or.inl rfl)
      have hk_t := kk_I (σ := σ) (a := t) (k := 8) (x := ((sx_I σ t 8) + 1)) hk_t
      refine ym 39 (fun B k => z_aload_n B dX8_tick_38 rfl 0 rfl k) ?_
      replace h := br_e h
      obtain ⟨u4, h3, h⟩ := h
      have m5 := ct_X8_passTasks l (g := g) h3 hT hk_t
      refine yc_Vv (Al := []) (rest := []) 42 rfl cw_X8_240 cx_9 dX8_tick_39 m5 hk_t rfl (by decide) rfl (Nat.le_of_ble_eq_true rfl) ?_
      have hk_t := k_G m5.1.1 (by decide) hk_t
      have hT := m5.1.1.2.2.2
      refine ym 43 (fun B k => z_aload_n B dX8_tick_42 rfl 0 rfl k) ?_
      replace h := br_e h
      obtain ⟨u7, h6, h⟩ := h
      have m8 := ct_X8_passTimers l (g := g) h6 hT hk_t
      refine yc_Vv (Al := []) (rest := []) 46 rfl cw_X8_243 cx_9 dX8_tick_43 m8 hk_t rfl (by decide) rfl (Nat.le_of_ble_eq_true rfl) ?_
      have hk_t := k_G m8.1.1 (by decide) hk_t
      have hT := m8.1.1.2.2.2
      refine ym 49 (fun B k => z_iinc (v := x2 + 1) (lv' := [(2, .int (x2 + 1)), (0, .ref t), (1, .int x1)]) B dX8_tick_46 2 rfl rfl (by decide) rfl k) ?_
      refine ym 23 (fun B k => z_goto (tgt := 23) B dX8_tick_49 (by decide) k) ?_
      refine y_sub [(0, .ref t), (1, .int x1), (2, .int (x2 + 1))] [1, 2, 0] rfl ?_
      exact ih h hT hk_t
set_option maxRecDepth 100000 in
set_option maxHeartbeats 4000000 in
theorem tb_X8_tick_11 {l : Launch} {g : gx_T} {σ : sx_T} {u : sx_T} {r : Int32} {As : Array Value} {n0 : Nat}  (h : fb_X8_tick_11 n0 σ  = some (.inl r, u)) (hT : TS g σ)  : ZY l g cX8_tick RX8 "tick" (some .int) 3 12 302 0 0 false As (QM g As (Qxi g r u)) (True) u σ 11 [] [] := by
  unfold fb_X8_tick_11 at h
  exact nomatch (Prod.mk.inj (Option.some.inj h)).1
set_option maxRecDepth 100000 in
set_option maxHeartbeats 4000000 in
theorem ct_X8_tick (l : Launch) {g : gx_T} {σ : sx_T} {u : sx_T} {r : Int32} {n0 : Nat} {t : Nat} {x1 : Int32} (h : f_X8_tick n0 σ t x1 = some (.inl r, u)) (hT : TS g σ) (hk_t : sx_K σ t = 10) : CT l g yX8_tick cX8_tick 3 (some .int) 12 302 [.ref t, .int x1] (True) u σ (Qxi g r u) := by
  refine yc_met (by decide) (Nat.le_of_ble_eq_true rfl) ?_
  refine yc_lv (show lv_args 0 [.ref t, .int x1] = [(0, .ref t), (1, .int x1)] from rfl) ?_
  show ZY l g _ _ _ _ _ _ _ _ _ _ _ _ _ _ σ 0 [(0, .ref t), (1, .int x1)] []
  unfold f_X8_tick at h
  refine ym 1 (fun B k => z_iload_n B dX8_tick_0 rfl 1 rfl k) ?_
  refine ym 2 (fun B k => z_iconst (v := 1) B dX8_tick_1 (by decide) k) ?_
  by_cases c1 : x1 < 1
  · replace h := ite_p c1 h
    refine ym 11 (fun B k => z_icmp_lt (tgt := 11) B dX8_tick_2 (by decide) (fun _ => k) (fun q => absurd c1 q)) ?_
    refine y_sub [] [] rfl ?_
    exact tb_X8_tick_11 h hT 
  · replace h := ite_n c1 h
    refine ym 5 (fun B k => z_icmp_lt (tgt := 11) B dX8_tick_2 (by decide) (fun q => absurd q c1) (fun _ => k)) ?_
    refine ym 6 (fun B k => z_iload_n B dX8_tick_5 rfl 1 rfl k) ?_
    refine ym 8 (fun B k => z_bipush (v := 50) B dX8_tick_6 (by decide) k) ?_
    by_cases c2 : x1 ≤ 50
    · replace h := ite_p c2 h
      refine ym 21 (fun B k => z_icmp_le (tgt := 21) B dX8_tick_8 (by decide) (fun _ => k) (fun q => absurd c2 q)) ?_
      refine ym 22 (fun B k => z_iconst (v := 0) B dX8_tick_21 (by decide) k) ?_
      refine ym 23 (fun B k => z_istore_n (lv' := [(2, .int 0), (0, .ref t), (1, .int x1)]) B dX8_tick_22 rfl (by decide) rfl k) ?_
      refine y_sub [(0, .ref t), (1, .int x1), (2, .int 0)] [1, 2, 0] rfl ?_
      exact tl_X8_tick_23 h hT hk_t
    · replace h := ite_n c2 h
      refine ym 11 (fun B k => z_icmp_le (tgt := 21) B dX8_tick_8 (by decide) (fun q => absurd q c2) (fun _ => k)) ?_
      refine y_sub [] [] rfl ?_
      exact tb_X8_tick_11 h hT 
set_option maxRecDepth 100000 in
set_option maxHeartbeats 4000000 in
theorem tl_X8_tick_23x {l : Launch} {g : gx_T} {u : sx_T} {E : String} {As : Array Value} {Qc : Array Value → State → Outcome → State → Prop} (hlt : l.stackTraces = false) {n0 : Nat} : ∀ {n : Nat} {σ : sx_T} {t : Nat} {x1 : Int32} {x2 : Int32}, fl_X8_tick_23 n0 n σ t x1 x2 = some (.inr E, u) → TS g σ → sx_K σ t = 10 → ZY l g cX8_tick RX8 "tick" (some .int) 3 12 302 1 6 true As (QX g As Qc E u) True u σ 23 [(0, .ref t), (1, .int x1), (2, .int x2)] [] := by
  intro n
  induction n with
  | zero =>
    intro σ t x1 x2 h
    exact nomatch h
  | succ n ih_ =>
    have ih := @ih_
    intro σ t x1 x2 h hT hk_t
    unfold fl_X8_tick_23 at h
    refine ym 24 (fun B k => z_iload_n B dX8_tick_23 rfl 2 rfl k) ?_
    refine ym 25 (fun B k => z_iload_n B dX8_tick_24 rfl 1 rfl k) ?_
    by_cases c1 : x1 ≤ x2
    · replace h := ite_p c1 h
      refine ym 52 (fun B k => z_icmp_ge (tgt := 52) B dX8_tick_25 (by decide) (fun _ => k) (fun q => absurd c1 q)) ?_
      refine ym 53 (fun B k => z_aload_n B dX8_tick_52 rfl 0 rfl k) ?_
      refine ym 56 (fun B k => gf_X8_206 (x := (sx_I σ t 8)) B hk_t rfl dX8_tick_53 k) ?_
      exact nomatch (Prod.mk.inj (Option.some.inj h)).1
    · replace h := ite_n c1 h
      refine ym 28 (fun B k => z_icmp_ge (tgt := 52) B dX8_tick_25 (by decide) (fun q => absurd q c1) (fun _ => k)) ?_
      refine ym 29 (fun B k => z_aload_n B dX8_tick_28 rfl 0 rfl k) ?_
      refine ym 30 (fun B k => z_dup B dX8_tick_29 rfl k) ?_
      refine ym 33 (fun B k => gf_X8_206 (x := (sx_I σ t 8)) B hk_t rfl dX8_tick_30 k) ?_
      refine ym 34 (fun B k => z_iconst (v := 1) B dX8_tick_33 (by decide) k) ?_
      refine ym 35 (fun B k => z_iadd B dX8_tick_34 k) ?_
      have j2 := hk_t
      refine ymw (σ' := (wx_I σ t 8 ((sx_I σ t 8) + 1))) 38 e_I (fun B hin k => pf_X8_206 (x := ((sx_I σ t 8) + 1)) B hk_t rfl dX8_tick_35 k) ?_
      have hT := TS_I (k := 8) (x := ((sx_I σ t 8) + 1)) hT hk_t (Or.inl rfl)
      have hk_t := kk_I (σ := σ) (a := t) (k := 8) (x := ((sx_I σ t 8) + 1)) hk_t
      refine ym 39 (fun B k => z_aload_n B dX8_tick_38 rfl 0 rfl k) ?_
      replace h := br_e h
      obtain ⟨u4, h3, h⟩ := h
      have m5 := ct_X8_passTasks l (g := g) h3 hT hk_t
      refine yc_Vv (Al := []) (rest := []) 42 rfl cw_X8_240 cx_9 dX8_tick_39 m5 hk_t rfl (by decide) rfl (Nat.le_of_ble_eq_true rfl) ?_
      have hk_t := k_G m5.1.1 (by decide) hk_t
      have hT := m5.1.1.2.2.2
      refine ym 43 (fun B k => z_aload_n B dX8_tick_42 rfl 0 rfl k) ?_
      replace h := br_e h
      obtain ⟨u7, h6, h⟩ := h
      have m8 := ct_X8_passTimers l (g := g) h6 hT hk_t
      refine yc_Vv (Al := []) (rest := []) 46 rfl cw_X8_243 cx_9 dX8_tick_43 m8 hk_t rfl (by decide) rfl (Nat.le_of_ble_eq_true rfl) ?_
      have hk_t := k_G m8.1.1 (by decide) hk_t
      have hT := m8.1.1.2.2.2
      refine ym 49 (fun B k => z_iinc (v := x2 + 1) (lv' := [(2, .int (x2 + 1)), (0, .ref t), (1, .int x1)]) B dX8_tick_46 2 rfl rfl (by decide) rfl k) ?_
      refine ym 23 (fun B k => z_goto (tgt := 23) B dX8_tick_49 (by decide) k) ?_
      refine y_sub [(0, .ref t), (1, .int x1), (2, .int (x2 + 1))] [1, 2, 0] rfl ?_
      exact ih h hT hk_t
set_option maxRecDepth 100000 in
set_option maxHeartbeats 4000000 in
theorem tb_X8_tick_11x {l : Launch} {g : gx_T} {σ : sx_T} {u : sx_T} {E : String} {As : Array Value} {Qc : Array Value → State → Outcome → State → Prop} (hlt : l.stackTraces = false) {n0 : Nat}  (h : fb_X8_tick_11 n0 σ  = some (.inr E, u)) (hT : TS g σ)  : ZY l g cX8_tick RX8 "tick" (some .int) 3 12 302 1 6 true As (QX g As Qc E u) True u σ 11 [] [] := by
  unfold fb_X8_tick_11 at h
  obtain ⟨h1, rfl⟩ := Prod.mk.inj (Option.some.inj h)
  cases h1
  exact yt_throw hT hlt (text := "ticks are out of range") tw_X8_83_238_87 dX8_tick_11 dX8_tick_14 dX8_tick_15 dX8_tick_17 dX8_tick_20 (by decide) (by decide)
set_option maxRecDepth 100000 in
set_option maxHeartbeats 4000000 in
theorem ct_X8_tickx (l : Launch) (hlt : l.stackTraces = false) {g : gx_T} {σ : sx_T} {u : sx_T} {E : String} {n0 : Nat} {t : Nat} {x1 : Int32} (h : f_X8_tick n0 σ t x1 = some (.inr E, u)) (hT : TS g σ) (hk_t : sx_K σ t = 10) {Qc : Array Value → State → Outcome → State → Prop} : CX l g yX8_tick cX8_tick 3 (some .int) 12 302 [.ref t, .int x1] E u σ Qc := by
  refine yc_metX (by decide) (Nat.le_of_ble_eq_true rfl) ?_
  refine yc_lv (show lv_args 0 [.ref t, .int x1] = [(0, .ref t), (1, .int x1)] from rfl) ?_
  show ZY l g _ _ _ _ _ _ _ _ _ _ _ _ _ _ σ 0 [(0, .ref t), (1, .int x1)] []
  unfold f_X8_tick at h
  refine ym 1 (fun B k => z_iload_n B dX8_tick_0 rfl 1 rfl k) ?_
  refine ym 2 (fun B k => z_iconst (v := 1) B dX8_tick_1 (by decide) k) ?_
  by_cases c1 : x1 < 1
  · replace h := ite_p c1 h
    refine ym 11 (fun B k => z_icmp_lt (tgt := 11) B dX8_tick_2 (by decide) (fun _ => k) (fun q => absurd c1 q)) ?_
    refine y_sub [] [] rfl ?_
    exact tb_X8_tick_11x hlt h hT 
  · replace h := ite_n c1 h
    refine ym 5 (fun B k => z_icmp_lt (tgt := 11) B dX8_tick_2 (by decide) (fun q => absurd q c1) (fun _ => k)) ?_
    refine ym 6 (fun B k => z_iload_n B dX8_tick_5 rfl 1 rfl k) ?_
    refine ym 8 (fun B k => z_bipush (v := 50) B dX8_tick_6 (by decide) k) ?_
    by_cases c2 : x1 ≤ 50
    · replace h := ite_p c2 h
      refine ym 21 (fun B k => z_icmp_le (tgt := 21) B dX8_tick_8 (by decide) (fun _ => k) (fun q => absurd c2 q)) ?_
      refine ym 22 (fun B k => z_iconst (v := 0) B dX8_tick_21 (by decide) k) ?_
      refine ym 23 (fun B k => z_istore_n (lv' := [(2, .int 0), (0, .ref t), (1, .int x1)]) B dX8_tick_22 rfl (by decide) rfl k) ?_
      refine y_sub [(0, .ref t), (1, .int x1), (2, .int 0)] [1, 2, 0] rfl ?_
      exact tl_X8_tick_23x hlt h hT hk_t
    · replace h := ite_n c2 h
      refine ym 11 (fun B k => z_icmp_le (tgt := 21) B dX8_tick_8 (by decide) (fun q => absurd q c2) (fun _ => k)) ?_
      refine y_sub [] [] rfl ?_
      exact tb_X8_tick_11x hlt h hT 
set_option maxRecDepth 100000 in
set_option maxHeartbeats 4000000 in
theorem ct_X8_state (l : Launch) {g : gx_T} {σ : sx_T} {u : sx_T} {r : Int32}  {t : Nat} {x1 : Int32} (h : f_X8_state σ t x1 = some (.inl r, u)) (hT : TS g σ) (hk_t : sx_K σ t = 10) : CT l g yX8_state cX8_state 3 (some .int) 7 136 [.ref t, .int x1] (True) u σ (Qxi g r u) := by
  refine yc_met (by decide) (Nat.le_of_ble_eq_true rfl) ?_
  refine yc_lv (show lv_args 0 [.ref t, .int x1] = [(0, .ref t), (1, .int x1)] from rfl) ?_
  show ZY l g _ _ _ _ _ _ _ _ _ _ _ _ _ _ σ 0 [(0, .ref t), (1, .int x1)] []
  unfold f_X8_state at h
  refine ym 1 (fun B k => z_aload_n B dX8_state_0 rfl 0 rfl k) ?_
  refine ym 2 (fun B k => z_iload_n B dX8_state_1 rfl 1 rfl k) ?_
  replace h := br_e h
  obtain ⟨r2, h1, h⟩ := h
  have m3 := ct_X8_flowAt l (g := g) h1 hT hk_t
  refine yc_Vq (Al := [.int x1]) (rest := []) 5 rfl cw_X8_99 cx_9 dX8_state_2 m3 hk_t rfl (by decide) rfl (Nat.le_of_ble_eq_true rfl) ?_
  have hq_r2 := m3.1.2
  refine ym 6 (fun B k => z_qstore_n (r := r2) (lv' := [(2, va_rf r2), (0, .ref t), (1, .int x1)]) B dX8_state_5 rfl (by decide) rfl k) ?_
  refine ym 7 (fun B k => z_qload_n (r := r2) B dX8_state_6 rfl 0 rfl k) ?_
  rcases r2 with _ | a4
  · replace h := oc_n h
    refine ym 10 (fun B k => z_ifnonnull (r := none) (tgt := 20) B dX8_state_7 (by decide) (fun a h => nomatch h) (fun _ => k)) ?_
    exact nomatch (Prod.mk.inj (Option.some.inj h)).1
  · replace h := oc_s h
    have hk_a4 := hq_r2 a4 rfl
    refine ym 20 (fun B k => z_ifnonnull (r := (some a4)) (tgt := 20) B dX8_state_7 (by decide) (fun _ _ => k) (fun h => nomatch h)) ?_
    refine ym 21 (fun B k => z_aload_n B dX8_state_20 rfl 0 rfl k) ?_
    replace h := br_e h
    obtain ⟨r6, h5, h⟩ := h
    have m7 := ct_X0_hasEnded l (g := g) h5 hT hk_a4
    refine yc_Vi (Al := []) (rest := []) 24 rfl cw_X8_107 cx_1 dX8_state_21 m7 hk_a4 rfl (by decide) rfl (Nat.le_of_ble_eq_true rfl) ?_
    have hz_r6 := m7.1.2
    by_cases c8 : r6 = 0
    · replace h := ite_p c8 h
      refine ym 35 (fun B k => z_if_eq (tgt := 35) B dX8_state_24 (by decide) (fun _ => k) (fun q => absurd c8 q)) ?_
      refine ym 36 (fun B k => z_aload_n B dX8_state_35 rfl 0 rfl k) ?_
      replace h := qv_e h
      obtain ⟨w9, e_w9, h⟩ := h
      have hq_w9 : rk σ w9 7 := rk_T hT hk_a4 rfl (by decide) e_w9
      refine ym 39 (fun B k => gf_X8_249 (x := w9) B hk_a4 e_w9 dX8_state_36 k) ?_
      replace h := bq_e h
      obtain ⟨a10, rfl, h⟩ := h
      have hk_a10 := hq_w9 a10 rfl
      refine ym 42 (fun B k => gf_X8_133 (x := (sx_I σ a10 19)) B hk_a10 rfl dX8_state_39 k) ?_
      by_cases c11 : (sx_I σ a10 19) = 0
      · replace h := ite_p c11 h
        refine ym 49 (fun B k => z_if_eq (tgt := 49) B dX8_state_42 (by decide) (fun _ => k) (fun q => absurd c11 q)) ?_
        refine ym 50 (fun B k => z_iconst (v := 0) B dX8_state_49 (by decide) k) ?_
        obtain ⟨h1, rfl⟩ := Prod.mk.inj (Option.some.inj h)
        obtain rfl := Sum.inl.inj h1
        exact yr_i hT trivial rfl dX8_state_50
      · replace h := ite_n c11 h
        refine ym 45 (fun B k => z_if_eq (tgt := 49) B dX8_state_42 (by decide) (fun q => absurd q c11) (fun _ => k)) ?_
        refine ym 46 (fun B k => z_iconst (v := 5) B dX8_state_45 (by decide) k) ?_
        refine ym 50 (fun B k => z_goto (tgt := 50) B dX8_state_46 (by decide) k) ?_
        obtain ⟨h1, rfl⟩ := Prod.mk.inj (Option.some.inj h)
        obtain rfl := Sum.inl.inj h1
        exact yr_i hT trivial rfl dX8_state_50
    · replace h := ite_n c8 h
      refine ym 27 (fun B k => z_if_eq (tgt := 35) B dX8_state_24 (by decide) (fun q => absurd q c8) (fun _ => k)) ?_
      refine ym 28 (fun B k => z_aload_n B dX8_state_27 rfl 0 rfl k) ?_
      replace h := qv_e h
      obtain ⟨w12, e_w12, h⟩ := h
      have hq_w12 : rk σ w12 3 := rk_T hT hk_a4 rfl (by decide) e_w12
      refine ym 31 (fun B k => gf_X8_179 (x := w12) B hk_a4 e_w12 dX8_state_28 k) ?_
      replace h := bq_e h
      obtain ⟨a13, rfl, h⟩ := h
      have hk_a13 := hq_w12 a13 rfl
      replace h := br_e h
      obtain ⟨r15, h14, h⟩ := h
      have m16 := ct_X1_ending l (g := g) h14 hT hk_a13
      refine yc_Vi (Al := []) (rest := []) 34 rfl cw_X8_246 cx_2 dX8_state_31 m16 hk_a13 rfl (by decide) rfl (Nat.le_of_ble_eq_true rfl) ?_
      obtain ⟨h1, rfl⟩ := Prod.mk.inj (Option.some.inj h)
      obtain rfl := Sum.inl.inj h1
      exact yr_i hT trivial rfl dX8_state_34
set_option maxRecDepth 100000 in
set_option maxHeartbeats 4000000 in
theorem ct_X8_statex (l : Launch) (hlt : l.stackTraces = false) {g : gx_T} {σ : sx_T} {u : sx_T} {E : String}  {t : Nat} {x1 : Int32} (h : f_X8_state σ t x1 = some (.inr E, u)) (hT : TS g σ) (hk_t : sx_K σ t = 10) {Qc : Array Value → State → Outcome → State → Prop} : CX l g yX8_state cX8_state 3 (some .int) 7 136 [.ref t, .int x1] E u σ Qc := by
  refine yc_metX (by decide) (Nat.le_of_ble_eq_true rfl) ?_
  refine yc_lv (show lv_args 0 [.ref t, .int x1] = [(0, .ref t), (1, .int x1)] from rfl) ?_
  show ZY l g _ _ _ _ _ _ _ _ _ _ _ _ _ _ σ 0 [(0, .ref t), (1, .int x1)] []
  unfold f_X8_state at h
  refine ym 1 (fun B k => z_aload_n B dX8_state_0 rfl 0 rfl k) ?_
  refine ym 2 (fun B k => z_iload_n B dX8_state_1 rfl 1 rfl k) ?_
  replace h := br_e h
  obtain ⟨r2, h1, h⟩ := h
  have m3 := ct_X8_flowAt l (g := g) h1 hT hk_t
  refine yc_Vq (Al := [.int x1]) (rest := []) 5 rfl cw_X8_99 cx_9 dX8_state_2 m3 hk_t rfl (by decide) rfl (Nat.le_of_ble_eq_true rfl) ?_
  have hq_r2 := m3.1.2
  refine ym 6 (fun B k => z_qstore_n (r := r2) (lv' := [(2, va_rf r2), (0, .ref t), (1, .int x1)]) B dX8_state_5 rfl (by decide) rfl k) ?_
  refine ym 7 (fun B k => z_qload_n (r := r2) B dX8_state_6 rfl 0 rfl k) ?_
  rcases r2 with _ | a4
  · replace h := oc_n h
    refine ym 10 (fun B k => z_ifnonnull (r := none) (tgt := 20) B dX8_state_7 (by decide) (fun a h => nomatch h) (fun _ => k)) ?_
    obtain ⟨h1, rfl⟩ := Prod.mk.inj (Option.some.inj h)
    cases h1
    exact yt_throw hT hlt (text := "no such workflow") tw_X8_72_153_76 dX8_state_10 dX8_state_13 dX8_state_14 dX8_state_16 dX8_state_19 (by decide) (by decide)
  · replace h := oc_s h
    have hk_a4 := hq_r2 a4 rfl
    refine ym 20 (fun B k => z_ifnonnull (r := (some a4)) (tgt := 20) B dX8_state_7 (by decide) (fun _ _ => k) (fun h => nomatch h)) ?_
    refine ym 21 (fun B k => z_aload_n B dX8_state_20 rfl 0 rfl k) ?_
    replace h := br_e h
    obtain ⟨r6, h5, h⟩ := h
    have m7 := ct_X0_hasEnded l (g := g) h5 hT hk_a4
    refine yc_Vi (Al := []) (rest := []) 24 rfl cw_X8_107 cx_1 dX8_state_21 m7 hk_a4 rfl (by decide) rfl (Nat.le_of_ble_eq_true rfl) ?_
    have hz_r6 := m7.1.2
    by_cases c8 : r6 = 0
    · replace h := ite_p c8 h
      refine ym 35 (fun B k => z_if_eq (tgt := 35) B dX8_state_24 (by decide) (fun _ => k) (fun q => absurd c8 q)) ?_
      refine ym 36 (fun B k => z_aload_n B dX8_state_35 rfl 0 rfl k) ?_
      replace h := qv_e h
      obtain ⟨w9, e_w9, h⟩ := h
      have hq_w9 : rk σ w9 7 := rk_T hT hk_a4 rfl (by decide) e_w9
      refine ym 39 (fun B k => gf_X8_249 (x := w9) B hk_a4 e_w9 dX8_state_36 k) ?_
      replace h := bq_e h
      obtain ⟨a10, rfl, h⟩ := h
      have hk_a10 := hq_w9 a10 rfl
      refine ym 42 (fun B k => gf_X8_133 (x := (sx_I σ a10 19)) B hk_a10 rfl dX8_state_39 k) ?_
      by_cases c11 : (sx_I σ a10 19) = 0
      · replace h := ite_p c11 h
        refine ym 49 (fun B k => z_if_eq (tgt := 49) B dX8_state_42 (by decide) (fun _ => k) (fun q => absurd c11 q)) ?_
        refine ym 50 (fun B k => z_iconst (v := 0) B dX8_state_49 (by decide) k) ?_
        exact nomatch (Prod.mk.inj (Option.some.inj h)).1
      · replace h := ite_n c11 h
        refine ym 45 (fun B k => z_if_eq (tgt := 49) B dX8_state_42 (by decide) (fun q => absurd q c11) (fun _ => k)) ?_
        refine ym 46 (fun B k => z_iconst (v := 5) B dX8_state_45 (by decide) k) ?_
        refine ym 50 (fun B k => z_goto (tgt := 50) B dX8_state_46 (by decide) k) ?_
        exact nomatch (Prod.mk.inj (Option.some.inj h)).1
    · replace h := ite_n c8 h
      refine ym 27 (fun B k => z_if_eq (tgt := 35) B dX8_state_24 (by decide) (fun q => absurd q c8) (fun _ => k)) ?_
      refine ym 28 (fun B k => z_aload_n B dX8_state_27 rfl 0 rfl k) ?_
      replace h := qv_e h
      obtain ⟨w12, e_w12, h⟩ := h
      have hq_w12 : rk σ w12 3 := rk_T hT hk_a4 rfl (by decide) e_w12
      refine ym 31 (fun B k => gf_X8_179 (x := w12) B hk_a4 e_w12 dX8_state_28 k) ?_
      replace h := bq_e h
      obtain ⟨a13, rfl, h⟩ := h
      have hk_a13 := hq_w12 a13 rfl
      replace h := br_e h
      obtain ⟨r15, h14, h⟩ := h
      have m16 := ct_X1_ending l (g := g) h14 hT hk_a13
      refine yc_Vi (Al := []) (rest := []) 34 rfl cw_X8_246 cx_2 dX8_state_31 m16 hk_a13 rfl (by decide) rfl (Nat.le_of_ble_eq_true rfl) ?_
      exact nomatch (Prod.mk.inj (Option.some.inj h)).1
set_option maxRecDepth 100000 in
set_option maxHeartbeats 4000000 in
theorem ct_X5_waitedNumber (l : Launch) {g : gx_T} {σ : sx_T} {r : Int32}  {t : Nat} (h : f_X5_waitedNumber σ t = some r) (hT : TS g σ) (hk_t : sx_K σ t = 7) : CT l g yX5_waitedNumber cX5_waitedNumber 1 (some .int) 0 0 [.ref t] (True) σ σ (Qxi g r σ) := by
  refine yc_met (by decide) (Nat.le_of_ble_eq_true rfl) ?_
  refine yc_lv (show lv_args 0 [.ref t] = [(0, .ref t)] from rfl) ?_
  show ZY l g _ _ _ _ _ _ _ _ _ _ _ _ _ _ σ 0 [(0, .ref t)] []
  unfold f_X5_waitedNumber at h
  refine ym 1 (fun B k => z_aload_n B dX5_waitedNumber_0 rfl 0 rfl k) ?_
  refine ym 4 (fun B k => gf_X5_56 (x := (sx_I σ t 8)) B hk_t rfl dX5_waitedNumber_1 k) ?_
  by_cases c1 : (sx_I σ t 8) = 2
  · replace h := ite_p c1 h
    refine ym 36 (fun B k => z_tableIn (tgt := 36) B dX5_waitedNumber_4 (by rw [c1]; decide) (by rw [c1]; decide) (show _ = some (32 : Int) by rw [c1]; decide) (by decide) k) ?_
    refine ym 37 (fun B k => z_aload_n B dX5_waitedNumber_36 rfl 0 rfl k) ?_
    refine ym 40 (fun B k => gf_X5_65 (x := (sx_J σ t 11)) B hk_t rfl dX5_waitedNumber_37 k) ?_
    refine ym 41 (fun B k => z_l2i (v := (sx_J σ t 11).toInt32) B dX5_waitedNumber_40 rfl k) ?_
    obtain rfl := Option.some.inj h
    exact yr_i hT trivial rfl dX5_waitedNumber_41
  replace h := ite_n c1 h
  by_cases c2 : (sx_I σ t 8) = 3
  · replace h := ite_p c2 h
    refine ym 42 (fun B k => z_tableIn (tgt := 42) B dX5_waitedNumber_4 (by rw [c2]; decide) (by rw [c2]; decide) (show _ = some (38 : Int) by rw [c2]; decide) (by decide) k) ?_
    refine ym 43 (fun B k => z_aload_n B dX5_waitedNumber_42 rfl 0 rfl k) ?_
    refine ym 46 (fun B k => gf_X5_59 (x := (sx_I σ t 9)) B hk_t rfl dX5_waitedNumber_43 k) ?_
    obtain rfl := Option.some.inj h
    exact yr_i hT trivial rfl dX5_waitedNumber_46
  replace h := ite_n c2 h
  by_cases c3 : (sx_I σ t 8) = 4
  · replace h := ite_p c3 h
    refine ym 42 (fun B k => z_tableIn (tgt := 42) B dX5_waitedNumber_4 (by rw [c3]; decide) (by rw [c3]; decide) (show _ = some (38 : Int) by rw [c3]; decide) (by decide) k) ?_
    refine ym 43 (fun B k => z_aload_n B dX5_waitedNumber_42 rfl 0 rfl k) ?_
    refine ym 46 (fun B k => gf_X5_59 (x := (sx_I σ t 9)) B hk_t rfl dX5_waitedNumber_43 k) ?_
    obtain rfl := Option.some.inj h
    exact yr_i hT trivial rfl dX5_waitedNumber_46
  replace h := ite_n c3 h
  by_cases c4 : (sx_I σ t 8) = 5
  · replace h := ite_p c4 h
    refine ym 47 (fun B k => z_tableIn (tgt := 47) B dX5_waitedNumber_4 (by rw [c4]; decide) (by rw [c4]; decide) (show _ = some (43 : Int) by rw [c4]; decide) (by decide) k) ?_
    refine ym 48 (fun B k => z_aload_n B dX5_waitedNumber_47 rfl 0 rfl k) ?_
    refine ym 51 (fun B k => gf_X5_62 (x := (sx_I σ t 10)) B hk_t rfl dX5_waitedNumber_48 k) ?_
    obtain rfl := Option.some.inj h
    exact yr_i hT trivial rfl dX5_waitedNumber_51
  replace h := ite_n c4 h
  refine ym 52 (fun B k => z_tabDf (tgt := 52) (vs := [2, 3, 4, 5]) B dX5_waitedNumber_4 (by decide) (by decide) (by decide) (by intro v hv; simp only [List.mem_cons, List.not_mem_nil, or_false] at hv; rcases hv with rfl | rfl | rfl | rfl; all_goals assumption) k) ?_
  refine ym 53 (fun B k => z_iconst (v := 0) B dX5_waitedNumber_52 (by decide) k) ?_
  obtain rfl := Option.some.inj h
  exact yr_i hT trivial rfl dX5_waitedNumber_53
set_option maxRecDepth 100000 in
set_option maxHeartbeats 4000000 in
theorem ct_X3_size (l : Launch) {g : gx_T} {σ : sx_T} {r : Int32}  {t : Nat} (h : f_X3_size σ t = some r) (hT : TS g σ) (hk_t : sx_K σ t = 5) : CT l g yX3_size cX3_size 1 (some .int) 0 0 [.ref t] (True) σ σ (Qxi g r σ) := by
  refine yc_met (by decide) (Nat.le_of_ble_eq_true rfl) ?_
  refine yc_lv (show lv_args 0 [.ref t] = [(0, .ref t)] from rfl) ?_
  show ZY l g _ _ _ _ _ _ _ _ _ _ _ _ _ _ σ 0 [(0, .ref t)] []
  unfold f_X3_size at h
  refine ym 1 (fun B k => z_aload_n B dX3_size_0 rfl 0 rfl k) ?_
  refine ym 4 (fun B k => gf_X3_15 (x := (sx_I σ t 1)) B hk_t rfl dX3_size_1 k) ?_
  obtain rfl := Option.some.inj h
  exact yr_i hT trivial rfl dX3_size_4
set_option maxRecDepth 100000 in
set_option maxHeartbeats 4000000 in
theorem ct_X6_size (l : Launch) {g : gx_T} {σ : sx_T} {r : Int32}  {t : Nat} (h : f_X6_size σ t = some r) (hT : TS g σ) (hk_t : sx_K σ t = 8) : CT l g yX6_size cX6_size 1 (some .int) 0 0 [.ref t] (True) σ σ (Qxi g r σ) := by
  refine yc_met (by decide) (Nat.le_of_ble_eq_true rfl) ?_
  refine yc_lv (show lv_args 0 [.ref t] = [(0, .ref t)] from rfl) ?_
  show ZY l g _ _ _ _ _ _ _ _ _ _ _ _ _ _ σ 0 [(0, .ref t)] []
  unfold f_X6_size at h
  refine ym 1 (fun B k => z_aload_n B dX6_size_0 rfl 0 rfl k) ?_
  refine ym 4 (fun B k => gf_X6_15 (x := (sx_I σ t 1)) B hk_t rfl dX6_size_1 k) ?_
  obtain rfl := Option.some.inj h
  exact yr_i hT trivial rfl dX6_size_4
set_option maxRecDepth 100000 in
set_option maxHeartbeats 4000000 in
theorem tb_X8_fact_86 {l : Launch} {g : gx_T} {σ : sx_T} {r : Int32} {As : Array Value}  {v2 : Option Nat} {w0_ : Option Nat} (h : fb_X8_fact_86 σ v2 w0_ = some r) (hT : TS g σ) (hq_v2 : rk σ v2 7) (hq_w0_ : rk σ w0_ 9) : ZY l g cX8_fact RX8 "fact" (some .int) 5 1 20 0 0 false As (QM g As (Qxi g r σ)) (True) σ σ 86 [(2, va_rf v2)] [va_rf w0_] := by
  unfold fb_X8_fact_86 at h
  refine ym 88 (fun B k => z_qstore (r := w0_) (lv' := [(4, va_rf w0_), (2, va_rf v2)]) B dX8_fact_86 (by decide) rfl k) ?_
  refine ym 90 (fun B k => z_qload (r := w0_) B dX8_fact_88 0 rfl k) ?_
  rcases w0_ with _ | a1
  · replace h := oc_n h
    refine ym 101 (fun B k => z_ifnull (r := none) (tgt := 101) B dX8_fact_90 (by decide) (fun _ => k) (fun a h => nomatch h)) ?_
    refine ym 102 (fun B k => z_qload_n (r := v2) B dX8_fact_101 rfl 1 rfl k) ?_
    replace h := bq_e h
    obtain ⟨a2, rfl, h⟩ := h
    have hk_a2 := hq_v2 a2 rfl
    replace h := br_e h
    obtain ⟨r4, h3, h⟩ := h
    have m5 := ct_X5_waitedNumber l (g := g) h3 hT hk_a2
    refine yc_Vi (Al := []) (rest := []) 105 rfl cw_X8_305 cx_6 dX8_fact_102 m5 hk_a2 rfl (by decide) rfl (Nat.le_of_ble_eq_true rfl) ?_
    obtain rfl := Option.some.inj h
    exact yr_i hT trivial rfl dX8_fact_105
  · replace h := oc_s h
    have hk_a1 := hq_w0_ a1 rfl
    refine ym 93 (fun B k => z_ifnull (r := (some a1)) (tgt := 101) B dX8_fact_90 (by decide) (fun h => nomatch h) (fun _ _ => k)) ?_
    refine ym 95 (fun B k => z_aload B dX8_fact_93 0 rfl k) ?_
    refine ym 98 (fun B k => gf_X8_304 (x := (sx_I σ a1 0)) B hk_a1 rfl dX8_fact_95 k) ?_
    refine ym 105 (fun B k => z_goto (tgt := 105) B dX8_fact_98 (by decide) k) ?_
    obtain rfl := Option.some.inj h
    exact yr_i hT trivial rfl dX8_fact_105
set_option maxRecDepth 100000 in
set_option maxHeartbeats 4000000 in
theorem ct_X8_fact (l : Launch) {g : gx_T} {σ : sx_T} {r : Int32}  {t : Nat} {v1 : Option Nat} {v2 : Option Nat} {x3 : Int32} (h : f_X8_fact σ t v1 v2 x3 = some r) (hT : TS g σ) (hk_t : sx_K σ t = 10) (hq_v1 : rk σ v1 2) (hq_v2 : rk σ v2 7) : CT l g yX8_fact cX8_fact 5 (some .int) 1 20 [.ref t, va_rf v1, va_rf v2, .int x3] (True) σ σ (Qxi g r σ) := by
  refine yc_met (by decide) (by cases v1 <;> cases v2 <;> exact Nat.le_of_ble_eq_true rfl) ?_
  refine yc_lv (show lv_args 0 [.ref t, va_rf v1, va_rf v2, .int x3] = [(0, .ref t), (1, va_rf v1), (2, va_rf v2), (3, .int x3)] from (by cases v1 <;> cases v2 <;> rfl)) ?_
  show ZY l g _ _ _ _ _ _ _ _ _ _ _ _ _ _ σ 0 [(0, .ref t), (1, va_rf v1), (2, va_rf v2), (3, .int x3)] []
  unfold f_X8_fact at h
  refine ym 1 (fun B k => z_iload_n B dX8_fact_0 rfl 3 rfl k) ?_
  by_cases c1 : x3 = 0
  · replace h := ite_p c1 h
    refine ym 48 (fun B k => z_tableIn (tgt := 48) B dX8_fact_1 (by rw [c1]; decide) (by rw [c1]; decide) (show _ = some (47 : Int) by rw [c1]; decide) (by decide) k) ?_
    refine ym 49 (fun B k => z_qload_n (r := v1) B dX8_fact_48 rfl 1 rfl k) ?_
    replace h := bq_e h
    obtain ⟨a2, rfl, h⟩ := h
    have hk_a2 := hq_v1 a2 rfl
    replace h := qv_e h
    obtain ⟨w3, e_w3, h⟩ := h
    have hq_w3 : rk σ w3 6 := rk_T hT hk_a2 rfl (by decide) e_w3
    refine ym 52 (fun B k => gf_X8_103 (x := w3) B hk_a2 e_w3 dX8_fact_49 k) ?_
    replace h := bq_e h
    obtain ⟨a4, rfl, h⟩ := h
    have hk_a4 := hq_w3 a4 rfl
    refine ym 55 (fun B k => gf_X8_219 (x := (sx_I σ a4 0)) B hk_a4 rfl dX8_fact_52 k) ?_
    obtain rfl := Option.some.inj h
    exact yr_i hT trivial rfl dX8_fact_55
  replace h := ite_n c1 h
  by_cases c5 : x3 = 1
  · replace h := ite_p c5 h
    refine ym 56 (fun B k => z_tableIn (tgt := 56) B dX8_fact_1 (by rw [c5]; decide) (by rw [c5]; decide) (show _ = some (55 : Int) by rw [c5]; decide) (by decide) k) ?_
    refine ym 57 (fun B k => z_qload_n (r := v2) B dX8_fact_56 rfl 2 rfl k) ?_
    replace h := bq_e h
    obtain ⟨a6, rfl, h⟩ := h
    have hk_a6 := hq_v2 a6 rfl
    refine ym 60 (fun B k => gf_X8_292 (x := (sx_I σ a6 5)) B hk_a6 rfl dX8_fact_57 k) ?_
    obtain rfl := Option.some.inj h
    exact yr_i hT trivial rfl dX8_fact_60
  replace h := ite_n c5 h
  by_cases c7 : x3 = 2
  · replace h := ite_p c7 h
    refine ym 61 (fun B k => z_tableIn (tgt := 61) B dX8_fact_1 (by rw [c7]; decide) (by rw [c7]; decide) (show _ = some (60 : Int) by rw [c7]; decide) (by decide) k) ?_
    refine ym 62 (fun B k => z_qload_n (r := v2) B dX8_fact_61 rfl 2 rfl k) ?_
    replace h := bq_e h
    obtain ⟨a8, rfl, h⟩ := h
    have hk_a8 := hq_v2 a8 rfl
    refine ym 65 (fun B k => gf_X8_295 (x := (sx_I σ a8 6)) B hk_a8 rfl dX8_fact_62 k) ?_
    obtain rfl := Option.some.inj h
    exact yr_i hT trivial rfl dX8_fact_65
  replace h := ite_n c7 h
  by_cases c9 : x3 = 3
  · replace h := ite_p c9 h
    refine ym 66 (fun B k => z_tableIn (tgt := 66) B dX8_fact_1 (by rw [c9]; decide) (by rw [c9]; decide) (show _ = some (65 : Int) by rw [c9]; decide) (by decide) k) ?_
    refine ym 67 (fun B k => z_qload_n (r := v2) B dX8_fact_66 rfl 2 rfl k) ?_
    replace h := bq_e h
    obtain ⟨a10, rfl, h⟩ := h
    have hk_a10 := hq_v2 a10 rfl
    refine ym 70 (fun B k => gf_X8_298 (x := (sx_I σ a10 8)) B hk_a10 rfl dX8_fact_67 k) ?_
    obtain rfl := Option.some.inj h
    exact yr_i hT trivial rfl dX8_fact_70
  replace h := ite_n c9 h
  by_cases c11 : x3 = 4
  · replace h := ite_p c11 h
    refine ym 71 (fun B k => z_tableIn (tgt := 71) B dX8_fact_1 (by rw [c11]; decide) (by rw [c11]; decide) (show _ = some (70 : Int) by rw [c11]; decide) (by decide) k) ?_
    refine ym 72 (fun B k => z_qload_n (r := v2) B dX8_fact_71 rfl 2 rfl k) ?_
    replace h := bq_e h
    obtain ⟨a12, rfl, h⟩ := h
    have hk_a12 := hq_v2 a12 rfl
    replace h := br_e h
    obtain ⟨r14, h13, h⟩ := h
    have m15 := ct_X5_waitsForActivity l (g := g) h13 hT hk_a12
    refine yc_Vi (Al := []) (rest := []) 75 rfl cw_X8_301 cx_6 dX8_fact_72 m15 hk_a12 rfl (by decide) rfl (Nat.le_of_ble_eq_true rfl) ?_
    have hz_r14 := m15.1.2
    by_cases c16 : r14 = 0
    · replace h := ite_p c16 h
      refine ym 85 (fun B k => z_if_eq (tgt := 85) B dX8_fact_75 (by decide) (fun _ => k) (fun q => absurd c16 q)) ?_
      refine ym 86 (fun B k => z_null B dX8_fact_85 k) ?_
      refine y_sub [(2, .ref a12)] [2] rfl ?_
      exact tb_X8_fact_86 h hT (rk_a hk_a12) rk_n
    · replace h := ite_n c16 h
      refine ym 78 (fun B k => z_if_eq (tgt := 85) B dX8_fact_75 (by decide) (fun q => absurd q c16) (fun _ => k)) ?_
      refine ym 79 (fun B k => z_qload_n (r := v1) B dX8_fact_78 rfl 1 rfl k) ?_
      replace h := bq_e h
      obtain ⟨a17, rfl, h⟩ := h
      have hk_a17 := hq_v1 a17 rfl
      replace h := qv_e h
      obtain ⟨w18, e_w18, h⟩ := h
      have hq_w18 : rk σ w18 9 := rk_T hT hk_a17 rfl (by decide) e_w18
      refine ym 82 (fun B k => gf_X8_276 (x := w18) B hk_a17 e_w18 dX8_fact_79 k) ?_
      refine ym 86 (fun B k => z_goto (tgt := 86) B dX8_fact_82 (by decide) k) ?_
      refine y_sub [(2, .ref a12)] [2] rfl ?_
      exact tb_X8_fact_86 h hT (rk_a hk_a12) hq_w18
  replace h := ite_n c11 h
  by_cases c19 : x3 = 5
  · replace h := ite_p c19 h
    refine ym 106 (fun B k => z_tableIn (tgt := 106) B dX8_fact_1 (by rw [c19]; decide) (by rw [c19]; decide) (show _ = some (105 : Int) by rw [c19]; decide) (by decide) k) ?_
    refine ym 107 (fun B k => z_qload_n (r := v2) B dX8_fact_106 rfl 2 rfl k) ?_
    replace h := bq_e h
    obtain ⟨a20, rfl, h⟩ := h
    have hk_a20 := hq_v2 a20 rfl
    replace h := qv_e h
    obtain ⟨w21, e_w21, h⟩ := h
    have hq_w21 : rk σ w21 5 := rk_T hT hk_a20 rfl (by decide) e_w21
    refine ym 110 (fun B k => gf_X8_308 (x := w21) B hk_a20 e_w21 dX8_fact_107 k) ?_
    replace h := bq_e h
    obtain ⟨a22, rfl, h⟩ := h
    have hk_a22 := hq_w21 a22 rfl
    replace h := br_e h
    obtain ⟨r24, h23, h⟩ := h
    have m25 := ct_X3_size l (g := g) h23 hT hk_a22
    refine yc_Vi (Al := []) (rest := []) 113 rfl cw_X8_312 cx_4 dX8_fact_110 m25 hk_a22 rfl (by decide) rfl (Nat.le_of_ble_eq_true rfl) ?_
    obtain rfl := Option.some.inj h
    exact yr_i hT trivial rfl dX8_fact_113
  replace h := ite_n c19 h
  by_cases c26 : x3 = 6
  · replace h := ite_p c26 h
    refine ym 114 (fun B k => z_tableIn (tgt := 114) B dX8_fact_1 (by rw [c26]; decide) (by rw [c26]; decide) (show _ = some (113 : Int) by rw [c26]; decide) (by decide) k) ?_
    refine ym 115 (fun B k => z_qload_n (r := v2) B dX8_fact_114 rfl 2 rfl k) ?_
    replace h := bq_e h
    obtain ⟨a27, rfl, h⟩ := h
    have hk_a27 := hq_v2 a27 rfl
    refine ym 118 (fun B k => gf_X8_315 (x := (sx_I σ a27 12)) B hk_a27 rfl dX8_fact_115 k) ?_
    by_cases c28 : (sx_I σ a27 12) = 0
    · replace h := ite_p c28 h
      refine ym 125 (fun B k => z_if_eq (tgt := 125) B dX8_fact_118 (by decide) (fun _ => k) (fun q => absurd c28 q)) ?_
      refine ym 126 (fun B k => z_iconst (v := 0) B dX8_fact_125 (by decide) k) ?_
      obtain rfl := Option.some.inj h
      exact yr_i hT trivial rfl dX8_fact_126
    · replace h := ite_n c28 h
      refine ym 121 (fun B k => z_if_eq (tgt := 125) B dX8_fact_118 (by decide) (fun q => absurd q c28) (fun _ => k)) ?_
      refine ym 122 (fun B k => z_iconst (v := 1) B dX8_fact_121 (by decide) k) ?_
      refine ym 126 (fun B k => z_goto (tgt := 126) B dX8_fact_122 (by decide) k) ?_
      obtain rfl := Option.some.inj h
      exact yr_i hT trivial rfl dX8_fact_126
  replace h := ite_n c26 h
  by_cases c29 : x3 = 7
  · replace h := ite_p c29 h
    refine ym 127 (fun B k => z_tableIn (tgt := 127) B dX8_fact_1 (by rw [c29]; decide) (by rw [c29]; decide) (show _ = some (126 : Int) by rw [c29]; decide) (by decide) k) ?_
    refine ym 128 (fun B k => z_qload_n (r := v2) B dX8_fact_127 rfl 2 rfl k) ?_
    replace h := bq_e h
    obtain ⟨a30, rfl, h⟩ := h
    have hk_a30 := hq_v2 a30 rfl
    refine ym 131 (fun B k => gf_X8_318 (x := (sx_I σ a30 15)) B hk_a30 rfl dX8_fact_128 k) ?_
    by_cases c31 : (sx_I σ a30 15) = 0
    · replace h := ite_p c31 h
      refine ym 138 (fun B k => z_if_eq (tgt := 138) B dX8_fact_131 (by decide) (fun _ => k) (fun q => absurd c31 q)) ?_
      refine ym 139 (fun B k => z_aload_n B dX8_fact_138 rfl 2 rfl k) ?_
      refine ym 142 (fun B k => gf_X8_321 (x := (sx_I σ a30 14)) B hk_a30 rfl dX8_fact_139 k) ?_
      obtain rfl := Option.some.inj h
      exact yr_i hT trivial rfl dX8_fact_142
    · replace h := ite_n c31 h
      refine ym 134 (fun B k => z_if_eq (tgt := 138) B dX8_fact_131 (by decide) (fun q => absurd q c31) (fun _ => k)) ?_
      refine ym 135 (fun B k => z_iconst (v := 0) B dX8_fact_134 (by decide) k) ?_
      refine ym 142 (fun B k => z_goto (tgt := 142) B dX8_fact_135 (by decide) k) ?_
      obtain rfl := Option.some.inj h
      exact yr_i hT trivial rfl dX8_fact_142
  replace h := ite_n c29 h
  refine ym 143 (fun B k => z_tabDf (tgt := 143) (vs := [0, 1, 2, 3, 4, 5, 6, 7]) B dX8_fact_1 (by decide) (by decide) (by decide) (by intro v hv; simp only [List.mem_cons, List.not_mem_nil, or_false] at hv; rcases hv with rfl | rfl | rfl | rfl | rfl | rfl | rfl | rfl; all_goals assumption) k) ?_
  refine ym 144 (fun B k => z_qload_n (r := v2) B dX8_fact_143 rfl 2 rfl k) ?_
  replace h := bq_e h
  obtain ⟨a32, rfl, h⟩ := h
  have hk_a32 := hq_v2 a32 rfl
  replace h := qv_e h
  obtain ⟨w33, e_w33, h⟩ := h
  have hq_w33 : rk σ w33 8 := rk_T hT hk_a32 rfl (by decide) e_w33
  refine ym 147 (fun B k => gf_X8_323 (x := w33) B hk_a32 e_w33 dX8_fact_144 k) ?_
  replace h := bq_e h
  obtain ⟨a34, rfl, h⟩ := h
  have hk_a34 := hq_w33 a34 rfl
  replace h := br_e h
  obtain ⟨r36, h35, h⟩ := h
  have m37 := ct_X6_size l (g := g) h35 hT hk_a34
  refine yc_Vi (Al := []) (rest := []) 150 rfl cw_X8_327 cx_7 dX8_fact_147 m37 hk_a34 rfl (by decide) rfl (Nat.le_of_ble_eq_true rfl) ?_
  obtain rfl := Option.some.inj h
  exact yr_i hT trivial rfl dX8_fact_150
set_option maxRecDepth 100000 in
set_option maxHeartbeats 4000000 in
theorem tb_X8_about_58 {l : Launch} {g : gx_T} {σ : sx_T} {u : sx_T} {r : Int32} {As : Array Value} {n0 : Nat} {t : Nat} {x2 : Int32} {v3 : Option Nat} {w0_ : Option Nat} (h : fb_X8_about_58 n0 σ t x2 v3 w0_ = some (.inl r, u)) (hT : TS g σ) (hk_t : sx_K σ t = 10) (hq_v3 : rk σ v3 2) (hq_w0_ : rk σ w0_ 7) : ZY l g cX8_about RX8 "about" (some .int) 5 7 136 0 0 false As (QM g As (Qxi g r u)) (True) u σ 58 [(0, .ref t), (2, .int x2), (3, va_rf v3)] [va_rf w0_] := by
  unfold fb_X8_about_58 at h
  refine ym 60 (fun B k => z_qstore (r := w0_) (lv' := [(4, va_rf w0_), (0, .ref t), (2, .int x2), (3, va_rf v3)]) B dX8_about_58 (by decide) (by cases v3 <;> rfl) k) ?_
  refine ym 62 (fun B k => z_qload (r := w0_) B dX8_about_60 0 rfl k) ?_
  replace h := bq_e h
  obtain ⟨a1, rfl, h⟩ := h
  have hk_a1 := hq_w0_ a1 rfl
  refine ym 65 (fun B k => gf_X8_133 (x := (sx_I σ a1 19)) B hk_a1 rfl dX8_about_62 k) ?_
  by_cases c2 : (sx_I σ a1 19) = 0
  · replace h := ite_p c2 h
    refine ym 78 (fun B k => z_if_eq (tgt := 78) B dX8_about_65 (by decide) (fun _ => k) (fun q => absurd c2 q)) ?_
    refine ym 79 (fun B k => z_aload_n B dX8_about_78 rfl 1 rfl k) ?_
    refine ym 80 (fun B k => z_qload_n (r := v3) B dX8_about_79 rfl 3 rfl k) ?_
    refine ym 82 (fun B k => z_aload B dX8_about_80 0 rfl k) ?_
    refine ym 83 (fun B k => z_iload_n B dX8_about_82 rfl 2 rfl k) ?_
    replace h := br_e h
    obtain ⟨r4, h3, h⟩ := h
    have m5 := ct_X8_fact l (g := g) h3 hT hk_t hq_v3 (rk_a hk_a1)
    refine yc_Vi (Al := [va_rf v3, .ref a1, .int x2]) (rest := []) 86 rfl cw_X8_255 cx_9 dX8_about_83 m5 hk_t rfl (by decide) rfl (Nat.le_of_ble_eq_true rfl) ?_
    obtain ⟨h1, rfl⟩ := Prod.mk.inj (Option.some.inj h)
    obtain rfl := Sum.inl.inj h1
    exact yr_i hT trivial rfl dX8_about_86
  · replace h := ite_n c2 h
    refine ym 68 (fun B k => z_if_eq (tgt := 78) B dX8_about_65 (by decide) (fun q => absurd q c2) (fun _ => k)) ?_
    exact nomatch (Prod.mk.inj (Option.some.inj h)).1
set_option maxRecDepth 100000 in
set_option maxHeartbeats 4000000 in
theorem ct_X8_about (l : Launch) {g : gx_T} {σ : sx_T} {u : sx_T} {r : Int32} {n0 : Nat} {t : Nat} {x1 : Int32} {x2 : Int32} (h : f_X8_about n0 σ t x1 x2 = some (.inl r, u)) (hT : TS g σ) (hk_t : sx_K σ t = 10) : CT l g yX8_about cX8_about 5 (some .int) 7 136 [.ref t, .int x1, .int x2] (True) u σ (Qxi g r u) := by
  refine yc_met (by decide) (Nat.le_of_ble_eq_true rfl) ?_
  refine yc_lv (show lv_args 0 [.ref t, .int x1, .int x2] = [(0, .ref t), (1, .int x1), (2, .int x2)] from rfl) ?_
  show ZY l g _ _ _ _ _ _ _ _ _ _ _ _ _ _ σ 0 [(0, .ref t), (1, .int x1), (2, .int x2)] []
  unfold f_X8_about at h
  refine ym 1 (fun B k => z_aload_n B dX8_about_0 rfl 0 rfl k) ?_
  refine ym 2 (fun B k => z_iload_n B dX8_about_1 rfl 1 rfl k) ?_
  replace h := br_e h
  obtain ⟨r2, h1, h⟩ := h
  have m3 := ct_X8_flowAt l (g := g) h1 hT hk_t
  refine yc_Vq (Al := [.int x1]) (rest := []) 5 rfl cw_X8_99 cx_9 dX8_about_2 m3 hk_t rfl (by decide) rfl (Nat.le_of_ble_eq_true rfl) ?_
  have hq_r2 := m3.1.2
  refine ym 6 (fun B k => z_qstore_n (r := r2) (lv' := [(3, va_rf r2), (0, .ref t), (1, .int x1), (2, .int x2)]) B dX8_about_5 rfl (by decide) rfl k) ?_
  refine ym 7 (fun B k => z_qload_n (r := r2) B dX8_about_6 rfl 0 rfl k) ?_
  rcases r2 with _ | a4
  · replace h := oc_n h
    refine ym 10 (fun B k => z_ifnonnull (r := none) (tgt := 20) B dX8_about_7 (by decide) (fun a h => nomatch h) (fun _ => k)) ?_
    exact nomatch (Prod.mk.inj (Option.some.inj h)).1
  · replace h := oc_s h
    have hk_a4 := hq_r2 a4 rfl
    refine ym 20 (fun B k => z_ifnonnull (r := (some a4)) (tgt := 20) B dX8_about_7 (by decide) (fun _ _ => k) (fun h => nomatch h)) ?_
    refine ym 21 (fun B k => z_iload_n B dX8_about_20 rfl 3 rfl k) ?_
    refine ym 23 (fun B k => z_bipush (v := 9) B dX8_about_21 (by decide) k) ?_
    replace h := br_e h
    obtain ⟨r6, h5, h⟩ := h
    have m7 := ct_X8_isBelow l (g := g) h5 hT
    refine yc_Si (Al := [.int x2, .int 9]) (rest := []) 26 rfl cw_X8_68 dX8_about_23 m7 rfl (by decide) rfl (Nat.le_of_ble_eq_true rfl) ?_
    have hz_r6 := m7.1.2
    by_cases c8 : r6 = 0
    · replace h := ite_p c8 h
      refine ym 29 (fun B k => z_if_ne (tgt := 39) B dX8_about_26 (by decide) (fun q => absurd c8 q) (fun _ => k)) ?_
      exact nomatch (Prod.mk.inj (Option.some.inj h)).1
    · replace h := ite_n c8 h
      refine ym 39 (fun B k => z_if_ne (tgt := 39) B dX8_about_26 (by decide) (fun _ => k) (fun q => absurd q c8)) ?_
      refine ym 40 (fun B k => z_aload_n B dX8_about_39 rfl 0 rfl k) ?_
      replace h := br_e h
      obtain ⟨r10, h9, h⟩ := h
      have m11 := ct_X0_hasEnded l (g := g) h9 hT hk_a4
      refine yc_Vi (Al := []) (rest := []) 43 rfl cw_X8_107 cx_1 dX8_about_40 m11 hk_a4 rfl (by decide) rfl (Nat.le_of_ble_eq_true rfl) ?_
      have hz_r10 := m11.1.2
      by_cases c12 : r10 = 0
      · replace h := ite_p c12 h
        refine ym 54 (fun B k => z_if_eq (tgt := 54) B dX8_about_43 (by decide) (fun _ => k) (fun q => absurd c12 q)) ?_
        refine ym 55 (fun B k => z_aload_n B dX8_about_54 rfl 0 rfl k) ?_
        replace h := qv_e h
        obtain ⟨w13, e_w13, h⟩ := h
        have hq_w13 : rk σ w13 7 := rk_T hT hk_a4 rfl (by decide) e_w13
        refine ym 58 (fun B k => gf_X8_249 (x := w13) B hk_a4 e_w13 dX8_about_55 k) ?_
        refine y_sub [(0, .ref t), (2, .int x2), (3, .ref a4)] [1, 3, 0] rfl ?_
        exact tb_X8_about_58 h hT hk_t (rk_a hk_a4) hq_w13
      · replace h := ite_n c12 h
        refine ym 46 (fun B k => z_if_eq (tgt := 54) B dX8_about_43 (by decide) (fun q => absurd q c12) (fun _ => k)) ?_
        refine ym 47 (fun B k => z_aload_n B dX8_about_46 rfl 1 rfl k) ?_
        refine ym 48 (fun B k => z_aload_n B dX8_about_47 rfl 0 rfl k) ?_
        replace h := bd_e h
        obtain ⟨r15, u16, h14, h⟩ := h
        have m17 := ct_X8_replayed l (g := g) h14 hT hk_t (rk_a hk_a4)
        refine yc_Vq (Al := [.ref a4]) (rest := []) 51 rfl cw_X8_129 cx_9 dX8_about_48 m17 hk_t rfl (by decide) rfl (Nat.le_of_ble_eq_true rfl) ?_
        have hk_a4 := k_G m17.1.1 (by decide) hk_a4
        have hk_t := k_G m17.1.1 (by decide) hk_t
        have hT := m17.1.1.2.2.2
        have hq_r15 := m17.1.2
        refine ym 58 (fun B k => z_goto (tgt := 58) B dX8_about_51 (by decide) k) ?_
        refine y_sub [(0, .ref t), (2, .int x2), (3, .ref a4)] [1, 3, 0] rfl ?_
        exact tb_X8_about_58 h hT hk_t (rk_a hk_a4) hq_r15
set_option maxRecDepth 100000 in
set_option maxHeartbeats 4000000 in
theorem tb_X8_about_58x {l : Launch} {g : gx_T} {σ : sx_T} {u : sx_T} {E : String} {As : Array Value} {Qc : Array Value → State → Outcome → State → Prop} (hlt : l.stackTraces = false) {n0 : Nat} {t : Nat} {x2 : Int32} {v3 : Option Nat} {w0_ : Option Nat} (h : fb_X8_about_58 n0 σ t x2 v3 w0_ = some (.inr E, u)) (hT : TS g σ) (hk_t : sx_K σ t = 10) (hq_v3 : rk σ v3 2) (hq_w0_ : rk σ w0_ 7) : ZY l g cX8_about RX8 "about" (some .int) 5 7 136 1 6 true As (QX g As Qc E u) True u σ 58 [(0, .ref t), (2, .int x2), (3, va_rf v3)] [va_rf w0_] := by
  unfold fb_X8_about_58 at h
  refine ym 60 (fun B k => z_qstore (r := w0_) (lv' := [(4, va_rf w0_), (0, .ref t), (2, .int x2), (3, va_rf v3)]) B dX8_about_58 (by decide) (by cases v3 <;> rfl) k) ?_
  refine ym 62 (fun B k => z_qload (r := w0_) B dX8_about_60 0 rfl k) ?_
  replace h := bq_e h
  obtain ⟨a1, rfl, h⟩ := h
  have hk_a1 := hq_w0_ a1 rfl
  refine ym 65 (fun B k => gf_X8_133 (x := (sx_I σ a1 19)) B hk_a1 rfl dX8_about_62 k) ?_
  by_cases c2 : (sx_I σ a1 19) = 0
  · replace h := ite_p c2 h
    refine ym 78 (fun B k => z_if_eq (tgt := 78) B dX8_about_65 (by decide) (fun _ => k) (fun q => absurd c2 q)) ?_
    refine ym 79 (fun B k => z_aload_n B dX8_about_78 rfl 1 rfl k) ?_
    refine ym 80 (fun B k => z_qload_n (r := v3) B dX8_about_79 rfl 3 rfl k) ?_
    refine ym 82 (fun B k => z_aload B dX8_about_80 0 rfl k) ?_
    refine ym 83 (fun B k => z_iload_n B dX8_about_82 rfl 2 rfl k) ?_
    replace h := br_e h
    obtain ⟨r4, h3, h⟩ := h
    have m5 := ct_X8_fact l (g := g) h3 hT hk_t hq_v3 (rk_a hk_a1)
    refine yc_Vi (Al := [va_rf v3, .ref a1, .int x2]) (rest := []) 86 rfl cw_X8_255 cx_9 dX8_about_83 m5 hk_t rfl (by decide) rfl (Nat.le_of_ble_eq_true rfl) ?_
    exact nomatch (Prod.mk.inj (Option.some.inj h)).1
  · replace h := ite_n c2 h
    refine ym 68 (fun B k => z_if_eq (tgt := 78) B dX8_about_65 (by decide) (fun q => absurd q c2) (fun _ => k)) ?_
    obtain ⟨h1, rfl⟩ := Prod.mk.inj (Option.some.inj h)
    cases h1
    exact yt_throw hT hlt (text := "it does not go with the code") tw_X8_145_253_149 dX8_about_68 dX8_about_71 dX8_about_72 dX8_about_74 dX8_about_77 (by decide) (by decide)
set_option maxRecDepth 100000 in
set_option maxHeartbeats 4000000 in
theorem ct_X8_aboutx (l : Launch) (hlt : l.stackTraces = false) {g : gx_T} {σ : sx_T} {u : sx_T} {E : String} {n0 : Nat} {t : Nat} {x1 : Int32} {x2 : Int32} (h : f_X8_about n0 σ t x1 x2 = some (.inr E, u)) (hT : TS g σ) (hk_t : sx_K σ t = 10) {Qc : Array Value → State → Outcome → State → Prop} : CX l g yX8_about cX8_about 5 (some .int) 7 136 [.ref t, .int x1, .int x2] E u σ Qc := by
  refine yc_metX (by decide) (Nat.le_of_ble_eq_true rfl) ?_
  refine yc_lv (show lv_args 0 [.ref t, .int x1, .int x2] = [(0, .ref t), (1, .int x1), (2, .int x2)] from rfl) ?_
  show ZY l g _ _ _ _ _ _ _ _ _ _ _ _ _ _ σ 0 [(0, .ref t), (1, .int x1), (2, .int x2)] []
  unfold f_X8_about at h
  refine ym 1 (fun B k => z_aload_n B dX8_about_0 rfl 0 rfl k) ?_
  refine ym 2 (fun B k => z_iload_n B dX8_about_1 rfl 1 rfl k) ?_
  replace h := br_e h
  obtain ⟨r2, h1, h⟩ := h
  have m3 := ct_X8_flowAt l (g := g) h1 hT hk_t
  refine yc_Vq (Al := [.int x1]) (rest := []) 5 rfl cw_X8_99 cx_9 dX8_about_2 m3 hk_t rfl (by decide) rfl (Nat.le_of_ble_eq_true rfl) ?_
  have hq_r2 := m3.1.2
  refine ym 6 (fun B k => z_qstore_n (r := r2) (lv' := [(3, va_rf r2), (0, .ref t), (1, .int x1), (2, .int x2)]) B dX8_about_5 rfl (by decide) rfl k) ?_
  refine ym 7 (fun B k => z_qload_n (r := r2) B dX8_about_6 rfl 0 rfl k) ?_
  rcases r2 with _ | a4
  · replace h := oc_n h
    refine ym 10 (fun B k => z_ifnonnull (r := none) (tgt := 20) B dX8_about_7 (by decide) (fun a h => nomatch h) (fun _ => k)) ?_
    obtain ⟨h1, rfl⟩ := Prod.mk.inj (Option.some.inj h)
    cases h1
    exact yt_throw hT hlt (text := "no such workflow") tw_X8_72_153_76 dX8_about_10 dX8_about_13 dX8_about_14 dX8_about_16 dX8_about_19 (by decide) (by decide)
  · replace h := oc_s h
    have hk_a4 := hq_r2 a4 rfl
    refine ym 20 (fun B k => z_ifnonnull (r := (some a4)) (tgt := 20) B dX8_about_7 (by decide) (fun _ _ => k) (fun h => nomatch h)) ?_
    refine ym 21 (fun B k => z_iload_n B dX8_about_20 rfl 3 rfl k) ?_
    refine ym 23 (fun B k => z_bipush (v := 9) B dX8_about_21 (by decide) k) ?_
    replace h := br_e h
    obtain ⟨r6, h5, h⟩ := h
    have m7 := ct_X8_isBelow l (g := g) h5 hT
    refine yc_Si (Al := [.int x2, .int 9]) (rest := []) 26 rfl cw_X8_68 dX8_about_23 m7 rfl (by decide) rfl (Nat.le_of_ble_eq_true rfl) ?_
    have hz_r6 := m7.1.2
    by_cases c8 : r6 = 0
    · replace h := ite_p c8 h
      refine ym 29 (fun B k => z_if_ne (tgt := 39) B dX8_about_26 (by decide) (fun q => absurd c8 q) (fun _ => k)) ?_
      obtain ⟨h1, rfl⟩ := Prod.mk.inj (Option.some.inj h)
      cases h1
      exact yt_throw hT hlt (text := "no such fact") tw_X8_83_251_87 dX8_about_29 dX8_about_32 dX8_about_33 dX8_about_35 dX8_about_38 (by decide) (by decide)
    · replace h := ite_n c8 h
      refine ym 39 (fun B k => z_if_ne (tgt := 39) B dX8_about_26 (by decide) (fun _ => k) (fun q => absurd q c8)) ?_
      refine ym 40 (fun B k => z_aload_n B dX8_about_39 rfl 0 rfl k) ?_
      replace h := br_e h
      obtain ⟨r10, h9, h⟩ := h
      have m11 := ct_X0_hasEnded l (g := g) h9 hT hk_a4
      refine yc_Vi (Al := []) (rest := []) 43 rfl cw_X8_107 cx_1 dX8_about_40 m11 hk_a4 rfl (by decide) rfl (Nat.le_of_ble_eq_true rfl) ?_
      have hz_r10 := m11.1.2
      by_cases c12 : r10 = 0
      · replace h := ite_p c12 h
        refine ym 54 (fun B k => z_if_eq (tgt := 54) B dX8_about_43 (by decide) (fun _ => k) (fun q => absurd c12 q)) ?_
        refine ym 55 (fun B k => z_aload_n B dX8_about_54 rfl 0 rfl k) ?_
        replace h := qv_e h
        obtain ⟨w13, e_w13, h⟩ := h
        have hq_w13 : rk σ w13 7 := rk_T hT hk_a4 rfl (by decide) e_w13
        refine ym 58 (fun B k => gf_X8_249 (x := w13) B hk_a4 e_w13 dX8_about_55 k) ?_
        refine y_sub [(0, .ref t), (2, .int x2), (3, .ref a4)] [1, 3, 0] rfl ?_
        exact tb_X8_about_58x hlt h hT hk_t (rk_a hk_a4) hq_w13
      · replace h := ite_n c12 h
        refine ym 46 (fun B k => z_if_eq (tgt := 54) B dX8_about_43 (by decide) (fun q => absurd q c12) (fun _ => k)) ?_
        refine ym 47 (fun B k => z_aload_n B dX8_about_46 rfl 1 rfl k) ?_
        refine ym 48 (fun B k => z_aload_n B dX8_about_47 rfl 0 rfl k) ?_
        replace h := bd_e h
        obtain ⟨r15, u16, h14, h⟩ := h
        have m17 := ct_X8_replayed l (g := g) h14 hT hk_t (rk_a hk_a4)
        refine yc_Vq (Al := [.ref a4]) (rest := []) 51 rfl cw_X8_129 cx_9 dX8_about_48 m17 hk_t rfl (by decide) rfl (Nat.le_of_ble_eq_true rfl) ?_
        have hk_a4 := k_G m17.1.1 (by decide) hk_a4
        have hk_t := k_G m17.1.1 (by decide) hk_t
        have hT := m17.1.1.2.2.2
        have hq_r15 := m17.1.2
        refine ym 58 (fun B k => z_goto (tgt := 58) B dX8_about_51 (by decide) k) ?_
        refine y_sub [(0, .ref t), (2, .int x2), (3, .ref a4)] [1, 3, 0] rfl ?_
        exact tb_X8_about_58x hlt h hT hk_t (rk_a hk_a4) hq_r15
