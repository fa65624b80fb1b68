set_option maxRecDepth 100000 in
set_option maxHeartbeats 4000000 in
theorem ct_X7_loseTry (l : Launch) {g : gx_T} {σ : sx_T} {u : sx_T}  {t : Nat} {x1 : Int32} (h : f_X7_loseTry σ t x1 = some u) (hT : TS g σ) (hk_t : sx_K σ t = 9) : CT l g yX7_loseTry cX7_loseTry 2 none 2 45 [.ref t, .int x1] (True) u σ (Qxv g u) := by
  refine yc_met (by decide) (Nat.le_of_ble_eq_true rfl) ?_
  refine yc_lv (show lv_args 0 [.ref t, .int x1] = [(0, .ref t), (1, .int x1)] from rfl) ?_
  show ZY l g _ _ _ _ _ _ _ _ _ _ _ _ _ _ σ 0 [(0, .ref t), (1, .int x1)] []
  unfold f_X7_loseTry at h
  refine ym 1 (fun B k => z_aload_n B dX7_loseTry_0 rfl 0 rfl k) ?_
  refine ym 2 (fun B k => z_dup B dX7_loseTry_1 rfl k) ?_
  refine ym 5 (fun B k => gf_X7_28 (x := (sx_I σ t 4)) B hk_t rfl dX7_loseTry_2 k) ?_
  refine ym 6 (fun B k => z_iconst (v := 1) B dX7_loseTry_5 (by decide) k) ?_
  refine ym 7 (fun B k => z_iadd B dX7_loseTry_6 k) ?_
  have j1 := hk_t
  refine ymw (σ' := (wx_I σ t 4 ((sx_I σ t 4) + 1))) 10 e_I (fun B hin k => pf_X7_28 (x := ((sx_I σ t 4) + 1)) B hk_t rfl dX7_loseTry_7 k) ?_
  have hT := TS_I (k := 4) (x := ((sx_I σ t 4) + 1)) hT hk_t (Or.inl rfl)
  have hk_t := kk_I (σ := σ) (a := t) (k := 4) (x := ((sx_I σ t 4) + 1)) hk_t
  refine ym 11 (fun B k => z_aload_n B dX7_loseTry_10 rfl 0 rfl k) ?_
  refine ym 14 (fun B k => gf_X7_28 (x := ((sx_I σ t 4) + 1)) B hk_t rI_s dX7_loseTry_11 k) ?_
  refine ym 15 (fun B k => z_iconst (v := 3) B dX7_loseTry_14 (by decide) k) ?_
  by_cases c2 : ((sx_I σ t 4) + 1) < 3
  · replace h := ite_p c2 h
    refine ym 25 (fun B k => z_icmp_lt (tgt := 25) B dX7_loseTry_15 (by decide) (fun _ => k) (fun q => absurd c2 q)) ?_
    refine ym 26 (fun B k => z_aload_n B dX7_loseTry_25 rfl 0 rfl k) ?_
    refine ym 27 (fun B k => z_iconst (v := 2) B dX7_loseTry_26 (by decide) k) ?_
    have j3 := hk_t
    refine ymw (σ' := (wx_I (wx_I σ t 4 ((sx_I σ t 4) + 1)) t 3 2)) 30 e_I (fun B hin k => pf_X7_9 (x := 2) B hk_t rfl dX7_loseTry_27 k) ?_
    have hT := TS_I (k := 3) (x := 2) hT hk_t (Or.inl rfl)
    have hk_t := kk_I (σ := (wx_I σ t 4 ((sx_I σ t 4) + 1))) (a := t) (k := 3) (x := 2) hk_t
    refine ym 31 (fun B k => z_aload_n B dX7_loseTry_30 rfl 0 rfl k) ?_
    refine ym 32 (fun B k => z_iload_n B dX7_loseTry_31 rfl 1 rfl k) ?_
    refine ym 33 (fun B k => z_iconst (v := 1) B dX7_loseTry_32 (by decide) k) ?_
    refine ym 34 (fun B k => z_aload_n B dX7_loseTry_33 rfl 0 rfl k) ?_
    refine ym 37 (fun B k => gf_X7_28 (x := ((sx_I σ t 4) + 1)) B hk_t (rI_n (by decide) rI_s) dX7_loseTry_34 k) ?_
    refine ym 38 (fun B k => z_ishl B dX7_loseTry_37 k) ?_
    refine ym 39 (fun B k => z_iadd B dX7_loseTry_38 k) ?_
    have j4 := hk_t
    refine ymw (σ' := (wx_I (wx_I (wx_I σ t 4 ((sx_I σ t 4) + 1)) t 3 2) t 6 (x1 + (1 <<< (((sx_I σ t 4) + 1) &&& 31))))) 42 e_I (fun B hin k => pf_X7_34 (x := (x1 + (1 <<< (((sx_I σ t 4) + 1) &&& 31)))) B hk_t rfl dX7_loseTry_39 k) ?_
    have hT := TS_I (k := 6) (x := (x1 + (1 <<< (((sx_I σ t 4) + 1) &&& 31)))) hT hk_t (Or.inl rfl)
    have hk_t := kk_I (σ := (wx_I (wx_I σ t 4 ((sx_I σ t 4) + 1)) t 3 2)) (a := t) (k := 6) (x := (x1 + (1 <<< (((sx_I σ t 4) + 1) &&& 31)))) hk_t
    obtain rfl := Option.some.inj h
    exact yr_v hT trivial rfl dX7_loseTry_42
  · replace h := ite_n c2 h
    refine ym 18 (fun B k => z_icmp_lt (tgt := 25) B dX7_loseTry_15 (by decide) (fun q => absurd q c2) (fun _ => k)) ?_
    refine ym 19 (fun B k => z_aload_n B dX7_loseTry_18 rfl 0 rfl k) ?_
    refine ym 20 (fun B k => z_iconst (v := 3) B dX7_loseTry_19 (by decide) k) ?_
    refine ym 21 (fun B k => z_iconst (v := 0) B dX7_loseTry_20 (by decide) k) ?_
    replace h := br_e h
    obtain ⟨u6, h5, h⟩ := h
    have m7 := ct_X7_finish l (g := g) h5 hT hk_t
    refine yc_Vv (Al := [.int 3, .int 0]) (rest := []) 24 rfl cw_X7_54 cx_8 dX7_loseTry_21 m7 hk_t rfl (by decide) rfl (Nat.le_of_ble_eq_true rfl) ?_
    have hk_t := k_G m7.1.1 (by decide) hk_t
    have hT := m7.1.1.2.2.2
    obtain rfl := Option.some.inj h
    exact yr_v hT trivial rfl dX7_loseTry_24
set_option maxRecDepth 100000 in
set_option maxHeartbeats 4000000 in
theorem ct_X2_addLast (l : Launch) {g : gx_T} {σ : sx_T} {u : sx_T}  {t : Nat} {v1 : Option Nat} (h : f_X2_addLast σ t v1 = some u) (hT : TS g σ) (hk_t : sx_K σ t = 4) (hq_v1 : rk σ v1 2) : CT l g yX2_addLast cX2_addLast 2 none 0 0 [.ref t, va_rf v1] (True) u σ (Qxv g u) := by
  refine yc_met (by decide) (by cases v1 <;> exact Nat.le_of_ble_eq_true rfl) ?_
  refine yc_lv (show lv_args 0 [.ref t, va_rf v1] = [(0, .ref t), (1, va_rf v1)] from (by cases v1 <;> rfl)) ?_
  show ZY l g _ _ _ _ _ _ _ _ _ _ _ _ _ _ σ 0 [(0, .ref t), (1, va_rf v1)] []
  unfold f_X2_addLast at h
  refine ym 1 (fun B k => z_qload_n (r := v1) B dX2_addLast_0 rfl 1 rfl k) ?_
  rcases v1 with _ | a1
  · replace h := oc_n h
    refine ym 43 (fun B k => z_ifnull (r := none) (tgt := 43) B dX2_addLast_1 (by decide) (fun _ => k) (fun a h => nomatch h)) ?_
    obtain rfl := Option.some.inj h
    exact yr_v hT trivial rfl dX2_addLast_43
  · replace h := oc_s h
    have hk_a1 := hq_v1 a1 rfl
    refine ym 4 (fun B k => z_ifnull (r := (some a1)) (tgt := 43) B dX2_addLast_1 (by decide) (fun h => nomatch h) (fun _ _ => k)) ?_
    refine ym 5 (fun B k => z_aload_n B dX2_addLast_4 rfl 0 rfl k) ?_
    refine ym 8 (fun B k => gf_X2_21 (x := (sx_I σ t 2)) B hk_t rfl dX2_addLast_5 k) ?_
    by_cases c2 : (sx_I σ t 2) < 0
    · replace h := ite_p c2 h
      refine ym 43 (fun B k => z_if_lt (tgt := 43) B dX2_addLast_8 (by decide) (fun _ => k) (fun q => absurd c2 q)) ?_
      obtain rfl := Option.some.inj h
      exact yr_v hT trivial rfl dX2_addLast_43
    · replace h := ite_n c2 h
      refine ym 11 (fun B k => z_if_lt (tgt := 43) B dX2_addLast_8 (by decide) (fun q => absurd q c2) (fun _ => k)) ?_
      refine ym 12 (fun B k => z_aload_n B dX2_addLast_11 rfl 0 rfl k) ?_
      refine ym 15 (fun B k => gf_X2_21 (x := (sx_I σ t 2)) B hk_t rfl dX2_addLast_12 k) ?_
      refine ym 16 (fun B k => z_aload_n B dX2_addLast_15 rfl 0 rfl k) ?_
      replace h := qv_e h
      obtain ⟨w3, e_w3, h⟩ := h
      have hq_w3 : rk σ w3 15 := rk_T hT hk_t rfl (by decide) e_w3
      refine ym 19 (fun B k => gf_X2_11 (x := w3) B hk_t e_w3 dX2_addLast_16 k) ?_
      replace h := bq_e h
      obtain ⟨a4, rfl, h⟩ := h
      have hk_a4 := hq_w3 a4 rfl
      refine ym 20 (fun B k => z_alen (kd := 15) (ti := 3) (v := Int32.ofNat (sx_N σ a4)) B hk_a4 (by decide) rfl rfl dX2_addLast_19 k) ?_
      by_cases c5 : (Int32.ofNat (sx_N σ a4)) ≤ (sx_I σ t 2)
      · replace h := ite_p c5 h
        refine ym 43 (fun B k => z_icmp_ge (tgt := 43) B dX2_addLast_20 (by decide) (fun _ => k) (fun q => absurd c5 q)) ?_
        obtain rfl := Option.some.inj h
        exact yr_v hT trivial rfl dX2_addLast_43
      · replace h := ite_n c5 h
        refine ym 23 (fun B k => z_icmp_ge (tgt := 43) B dX2_addLast_20 (by decide) (fun q => absurd q c5) (fun _ => k)) ?_
        refine ym 24 (fun B k => z_aload_n B dX2_addLast_23 rfl 0 rfl k) ?_
        replace h := qv_e h
        obtain ⟨w6, e_w6, h⟩ := h
        have hq_w6 : rk σ w6 15 := rk_T hT hk_t rfl (by decide) e_w6
        refine ym 27 (fun B k => gf_X2_11 (x := w6) B hk_t e_w6 dX2_addLast_24 k) ?_
        refine ym 28 (fun B k => z_aload_n B dX2_addLast_27 rfl 0 rfl k) ?_
        refine ym 31 (fun B k => gf_X2_21 (x := (sx_I σ t 2)) B hk_t rfl dX2_addLast_28 k) ?_
        refine ym 32 (fun B k => z_aload_n B dX2_addLast_31 rfl 1 rfl k) ?_
        replace h := bq_e h
        obtain ⟨a7, rfl, h⟩ := h
        have hk_a7 := hq_w6 a7 rfl
        replace h := ck_e h
        obtain ⟨hi_8, h⟩ := h
        have j9 := hk_a7
        refine ymw (σ' := (wx_R σ a7 (ti (sx_I σ t 2)) (some a1))) 33 e_R (fun B _ k => z_qast (j := (ti (sx_I σ t 2))) (kd := 15) (ti := 3) B cx_1 hk_a1 hk_a7 (by decide) rfl rfl hi_8 rfl dX2_addLast_32 k) ?_
        have hT := TS_R (k := (ti (sx_I σ t 2))) (v := (some a1)) hT hk_a7 (Or.inr (rk_a hk_a1)) (Or.inl (by decide))
        have hk_t := kk_R (σ := σ) (a := a7) (k := (ti (sx_I σ t 2))) (x := (some a1)) hk_t
        have hk_a1 := kk_R (σ := σ) (a := a7) (k := (ti (sx_I σ t 2))) (x := (some a1)) hk_a1
        refine ym 34 (fun B k => z_aload_n B dX2_addLast_33 rfl 0 rfl k) ?_
        refine ym 35 (fun B k => z_dup B dX2_addLast_34 rfl k) ?_
        refine ym 38 (fun B k => gf_X2_21 (x := (sx_I σ t 2)) B hk_t (rI_R rfl) dX2_addLast_35 k) ?_
        refine ym 39 (fun B k => z_iconst (v := 1) B dX2_addLast_38 (by decide) k) ?_
        refine ym 40 (fun B k => z_iadd B dX2_addLast_39 k) ?_
        have j10 := hk_t
        refine ymw (σ' := (wx_I (wx_R σ a7 (ti (sx_I σ t 2)) (some a1)) t 2 ((sx_I σ t 2) + 1))) 43 e_I (fun B hin k => pf_X2_21 (x := ((sx_I σ t 2) + 1)) B hk_t rfl dX2_addLast_40 k) ?_
        have hT := TS_I (k := 2) (x := ((sx_I σ t 2) + 1)) hT hk_t (Or.inl rfl)
        have hk_t := kk_I (σ := (wx_R σ a7 (ti (sx_I σ t 2)) (some a1))) (a := t) (k := 2) (x := ((sx_I σ t 2) + 1)) hk_t
        have hk_a1 := kk_I (σ := (wx_R σ a7 (ti (sx_I σ t 2)) (some a1))) (a := t) (k := 2) (x := ((sx_I σ t 2) + 1)) hk_a1
        obtain rfl := Option.some.inj h
        exact yr_v hT trivial rfl dX2_addLast_43
set_option maxRecDepth 100000 in
set_option maxHeartbeats 4000000 in
theorem ct_X2_isEmpty (l : Launch) {g : gx_T} {σ : sx_T} {r : Int32}  {t : Nat} (h : f_X2_isEmpty σ t = some r) (hT : TS g σ) (hk_t : sx_K σ t = 4) : CT l g yX2_isEmpty cX2_isEmpty 1 (some .boolean) 0 0 [.ref t] (r = 0 ∨ r = 1) σ σ (Qxi g r σ) := by
  refine yc_met (by decide) (Nat.le_of_ble_eq_true rfl) ?_
  refine yc_lv (show lv_args 0 [.ref t] = [(0, .ref t)] from rfl) ?_
  show ZY l g _ _ _ _ _ _ _ _ _ _ _ _ _ _ σ 0 [(0, .ref t)] []
  unfold f_X2_isEmpty at h
  refine ym 1 (fun B k => z_aload_n B dX2_isEmpty_0 rfl 0 rfl k) ?_
  refine ym 4 (fun B k => gf_X2_17 (x := (sx_I σ t 1)) B hk_t rfl dX2_isEmpty_1 k) ?_
  refine ym 5 (fun B k => z_aload_n B dX2_isEmpty_4 rfl 0 rfl k) ?_
  refine ym 8 (fun B k => gf_X2_21 (x := (sx_I σ t 2)) B hk_t rfl dX2_isEmpty_5 k) ?_
  by_cases c1 : (sx_I σ t 1) < (sx_I σ t 2)
  · replace h := ite_p c1 h
    refine ym 15 (fun B k => z_icmp_lt (tgt := 15) B dX2_isEmpty_8 (by decide) (fun _ => k) (fun q => absurd c1 q)) ?_
    refine ym 16 (fun B k => z_iconst (v := 0) B dX2_isEmpty_15 (by decide) k) ?_
    obtain rfl := Option.some.inj h
    exact yr_z hT (Or.inl rfl) rfl (Or.inl rfl) dX2_isEmpty_16
  · replace h := ite_n c1 h
    refine ym 11 (fun B k => z_icmp_lt (tgt := 15) B dX2_isEmpty_8 (by decide) (fun q => absurd q c1) (fun _ => k)) ?_
    refine ym 12 (fun B k => z_iconst (v := 1) B dX2_isEmpty_11 (by decide) k) ?_
    refine ym 16 (fun B k => z_goto (tgt := 16) B dX2_isEmpty_12 (by decide) k) ?_
    obtain rfl := Option.some.inj h
    exact yr_z hT (Or.inr rfl) rfl (Or.inr rfl) dX2_isEmpty_16
set_option maxRecDepth 100000 in
set_option maxHeartbeats 4000000 in
theorem tb_X2_removeFirst_30 {l : Launch} {g : gx_T} {σ : sx_T} {u : sx_T} {r : Option Nat} {As : Array Value}  {t : Nat} (h : fb_X2_removeFirst_30 σ t = some (r, u)) (hT : TS g σ) (hk_t : sx_K σ t = 4) : ZY l g cX2_removeFirst RX2 "removeFirst" (some (.object "Loomkeeper$Flow")) 2 0 0 0 0 false As (QM g As (Qxq g r u)) (rk u r 2) u σ 30 [(0, .ref t)] [] := by
  unfold fb_X2_removeFirst_30 at h
  refine ym 31 (fun B k => z_aload_n B dX2_removeFirst_30 rfl 0 rfl k) ?_
  refine ym 32 (fun B k => z_iconst (v := 0) B dX2_removeFirst_31 (by decide) k) ?_
  have j1 := hk_t
  refine ymw (σ' := (wx_I σ t 1 0)) 35 e_I (fun B hin k => pf_X2_17 (x := 0) B hk_t rfl dX2_removeFirst_32 k) ?_
  have hT := TS_I (k := 1) (x := 0) hT hk_t (Or.inl rfl)
  have hk_t := kk_I (σ := σ) (a := t) (k := 1) (x := 0) hk_t
  refine ym 36 (fun B k => z_aload_n B dX2_removeFirst_35 rfl 0 rfl k) ?_
  refine ym 37 (fun B k => z_iconst (v := 0) B dX2_removeFirst_36 (by decide) k) ?_
  have j2 := hk_t
  refine ymw (σ' := (wx_I (wx_I σ t 1 0) t 2 0)) 40 e_I (fun B hin k => pf_X2_21 (x := 0) B hk_t rfl dX2_removeFirst_37 k) ?_
  have hT := TS_I (k := 2) (x := 0) hT hk_t (Or.inl rfl)
  have hk_t := kk_I (σ := (wx_I σ t 1 0)) (a := t) (k := 2) (x := 0) hk_t
  refine ym 41 (fun B k => z_null B dX2_removeFirst_40 k) ?_
  obtain ⟨rfl, rfl⟩ := Prod.mk.inj (Option.some.inj h)
  exact yr_q (v := none) hT rk_n rfl dX2_removeFirst_41
set_option maxRecDepth 100000 in
set_option maxHeartbeats 4000000 in
theorem ct_X2_removeFirst (l : Launch) {g : gx_T} {σ : sx_T} {u : sx_T} {r : Option Nat}  {t : Nat} (h : f_X2_removeFirst σ t = some (r, u)) (hT : TS g σ) (hk_t : sx_K σ t = 4) : CT l g yX2_removeFirst cX2_removeFirst 2 (some (.object "Loomkeeper$Flow")) 0 0 [.ref t] (rk u r 2) u σ (Qxq g r u) := by
  refine yc_met (by decide) (Nat.le_of_ble_eq_true rfl) ?_
  refine yc_lv (show lv_args 0 [.ref t] = [(0, .ref t)] from rfl) ?_
  show ZY l g _ _ _ _ _ _ _ _ _ _ _ _ _ _ σ 0 [(0, .ref t)] []
  unfold f_X2_removeFirst at h
  refine ym 1 (fun B k => z_aload_n B dX2_removeFirst_0 rfl 0 rfl k) ?_
  refine ym 4 (fun B k => gf_X2_17 (x := (sx_I σ t 1)) B hk_t rfl dX2_removeFirst_1 k) ?_
  by_cases c1 : (sx_I σ t 1) < 0
  · replace h := ite_p c1 h
    refine ym 30 (fun B k => z_if_lt (tgt := 30) B dX2_removeFirst_4 (by decide) (fun _ => k) (fun q => absurd c1 q)) ?_
    refine y_sub [(0, .ref t)] [0] rfl ?_
    exact tb_X2_removeFirst_30 h hT hk_t
  · replace h := ite_n c1 h
    refine ym 7 (fun B k => z_if_lt (tgt := 30) B dX2_removeFirst_4 (by decide) (fun q => absurd q c1) (fun _ => k)) ?_
    refine ym 8 (fun B k => z_aload_n B dX2_removeFirst_7 rfl 0 rfl k) ?_
    refine ym 11 (fun B k => gf_X2_17 (x := (sx_I σ t 1)) B hk_t rfl dX2_removeFirst_8 k) ?_
    refine ym 12 (fun B k => z_aload_n B dX2_removeFirst_11 rfl 0 rfl k) ?_
    refine ym 15 (fun B k => gf_X2_21 (x := (sx_I σ t 2)) B hk_t rfl dX2_removeFirst_12 k) ?_
    by_cases c2 : (sx_I σ t 2) ≤ (sx_I σ t 1)
    · replace h := ite_p c2 h
      refine ym 30 (fun B k => z_icmp_ge (tgt := 30) B dX2_removeFirst_15 (by decide) (fun _ => k) (fun q => absurd c2 q)) ?_
      refine y_sub [(0, .ref t)] [0] rfl ?_
      exact tb_X2_removeFirst_30 h hT hk_t
    · replace h := ite_n c2 h
      refine ym 18 (fun B k => z_icmp_ge (tgt := 30) B dX2_removeFirst_15 (by decide) (fun q => absurd q c2) (fun _ => k)) ?_
      refine ym 19 (fun B k => z_aload_n B dX2_removeFirst_18 rfl 0 rfl k) ?_
      refine ym 22 (fun B k => gf_X2_17 (x := (sx_I σ t 1)) B hk_t rfl dX2_removeFirst_19 k) ?_
      refine ym 23 (fun B k => z_aload_n B dX2_removeFirst_22 rfl 0 rfl k) ?_
      replace h := qv_e h
      obtain ⟨w3, e_w3, h⟩ := h
      have hq_w3 : rk σ w3 15 := rk_T hT hk_t rfl (by decide) e_w3
      refine ym 26 (fun B k => gf_X2_11 (x := w3) B hk_t e_w3 dX2_removeFirst_23 k) ?_
      replace h := bq_e h
      obtain ⟨a4, rfl, h⟩ := h
      have hk_a4 := hq_w3 a4 rfl
      refine ym 27 (fun B k => z_alen (kd := 15) (ti := 3) (v := Int32.ofNat (sx_N σ a4)) B hk_a4 (by decide) rfl rfl dX2_removeFirst_26 k) ?_
      by_cases c5 : (sx_I σ t 1) < (Int32.ofNat (sx_N σ a4))
      · replace h := ite_p c5 h
        refine ym 42 (fun B k => z_icmp_lt (tgt := 42) B dX2_removeFirst_27 (by decide) (fun _ => k) (fun q => absurd c5 q)) ?_
        refine ym 43 (fun B k => z_aload_n B dX2_removeFirst_42 rfl 0 rfl k) ?_
        replace h := qv_e h
        obtain ⟨w6, e_w6, h⟩ := h
        have hq_w6 : rk σ w6 15 := rk_T hT hk_t rfl (by decide) e_w6
        refine ym 46 (fun B k => gf_X2_11 (x := w6) B hk_t e_w6 dX2_removeFirst_43 k) ?_
        refine ym 47 (fun B k => z_aload_n B dX2_removeFirst_46 rfl 0 rfl k) ?_
        refine ym 50 (fun B k => gf_X2_17 (x := (sx_I σ t 1)) B hk_t rfl dX2_removeFirst_47 k) ?_
        replace h := bq_e h
        obtain ⟨a7, rfl, h⟩ := h
        have hk_a7 := hq_w6 a7 rfl
        replace h := ck_e h
        obtain ⟨hi_8, h⟩ := h
        replace h := qv_e h
        obtain ⟨w9, e_w9, h⟩ := h
        have hq_w9 : rk σ w9 2 := rk_T hT hk_a7 rfl (by decide) e_w9
        refine ym 51 (fun B k => z_qald (j := (ti (sx_I σ t 1))) (kd := 15) (ti := 3) (r := w9) B hk_a7 (by decide) rfl rfl hi_8 e_w9 dX2_removeFirst_50 k) ?_
        refine ym 52 (fun B k => z_qstore_n (r := w9) (lv' := [(1, va_rf w9), (0, .ref t)]) B dX2_removeFirst_51 rfl (by decide) rfl k) ?_
        refine ym 53 (fun B k => z_aload_n B dX2_removeFirst_52 rfl 1 rfl k) ?_
        refine ym 54 (fun B k => z_dup B dX2_removeFirst_53 rfl k) ?_
        refine ym 57 (fun B k => gf_X2_17 (x := (sx_I σ t 1)) B hk_t rfl dX2_removeFirst_54 k) ?_
        refine ym 58 (fun B k => z_iconst (v := 1) B dX2_removeFirst_57 (by decide) k) ?_
        refine ym 59 (fun B k => z_iadd B dX2_removeFirst_58 k) ?_
        have j10 := hk_t
        refine ymw (σ' := (wx_I σ t 1 ((sx_I σ t 1) + 1))) 62 e_I (fun B hin k => pf_X2_17 (x := ((sx_I σ t 1) + 1)) B hk_t rfl dX2_removeFirst_59 k) ?_
        have hT := TS_I (k := 1) (x := ((sx_I σ t 1) + 1)) hT hk_t (Or.inl rfl)
        have hq_w9 := qk_I (σ := σ) (a := t) (k := 1) (x := ((sx_I σ t 1) + 1)) hq_w9
        have hk_t := kk_I (σ := σ) (a := t) (k := 1) (x := ((sx_I σ t 1) + 1)) hk_t
        refine ym 63 (fun B k => z_qload_n (r := w9) B dX2_removeFirst_62 rfl 0 rfl k) ?_
        obtain ⟨rfl, rfl⟩ := Prod.mk.inj (Option.some.inj h)
        exact yr_q (v := w9) hT hq_w9 rfl dX2_removeFirst_63
      · replace h := ite_n c5 h
        refine ym 30 (fun B k => z_icmp_lt (tgt := 42) B dX2_removeFirst_27 (by decide) (fun q => absurd q c5) (fun _ => k)) ?_
        refine y_sub [(0, .ref t)] [0] rfl ?_
        exact tb_X2_removeFirst_30 h hT hk_t
set_option maxRecDepth 100000 in
set_option maxHeartbeats 4000000 in
theorem ct_X2_last (l : Launch) {g : gx_T} {σ : sx_T} {r : Option Nat}  {t : Nat} (h : f_X2_last σ t = some r) (hT : TS g σ) (hk_t : sx_K σ t = 4) : CT l g yX2_last cX2_last 2 (some (.object "Loomkeeper$Flow")) 0 0 [.ref t] (rk σ r 2) σ σ (Qxq g r σ) := by
  refine yc_met (by decide) (Nat.le_of_ble_eq_true rfl) ?_
  refine yc_lv (show lv_args 0 [.ref t] = [(0, .ref t)] from rfl) ?_
  show ZY l g _ _ _ _ _ _ _ _ _ _ _ _ _ _ σ 0 [(0, .ref t)] []
  unfold f_X2_last at h
  refine ym 1 (fun B k => z_aload_n B dX2_last_0 rfl 0 rfl k) ?_
  refine ym 4 (fun B k => gf_X2_21 (x := (sx_I σ t 2)) B hk_t rfl dX2_last_1 k) ?_
  refine ym 5 (fun B k => z_iconst (v := 1) B dX2_last_4 (by decide) k) ?_
  refine ym 6 (fun B k => z_isub B dX2_last_5 k) ?_
  refine ym 7 (fun B k => z_istore_n (lv' := [(1, .int ((sx_I σ t 2) - 1)), (0, .ref t)]) B dX2_last_6 rfl (by decide) rfl k) ?_
  refine ym 8 (fun B k => z_iload_n B dX2_last_7 rfl 0 rfl k) ?_
  refine ym 9 (fun B k => z_aload_n B dX2_last_8 rfl 1 rfl k) ?_
  refine ym 12 (fun B k => gf_X2_17 (x := (sx_I σ t 1)) B hk_t rfl dX2_last_9 k) ?_
  by_cases c1 : ((sx_I σ t 2) - 1) < (sx_I σ t 1)
  · replace h := ite_p c1 h
    refine ym 37 (fun B k => z_icmp_lt (tgt := 37) B dX2_last_12 (by decide) (fun _ => k) (fun q => absurd c1 q)) ?_
    refine ym 38 (fun B k => z_null B dX2_last_37 k) ?_
    obtain rfl := Option.some.inj h
    exact yr_q (v := none) hT rk_n rfl dX2_last_38
  · replace h := ite_n c1 h
    refine ym 15 (fun B k => z_icmp_lt (tgt := 37) B dX2_last_12 (by decide) (fun q => absurd q c1) (fun _ => k)) ?_
    refine ym 16 (fun B k => z_iload_n B dX2_last_15 rfl 0 rfl k) ?_
    by_cases c2 : ((sx_I σ t 2) - 1) < 0
    · replace h := ite_p c2 h
      refine ym 37 (fun B k => z_if_lt (tgt := 37) B dX2_last_16 (by decide) (fun _ => k) (fun q => absurd c2 q)) ?_
      refine ym 38 (fun B k => z_null B dX2_last_37 k) ?_
      obtain rfl := Option.some.inj h
      exact yr_q (v := none) hT rk_n rfl dX2_last_38
    · replace h := ite_n c2 h
      refine ym 19 (fun B k => z_if_lt (tgt := 37) B dX2_last_16 (by decide) (fun q => absurd q c2) (fun _ => k)) ?_
      refine ym 20 (fun B k => z_iload_n B dX2_last_19 rfl 0 rfl k) ?_
      refine ym 21 (fun B k => z_aload_n B dX2_last_20 rfl 1 rfl k) ?_
      replace h := qv_e h
      obtain ⟨w3, e_w3, h⟩ := h
      have hq_w3 : rk σ w3 15 := rk_T hT hk_t rfl (by decide) e_w3
      refine ym 24 (fun B k => gf_X2_11 (x := w3) B hk_t e_w3 dX2_last_21 k) ?_
      replace h := bq_e h
      obtain ⟨a4, rfl, h⟩ := h
      have hk_a4 := hq_w3 a4 rfl
      refine ym 25 (fun B k => z_alen (kd := 15) (ti := 3) (v := Int32.ofNat (sx_N σ a4)) B hk_a4 (by decide) rfl rfl dX2_last_24 k) ?_
      by_cases c5 : (Int32.ofNat (sx_N σ a4)) ≤ ((sx_I σ t 2) - 1)
      · replace h := ite_p c5 h
        refine ym 37 (fun B k => z_icmp_ge (tgt := 37) B dX2_last_25 (by decide) (fun _ => k) (fun q => absurd c5 q)) ?_
        refine ym 38 (fun B k => z_null B dX2_last_37 k) ?_
        obtain rfl := Option.some.inj h
        exact yr_q (v := none) hT rk_n rfl dX2_last_38
      · replace h := ite_n c5 h
        refine ym 28 (fun B k => z_icmp_ge (tgt := 37) B dX2_last_25 (by decide) (fun q => absurd q c5) (fun _ => k)) ?_
        refine ym 29 (fun B k => z_aload_n B dX2_last_28 rfl 1 rfl k) ?_
        replace h := qv_e h
        obtain ⟨w6, e_w6, h⟩ := h
        have hq_w6 : rk σ w6 15 := rk_T hT hk_t rfl (by decide) e_w6
        refine ym 32 (fun B k => gf_X2_11 (x := w6) B hk_t e_w6 dX2_last_29 k) ?_
        refine ym 33 (fun B k => z_iload_n B dX2_last_32 rfl 0 rfl k) ?_
        replace h := bq_e h
        obtain ⟨a7, rfl, h⟩ := h
        have hk_a7 := hq_w6 a7 rfl
        replace h := ck_e h
        obtain ⟨hi_8, h⟩ := h
        replace h := qv_e h
        obtain ⟨w9, e_w9, h⟩ := h
        have hq_w9 : rk σ w9 2 := rk_T hT hk_a7 rfl (by decide) e_w9
        refine ym 34 (fun B k => z_qald (j := (ti ((sx_I σ t 2) - 1))) (kd := 15) (ti := 3) (r := w9) B hk_a7 (by decide) rfl rfl hi_8 e_w9 dX2_last_33 k) ?_
        refine ym 38 (fun B k => z_goto (tgt := 38) B dX2_last_34 (by decide) k) ?_
        obtain rfl := Option.some.inj h
        exact yr_q (v := w9) hT hq_w9 rfl dX2_last_38
set_option maxRecDepth 100000 in
set_option maxHeartbeats 4000000 in
theorem ct_X5_waitsForActivity (l : Launch) {g : gx_T} {σ : sx_T} {r : Int32}  {t : Nat} (h : f_X5_waitsForActivity σ t = some r) (hT : TS g σ) (hk_t : sx_K σ t = 7) : CT l g yX5_waitsForActivity cX5_waitsForActivity 1 (some .boolean) 0 0 [.ref t] (r = 0 ∨ r = 1) σ σ (Qxi g r σ) := by
  refine yc_met (by decide) (Nat.le_of_ble_eq_true rfl) ?_
  refine yc_lv (show lv_args 0 [.ref t] = [(0, .ref t)] from rfl) ?_
  show ZY l g _ _ _ _ _ _ _ _ _ _ _ _ _ _ σ 0 [(0, .ref t)] []
  unfold f_X5_waitsForActivity at h
  refine ym 1 (fun B k => z_aload_n B dX5_waitsForActivity_0 rfl 0 rfl k) ?_
  refine ym 4 (fun B k => gf_X5_56 (x := (sx_I σ t 8)) B hk_t rfl dX5_waitsForActivity_1 k) ?_
  refine ym 5 (fun B k => z_iconst (v := 1) B dX5_waitsForActivity_4 (by decide) k) ?_
  by_cases c1 : (sx_I σ t 8) = 1
  · replace h := ite_p c1 h
    refine ym 17 (fun B k => z_icmp_eq (tgt := 17) B dX5_waitsForActivity_5 (by decide) (fun _ => k) (fun q => absurd c1 q)) ?_
    refine ym 18 (fun B k => z_iconst (v := 1) B dX5_waitsForActivity_17 (by decide) k) ?_
    refine ym 22 (fun B k => z_goto (tgt := 22) B dX5_waitsForActivity_18 (by decide) k) ?_
    obtain rfl := Option.some.inj h
    exact yr_z hT (Or.inr rfl) rfl (Or.inr rfl) dX5_waitsForActivity_22
  · replace h := ite_n c1 h
    refine ym 8 (fun B k => z_icmp_eq (tgt := 17) B dX5_waitsForActivity_5 (by decide) (fun q => absurd q c1) (fun _ => k)) ?_
    refine ym 9 (fun B k => z_aload_n B dX5_waitsForActivity_8 rfl 0 rfl k) ?_
    refine ym 12 (fun B k => gf_X5_56 (x := (sx_I σ t 8)) B hk_t rfl dX5_waitsForActivity_9 k) ?_
    refine ym 14 (fun B k => z_bipush (v := 6) B dX5_waitsForActivity_12 (by decide) k) ?_
    by_cases c2 : (sx_I σ t 8) = 6
    · replace h := ite_p c2 h
      refine ym 17 (fun B k => z_icmp_ne (tgt := 21) B dX5_waitsForActivity_14 (by decide) (fun q => absurd c2 q) (fun _ => k)) ?_
      refine ym 18 (fun B k => z_iconst (v := 1) B dX5_waitsForActivity_17 (by decide) k) ?_
      refine ym 22 (fun B k => z_goto (tgt := 22) B dX5_waitsForActivity_18 (by decide) k) ?_
      obtain rfl := Option.some.inj h
      exact yr_z hT (Or.inr rfl) rfl (Or.inr rfl) dX5_waitsForActivity_22
    · replace h := ite_n c2 h
      refine ym 21 (fun B k => z_icmp_ne (tgt := 21) B dX5_waitsForActivity_14 (by decide) (fun _ => k) (fun q => absurd q c2)) ?_
      refine ym 22 (fun B k => z_iconst (v := 0) B dX5_waitsForActivity_21 (by decide) k) ?_
      obtain rfl := Option.some.inj h
      exact yr_z hT (Or.inl rfl) rfl (Or.inl rfl) dX5_waitsForActivity_22
set_option maxRecDepth 100000 in
set_option maxHeartbeats 4000000 in
theorem ct_X0_letGo (l : Launch) {g : gx_T} {σ : sx_T} {u : sx_T}  {t : Nat} (h : f_X0_letGo σ t = some u) (hT : TS g σ) (hk_t : sx_K σ t = 2) : CT l g yX0_letGo cX0_letGo 2 none 1 20 [.ref t] (True) u σ (Qxv g u) := by
  refine yc_met (by decide) (Nat.le_of_ble_eq_true rfl) ?_
  refine yc_lv (show lv_args 0 [.ref t] = [(0, .ref t)] from rfl) ?_
  show ZY l g _ _ _ _ _ _ _ _ _ _ _ _ _ _ σ 0 [(0, .ref t)] []
  unfold f_X0_letGo at h
  refine ym 1 (fun B k => z_aload_n B dX0_letGo_0 rfl 0 rfl k) ?_
  replace h := qv_e h
  obtain ⟨w1, e_w1, h⟩ := h
  have hq_w1 : rk σ w1 9 := rk_T hT hk_t rfl (by decide) e_w1
  refine ym 4 (fun B k => gf_X0_69 (x := w1) B hk_t e_w1 dX0_letGo_1 k) ?_
  refine ym 5 (fun B k => z_qstore_n (r := w1) (lv' := [(1, va_rf w1), (0, .ref t)]) B dX0_letGo_4 rfl (by decide) rfl k) ?_
  refine ym 6 (fun B k => z_qload_n (r := w1) B dX0_letGo_5 rfl 0 rfl k) ?_
  rcases w1 with _ | a2
  · replace h := oc_n h
    refine ym 33 (fun B k => z_ifnull (r := none) (tgt := 33) B dX0_letGo_6 (by decide) (fun _ => k) (fun a h => nomatch h)) ?_
    obtain rfl := Option.some.inj h
    exact yr_v hT trivial rfl dX0_letGo_33
  · replace h := oc_s h
    have hk_a2 := hq_w1 a2 rfl
    refine ym 9 (fun B k => z_ifnull (r := (some a2)) (tgt := 33) B dX0_letGo_6 (by decide) (fun h => nomatch h) (fun _ _ => k)) ?_
    refine ym 10 (fun B k => z_aload_n B dX0_letGo_9 rfl 1 rfl k) ?_
    replace h := qv_e h
    obtain ⟨w3, e_w3, h⟩ := h
    have hq_w3 : rk σ w3 7 := rk_T hT hk_t rfl (by decide) e_w3
    refine ym 13 (fun B k => gf_X0_32 (x := w3) B hk_t e_w3 dX0_letGo_10 k) ?_
    replace h := bq_e h
    obtain ⟨a4, rfl, h⟩ := h
    have hk_a4 := hq_w3 a4 rfl
    refine ym 16 (fun B k => gf_X0_49 (x := (sx_I σ a4 19)) B hk_a4 rfl dX0_letGo_13 k) ?_
    by_cases c5 : (sx_I σ a4 19) = 0
    · replace h := ite_p c5 h
      refine ym 19 (fun B k => z_if_ne (tgt := 33) B dX0_letGo_16 (by decide) (fun q => absurd c5 q) (fun _ => k)) ?_
      refine ym 20 (fun B k => z_aload_n B dX0_letGo_19 rfl 1 rfl k) ?_
      replace h := qv_e h
      obtain ⟨w6, e_w6, h⟩ := h
      have hq_w6 : rk σ w6 7 := rk_T hT hk_t rfl (by decide) e_w6
      refine ym 23 (fun B k => gf_X0_32 (x := w6) B hk_t e_w6 dX0_letGo_20 k) ?_
      replace h := bq_e h
      obtain ⟨a7, rfl, h⟩ := h
      have hk_a7 := hq_w6 a7 rfl
      replace h := br_e h
      obtain ⟨r9, h8, h⟩ := h
      have m10 := ct_X5_waitsForActivity l (g := g) h8 hT hk_a7
      refine yc_Vi (Al := []) (rest := []) 26 rfl cw_X0_73 cx_6 dX0_letGo_23 m10 hk_a7 rfl (by decide) rfl (Nat.le_of_ble_eq_true rfl) ?_
      have hz_r9 := m10.1.2
      by_cases c11 : r9 = 0
      · replace h := ite_p c11 h
        refine ym 29 (fun B k => z_if_ne (tgt := 33) B dX0_letGo_26 (by decide) (fun q => absurd c11 q) (fun _ => k)) ?_
        refine ym 30 (fun B k => z_aload_n B dX0_letGo_29 rfl 0 rfl k) ?_
        replace h := br_e h
        obtain ⟨u13, h12, h⟩ := h
        have m14 := ct_X7_close l (g := g) h12 hT hk_a2
        refine yc_Vv (Al := []) (rest := []) 33 rfl cw_X0_76 cx_8 dX0_letGo_30 m14 hk_a2 rfl (by decide) rfl (Nat.le_of_ble_eq_true rfl) ?_
        have hk_a2 := k_G m14.1.1 (by decide) hk_a2
        have hk_t := k_G m14.1.1 (by decide) hk_t
        have hT := m14.1.1.2.2.2
        obtain rfl := Option.some.inj h
        exact yr_v hT trivial rfl dX0_letGo_33
      · replace h := ite_n c11 h
        refine ym 33 (fun B k => z_if_ne (tgt := 33) B dX0_letGo_26 (by decide) (fun _ => k) (fun q => absurd q c11)) ?_
        obtain rfl := Option.some.inj h
        exact yr_v hT trivial rfl dX0_letGo_33
    · replace h := ite_n c5 h
      refine ym 33 (fun B k => z_if_ne (tgt := 33) B dX0_letGo_16 (by decide) (fun _ => k) (fun q => absurd q c5)) ?_
      obtain rfl := Option.some.inj h
      exact yr_v hT trivial rfl dX0_letGo_33
set_option maxRecDepth 100000 in
set_option maxHeartbeats 4000000 in
theorem ct_X5_wantsEvent (l : Launch) {g : gx_T} {σ : sx_T} {r : Int32}  {t : Nat} (h : f_X5_wantsEvent σ t = some r) (hT : TS g σ) (hk_t : sx_K σ t = 7) : CT l g yX5_wantsEvent cX5_wantsEvent 1 (some .boolean) 0 0 [.ref t] (r = 0 ∨ r = 1) σ σ (Qxi g r σ) := by
  refine yc_met (by decide) (Nat.le_of_ble_eq_true rfl) ?_
  refine yc_lv (show lv_args 0 [.ref t] = [(0, .ref t)] from rfl) ?_
  show ZY l g _ _ _ _ _ _ _ _ _ _ _ _ _ _ σ 0 [(0, .ref t)] []
  unfold f_X5_wantsEvent at h
  refine ym 1 (fun B k => z_aload_n B dX5_wantsEvent_0 rfl 0 rfl k) ?_
  refine ym 4 (fun B k => gf_X5_91 (x := (sx_I σ t 19)) B hk_t rfl dX5_wantsEvent_1 k) ?_
  by_cases c1 : (sx_I σ t 19) = 0
  · replace h := ite_p c1 h
    refine ym 7 (fun B k => z_if_ne (tgt := 19) B dX5_wantsEvent_4 (by decide) (fun q => absurd c1 q) (fun _ => k)) ?_
    refine ym 8 (fun B k => z_aload_n B dX5_wantsEvent_7 rfl 0 rfl k) ?_
    refine ym 11 (fun B k => gf_X5_82 (x := (sx_I σ t 16)) B hk_t rfl dX5_wantsEvent_8 k) ?_
    refine ym 12 (fun B k => z_iconst (v := (-1)) B dX5_wantsEvent_11 (by decide) k) ?_
    by_cases c2 : (sx_I σ t 16) = (-1)
    · replace h := ite_p c2 h
      refine ym 19 (fun B k => z_icmp_eq (tgt := 19) B dX5_wantsEvent_12 (by decide) (fun _ => k) (fun q => absurd c2 q)) ?_
      refine ym 20 (fun B k => z_iconst (v := 0) B dX5_wantsEvent_19 (by decide) k) ?_
      obtain rfl := Option.some.inj h
      exact yr_z hT (Or.inl rfl) rfl (Or.inl rfl) dX5_wantsEvent_20
    · replace h := ite_n c2 h
      refine ym 15 (fun B k => z_icmp_eq (tgt := 19) B dX5_wantsEvent_12 (by decide) (fun q => absurd q c2) (fun _ => k)) ?_
      refine ym 16 (fun B k => z_iconst (v := 1) B dX5_wantsEvent_15 (by decide) k) ?_
      refine ym 20 (fun B k => z_goto (tgt := 20) B dX5_wantsEvent_16 (by decide) k) ?_
      obtain rfl := Option.some.inj h
      exact yr_z hT (Or.inr rfl) rfl (Or.inr rfl) dX5_wantsEvent_20
  · replace h := ite_n c1 h
    refine ym 19 (fun B k => z_if_ne (tgt := 19) B dX5_wantsEvent_4 (by decide) (fun _ => k) (fun q => absurd q c1)) ?_
    refine ym 20 (fun B k => z_iconst (v := 0) B dX5_wantsEvent_19 (by decide) k) ?_
    obtain rfl := Option.some.inj h
    exact yr_z hT (Or.inl rfl) rfl (Or.inl rfl) dX5_wantsEvent_20
set_option maxRecDepth 100000 in
set_option maxHeartbeats 4000000 in
theorem ct_X8_programAt (l : Launch) {g : gx_T} {σ : sx_T} {r : Option Nat}  {t : Nat} {x1 : Int32} (h : f_X8_programAt σ t x1 = some r) (hT : TS g σ) (hk_t : sx_K σ t = 10) : CT l g yX8_programAt cX8_programAt 2 (some (.object "Loomkeeper$Program")) 0 0 [.ref t, .int x1] (rk σ r 6) σ σ (Qxq g r σ) := by
  refine yc_met (by decide) (Nat.le_of_ble_eq_true rfl) ?_
  refine yc_lv (show lv_args 0 [.ref t, .int x1] = [(0, .ref t), (1, .int x1)] from rfl) ?_
  show ZY l g _ _ _ _ _ _ _ _ _ _ _ _ _ _ σ 0 [(0, .ref t), (1, .int x1)] []
  unfold f_X8_programAt at h
  refine ym 1 (fun B k => z_iload_n B dX8_programAt_0 rfl 1 rfl k) ?_
  by_cases c1 : x1 < 0
  · replace h := ite_p c1 h
    refine ym 22 (fun B k => z_if_lt (tgt := 22) B dX8_programAt_1 (by decide) (fun _ => k) (fun q => absurd c1 q)) ?_
    refine ym 23 (fun B k => z_null B dX8_programAt_22 k) ?_
    obtain rfl := Option.some.inj h
    exact yr_q (v := none) hT rk_n rfl dX8_programAt_23
  · replace h := ite_n c1 h
    refine ym 4 (fun B k => z_if_lt (tgt := 22) B dX8_programAt_1 (by decide) (fun q => absurd q c1) (fun _ => k)) ?_
    refine ym 5 (fun B k => z_iload_n B dX8_programAt_4 rfl 1 rfl k) ?_
    refine ym 6 (fun B k => z_aload_n B dX8_programAt_5 rfl 0 rfl k) ?_
    replace h := qv_e h
    obtain ⟨w2, e_w2, h⟩ := h
    have hq_w2 : rk σ w2 16 := rk_T hT hk_t rfl (by decide) e_w2
    refine ym 9 (fun B k => gf_X8_11 (x := w2) B hk_t e_w2 dX8_programAt_6 k) ?_
    replace h := bq_e h
    obtain ⟨a3, rfl, h⟩ := h
    have hk_a3 := hq_w2 a3 rfl
    refine ym 10 (fun B k => z_alen (kd := 16) (ti := 4) (v := Int32.ofNat (sx_N σ a3)) B hk_a3 (by decide) rfl rfl dX8_programAt_9 k) ?_
    by_cases c4 : (Int32.ofNat (sx_N σ a3)) ≤ x1
    · replace h := ite_p c4 h
      refine ym 22 (fun B k => z_icmp_ge (tgt := 22) B dX8_programAt_10 (by decide) (fun _ => k) (fun q => absurd c4 q)) ?_
      refine ym 23 (fun B k => z_null B dX8_programAt_22 k) ?_
      obtain rfl := Option.some.inj h
      exact yr_q (v := none) hT rk_n rfl dX8_programAt_23
    · replace h := ite_n c4 h
      refine ym 13 (fun B k => z_icmp_ge (tgt := 22) B dX8_programAt_10 (by decide) (fun q => absurd q c4) (fun _ => k)) ?_
      refine ym 14 (fun B k => z_aload_n B dX8_programAt_13 rfl 0 rfl k) ?_
      replace h := qv_e h
      obtain ⟨w5, e_w5, h⟩ := h
      have hq_w5 : rk σ w5 16 := rk_T hT hk_t rfl (by decide) e_w5
      refine ym 17 (fun B k => gf_X8_11 (x := w5) B hk_t e_w5 dX8_programAt_14 k) ?_
      refine ym 18 (fun B k => z_iload_n B dX8_programAt_17 rfl 1 rfl k) ?_
      replace h := bq_e h
      obtain ⟨a6, rfl, h⟩ := h
      have hk_a6 := hq_w5 a6 rfl
      replace h := ck_e h
      obtain ⟨hi_7, h⟩ := h
      replace h := qv_e h
      obtain ⟨w8, e_w8, h⟩ := h
      have hq_w8 : rk σ w8 6 := rk_T hT hk_a6 rfl (by decide) e_w8
      refine ym 19 (fun B k => z_qald (j := (ti x1)) (kd := 16) (ti := 4) (r := w8) B hk_a6 (by decide) rfl rfl hi_7 e_w8 dX8_programAt_18 k) ?_
      refine ym 23 (fun B k => z_goto (tgt := 23) B dX8_programAt_19 (by decide) k) ?_
      obtain rfl := Option.some.inj h
      exact yr_q (v := w8) hT hq_w8 rfl dX8_programAt_23
set_option maxRecDepth 100000 in
set_option maxHeartbeats 4000000 in
theorem tb_X8_open_83 {l : Launch} {g : gx_T} {σ : sx_T} {u : sx_T} {r : Option Nat} {As : Array Value}  {v1 : Option Nat} {x2 : Int32} {v5 : Option Nat} {y0 : Int32} {w1_ : Option Nat} (h : fb_X8_open_83 σ v1 x2 v5 y0 w1_ = some (r, u)) (hT : TS g σ) (hq_v1 : rk σ v1 6) (hq_v5 : rk σ v5 2) (hq_w1_ : rk σ w1_ 2) : ZY l g cX8_open RX8 "open" (some (.object "Loomkeeper$Flow")) 6 2 43 0 0 false As (QM g As (Qxq g r u)) (rk u r 2) u σ 83 [(1, va_rf v1), (2, .int x2), (5, va_rf v5)] [.int y0, va_rf w1_] := by
  unfold fb_X8_open_83 at h
  replace h := bq_e h
  obtain ⟨a1, rfl, h⟩ := h
  have hk_a1 := hq_w1_ a1 rfl
  have j2 := hk_a1
  refine ymw (σ' := (wx_I σ a1 5 y0)) 86 e_I (fun B hin k => pf_X8_406 (x := y0) B hk_a1 rfl dX8_open_83 k) ?_
  have hT := TS_I (k := 5) (x := y0) hT hk_a1 (Or.inl rfl)
  have hq_v1 := qk_I (σ := σ) (a := a1) (k := 5) (x := y0) hq_v1
  have hq_v5 := qk_I (σ := σ) (a := a1) (k := 5) (x := y0) hq_v5
  refine ym 88 (fun B k => z_qload (r := v5) B dX8_open_86 2 rfl k) ?_
  replace h := bq_e h
  obtain ⟨a3, rfl, h⟩ := h
  have hk_a3 := hq_v5 a3 rfl
  replace h := qv_e h
  obtain ⟨w4, e_w4, h⟩ := h
  have hq_w4 : rk (wx_I σ a1 5 y0) w4 3 := rk_T hT hk_a3 rfl (by decide) ((rR_I rfl).trans e_w4)
  refine ym 91 (fun B k => gf_X8_179 (x := w4) B hk_a3 ((rR_I rfl).trans e_w4) dX8_open_88 k) ?_
  refine ym 92 (fun B k => z_iconst (v := 0) B dX8_open_91 (by decide) k) ?_
  refine ym 93 (fun B k => z_iload_n B dX8_open_92 rfl 1 rfl k) ?_
  refine ym 94 (fun B k => z_i2l (v := x2.toInt64) B dX8_open_93 rfl k) ?_
  replace h := bq_e h
  obtain ⟨a5, rfl, h⟩ := h
  have hk_a5 := hq_w4 a5 rfl
  replace h := br_e h
  obtain ⟨u7, h6, h⟩ := h
  have m8 := ct_X1_add l (g := g) h6 hT hk_a5
  refine yc_Vv (Al := [.int 0, .long x2.toInt64]) (rest := []) 97 rfl cw_X8_333 cx_2 dX8_open_94 m8 hk_a5 rfl (by decide) rfl (Nat.le_of_ble_eq_true rfl) ?_
  have hq_v1 := rk_G m8.1.1 (by decide) hq_v1
  have hk_a3 := k_G m8.1.1 (by decide) hk_a3
  have hT := m8.1.1.2.2.2
  refine ym 99 (fun B k => z_aload B dX8_open_97 2 rfl k) ?_
  replace h := qv_e h
  obtain ⟨w9, e_w9, h⟩ := h
  have hq_w9 : rk u7 w9 7 := rk_T hT hk_a3 rfl (by decide) e_w9
  refine ym 102 (fun B k => gf_X8_249 (x := w9) B hk_a3 e_w9 dX8_open_99 k) ?_
  refine ym 103 (fun B k => z_qload_n (r := v1) B dX8_open_102 rfl 0 rfl k) ?_
  refine ym 105 (fun B k => z_aload B dX8_open_103 2 rfl k) ?_
  replace h := qv_e h
  obtain ⟨w10, e_w10, h⟩ := h
  have hq_w10 : rk u7 w10 3 := rk_T hT hk_a3 rfl (by decide) e_w10
  refine ym 108 (fun B k => gf_X8_179 (x := w10) B hk_a3 e_w10 dX8_open_105 k) ?_
  replace h := bq_e h
  obtain ⟨a11, rfl, h⟩ := h
  have hk_a11 := hq_w9 a11 rfl
  replace h := br_e h
  obtain ⟨u13, h12, h⟩ := h
  have m14 := ct_X5_begin l (g := g) h12 hT hk_a11 hq_v1 hq_w10
  refine yc_Vv (Al := [va_rf v1, va_rf w10]) (rest := []) 111 rfl cw_X8_286 cx_6 dX8_open_108 m14 hk_a11 rfl (by decide) rfl (Nat.le_of_ble_eq_true rfl) ?_
  have hq_v1 := rk_G m14.1.1 (by decide) hq_v1
  have hk_a3 := k_G m14.1.1 (by decide) hk_a3
  have hT := m14.1.1.2.2.2
  refine ym 113 (fun B k => z_aload B dX8_open_111 2 rfl k) ?_
  obtain ⟨rfl, rfl⟩ := Prod.mk.inj (Option.some.inj h)
  exact yr_q (v := (some a3)) hT (rk_a hk_a3) rfl dX8_open_113
set_option maxRecDepth 100000 in
set_option maxHeartbeats 4000000 in
theorem ct_X8_open (l : Launch) {g : gx_T} {σ : sx_T} {u : sx_T} {r : Option Nat}  {t : Nat} {v1 : Option Nat} {x2 : Int32} {x3 : Int32} {x4 : Int32} (h : f_X8_open σ t v1 x2 x3 x4 = some (r, u)) (hT : TS g σ) (hk_t : sx_K σ t = 10) (hq_v1 : rk σ v1 6) : CT l g yX8_open cX8_open 6 (some (.object "Loomkeeper$Flow")) 2 43 [.ref t, va_rf v1, .int x2, .int x3, .int x4] (rk u r 2) u σ (Qxq g r u) := by
  refine yc_met (by decide) (by cases v1 <;> exact Nat.le_of_ble_eq_true rfl) ?_
  refine yc_lv (show lv_args 0 [.ref t, va_rf v1, .int x2, .int x3, .int x4] = [(0, .ref t), (1, va_rf v1), (2, .int x2), (3, .int x3), (4, .int x4)] from (by cases v1 <;> rfl)) ?_
  show ZY l g _ _ _ _ _ _ _ _ _ _ _ _ _ _ σ 0 [(0, .ref t), (1, va_rf v1), (2, .int x2), (3, .int x3), (4, .int x4)] []
  unfold f_X8_open at h
  refine ym 1 (fun B k => z_qload_n (r := v1) B dX8_open_0 rfl 1 rfl k) ?_
  rcases v1 with _ | a1
  · replace h := oc_n h
    refine ym 23 (fun B k => z_ifnull (r := none) (tgt := 23) B dX8_open_1 (by decide) (fun _ => k) (fun a h => nomatch h)) ?_
    refine ym 24 (fun B k => z_null B dX8_open_23 k) ?_
    obtain ⟨rfl, rfl⟩ := Prod.mk.inj (Option.some.inj h)
    exact yr_q (v := none) hT rk_n rfl dX8_open_24
  · replace h := oc_s h
    have hk_a1 := hq_v1 a1 rfl
    refine ym 4 (fun B k => z_ifnull (r := (some a1)) (tgt := 23) B dX8_open_1 (by decide) (fun h => nomatch h) (fun _ _ => k)) ?_
    refine ym 5 (fun B k => z_aload_n B dX8_open_4 rfl 0 rfl k) ?_
    refine ym 8 (fun B k => gf_X8_96 (x := (sx_I σ t 7)) B hk_t rfl dX8_open_5 k) ?_
    by_cases c2 : (sx_I σ t 7) < 0
    · replace h := ite_p c2 h
      refine ym 23 (fun B k => z_if_lt (tgt := 23) B dX8_open_8 (by decide) (fun _ => k) (fun q => absurd c2 q)) ?_
      refine ym 24 (fun B k => z_null B dX8_open_23 k) ?_
      obtain ⟨rfl, rfl⟩ := Prod.mk.inj (Option.some.inj h)
      exact yr_q (v := none) hT rk_n rfl dX8_open_24
    · replace h := ite_n c2 h
      refine ym 11 (fun B k => z_if_lt (tgt := 23) B dX8_open_8 (by decide) (fun q => absurd q c2) (fun _ => k)) ?_
      refine ym 12 (fun B k => z_aload_n B dX8_open_11 rfl 0 rfl k) ?_
      refine ym 15 (fun B k => gf_X8_96 (x := (sx_I σ t 7)) B hk_t rfl dX8_open_12 k) ?_
      refine ym 16 (fun B k => z_aload_n B dX8_open_15 rfl 0 rfl k) ?_
      replace h := qv_e h
      obtain ⟨w3, e_w3, h⟩ := h
      have hq_w3 : rk σ w3 15 := rk_T hT hk_t rfl (by decide) e_w3
      refine ym 19 (fun B k => gf_X8_21 (x := w3) B hk_t e_w3 dX8_open_16 k) ?_
      replace h := bq_e h
      obtain ⟨a4, rfl, h⟩ := h
      have hk_a4 := hq_w3 a4 rfl
      refine ym 20 (fun B k => z_alen (kd := 15) (ti := 3) (v := Int32.ofNat (sx_N σ a4)) B hk_a4 (by decide) rfl rfl dX8_open_19 k) ?_
      by_cases c5 : (sx_I σ t 7) < (Int32.ofNat (sx_N σ a4))
      · replace h := ite_p c5 h
        refine ym 25 (fun B k => z_icmp_lt (tgt := 25) B dX8_open_20 (by decide) (fun _ => k) (fun q => absurd c5 q)) ?_
        refine ym 26 (fun B k => z_aload_n B dX8_open_25 rfl 0 rfl k) ?_
        replace h := qv_e h
        obtain ⟨w6, e_w6, h⟩ := h
        have hq_w6 : rk σ w6 15 := rk_T hT hk_t rfl (by decide) e_w6
        refine ym 29 (fun B k => gf_X8_21 (x := w6) B hk_t e_w6 dX8_open_26 k) ?_
        refine ym 30 (fun B k => z_aload_n B dX8_open_29 rfl 0 rfl k) ?_
        refine ym 33 (fun B k => gf_X8_96 (x := (sx_I σ t 7)) B hk_t rfl dX8_open_30 k) ?_
        replace h := bq_e h
        obtain ⟨a7, rfl, h⟩ := h
        have hk_a7 := hq_w6 a7 rfl
        replace h := ck_e h
        obtain ⟨hi_8, h⟩ := h
        replace h := qv_e h
        obtain ⟨w9, e_w9, h⟩ := h
        have hq_w9 : rk σ w9 2 := rk_T hT hk_a7 rfl (by decide) e_w9
        refine ym 34 (fun B k => z_qald (j := (ti (sx_I σ t 7))) (kd := 15) (ti := 3) (r := w9) B hk_a7 (by decide) rfl rfl hi_8 e_w9 dX8_open_33 k) ?_
        refine ym 36 (fun B k => z_qstore (r := w9) (lv' := [(5, va_rf w9), (0, .ref t), (1, .ref a1), (2, .int x2), (3, .int x3), (4, .int x4)]) B dX8_open_34 (by decide) rfl k) ?_
        refine ym 38 (fun B k => z_qload (r := w9) B dX8_open_36 0 rfl k) ?_
        rcases w9 with _ | a10
        · replace h := oc_n h
          refine ym 41 (fun B k => z_ifnonnull (r := none) (tgt := 43) B dX8_open_38 (by decide) (fun a h => nomatch h) (fun _ => k)) ?_
          refine ym 42 (fun B k => z_null B dX8_open_41 k) ?_
          obtain ⟨rfl, rfl⟩ := Prod.mk.inj (Option.some.inj h)
          exact yr_q (v := none) hT rk_n rfl dX8_open_42
        · replace h := oc_s h
          have hk_a10 := hq_w9 a10 rfl
          refine ym 43 (fun B k => z_ifnonnull (r := (some a10)) (tgt := 43) B dX8_open_38 (by decide) (fun _ _ => k) (fun h => nomatch h)) ?_
          refine ym 44 (fun B k => z_aload_n B dX8_open_43 rfl 1 rfl k) ?_
          refine ym 45 (fun B k => z_dup B dX8_open_44 rfl k) ?_
          refine ym 48 (fun B k => gf_X8_96 (x := (sx_I σ t 7)) B hk_t rfl dX8_open_45 k) ?_
          refine ym 49 (fun B k => z_iconst (v := 1) B dX8_open_48 (by decide) k) ?_
          refine ym 50 (fun B k => z_iadd B dX8_open_49 k) ?_
          have j11 := hk_t
          refine ymw (σ' := (wx_I σ t 7 ((sx_I σ t 7) + 1))) 53 e_I (fun B hin k => pf_X8_96 (x := ((sx_I σ t 7) + 1)) B hk_t rfl dX8_open_50 k) ?_
          have hT := TS_I (k := 7) (x := ((sx_I σ t 7) + 1)) hT hk_t (Or.inl rfl)
          have hk_a10 := kk_I (σ := σ) (a := t) (k := 7) (x := ((sx_I σ t 7) + 1)) hk_a10
          have hk_t := kk_I (σ := σ) (a := t) (k := 7) (x := ((sx_I σ t 7) + 1)) hk_t
          have hk_a1 := kk_I (σ := σ) (a := t) (k := 7) (x := ((sx_I σ t 7) + 1)) hk_a1
          refine ym 55 (fun B k => z_aload B dX8_open_53 0 rfl k) ?_
          refine ym 56 (fun B k => z_aload_n B dX8_open_55 rfl 2 rfl k) ?_
          have j12 := hk_a10
          refine ymw (σ' := (wx_R (wx_I σ t 7 ((sx_I σ t 7) + 1)) a10 3 (some a1))) 59 e_R (fun B hin k => pf_X8_103 (x := (some a1)) B hk_a10 rfl dX8_open_56 k) ?_
          have hT := TS_R (k := 3) (v := (some a1)) hT hk_a10 (Or.inr (rk_a hk_a1)) (Or.inl (by decide))
          have hk_a10 := kk_R (σ := (wx_I σ t 7 ((sx_I σ t 7) + 1))) (a := a10) (k := 3) (x := (some a1)) hk_a10
          have hk_t := kk_R (σ := (wx_I σ t 7 ((sx_I σ t 7) + 1))) (a := a10) (k := 3) (x := (some a1)) hk_t
          have hk_a1 := kk_R (σ := (wx_I σ t 7 ((sx_I σ t 7) + 1))) (a := a10) (k := 3) (x := (some a1)) hk_a1
          refine ym 61 (fun B k => z_aload B dX8_open_59 0 rfl k) ?_
          refine ym 62 (fun B k => z_iload_n B dX8_open_61 rfl 4 rfl k) ?_
          have j13 := hk_a10
          refine ymw (σ' := (wx_I (wx_R (wx_I σ t 7 ((sx_I σ t 7) + 1)) a10 3 (some a1)) a10 4 x3)) 65 e_I (fun B hin k => pf_X8_259 (x := x3) B hk_a10 rfl dX8_open_62 k) ?_
          have hT := TS_I (k := 4) (x := x3) hT hk_a10 (Or.inl rfl)
          have hk_a10 := kk_I (σ := (wx_R (wx_I σ t 7 ((sx_I σ t 7) + 1)) a10 3 (some a1))) (a := a10) (k := 4) (x := x3) hk_a10
          have hk_t := kk_I (σ := (wx_R (wx_I σ t 7 ((sx_I σ t 7) + 1)) a10 3 (some a1))) (a := a10) (k := 4) (x := x3) hk_t
          have hk_a1 := kk_I (σ := (wx_R (wx_I σ t 7 ((sx_I σ t 7) + 1)) a10 3 (some a1))) (a := a10) (k := 4) (x := x3) hk_a1
          refine ym 67 (fun B k => z_aload B dX8_open_65 0 rfl k) ?_
          refine ym 69 (fun B k => z_iload B dX8_open_67 5 rfl k) ?_
          refine ym 70 (fun B k => z_iconst (v := (-1)) B dX8_open_69 (by decide) k) ?_
          by_cases c14 : x4 = (-1)
          · replace h := ite_p c14 h
            refine ym 73 (fun B k => z_icmp_ne (tgt := 81) B dX8_open_70 (by decide) (fun q => absurd c14 q) (fun _ => k)) ?_
            refine ym 75 (fun B k => z_aload B dX8_open_73 0 rfl k) ?_
            refine ym 78 (fun B k => gf_X8_150 (x := (sx_I σ a10 0)) B hk_a10 (rI_n (by decide) (rI_R (rI_k (by decide) j11 (kd_I (kd_R (kd_I hk_a10))) rfl))) dX8_open_75 k) ?_
            refine ym 83 (fun B k => z_goto (tgt := 83) B dX8_open_78 (by decide) k) ?_
            refine y_sub [(1, .ref a1), (2, .int x2), (5, .ref a10)] [2, 3, 0] rfl ?_
            exact tb_X8_open_83 h hT (rk_a hk_a1) (rk_a hk_a10) (rk_a hk_a10)
          · replace h := ite_n c14 h
            refine ym 81 (fun B k => z_icmp_ne (tgt := 81) B dX8_open_70 (by decide) (fun _ => k) (fun q => absurd q c14)) ?_
            refine ym 83 (fun B k => z_iload B dX8_open_81 5 rfl k) ?_
            refine y_sub [(1, .ref a1), (2, .int x2), (5, .ref a10)] [2, 3, 0] rfl ?_
            exact tb_X8_open_83 h hT (rk_a hk_a1) (rk_a hk_a10) (rk_a hk_a10)
      · replace h := ite_n c5 h
        refine ym 23 (fun B k => z_icmp_lt (tgt := 25) B dX8_open_20 (by decide) (fun q => absurd q c5) (fun _ => k)) ?_
        refine ym 24 (fun B k => z_null B dX8_open_23 k) ?_
        obtain ⟨rfl, rfl⟩ := Prod.mk.inj (Option.some.inj h)
        exact yr_q (v := none) hT rk_n rfl dX8_open_24
set_option maxRecDepth 100000 in
set_option maxHeartbeats 4000000 in
theorem ct_X8_launch (l : Launch) {g : gx_T} {σ : sx_T} {u : sx_T} {r : Option Nat}  {t : Nat} {v1 : Option Nat} {x2 : Int32} {x3 : Int32} (h : f_X8_launch σ t v1 x2 x3 = some (r, u)) (hT : TS g σ) (hk_t : sx_K σ t = 10) (hq_v1 : rk σ v1 2) : CT l g yX8_launch cX8_launch 5 (some (.object "Loomkeeper$Flow")) 3 68 [.ref t, va_rf v1, .int x2, .int x3] (rk u r 2) u σ (Qxq g r u) := by
  refine yc_met (by decide) (by cases v1 <;> exact Nat.le_of_ble_eq_true rfl) ?_
  refine yc_lv (show lv_args 0 [.ref t, va_rf v1, .int x2, .int x3] = [(0, .ref t), (1, va_rf v1), (2, .int x2), (3, .int x3)] from (by cases v1 <;> rfl)) ?_
  show ZY l g _ _ _ _ _ _ _ _ _ _ _ _ _ _ σ 0 [(0, .ref t), (1, va_rf v1), (2, .int x2), (3, .int x3)] []
  unfold f_X8_launch at h
  refine ym 1 (fun B k => z_iload_n B dX8_launch_0 rfl 2 rfl k) ?_
  refine ym 3 (fun B k => z_bipush (v := 7) B dX8_launch_1 (by decide) k) ?_
  by_cases c1 : x2 = 7
  · replace h := ite_p c1 h
    refine ym 6 (fun B k => z_icmp_ne (tgt := 28) B dX8_launch_3 (by decide) (fun q => absurd c1 q) (fun _ => k)) ?_
    refine ym 7 (fun B k => z_aload_n B dX8_launch_6 rfl 0 rfl k) ?_
    refine ym 8 (fun B k => z_aload_n B dX8_launch_7 rfl 0 rfl k) ?_
    refine ym 9 (fun B k => z_iload_n B dX8_launch_8 rfl 3 rfl k) ?_
    replace h := br_e h
    obtain ⟨r3, h2, h⟩ := h
    have m4 := ct_X8_programAt l (g := g) h2 hT hk_t
    refine yc_Vq (Al := [.int x3]) (rest := [.ref t]) 12 rfl cw_X8_64 cx_9 dX8_launch_9 m4 hk_t rfl (by decide) rfl (Nat.le_of_ble_eq_true rfl) ?_
    have hq_r3 := m4.1.2
    refine ym 13 (fun B k => z_qload_n (r := v1) B dX8_launch_12 rfl 1 rfl k) ?_
    replace h := bq_e h
    obtain ⟨a5, rfl, h⟩ := h
    have hk_a5 := hq_v1 a5 rfl
    replace h := qv_e h
    obtain ⟨w6, e_w6, h⟩ := h
    have hq_w6 : rk σ w6 7 := rk_T hT hk_a5 rfl (by decide) e_w6
    refine ym 16 (fun B k => gf_X8_249 (x := w6) B hk_a5 e_w6 dX8_launch_13 k) ?_
    replace h := bq_e h
    obtain ⟨a7, rfl, h⟩ := h
    have hk_a7 := hq_w6 a7 rfl
    refine ym 19 (fun B k => gf_X8_295 (x := (sx_I σ a7 6)) B hk_a7 rfl dX8_launch_16 k) ?_
    refine ym 20 (fun B k => z_aload_n B dX8_launch_19 rfl 1 rfl k) ?_
    refine ym 23 (fun B k => gf_X8_150 (x := (sx_I σ a5 0)) B hk_a5 rfl dX8_launch_20 k) ?_
    refine ym 24 (fun B k => z_iconst (v := (-1)) B dX8_launch_23 (by decide) k) ?_
    replace h := bd_e h
    obtain ⟨r9, u10, h8, h⟩ := h
    have m11 := ct_X8_open l (g := g) h8 hT hk_t hq_r3
    refine yc_Vq (Al := [va_rf r3, .int (sx_I σ a7 6), .int (sx_I σ a5 0), .int (-1)]) (rest := []) 27 rfl cw_X8_141 cx_9 dX8_launch_24 m11 hk_t rfl (by decide) rfl (Nat.le_of_ble_eq_true rfl) ?_
    have hk_t := k_G m11.1.1 (by decide) hk_t
    have hk_a5 := k_G m11.1.1 (by decide) hk_a5
    have hT := m11.1.1.2.2.2
    have hq_r9 := m11.1.2
    obtain ⟨rfl, rfl⟩ := Prod.mk.inj (Option.some.inj h)
    exact yr_q (v := r9) hT hq_r9 rfl dX8_launch_27
  · replace h := ite_n c1 h
    refine ym 28 (fun B k => z_icmp_ne (tgt := 28) B dX8_launch_3 (by decide) (fun _ => k) (fun q => absurd q c1)) ?_
    refine ym 29 (fun B k => z_iload_n B dX8_launch_28 rfl 3 rfl k) ?_
    refine ym 30 (fun B k => z_iconst (v := (-1)) B dX8_launch_29 (by decide) k) ?_
    by_cases c12 : x3 = (-1)
    · replace h := ite_p c12 h
      refine ym 52 (fun B k => z_icmp_eq (tgt := 52) B dX8_launch_30 (by decide) (fun _ => k) (fun q => absurd c12 q)) ?_
      refine ym 53 (fun B k => z_aload_n B dX8_launch_52 rfl 0 rfl k) ?_
      refine ym 54 (fun B k => z_qload_n (r := v1) B dX8_launch_53 rfl 1 rfl k) ?_
      replace h := bq_e h
      obtain ⟨a13, rfl, h⟩ := h
      have hk_a13 := hq_v1 a13 rfl
      replace h := qv_e h
      obtain ⟨w14, e_w14, h⟩ := h
      have hq_w14 : rk σ w14 6 := rk_T hT hk_a13 rfl (by decide) e_w14
      refine ym 57 (fun B k => gf_X8_103 (x := w14) B hk_a13 e_w14 dX8_launch_54 k) ?_
      refine ym 58 (fun B k => z_aload_n B dX8_launch_57 rfl 1 rfl k) ?_
      replace h := qv_e h
      obtain ⟨w15, e_w15, h⟩ := h
      have hq_w15 : rk σ w15 7 := rk_T hT hk_a13 rfl (by decide) e_w15
      refine ym 61 (fun B k => gf_X8_249 (x := w15) B hk_a13 e_w15 dX8_launch_58 k) ?_
      replace h := bq_e h
      obtain ⟨a16, rfl, h⟩ := h
      have hk_a16 := hq_w15 a16 rfl
      refine ym 64 (fun B k => gf_X8_295 (x := (sx_I σ a16 6)) B hk_a16 rfl dX8_launch_61 k) ?_
      refine ym 65 (fun B k => z_aload_n B dX8_launch_64 rfl 1 rfl k) ?_
      refine ym 68 (fun B k => gf_X8_259 (x := (sx_I σ a13 4)) B hk_a13 rfl dX8_launch_65 k) ?_
      refine ym 69 (fun B k => z_aload_n B dX8_launch_68 rfl 1 rfl k) ?_
      refine ym 72 (fun B k => gf_X8_406 (x := (sx_I σ a13 5)) B hk_a13 rfl dX8_launch_69 k) ?_
      replace h := bd_e h
      obtain ⟨r18, u19, h17, h⟩ := h
      have m20 := ct_X8_open l (g := g) h17 hT hk_t hq_w14
      refine yc_Vq (Al := [va_rf w14, .int (sx_I σ a16 6), .int (sx_I σ a13 4), .int (sx_I σ a13 5)]) (rest := []) 75 rfl cw_X8_141 cx_9 dX8_launch_72 m20 hk_t rfl (by decide) rfl (Nat.le_of_ble_eq_true rfl) ?_
      have hk_t := k_G m20.1.1 (by decide) hk_t
      have hk_a13 := k_G m20.1.1 (by decide) hk_a13
      have hT := m20.1.1.2.2.2
      have hq_r18 := m20.1.2
      refine ym 77 (fun B k => z_qstore (r := r18) (lv' := [(4, va_rf r18), (0, .ref t), (1, .ref a13), (2, .int x2), (3, .int x3)]) B dX8_launch_75 (by decide) rfl k) ?_
      refine ym 79 (fun B k => z_qload (r := r18) B dX8_launch_77 0 rfl k) ?_
      rcases r18 with _ | a21
      · replace h := oc_n h
        refine ym 91 (fun B k => z_ifnull (r := none) (tgt := 91) B dX8_launch_79 (by decide) (fun _ => k) (fun a h => nomatch h)) ?_
        refine ym 93 (fun B k => z_qload (r := none) B dX8_launch_91 0 rfl k) ?_
        obtain ⟨rfl, rfl⟩ := Prod.mk.inj (Option.some.inj h)
        exact yr_q (v := none) hT rk_n rfl dX8_launch_93
      · replace h := oc_s h
        have hk_a21 := hq_r18 a21 rfl
        refine ym 82 (fun B k => z_ifnull (r := (some a21)) (tgt := 91) B dX8_launch_79 (by decide) (fun h => nomatch h) (fun _ _ => k)) ?_
        refine ym 83 (fun B k => z_aload_n B dX8_launch_82 rfl 2 rfl k) ?_
        refine ym 85 (fun B k => z_aload B dX8_launch_83 0 rfl k) ?_
        refine ym 88 (fun B k => gf_X8_150 (x := (sx_I u19 a21 0)) B hk_a21 rfl dX8_launch_85 k) ?_
        have j22 := hk_a13
        refine ymw (σ' := (wx_I u19 a13 6 (sx_I u19 a21 0))) 91 e_I (fun B hin k => pf_X8_403 (x := (sx_I u19 a21 0)) B hk_a13 rfl dX8_launch_88 k) ?_
        have hT := TS_I (k := 6) (x := (sx_I u19 a21 0)) hT hk_a13 (Or.inl rfl)
        have hk_a21 := kk_I (σ := u19) (a := a13) (k := 6) (x := (sx_I u19 a21 0)) hk_a21
        have hk_t := kk_I (σ := u19) (a := a13) (k := 6) (x := (sx_I u19 a21 0)) hk_t
        have hk_a13 := kk_I (σ := u19) (a := a13) (k := 6) (x := (sx_I u19 a21 0)) hk_a13
        refine ym 93 (fun B k => z_aload B dX8_launch_91 0 rfl k) ?_
        obtain ⟨rfl, rfl⟩ := Prod.mk.inj (Option.some.inj h)
        exact yr_q (v := (some a21)) hT (rk_a hk_a21) rfl dX8_launch_93
    · replace h := ite_n c12 h
      refine ym 33 (fun B k => z_icmp_eq (tgt := 52) B dX8_launch_30 (by decide) (fun q => absurd q c12) (fun _ => k)) ?_
      refine ym 34 (fun B k => z_aload_n B dX8_launch_33 rfl 0 rfl k) ?_
      refine ym 35 (fun B k => z_aload_n B dX8_launch_34 rfl 0 rfl k) ?_
      refine ym 36 (fun B k => z_iload_n B dX8_launch_35 rfl 3 rfl k) ?_
      replace h := br_e h
      obtain ⟨r24, h23, h⟩ := h
      have m25 := ct_X8_programAt l (g := g) h23 hT hk_t
      refine yc_Vq (Al := [.int x3]) (rest := [.ref t]) 39 rfl cw_X8_64 cx_9 dX8_launch_36 m25 hk_t rfl (by decide) rfl (Nat.le_of_ble_eq_true rfl) ?_
      have hq_r24 := m25.1.2
      refine ym 40 (fun B k => z_qload_n (r := v1) B dX8_launch_39 rfl 1 rfl k) ?_
      replace h := bq_e h
      obtain ⟨a26, rfl, h⟩ := h
      have hk_a26 := hq_v1 a26 rfl
      replace h := qv_e h
      obtain ⟨w27, e_w27, h⟩ := h
      have hq_w27 : rk σ w27 7 := rk_T hT hk_a26 rfl (by decide) e_w27
      refine ym 43 (fun B k => gf_X8_249 (x := w27) B hk_a26 e_w27 dX8_launch_40 k) ?_
      replace h := bq_e h
      obtain ⟨a28, rfl, h⟩ := h
      have hk_a28 := hq_w27 a28 rfl
      refine ym 46 (fun B k => gf_X8_295 (x := (sx_I σ a28 6)) B hk_a28 rfl dX8_launch_43 k) ?_
      refine ym 47 (fun B k => z_iconst (v := (-1)) B dX8_launch_46 (by decide) k) ?_
      refine ym 48 (fun B k => z_iconst (v := (-1)) B dX8_launch_47 (by decide) k) ?_
      replace h := bd_e h
      obtain ⟨r30, u31, h29, h⟩ := h
      have m32 := ct_X8_open l (g := g) h29 hT hk_t hq_r24
      refine yc_Vq (Al := [va_rf r24, .int (sx_I σ a28 6), .int (-1), .int (-1)]) (rest := []) 51 rfl cw_X8_141 cx_9 dX8_launch_48 m32 hk_t rfl (by decide) rfl (Nat.le_of_ble_eq_true rfl) ?_
      have hk_t := k_G m32.1.1 (by decide) hk_t
      have hk_a26 := k_G m32.1.1 (by decide) hk_a26
      have hT := m32.1.1.2.2.2
      have hq_r30 := m32.1.2
      obtain ⟨rfl, rfl⟩ := Prod.mk.inj (Option.some.inj h)
      exact yr_q (v := r30) hT hq_r30 rfl dX8_launch_51
set_option maxRecDepth 100000 in
set_option maxHeartbeats 4000000 in
theorem ct_Jx4a65c_size_8abf5 (l : Launch) {g : gx_T} {σ : sx_T} {r : Int32}  {t : Nat} (h : f_Jx4a65c_size_8abf5 σ t = some r) (hT : TS g σ) (hk_t : sx_K σ t = 1) : CT l g yJx4a65c_size_8abf5 cJx4a65c_size_8abf5 1 (some .int) 0 0 [.ref t] (True) σ σ (Qxi g r σ) := by
  refine yc_met (by decide) (Nat.le_of_ble_eq_true rfl) ?_
  refine yc_lv (show lv_args 0 [.ref t] = [(0, .ref t)] from rfl) ?_
  show ZY l g _ _ _ _ _ _ _ _ _ _ _ _ _ _ σ 0 [(0, .ref t)] []
  unfold f_Jx4a65c_size_8abf5 at h
  refine ym 1 (fun B k => z_aload_n B dJx4a65c_size_8abf5_0 rfl 0 rfl k) ?_
  refine ym 4 (fun B k => gf_Jx4a65c_48 (x := (sx_I σ t 2)) B hk_t rfl dJx4a65c_size_8abf5_1 k) ?_
  obtain rfl := Option.some.inj h
  exact yr_i hT trivial rfl dJx4a65c_size_8abf5_4
set_option maxRecDepth 100000 in
set_option maxHeartbeats 4000000 in
theorem ct_X7_init (l : Launch) {g : gx_T} {σ : sx_T} {u : sx_T}  {t : Nat} {x1 : Int32} {v2 : Option Nat} {x3 : Int32} (h : f_X7_init σ t x1 v2 x3 = some u) (hT : TS g σ) (hk_t : sx_K σ t = 9) (hq_v2 : rk σ v2 2) : CT l g yX7_init cX7_init 4 none 1 12 [.ref t, .int x1, va_rf v2, .int x3] (True) u σ (Qxv g u) := by
  refine yc_met (by decide) (by cases v2 <;> exact Nat.le_of_ble_eq_true rfl) ?_
  refine yc_lv (show lv_args 0 [.ref t, .int x1, va_rf v2, .int x3] = [(0, .ref t), (1, .int x1), (2, va_rf v2), (3, .int x3)] from (by cases v2 <;> rfl)) ?_
  show ZY l g _ _ _ _ _ _ _ _ _ _ _ _ _ _ σ 0 [(0, .ref t), (1, .int x1), (2, va_rf v2), (3, .int x3)] []
  unfold f_X7_init at h
  refine ym 1 (fun B k => z_aload_n B dX7_init_0 rfl 0 rfl k) ?_
  refine ymR 4 (fun B hF hL k => z_oinit B ⟨wg_575, wg_32, wg_33⟩ dX7_init_1 hF hL k) (by decide) (by decide) ?_
  refine ym 5 (fun B k => z_aload_n B dX7_init_4 rfl 0 rfl k) ?_
  refine ym 6 (fun B k => z_iconst (v := 0) B dX7_init_5 (by decide) k) ?_
  have j1 := hk_t
  refine ymw (σ' := (wx_I σ t 3 0)) 9 e_I (fun B hin k => pf_X7_9 (x := 0) B hk_t rfl dX7_init_6 k) ?_
  have hT := TS_I (k := 3) (x := 0) hT hk_t (Or.inl rfl)
  have hk_t := kk_I (σ := σ) (a := t) (k := 3) (x := 0) hk_t
  have hq_v2 := qk_I (σ := σ) (a := t) (k := 3) (x := 0) hq_v2
  refine ym 10 (fun B k => z_aload_n B dX7_init_9 rfl 0 rfl k) ?_
  refine ym 11 (fun B k => z_iload_n B dX7_init_10 rfl 1 rfl k) ?_
  have j2 := hk_t
  refine ymw (σ' := (wx_I (wx_I σ t 3 0) t 0 x1)) 14 e_I (fun B hin k => pF_X7_15 (x := x1) B hin hk_t rfl dX7_init_11 k) ?_
  have hT := TS_I (k := 0) (x := x1) hT hk_t (Or.inl rfl)
  have hk_t := kk_I (σ := (wx_I σ t 3 0)) (a := t) (k := 0) (x := x1) hk_t
  have hq_v2 := qk_I (σ := (wx_I σ t 3 0)) (a := t) (k := 0) (x := x1) hq_v2
  refine ym 15 (fun B k => z_aload_n B dX7_init_14 rfl 0 rfl k) ?_
  refine ym 16 (fun B k => z_qload_n (r := v2) B dX7_init_15 rfl 2 rfl k) ?_
  have j3 := hk_t
  refine ymw (σ' := (wx_R (wx_I (wx_I σ t 3 0) t 0 x1) t 1 v2)) 19 e_R (fun B hin k => pF_X7_18 (x := v2) B hin hk_t rfl dX7_init_16 k) ?_
  have hT := TS_R (k := 1) (v := v2) hT hk_t (Or.inr hq_v2) (Or.inl (by decide))
  have hk_t := kk_R (σ := (wx_I (wx_I σ t 3 0) t 0 x1)) (a := t) (k := 1) (x := v2) hk_t
  have hq_v2 := qk_R (σ := (wx_I (wx_I σ t 3 0) t 0 x1)) (a := t) (k := 1) (x := v2) hq_v2
  refine ym 20 (fun B k => z_aload_n B dX7_init_19 rfl 0 rfl k) ?_
  refine ym 21 (fun B k => z_iload_n B dX7_init_20 rfl 3 rfl k) ?_
  have j4 := hk_t
  refine ymw (σ' := (wx_I (wx_R (wx_I (wx_I σ t 3 0) t 0 x1) t 1 v2) t 2 x3)) 24 e_I (fun B hin k => pF_X7_22 (x := x3) B hin hk_t rfl dX7_init_21 k) ?_
  have hT := TS_I (k := 2) (x := x3) hT hk_t (Or.inl rfl)
  have hk_t := kk_I (σ := (wx_R (wx_I (wx_I σ t 3 0) t 0 x1) t 1 v2)) (a := t) (k := 2) (x := x3) hk_t
  have hq_v2 := qk_I (σ := (wx_R (wx_I (wx_I σ t 3 0) t 0 x1) t 1 v2)) (a := t) (k := 2) (x := x3) hq_v2
  obtain rfl := Option.some.inj h
  exact yr_v hT trivial rfl dX7_init_24
set_option maxRecDepth 100000 in
set_option maxHeartbeats 4000000 in
theorem tb_J8_newLength_cabcc_21 {l : Launch} {g : gx_T} {σ : sx_T} {r : Int32} {As : Array Value}  {x0 : Int32} {x1 : Int32} (h : fb_J8_newLength_cabcc_21 σ x0 x1 = some r) (hT : TS g σ)  : ZY l g cJ8_newLength_cabcc RJ8 "newLength" (some .int) 4 1 21 0 0 false As (QM g As (Qxi g r σ)) (True) σ σ 21 [(0, .int x0), (1, .int x1)] [] := by
  unfold fb_J8_newLength_cabcc_21 at h
  refine ym 22 (fun B k => z_iload_n B dJ8_newLength_cabcc_21 rfl 0 rfl k) ?_
  refine ym 23 (fun B k => z_iload_n B dJ8_newLength_cabcc_22 rfl 1 rfl k) ?_
  exact nomatch h
set_option maxRecDepth 100000 in
set_option maxHeartbeats 4000000 in
theorem ct_J8_newLength_cabcc (l : Launch) {g : gx_T} {σ : sx_T} {r : Int32}  {x0 : Int32} {x1 : Int32} {x2 : Int32} (h : f_J8_newLength_cabcc σ x0 x1 x2 = some r) (hT : TS g σ)  : CT l g yJ8_newLength_cabcc cJ8_newLength_cabcc 4 (some .int) 1 21 [.int x0, .int x1, .int x2] (True) σ σ (Qxi g r σ) := by
  refine yc_met (by decide) (Nat.le_of_ble_eq_true rfl) ?_
  refine yc_lv (show lv_args 0 [.int x0, .int x1, .int x2] = [(0, .int x0), (1, .int x1), (2, .int x2)] from rfl) ?_
  show ZY l g _ _ _ _ _ _ _ _ _ _ _ _ _ _ σ 0 [(0, .int x0), (1, .int x1), (2, .int x2)] []
  unfold f_J8_newLength_cabcc at h
  refine ym 1 (fun B k => z_iload_n B dJ8_newLength_cabcc_0 rfl 0 rfl k) ?_
  refine ym 2 (fun B k => z_iload_n B dJ8_newLength_cabcc_1 rfl 1 rfl k) ?_
  refine ym 3 (fun B k => z_iload_n B dJ8_newLength_cabcc_2 rfl 2 rfl k) ?_
  replace h := br_e h
  obtain ⟨r2, h1, h⟩ := h
  have m3 := ct_J9_max_7cf53 l (g := g) h1 hT
  refine yc_Si (Al := [.int x1, .int x2]) (rest := [.int x0]) 6 rfl cw_J8_194 dJ8_newLength_cabcc_3 m3 rfl (by decide) rfl (Nat.le_of_ble_eq_true rfl) ?_
  refine ym 7 (fun B k => z_iadd B dJ8_newLength_cabcc_6 k) ?_
  refine ym 8 (fun B k => z_istore_n (lv' := [(3, .int (x0 + r2)), (0, .int x0), (1, .int x1), (2, .int x2)]) B dJ8_newLength_cabcc_7 rfl (by decide) rfl k) ?_
  refine ym 9 (fun B k => z_iconst (v := 0) B dJ8_newLength_cabcc_8 (by decide) k) ?_
  refine ym 10 (fun B k => z_iload_n B dJ8_newLength_cabcc_9 rfl 0 rfl k) ?_
  by_cases c4 : (x0 + r2) ≤ 0
  · replace h := ite_p c4 h
    refine ym 21 (fun B k => z_icmp_ge (tgt := 21) B dJ8_newLength_cabcc_10 (by decide) (fun _ => k) (fun q => absurd c4 q)) ?_
    refine y_sub [(0, .int x0), (1, .int x1)] [1, 2] rfl ?_
    exact tb_J8_newLength_cabcc_21 h hT 
  · replace h := ite_n c4 h
    refine ym 13 (fun B k => z_icmp_ge (tgt := 21) B dJ8_newLength_cabcc_10 (by decide) (fun q => absurd q c4) (fun _ => k)) ?_
    refine ym 14 (fun B k => z_iload_n B dJ8_newLength_cabcc_13 rfl 0 rfl k) ?_
    refine ym 16 (fun B k => z_ldc (v := 2147483639) B dJ8_newLength_cabcc_14 wg_623 k) ?_
    by_cases c5 : 2147483639 < (x0 + r2)
    · replace h := ite_p c5 h
      refine ym 21 (fun B k => z_icmp_gt (tgt := 21) B dJ8_newLength_cabcc_16 (by decide) (fun _ => k) (fun q => absurd c5 q)) ?_
      refine y_sub [(0, .int x0), (1, .int x1)] [1, 2] rfl ?_
      exact tb_J8_newLength_cabcc_21 h hT 
    · replace h := ite_n c5 h
      refine ym 19 (fun B k => z_icmp_gt (tgt := 21) B dJ8_newLength_cabcc_16 (by decide) (fun q => absurd q c5) (fun _ => k)) ?_
      refine ym 20 (fun B k => z_iload_n B dJ8_newLength_cabcc_19 rfl 0 rfl k) ?_
      obtain rfl := Option.some.inj h
      exact yr_i hT trivial rfl dJ8_newLength_cabcc_20
set_option maxRecDepth 100000 in
set_option maxHeartbeats 4000000 in
theorem tb_Jx4a65c_grow_92f84_20 {l : Launch} {g : gx_T} {σ : sx_T} {u : sx_T} {r : Option Nat} {As : Array Value}  {t : Nat} {x1 : Int32} {x2 : Int32} (h : fb_Jx4a65c_grow_92f84_20 σ t x1 x2 = some (r, u)) (hT : TS g σ) (hk_t : sx_K σ t = 1) : ZY l g cJx4a65c_grow_92f84 RJx4a65c "grow" (some (.array (.object "java/lang/Object"))) 4 4 121 0 0 false As (QM g As (Qxq g r u)) (rk u r 17) u σ 20 [(0, .ref t), (1, .int x1), (2, .int x2)] [] := by
  unfold fb_Jx4a65c_grow_92f84_20 at h
  refine ym 21 (fun B k => z_iload_n B dJx4a65c_grow_92f84_20 rfl 2 rfl k) ?_
  refine ym 22 (fun B k => z_iload_n B dJx4a65c_grow_92f84_21 rfl 1 rfl k) ?_
  refine ym 23 (fun B k => z_iload_n B dJx4a65c_grow_92f84_22 rfl 2 rfl k) ?_
  refine ym 24 (fun B k => z_isub B dJx4a65c_grow_92f84_23 k) ?_
  refine ym 25 (fun B k => z_iload_n B dJx4a65c_grow_92f84_24 rfl 2 rfl k) ?_
  refine ym 26 (fun B k => z_iconst (v := 1) B dJx4a65c_grow_92f84_25 (by decide) k) ?_
  refine ym 27 (fun B k => z_ishr B dJx4a65c_grow_92f84_26 k) ?_
  replace h := br_e h
  obtain ⟨r2, h1, h⟩ := h
  have m3 := ct_J8_newLength_cabcc l (g := g) h1 hT
  refine yc_Si (Al := [.int x2, .int (x1 - x2), .int (x2 >>> (1 &&& 31))]) (rest := []) 30 rfl cw_Jx4a65c_73 dJx4a65c_grow_92f84_27 m3 rfl (by decide) rfl (Nat.le_of_ble_eq_true rfl) ?_
  refine ym 31 (fun B k => z_istore_n (lv' := [(3, .int r2), (0, .ref t), (1, .int x1), (2, .int x2)]) B dJx4a65c_grow_92f84_30 rfl (by decide) rfl k) ?_
  refine ym 32 (fun B k => z_aload_n B dJx4a65c_grow_92f84_31 rfl 1 rfl k) ?_
  refine ym 33 (fun B k => z_aload_n B dJx4a65c_grow_92f84_32 rfl 1 rfl k) ?_
  replace h := qv_e h
  obtain ⟨w4, e_w4, h⟩ := h
  have hq_w4 : rkE g σ w4 := rkE_T hT hk_t e_w4
  refine ym 36 (fun B k => gf_Jx4a65c_9 (x := w4) B hk_t e_w4 dJx4a65c_grow_92f84_33 k) ?_
  refine ym 37 (fun B k => z_iload_n B dJx4a65c_grow_92f84_36 rfl 0 rfl k) ?_
  replace h := bd_e h
  obtain ⟨r6, u7, h5, h⟩ := h
  have m8 := ct_copyOf l (g := g) h5 hT
  refine yc_Sq (Al := [va_rf w4, .int r2]) (rest := [.ref t]) 40 rfl cw_Jx4a65c_66 dJx4a65c_grow_92f84_37 m8 rfl (by decide) rfl (Nat.le_of_ble_eq_true rfl) ?_
  have hk_t := k_G m8.1.1 (by decide) hk_t
  have hT := m8.1.1.2.2.2
  have hq_r6 := m8.1.2
  refine ym 41 (fun B k => z_dup_x1 B dJx4a65c_grow_92f84_40 (by cases r6 <;> rfl) rfl k) ?_
  have j9 := hk_t
  refine ymw (σ' := (wx_R u7 t 1 r6)) 44 e_R (fun B hin k => pf_Jx4a65c_9 (x := r6) B hk_t rfl dJx4a65c_grow_92f84_41 k) ?_
  have hT := TS_R (k := 1) (v := r6) hT hk_t (Or.inl rfl) (Or.inr (Or.inr hq_r6))
  have hk_t := kk_R (σ := u7) (a := t) (k := 1) (x := r6) hk_t
  have hq_r6 := qk_R (σ := u7) (a := t) (k := 1) (x := r6) hq_r6
  obtain ⟨rfl, rfl⟩ := Prod.mk.inj (Option.some.inj h)
  exact yr_qA (v := r6) hT hq_r6 rfl dJx4a65c_grow_92f84_44
set_option maxRecDepth 100000 in
set_option maxHeartbeats 4000000 in
theorem ct_Jx4a65c_grow_92f84 (l : Launch) {g : gx_T} {σ : sx_T} {u : sx_T} {r : Option Nat}  {t : Nat} {x1 : Int32} (h : f_Jx4a65c_grow_92f84 σ t x1 = some (r, u)) (hT : TS g σ) (hk_t : sx_K σ t = 1) : CT l g yJx4a65c_grow_92f84 cJx4a65c_grow_92f84 4 (some (.array (.object "java/lang/Object"))) 4 121 [.ref t, .int x1] (rk u r 17) u σ (Qxq g r u) := by
  refine yc_met (by decide) (Nat.le_of_ble_eq_true rfl) ?_
  refine yc_lv (show lv_args 0 [.ref t, .int x1] = [(0, .ref t), (1, .int x1)] from rfl) ?_
  show ZY l g _ _ _ _ _ _ _ _ _ _ _ _ _ _ σ 0 [(0, .ref t), (1, .int x1)] []
  unfold f_Jx4a65c_grow_92f84 at h
  refine ym 1 (fun B k => z_aload_n B dJx4a65c_grow_92f84_0 rfl 0 rfl k) ?_
  replace h := qv_e h
  obtain ⟨w1, e_w1, h⟩ := h
  have hq_w1 : rkE g σ w1 := rkE_T hT hk_t e_w1
  refine ym 4 (fun B k => gf_Jx4a65c_9 (x := w1) B hk_t e_w1 dJx4a65c_grow_92f84_1 k) ?_
  replace h := bq_e h
  obtain ⟨a2, rfl, h⟩ := h
  have hk_a2 := hq_w1 a2 rfl
  refine ym 5 (fun B k => z_alenE B hT hk_a2 rfl dJx4a65c_grow_92f84_4 k) ?_
  refine ym 6 (fun B k => z_istore_n (lv' := [(2, .int (Int32.ofNat (lenE σ a2))), (0, .ref t), (1, .int x1)]) B dJx4a65c_grow_92f84_5 rfl (by decide) rfl k) ?_
  refine ym 7 (fun B k => z_iload_n B dJx4a65c_grow_92f84_6 rfl 0 rfl k) ?_
  by_cases c3 : 0 < (Int32.ofNat (lenE σ a2))
  · replace h := ite_p c3 h
    refine ym 20 (fun B k => z_if_gt (tgt := 20) B dJx4a65c_grow_92f84_7 (by decide) (fun _ => k) (fun q => absurd c3 q)) ?_
    refine y_sub [(0, .ref t), (1, .int x1), (2, .int (Int32.ofNat (lenE σ a2)))] [1, 2, 0] rfl ?_
    exact tb_Jx4a65c_grow_92f84_20 h hT hk_t
  · replace h := ite_n c3 h
    refine ym 10 (fun B k => z_if_gt (tgt := 20) B dJx4a65c_grow_92f84_7 (by decide) (fun q => absurd q c3) (fun _ => k)) ?_
    refine ym 11 (fun B k => z_aload_n B dJx4a65c_grow_92f84_10 rfl 1 rfl k) ?_
    replace h := qv_e h
    obtain ⟨w4, e_w4, h⟩ := h
    have hq_w4 : rkE g σ w4 := rkE_T hT hk_t e_w4
    refine ym 14 (fun B k => gf_Jx4a65c_9 (x := w4) B hk_t e_w4 dJx4a65c_grow_92f84_11 k) ?_
    refine ym 17 (fun B k => z_gets B wg_50 dJx4a65c_grow_92f84_14 (fun t ht => by subst ht; exact k)) ?_
    replace h := bq_e h
    obtain ⟨a5, rfl, h⟩ := h
    have hk_a5 := hq_w4 a5 rfl
    by_cases c6 : sx_K σ a5 = 17
    · replace h := ite_p c6 h
      refine ym 20 (fun B k => z_acmp_eq (rx := some a5) (ry := some (gx_e g)) (tgt := 45) B dJx4a65c_grow_92f84_17 (by decide) (fun q => absurd q (fun q => by have h9 := TS_e hT; rw [← Option.some.inj q] at h9; exact absurd (h9.symm.trans c6) (by decide))) (fun _ => k)) ?_
      refine y_sub [(0, .ref t), (1, .int x1), (2, .int (Int32.ofNat (lenE σ a2)))] [1, 2, 0] rfl ?_
      exact tb_Jx4a65c_grow_92f84_20 h hT hk_t
    · replace h := ite_n c6 h
      refine ym 45 (fun B k => z_acmp_eq (rx := some a5) (ry := some (gx_e g)) (tgt := 45) B dJx4a65c_grow_92f84_17 (by decide) (fun _ => k) (fun q => absurd (congrArg some (hk_a5.resolve_left c6)) q)) ?_
      refine ym 46 (fun B k => z_aload_n B dJx4a65c_grow_92f84_45 rfl 1 rfl k) ?_
      refine ym 48 (fun B k => z_bipush (v := 10) B dJx4a65c_grow_92f84_46 (by decide) k) ?_
      refine ym 49 (fun B k => z_iload_n B dJx4a65c_grow_92f84_48 rfl 2 rfl k) ?_
      replace h := br_e h
      obtain ⟨r8, h7, h⟩ := h
      have m9 := ct_J9_max_7cf53 l (g := g) h7 hT
      refine yc_Si (Al := [.int 10, .int x1]) (rest := [.ref t]) 52 rfl cw_Jx4a65c_79 dJx4a65c_grow_92f84_49 m9 rfl (by decide) rfl (Nat.le_of_ble_eq_true rfl) ?_
      replace h := lim_e h
      obtain ⟨hl_11, h⟩ := h
      replace h := qn_e h
      obtain ⟨a10, e_a10, h⟩ := h
      refine ymn 55 (kd := 17) (n := ti r8) hT (fun B hc hs k => z_newQ (kd := 17) (ti := 5) (n := ti r8) (a := a10) (σ' := (wx_N σ 17 (ti r8))) B wg_661 wn_652 rfl (by decide) (lim_n hl_11) rfl (lim_b hl_11) hc hs dJx4a65c_grow_92f84_52 e_a10 rfl k) ?_
      have hk_a10 : sx_K (wx_N σ 17 (ti r8)) a10 = 17 := if_pos e_a10.symm
      have hk_t := k_G (GG_n hT (GG_r (TS_N (kd := 17) (n := ti r8) hT))) (by decide) hk_t
      have hT := TS_N (kd := 17) (n := ti r8) hT
      refine ym 56 (fun B k => z_dup_x1 B dJx4a65c_grow_92f84_55 rfl rfl k) ?_
      have j12 := hk_t
      refine ymw (σ' := (wx_R (wx_N σ 17 (ti r8)) t 1 (some a10))) 59 e_R (fun B hin k => pf_Jx4a65c_9 (x := (some a10)) B hk_t rfl dJx4a65c_grow_92f84_56 k) ?_
      have hT := TS_R (k := 1) (v := (some a10)) hT hk_t (Or.inl rfl) (Or.inr (Or.inr (rk_a hk_a10)))
      have hk_t := kk_R (σ := (wx_N σ 17 (ti r8))) (a := t) (k := 1) (x := (some a10)) hk_t
      have hk_a10 := kk_R (σ := (wx_N σ 17 (ti r8))) (a := t) (k := 1) (x := (some a10)) hk_a10
      obtain ⟨rfl, rfl⟩ := Prod.mk.inj (Option.some.inj h)
      exact yr_qA (v := (some a10)) hT (rk_a hk_a10) rfl dJx4a65c_grow_92f84_59
set_option maxRecDepth 100000 in
set_option maxHeartbeats 4000000 in
theorem ct_Jx4a65c_grow_d5877 (l : Launch) {g : gx_T} {σ : sx_T} {u : sx_T} {r : Option Nat}  {t : Nat} (h : f_Jx4a65c_grow_d5877 σ t = some (r, u)) (hT : TS g σ) (hk_t : sx_K σ t = 1) : CT l g yJx4a65c_grow_d5877 cJx4a65c_grow_d5877 1 (some (.array (.object "java/lang/Object"))) 5 144 [.ref t] (rk u r 17) u σ (Qxq g r u) := by
  refine yc_met (by decide) (Nat.le_of_ble_eq_true rfl) ?_
  refine yc_lv (show lv_args 0 [.ref t] = [(0, .ref t)] from rfl) ?_
  show ZY l g _ _ _ _ _ _ _ _ _ _ _ _ _ _ σ 0 [(0, .ref t)] []
  unfold f_Jx4a65c_grow_d5877 at h
  refine ym 1 (fun B k => z_aload_n B dJx4a65c_grow_d5877_0 rfl 0 rfl k) ?_
  refine ym 2 (fun B k => z_aload_n B dJx4a65c_grow_d5877_1 rfl 0 rfl k) ?_
  refine ym 5 (fun B k => gf_Jx4a65c_48 (x := (sx_I σ t 2)) B hk_t rfl dJx4a65c_grow_d5877_2 k) ?_
  refine ym 6 (fun B k => z_iconst (v := 1) B dJx4a65c_grow_d5877_5 (by decide) k) ?_
  refine ym 7 (fun B k => z_iadd B dJx4a65c_grow_d5877_6 k) ?_
  replace h := bd_e h
  obtain ⟨r2, u3, h1, h⟩ := h
  have m4 := ct_Jx4a65c_grow_92f84 l (g := g) h1 hT hk_t
  refine yc_Vq (Al := [.int ((sx_I σ t 2) + 1)]) (rest := []) 10 rfl cw_Jx4a65c_69 cx_0 dJx4a65c_grow_d5877_7 m4 hk_t rfl (by decide) rfl (Nat.le_of_ble_eq_true rfl) ?_
  have hk_t := k_G m4.1.1 (by decide) hk_t
  have hT := m4.1.1.2.2.2
  have hq_r2 := m4.1.2
  obtain ⟨rfl, rfl⟩ := Prod.mk.inj (Option.some.inj h)
  exact yr_qA (v := r2) hT hq_r2 rfl dJx4a65c_grow_d5877_10
set_option maxRecDepth 100000 in
set_option maxHeartbeats 4000000 in
theorem tb_Jx4a65c_add_72be8_11 {l : Launch} {g : gx_T} {σ : sx_T} {u : sx_T} {As : Array Value}  {t : Nat} {v1 : Option Nat} {v2 : Option Nat} {x3 : Int32} (h : fb_Jx4a65c_add_72be8_11 σ t v1 v2 x3 = some u) (hT : TS g σ) (hk_t : sx_K σ t = 1) (hq_v1 : rk σ v1 9) (hq_v2 : rkE g σ v2) : ZY l g cJx4a65c_add_72be8 RJx4a65c "add" none 4 6 164 0 0 false As (QM g As (Qxv g u)) (True) u σ 11 [(0, .ref t), (1, va_rf v1), (2, va_rf v2), (3, .int x3)] [] := by
  unfold fb_Jx4a65c_add_72be8_11 at h
  refine ym 12 (fun B k => z_qload_n (r := v2) B dJx4a65c_add_72be8_11 rfl 2 rfl k) ?_
  refine ym 13 (fun B k => z_iload_n B dJx4a65c_add_72be8_12 rfl 3 rfl k) ?_
  refine ym 14 (fun B k => z_qload_n (r := v1) B dJx4a65c_add_72be8_13 rfl 1 rfl k) ?_
  replace h := bq_e h
  obtain ⟨a1, rfl, h⟩ := h
  have hk_a1 := hq_v2 a1 rfl
  replace h := gk_e h
  obtain ⟨hk_a1, h⟩ := h
  replace h := ck_e h
  obtain ⟨hi_2, h⟩ := h
  have j3 := hk_a1
  refine ymw (σ' := (wx_R σ a1 (ti x3) v1)) 15 e_R (fun B _ k => z_qastQ17 (j := (ti x3)) (v := v1) B cx_8 wn_1461 hq_v1 hk_a1 rfl hi_2 rfl dJx4a65c_add_72be8_14 k) ?_
  have hT := TS_R (k := (ti x3)) (v := v1) hT hk_a1 (Or.inr hq_v1) (Or.inl (by decide))
  have hk_t := kk_R (σ := σ) (a := a1) (k := (ti x3)) (x := v1) hk_t
  have hq_v1 := qk_R (σ := σ) (a := a1) (k := (ti x3)) (x := v1) hq_v1
  have hk_a1 := kk_R (σ := σ) (a := a1) (k := (ti x3)) (x := v1) hk_a1
  refine ym 16 (fun B k => z_aload_n B dJx4a65c_add_72be8_15 rfl 0 rfl k) ?_
  refine ym 17 (fun B k => z_iload_n B dJx4a65c_add_72be8_16 rfl 3 rfl k) ?_
  refine ym 18 (fun B k => z_iconst (v := 1) B dJx4a65c_add_72be8_17 (by decide) k) ?_
  refine ym 19 (fun B k => z_iadd B dJx4a65c_add_72be8_18 k) ?_
  have j4 := hk_t
  refine ymw (σ' := (wx_I (wx_R σ a1 (ti x3) v1) t 2 (x3 + 1))) 22 e_I (fun B hin k => pf_Jx4a65c_48 (x := (x3 + 1)) B hk_t rfl dJx4a65c_add_72be8_19 k) ?_
  have hT := TS_I (k := 2) (x := (x3 + 1)) hT hk_t (Or.inl rfl)
  have hk_t := kk_I (σ := (wx_R σ a1 (ti x3) v1)) (a := t) (k := 2) (x := (x3 + 1)) hk_t
  have hq_v1 := qk_I (σ := (wx_R σ a1 (ti x3) v1)) (a := t) (k := 2) (x := (x3 + 1)) hq_v1
  have hk_a1 := kk_I (σ := (wx_R σ a1 (ti x3) v1)) (a := t) (k := 2) (x := (x3 + 1)) hk_a1
  obtain rfl := Option.some.inj h
  exact yr_v hT trivial rfl dJx4a65c_add_72be8_22
set_option maxRecDepth 100000 in
set_option maxHeartbeats 4000000 in
theorem ct_Jx4a65c_add_72be8 (l : Launch) {g : gx_T} {σ : sx_T} {u : sx_T}  {t : Nat} {v1 : Option Nat} {v2 : Option Nat} {x3 : Int32} (h : f_Jx4a65c_add_72be8 σ t v1 v2 x3 = some u) (hT : TS g σ) (hk_t : sx_K σ t = 1) (hq_v1 : rk σ v1 9) (hq_v2 : rkE g σ v2) : CT l g yJx4a65c_add_72be8 cJx4a65c_add_72be8 4 none 6 164 [.ref t, va_rf v1, va_rf v2, .int x3] (True) u σ (Qxv g u) := by
  refine yc_met (by decide) (by cases v1 <;> cases v2 <;> exact Nat.le_of_ble_eq_true rfl) ?_
  refine yc_lv (show lv_args 0 [.ref t, va_rf v1, va_rf v2, .int x3] = [(0, .ref t), (1, va_rf v1), (2, va_rf v2), (3, .int x3)] from (by cases v1 <;> cases v2 <;> rfl)) ?_
  show ZY l g _ _ _ _ _ _ _ _ _ _ _ _ _ _ σ 0 [(0, .ref t), (1, va_rf v1), (2, va_rf v2), (3, .int x3)] []
  unfold f_Jx4a65c_add_72be8 at h
  refine ym 1 (fun B k => z_iload_n B dJx4a65c_add_72be8_0 rfl 3 rfl k) ?_
  refine ym 2 (fun B k => z_qload_n (r := v2) B dJx4a65c_add_72be8_1 rfl 2 rfl k) ?_
  replace h := bq_e h
  obtain ⟨a1, rfl, h⟩ := h
  have hk_a1 := hq_v2 a1 rfl
  refine ym 3 (fun B k => z_alenE B hT hk_a1 rfl dJx4a65c_add_72be8_2 k) ?_
  by_cases c2 : x3 = (Int32.ofNat (lenE σ a1))
  · replace h := ite_p c2 h
    refine ym 6 (fun B k => z_icmp_ne (tgt := 11) B dJx4a65c_add_72be8_3 (by decide) (fun q => absurd c2 q) (fun _ => k)) ?_
    refine ym 7 (fun B k => z_aload_n B dJx4a65c_add_72be8_6 rfl 0 rfl k) ?_
    replace h := bd_e h
    obtain ⟨r4, u5, h3, h⟩ := h
    have m6 := ct_Jx4a65c_grow_d5877 l (g := g) h3 hT hk_t
    refine yc_Vq (Al := []) (rest := []) 10 rfl cw_Jx4a65c_129 cx_0 dJx4a65c_add_72be8_7 m6 hk_t rfl (by decide) rfl (Nat.le_of_ble_eq_true rfl) ?_
    have hk_t := k_G m6.1.1 (by decide) hk_t
    have hq_v1 := rk_G m6.1.1 (by decide) hq_v1
    have hk_a1 := kE_G m6.1.1 hk_a1
    have hT := m6.1.1.2.2.2
    have hq_r4 := m6.1.2
    refine ym 11 (fun B k => z_qstore_n (r := r4) (lv' := [(2, va_rf r4), (0, .ref t), (1, va_rf v1), (3, .int x3)]) B dJx4a65c_add_72be8_10 rfl (by decide) (by cases v1 <;> rfl) k) ?_
    refine y_sub [(0, .ref t), (1, va_rf v1), (2, va_rf r4), (3, .int x3)] [1, 2, 0, 3] rfl ?_
    exact tb_Jx4a65c_add_72be8_11 h hT hk_t hq_v1 (rkE_of hq_r4)
  · replace h := ite_n c2 h
    refine ym 11 (fun B k => z_icmp_ne (tgt := 11) B dJx4a65c_add_72be8_3 (by decide) (fun _ => k) (fun q => absurd q c2)) ?_
    refine y_sub [(0, .ref t), (1, va_rf v1), (2, .ref a1), (3, .int x3)] [0, 1, 2, 3] rfl ?_
    exact tb_Jx4a65c_add_72be8_11 h hT hk_t hq_v1 (rkE_a hk_a1)
set_option maxRecDepth 100000 in
set_option maxHeartbeats 4000000 in
theorem ct_Jx4a65c_add_9ea2d (l : Launch) {g : gx_T} {σ : sx_T} {u : sx_T} {r : Int32}  {t : Nat} {v1 : Option Nat} (h : f_Jx4a65c_add_9ea2d σ t v1 = some (r, u)) (hT : TS g σ) (hk_t : sx_K σ t = 1) (hq_v1 : rk σ v1 9) : CT l g yJx4a65c_add_9ea2d cJx4a65c_add_9ea2d 2 (some .boolean) 7 187 [.ref t, va_rf v1] (r = 0 ∨ r = 1) u σ (Qxi g r u) := by
  refine yc_met (by decide) (by cases v1 <;> exact Nat.le_of_ble_eq_true rfl) ?_
  refine yc_lv (show lv_args 0 [.ref t, va_rf v1] = [(0, .ref t), (1, va_rf v1)] from (by cases v1 <;> rfl)) ?_
  show ZY l g _ _ _ _ _ _ _ _ _ _ _ _ _ _ σ 0 [(0, .ref t), (1, va_rf v1)] []
  unfold f_Jx4a65c_add_9ea2d at h
  refine ym 1 (fun B k => z_aload_n B dJx4a65c_add_9ea2d_0 rfl 0 rfl k) ?_
  refine ym 2 (fun B k => z_dup B dJx4a65c_add_9ea2d_1 rfl k) ?_
  refine ym 5 (fun B k => gf_Jx4a65c_63 (x := (sx_I σ t 0)) B hk_t rfl dJx4a65c_add_9ea2d_2 k) ?_
  refine ym 6 (fun B k => z_iconst (v := 1) B dJx4a65c_add_9ea2d_5 (by decide) k) ?_
  refine ym 7 (fun B k => z_iadd B dJx4a65c_add_9ea2d_6 k) ?_
  have j1 := hk_t
  refine ymw (σ' := (wx_I σ t 0 ((sx_I σ t 0) + 1))) 10 e_I (fun B hin k => pf_Jx4a65c_63 (x := ((sx_I σ t 0) + 1)) B hk_t rfl dJx4a65c_add_9ea2d_7 k) ?_
  have hT := TS_I (k := 0) (x := ((sx_I σ t 0) + 1)) hT hk_t (Or.inl rfl)
  have hk_t := kk_I (σ := σ) (a := t) (k := 0) (x := ((sx_I σ t 0) + 1)) hk_t
  have hq_v1 := qk_I (σ := σ) (a := t) (k := 0) (x := ((sx_I σ t 0) + 1)) hq_v1
  refine ym 11 (fun B k => z_aload_n B dJx4a65c_add_9ea2d_10 rfl 0 rfl k) ?_
  refine ym 12 (fun B k => z_qload_n (r := v1) B dJx4a65c_add_9ea2d_11 rfl 1 rfl k) ?_
  refine ym 13 (fun B k => z_aload_n B dJx4a65c_add_9ea2d_12 rfl 0 rfl k) ?_
  replace h := qv_e h
  obtain ⟨w2, e_w2, h⟩ := h
  have hq_w2 : rkE g (wx_I σ t 0 ((sx_I σ t 0) + 1)) w2 := rkE_T hT hk_t ((rR_I rfl).trans e_w2)
  refine ym 16 (fun B k => gf_Jx4a65c_9 (x := w2) B hk_t ((rR_I rfl).trans e_w2) dJx4a65c_add_9ea2d_13 k) ?_
  refine ym 17 (fun B k => z_aload_n B dJx4a65c_add_9ea2d_16 rfl 0 rfl k) ?_
  refine ym 20 (fun B k => gf_Jx4a65c_48 (x := (sx_I σ t 2)) B hk_t (rI_n (by decide) rfl) dJx4a65c_add_9ea2d_17 k) ?_
  replace h := br_e h
  obtain ⟨u4, h3, h⟩ := h
  have m5 := ct_Jx4a65c_add_72be8 l (g := g) h3 hT hk_t hq_v1 hq_w2
  refine yc_Vv (Al := [va_rf v1, va_rf w2, .int (sx_I σ t 2)]) (rest := []) 23 rfl cw_Jx4a65c_131 cx_0 dJx4a65c_add_9ea2d_20 m5 hk_t rfl (by decide) rfl (Nat.le_of_ble_eq_true rfl) ?_
  have hk_t := k_G m5.1.1 (by decide) hk_t
  have hq_v1 := rk_G m5.1.1 (by decide) hq_v1
  have hT := m5.1.1.2.2.2
  refine ym 24 (fun B k => z_iconst (v := 1) B dJx4a65c_add_9ea2d_23 (by decide) k) ?_
  obtain ⟨rfl, rfl⟩ := Prod.mk.inj (Option.some.inj h)
  exact yr_z hT (Or.inr rfl) rfl (Or.inr rfl) dJx4a65c_add_9ea2d_24
set_option maxRecDepth 100000 in
set_option maxHeartbeats 4000000 in
theorem ct_X8_schedule (l : Launch) {g : gx_T} {σ : sx_T} {u : sx_T}  {t : Nat} {v1 : Option Nat} {x2 : Int32} (h : f_X8_schedule σ t v1 x2 = some u) (hT : TS g σ) (hk_t : sx_K σ t = 10) (hq_v1 : rk σ v1 2) : CT l g yX8_schedule cX8_schedule 4 none 8 208 [.ref t, va_rf v1, .int x2] (True) u σ (Qxv g u) := by
  refine yc_met (by decide) (by cases v1 <;> exact Nat.le_of_ble_eq_true rfl) ?_
  refine yc_lv (show lv_args 0 [.ref t, va_rf v1, .int x2] = [(0, .ref t), (1, va_rf v1), (2, .int x2)] from (by cases v1 <;> rfl)) ?_
  show ZY l g _ _ _ _ _ _ _ _ _ _ _ _ _ _ σ 0 [(0, .ref t), (1, va_rf v1), (2, .int x2)] []
  unfold f_X8_schedule at h
  replace h := qn_e h
  obtain ⟨a1, e_a1, h⟩ := h
  refine ymn 3 (kd := 9) (n := 0) hT (fun B hc hs k => z_newo (a := a1) (σ' := (wx_N σ 9 0)) B cx_8 df_8 wg_566 hc hs dX8_schedule_0 e_a1 rfl k) ?_
  have hk_a1 : sx_K (wx_N σ 9 0) a1 = 9 := if_pos e_a1.symm
  have hk_t := k_G (GG_n hT (GG_r (TS_N (kd := 9) (n := 0) hT))) (by decide) hk_t
  have hq_v1 := rk_G (GG_n hT (GG_r (TS_N (kd := 9) (n := 0) hT))) (by decide) hq_v1
  have hT := TS_N (kd := 9) (n := 0) hT
  refine ym 4 (fun B k => z_dup B dX8_schedule_3 rfl k) ?_
  refine ym 5 (fun B k => z_aload_n B dX8_schedule_4 rfl 0 rfl k) ?_
  replace h := qv_e h
  obtain ⟨w2, e_w2, h⟩ := h
  have hq_w2 : rk (wx_N σ 9 0) w2 1 := rk_T hT hk_t rfl (by decide) e_w2
  refine ym 8 (fun B k => gf_X8_28 (x := w2) B hk_t e_w2 dX8_schedule_5 k) ?_
  replace h := bq_e h
  obtain ⟨a3, rfl, h⟩ := h
  have hk_a3 := hq_w2 a3 rfl
  replace h := br_e h
  obtain ⟨r5, h4, h⟩ := h
  have m6 := ct_Jx4a65c_size_8abf5 l (g := g) h4 hT hk_a3
  refine yc_Vi (Al := []) (rest := [.ref a1, .ref a1]) 11 rfl cw_X8_264 cx_0 dX8_schedule_8 m6 hk_a3 rfl (by decide) rfl (Nat.le_of_ble_eq_true rfl) ?_
  refine ym 12 (fun B k => z_qload_n (r := v1) B dX8_schedule_11 rfl 1 rfl k) ?_
  refine ym 13 (fun B k => z_iload_n B dX8_schedule_12 rfl 2 rfl k) ?_
  replace h := br_e h
  obtain ⟨u8, h7, h⟩ := h
  have m9 := ct_X7_init l (g := g) h7 hT hk_a1 hq_v1
  refine yc_I (Al := [.int r5, va_rf v1, .int x2]) (rest := [.ref a1]) 16 rfl cw_X8_411 dX8_schedule_13 m9 rfl (by decide) rfl (Nat.le_of_ble_eq_true rfl) ?_
  have hk_t := k_G m9.1.1 (by decide) hk_t
  have hq_v1 := rk_G m9.1.1 (by decide) hq_v1
  have hk_a1 := k_G m9.1.1 (by decide) hk_a1
  have hT := m9.1.1.2.2.2
  refine ym 17 (fun B k => z_astore_n (lv' := [(3, .ref a1), (0, .ref t), (1, va_rf v1), (2, .int x2)]) B dX8_schedule_16 rfl (by decide) rfl k) ?_
  refine ym 18 (fun B k => z_aload_n B dX8_schedule_17 rfl 1 rfl k) ?_
  replace h := qv_e h
  obtain ⟨w10, e_w10, h⟩ := h
  have hq_w10 : rk u8 w10 1 := rk_T hT hk_t rfl (by decide) e_w10
  refine ym 21 (fun B k => gf_X8_28 (x := w10) B hk_t e_w10 dX8_schedule_18 k) ?_
  refine ym 22 (fun B k => z_aload_n B dX8_schedule_21 rfl 0 rfl k) ?_
  replace h := bq_e h
  obtain ⟨a11, rfl, h⟩ := h
  have hk_a11 := hq_w10 a11 rfl
  replace h := bd_e h
  obtain ⟨r13, u14, h12, h⟩ := h
  have m15 := ct_Jx4a65c_add_9ea2d l (g := g) h12 hT hk_a11 (rk_a hk_a1)
  refine yc_Vi (Al := [.ref a1]) (rest := []) 25 rfl cw_X8_414 cx_0 dX8_schedule_22 m15 hk_a11 rfl (by decide) rfl (Nat.le_of_ble_eq_true rfl) ?_
  have hk_a1 := k_G m15.1.1 (by decide) hk_a1
  have hk_t := k_G m15.1.1 (by decide) hk_t
  have hq_v1 := rk_G m15.1.1 (by decide) hq_v1
  have hT := m15.1.1.2.2.2
  have hz_r13 := m15.1.2
  refine ym 26 (fun B k => z_pop B dX8_schedule_25 rfl k) ?_
  refine ym 27 (fun B k => z_qload_n (r := v1) B dX8_schedule_26 rfl 2 rfl k) ?_
  refine ym 28 (fun B k => z_aload_n B dX8_schedule_27 rfl 0 rfl k) ?_
  replace h := bq_e h
  obtain ⟨a16, rfl, h⟩ := h
  have hk_a16 := hq_v1 a16 rfl
  have j17 := hk_a16
  refine ymw (σ' := (wx_R u14 a16 7 (some a1))) 31 e_R (fun B hin k => pf_X8_276 (x := (some a1)) B hk_a16 rfl dX8_schedule_28 k) ?_
  have hT := TS_R (k := 7) (v := (some a1)) hT hk_a16 (Or.inr (rk_a hk_a1)) (Or.inl (by decide))
  have hk_a1 := kk_R (σ := u14) (a := a16) (k := 7) (x := (some a1)) hk_a1
  have hk_t := kk_R (σ := u14) (a := a16) (k := 7) (x := (some a1)) hk_t
  have hk_a16 := kk_R (σ := u14) (a := a16) (k := 7) (x := (some a1)) hk_a16
  obtain rfl := Option.some.inj h
  exact yr_v hT trivial rfl dX8_schedule_31
set_option maxRecDepth 100000 in
set_option maxHeartbeats 4000000 in
theorem ct_X8_draw (l : Launch) {g : gx_T} {σ : sx_T} {u : sx_T} {r : Int32}  {t : Nat} {x1 : Int32} (h : f_X8_draw σ t x1 = some (r, u)) (hT : TS g σ) (hk_t : sx_K σ t = 10) : CT l g yX8_draw cX8_draw 2 (some .int) 0 0 [.ref t, .int x1] (True) u σ (Qxi g r u) := by
  refine yc_met (by decide) (Nat.le_of_ble_eq_true rfl) ?_
  refine yc_lv (show lv_args 0 [.ref t, .int x1] = [(0, .ref t), (1, .int x1)] from rfl) ?_
  show ZY l g _ _ _ _ _ _ _ _ _ _ _ _ _ _ σ 0 [(0, .ref t), (1, .int x1)] []
  unfold f_X8_draw at h
  refine ym 1 (fun B k => z_aload_n B dX8_draw_0 rfl 0 rfl k) ?_
  refine ym 3 (fun B k => z_bipush (v := 75) B dX8_draw_1 (by decide) k) ?_
  refine ym 4 (fun B k => z_aload_n B dX8_draw_3 rfl 0 rfl k) ?_
  refine ym 7 (fun B k => gf_X8_42 (x := (sx_I σ t 10)) B hk_t rfl dX8_draw_4 k) ?_
  refine ym 8 (fun B k => z_imul B dX8_draw_7 k) ?_
  refine ym 10 (fun B k => z_bipush (v := 74) B dX8_draw_8 (by decide) k) ?_
  refine ym 11 (fun B k => z_iadd B dX8_draw_10 k) ?_
  refine ym 14 (fun B k => z_ldcw (v := 65537) B dX8_draw_11 wg_666 k) ?_
  refine ym 15 (fun B k => z_irem B dX8_draw_14 (by decide) k) ?_
  have j1 := hk_t
  refine ymw (σ' := (wx_I σ t 10 (jrem ((75 * (sx_I σ t 10)) + 74) 65537))) 18 e_I (fun B hin k => pf_X8_42 (x := (jrem ((75 * (sx_I σ t 10)) + 74) 65537)) B hk_t rfl dX8_draw_15 k) ?_
  have hT := TS_I (k := 10) (x := (jrem ((75 * (sx_I σ t 10)) + 74) 65537)) hT hk_t (Or.inl rfl)
  have hk_t := kk_I (σ := σ) (a := t) (k := 10) (x := (jrem ((75 * (sx_I σ t 10)) + 74) 65537)) hk_t
  refine ym 19 (fun B k => z_iload_n B dX8_draw_18 rfl 1 rfl k) ?_
  by_cases c2 : 0 ≤ x1
  · replace h := ite_p c2 h
    refine ym 26 (fun B k => z_if_ge (tgt := 26) B dX8_draw_19 (by decide) (fun _ => k) (fun q => absurd c2 q)) ?_
    refine ym 27 (fun B k => z_aload_n B dX8_draw_26 rfl 0 rfl k) ?_
    refine ym 30 (fun B k => gf_X8_42 (x := (jrem ((75 * (sx_I σ t 10)) + 74) 65537)) B hk_t rI_s dX8_draw_27 k) ?_
    refine ym 31 (fun B k => z_iload_n B dX8_draw_30 rfl 1 rfl k) ?_
    refine ym 32 (fun B k => z_iconst (v := 1) B dX8_draw_31 (by decide) k) ?_
    refine ym 33 (fun B k => z_iadd B dX8_draw_32 k) ?_
    replace h := nz_e h
    obtain ⟨h0_3, h⟩ := h
    refine ym 34 (fun B k => z_irem B dX8_draw_33 h0_3 k) ?_
    obtain ⟨rfl, rfl⟩ := Prod.mk.inj (Option.some.inj h)
    exact yr_i hT trivial rfl dX8_draw_34
  · replace h := ite_n c2 h
    refine ym 22 (fun B k => z_if_ge (tgt := 26) B dX8_draw_19 (by decide) (fun q => absurd q c2) (fun _ => k)) ?_
    refine ym 23 (fun B k => z_iconst (v := 0) B dX8_draw_22 (by decide) k) ?_
    refine ym 34 (fun B k => z_goto (tgt := 34) B dX8_draw_23 (by decide) k) ?_
    obtain ⟨rfl, rfl⟩ := Prod.mk.inj (Option.some.inj h)
    exact yr_i hT trivial rfl dX8_draw_34
set_option maxRecDepth 100000 in
set_option maxHeartbeats 4000000 in
theorem ct_X0_waitsForChild (l : Launch) {g : gx_T} {σ : sx_T} {r : Int32}  {t : Nat} {x1 : Int32} (h : f_X0_waitsForChild σ t x1 = some r) (hT : TS g σ) (hk_t : sx_K σ t = 2) : CT l g yX0_waitsForChild cX0_waitsForChild 2 (some .boolean) 0 0 [.ref t, .int x1] (r = 0 ∨ r = 1) σ σ (Qxi g r σ) := by
  refine yc_met (by decide) (Nat.le_of_ble_eq_true rfl) ?_
  refine yc_lv (show lv_args 0 [.ref t, .int x1] = [(0, .ref t), (1, .int x1)] from rfl) ?_
  show ZY l g _ _ _ _ _ _ _ _ _ _ _ _ _ _ σ 0 [(0, .ref t), (1, .int x1)] []
  unfold f_X0_waitsForChild at h
  refine ym 1 (fun B k => z_aload_n B dX0_waitsForChild_0 rfl 0 rfl k) ?_
  replace h := qv_e h
  obtain ⟨w1, e_w1, h⟩ := h
  have hq_w1 : rk σ w1 7 := rk_T hT hk_t rfl (by decide) e_w1
  refine ym 4 (fun B k => gf_X0_32 (x := w1) B hk_t e_w1 dX0_waitsForChild_1 k) ?_
  replace h := bq_e h
  obtain ⟨a2, rfl, h⟩ := h
  have hk_a2 := hq_w1 a2 rfl
  refine ym 7 (fun B k => gf_X0_49 (x := (sx_I σ a2 19)) B hk_a2 rfl dX0_waitsForChild_4 k) ?_
  by_cases c3 : (sx_I σ a2 19) = 0
  · replace h := ite_p c3 h
    refine ym 10 (fun B k => z_if_ne (tgt := 36) B dX0_waitsForChild_7 (by decide) (fun q => absurd c3 q) (fun _ => k)) ?_
    refine ym 11 (fun B k => z_aload_n B dX0_waitsForChild_10 rfl 0 rfl k) ?_
    replace h := qv_e h
    obtain ⟨w4, e_w4, h⟩ := h
    have hq_w4 : rk σ w4 7 := rk_T hT hk_t rfl (by decide) e_w4
    refine ym 14 (fun B k => gf_X0_32 (x := w4) B hk_t e_w4 dX0_waitsForChild_11 k) ?_
    replace h := bq_e h
    obtain ⟨a5, rfl, h⟩ := h
    have hk_a5 := hq_w4 a5 rfl
    refine ym 17 (fun B k => gf_X0_55 (x := (sx_I σ a5 8)) B hk_a5 rfl dX0_waitsForChild_14 k) ?_
    refine ym 18 (fun B k => z_iconst (v := 5) B dX0_waitsForChild_17 (by decide) k) ?_
    by_cases c6 : (sx_I σ a5 8) = 5
    · replace h := ite_p c6 h
      refine ym 21 (fun B k => z_icmp_ne (tgt := 36) B dX0_waitsForChild_18 (by decide) (fun q => absurd c6 q) (fun _ => k)) ?_
      refine ym 22 (fun B k => z_aload_n B dX0_waitsForChild_21 rfl 0 rfl k) ?_
      replace h := qv_e h
      obtain ⟨w7, e_w7, h⟩ := h
      have hq_w7 : rk σ w7 7 := rk_T hT hk_t rfl (by decide) e_w7
      refine ym 25 (fun B k => gf_X0_32 (x := w7) B hk_t e_w7 dX0_waitsForChild_22 k) ?_
      replace h := bq_e h
      obtain ⟨a8, rfl, h⟩ := h
      have hk_a8 := hq_w7 a8 rfl
      refine ym 28 (fun B k => gf_X0_58 (x := (sx_I σ a8 10)) B hk_a8 rfl dX0_waitsForChild_25 k) ?_
      refine ym 29 (fun B k => z_iload_n B dX0_waitsForChild_28 rfl 1 rfl k) ?_
      by_cases c9 : (sx_I σ a8 10) = x1
      · replace h := ite_p c9 h
        refine ym 32 (fun B k => z_icmp_ne (tgt := 36) B dX0_waitsForChild_29 (by decide) (fun q => absurd c9 q) (fun _ => k)) ?_
        refine ym 33 (fun B k => z_iconst (v := 1) B dX0_waitsForChild_32 (by decide) k) ?_
        refine ym 37 (fun B k => z_goto (tgt := 37) B dX0_waitsForChild_33 (by decide) k) ?_
        obtain rfl := Option.some.inj h
        exact yr_z hT (Or.inr rfl) rfl (Or.inr rfl) dX0_waitsForChild_37
      · replace h := ite_n c9 h
        refine ym 36 (fun B k => z_icmp_ne (tgt := 36) B dX0_waitsForChild_29 (by decide) (fun _ => k) (fun q => absurd q c9)) ?_
        refine ym 37 (fun B k => z_iconst (v := 0) B dX0_waitsForChild_36 (by decide) k) ?_
        obtain rfl := Option.some.inj h
        exact yr_z hT (Or.inl rfl) rfl (Or.inl rfl) dX0_waitsForChild_37
    · replace h := ite_n c6 h
      refine ym 36 (fun B k => z_icmp_ne (tgt := 36) B dX0_waitsForChild_18 (by decide) (fun _ => k) (fun q => absurd q c6)) ?_
      refine ym 37 (fun B k => z_iconst (v := 0) B dX0_waitsForChild_36 (by decide) k) ?_
      obtain rfl := Option.some.inj h
      exact yr_z hT (Or.inl rfl) rfl (Or.inl rfl) dX0_waitsForChild_37
  · replace h := ite_n c3 h
    refine ym 36 (fun B k => z_if_ne (tgt := 36) B dX0_waitsForChild_7 (by decide) (fun _ => k) (fun q => absurd q c3)) ?_
    refine ym 37 (fun B k => z_iconst (v := 0) B dX0_waitsForChild_36 (by decide) k) ?_
    obtain rfl := Option.some.inj h
    exact yr_z hT (Or.inl rfl) rfl (Or.inl rfl) dX0_waitsForChild_37
set_option maxRecDepth 100000 in
set_option maxHeartbeats 4000000 in
theorem ct_X8_tellParent (l : Launch) {g : gx_T} {σ : sx_T} {u : sx_T}  {t : Nat} {v1 : Option Nat} {x2 : Int64} (h : f_X8_tellParent σ t v1 x2 = some u) (hT : TS g σ) (hk_t : sx_K σ t = 10) (hq_v1 : rk σ v1 2) : CT l g yX8_tellParent cX8_tellParent 5 none 2 45 [.ref t, va_rf v1, .long x2] (True) u σ (Qxv g u) := by
  refine yc_met (by decide) (by cases v1 <;> exact Nat.le_of_ble_eq_true rfl) ?_
  refine yc_lv (show lv_args 0 [.ref t, va_rf v1, .long x2] = [(0, .ref t), (1, va_rf v1), (2, .long x2)] from (by cases v1 <;> rfl)) ?_
  show ZY l g _ _ _ _ _ _ _ _ _ _ _ _ _ _ σ 0 [(0, .ref t), (1, va_rf v1), (2, .long x2)] []
  unfold f_X8_tellParent at h
  refine ym 1 (fun B k => z_aload_n B dX8_tellParent_0 rfl 0 rfl k) ?_
  refine ym 2 (fun B k => z_qload_n (r := v1) B dX8_tellParent_1 rfl 1 rfl k) ?_
  replace h := bq_e h
  obtain ⟨a1, rfl, h⟩ := h
  have hk_a1 := hq_v1 a1 rfl
  refine ym 5 (fun B k => gf_X8_259 (x := (sx_I σ a1 4)) B hk_a1 rfl dX8_tellParent_2 k) ?_
  replace h := br_e h
  obtain ⟨r3, h2, h⟩ := h
  have m4 := ct_X8_flowAt l (g := g) h2 hT hk_t
  refine yc_Vq (Al := [.int (sx_I σ a1 4)]) (rest := []) 8 rfl cw_X8_99 cx_9 dX8_tellParent_5 m4 hk_t rfl (by decide) rfl (Nat.le_of_ble_eq_true rfl) ?_
  have hq_r3 := m4.1.2
  refine ym 10 (fun B k => z_qstore (r := r3) (lv' := [(4, va_rf r3), (0, .ref t), (1, .ref a1), (2, .long x2)]) B dX8_tellParent_8 (by decide) rfl k) ?_
  refine ym 12 (fun B k => z_qload (r := r3) B dX8_tellParent_10 0 rfl k) ?_
  rcases r3 with _ | a5
  · replace h := oc_n h
    refine ym 58 (fun B k => z_ifnull (r := none) (tgt := 58) B dX8_tellParent_12 (by decide) (fun _ => k) (fun a h => nomatch h)) ?_
    obtain rfl := Option.some.inj h
    exact yr_v hT trivial rfl dX8_tellParent_58
  · replace h := oc_s h
    have hk_a5 := hq_r3 a5 rfl
    refine ym 15 (fun B k => z_ifnull (r := (some a5)) (tgt := 58) B dX8_tellParent_12 (by decide) (fun h => nomatch h) (fun _ _ => k)) ?_
    refine ym 16 (fun B k => z_aload_n B dX8_tellParent_15 rfl 2 rfl k) ?_
    replace h := qv_e h
    obtain ⟨w6, e_w6, h⟩ := h
    have hq_w6 : rk σ w6 3 := rk_T hT hk_a1 rfl (by decide) e_w6
    refine ym 19 (fun B k => gf_X8_179 (x := w6) B hk_a1 e_w6 dX8_tellParent_16 k) ?_
    replace h := bq_e h
    obtain ⟨a7, rfl, h⟩ := h
    have hk_a7 := hq_w6 a7 rfl
    replace h := br_e h
    obtain ⟨r9, h8, h⟩ := h
    have m10 := ct_X1_ending l (g := g) h8 hT hk_a7
    refine yc_Vi (Al := []) (rest := []) 22 rfl cw_X8_246 cx_2 dX8_tellParent_19 m10 hk_a7 rfl (by decide) rfl (Nat.le_of_ble_eq_true rfl) ?_
    refine ym 23 (fun B k => z_iconst (v := 4) B dX8_tellParent_22 (by decide) k) ?_
    by_cases c11 : r9 = 4
    · replace h := ite_p c11 h
      refine ym 58 (fun B k => z_icmp_eq (tgt := 58) B dX8_tellParent_23 (by decide) (fun _ => k) (fun q => absurd c11 q)) ?_
      obtain rfl := Option.some.inj h
      exact yr_v hT trivial rfl dX8_tellParent_58
    · replace h := ite_n c11 h
      refine ym 26 (fun B k => z_icmp_eq (tgt := 58) B dX8_tellParent_23 (by decide) (fun q => absurd q c11) (fun _ => k)) ?_
      refine ym 28 (fun B k => z_aload B dX8_tellParent_26 0 rfl k) ?_
      refine ym 29 (fun B k => z_aload_n B dX8_tellParent_28 rfl 2 rfl k) ?_
      refine ym 32 (fun B k => gf_X8_406 (x := (sx_I σ a1 5)) B hk_a1 rfl dX8_tellParent_29 k) ?_
      replace h := br_e h
      obtain ⟨r13, h12, h⟩ := h
      have m14 := ct_X0_waitsForChild l (g := g) h12 hT hk_a5
      refine yc_Vi (Al := [.int (sx_I σ a1 5)]) (rest := []) 35 rfl cw_X8_407 cx_1 dX8_tellParent_32 m14 hk_a5 rfl (by decide) rfl (Nat.le_of_ble_eq_true rfl) ?_
      have hz_r13 := m14.1.2
      by_cases c15 : r13 = 0
      · replace h := ite_p c15 h
        refine ym 58 (fun B k => z_if_eq (tgt := 58) B dX8_tellParent_35 (by decide) (fun _ => k) (fun q => absurd c15 q)) ?_
        obtain rfl := Option.some.inj h
        exact yr_v hT trivial rfl dX8_tellParent_58
      · replace h := ite_n c15 h
        refine ym 38 (fun B k => z_if_eq (tgt := 58) B dX8_tellParent_35 (by decide) (fun q => absurd q c15) (fun _ => k)) ?_
        refine ym 40 (fun B k => z_aload B dX8_tellParent_38 0 rfl k) ?_
        replace h := qv_e h
        obtain ⟨w16, e_w16, h⟩ := h
        have hq_w16 : rk σ w16 3 := rk_T hT hk_a5 rfl (by decide) e_w16
        refine ym 43 (fun B k => gf_X8_179 (x := w16) B hk_a5 e_w16 dX8_tellParent_40 k) ?_
        refine ym 45 (fun B k => z_bipush (v := 8) B dX8_tellParent_43 (by decide) k) ?_
        refine ym 46 (fun B k => z_lload_n B dX8_tellParent_45 rfl 3 rfl k) ?_
        replace h := bq_e h
        obtain ⟨a17, rfl, h⟩ := h
        have hk_a17 := hq_w16 a17 rfl
        replace h := br_e h
        obtain ⟨u19, h18, h⟩ := h
        have m20 := ct_X1_add l (g := g) h18 hT hk_a17
        refine yc_Vv (Al := [.int 8, .long x2]) (rest := []) 49 rfl cw_X8_333 cx_2 dX8_tellParent_46 m20 hk_a17 rfl (by decide) rfl (Nat.le_of_ble_eq_true rfl) ?_
        have hk_a5 := k_G m20.1.1 (by decide) hk_a5
        have hk_t := k_G m20.1.1 (by decide) hk_t
        have hk_a1 := k_G m20.1.1 (by decide) hk_a1
        have hT := m20.1.1.2.2.2
        refine ym 50 (fun B k => z_aload_n B dX8_tellParent_49 rfl 1 rfl k) ?_
        replace h := qv_e h
        obtain ⟨w21, e_w21, h⟩ := h
        have hq_w21 : rk u19 w21 4 := rk_T hT hk_t rfl (by decide) e_w21
        refine ym 53 (fun B k => gf_X8_39 (x := w21) B hk_t e_w21 dX8_tellParent_50 k) ?_
        refine ym 55 (fun B k => z_aload B dX8_tellParent_53 0 rfl k) ?_
        replace h := bq_e h
        obtain ⟨a22, rfl, h⟩ := h
        have hk_a22 := hq_w21 a22 rfl
        replace h := br_e h
        obtain ⟨u24, h23, h⟩ := h
        have m25 := ct_X2_addLast l (g := g) h23 hT hk_a22 (rk_a hk_a5)
        refine yc_Vv (Al := [.ref a5]) (rest := []) 58 rfl cw_X8_337 cx_3 dX8_tellParent_55 m25 hk_a22 rfl (by decide) rfl (Nat.le_of_ble_eq_true rfl) ?_
        have hk_a5 := k_G m25.1.1 (by decide) hk_a5
        have hk_t := k_G m25.1.1 (by decide) hk_t
        have hk_a1 := k_G m25.1.1 (by decide) hk_a1
        have hT := m25.1.1.2.2.2
        obtain rfl := Option.some.inj h
        exact yr_v hT trivial rfl dX8_tellParent_58
set_option maxRecDepth 100000 in
set_option maxHeartbeats 4000000 in
theorem tb_X8_make_113 {l : Launch} {g : gx_T} {σ : sx_T} {u : sx_T} {r : Option Nat} {As : Array Value}  {t : Nat} {v1 : Option Nat} {x2 : Int32} {x3 : Int64} {v5 : Option Nat} (h : fb_X8_make_113 σ t v1 x2 x3 v5 = some (r, u)) (hT : TS g σ) (hk_t : sx_K σ t = 10) (hq_v1 : rk σ v1 2) (hq_v5 : rk σ v5 2) : ZY l g cX8_make RX8 "make" (some (.object "Loomkeeper$Flow")) 6 9 231 0 0 false As (QM g As (Qxq g r u)) (rk u r 2) u σ 113 [(0, .ref t), (1, va_rf v1), (2, .int x2), (3, .long x3), (5, va_rf v5)] [] := by
  unfold fb_X8_make_113 at h
  refine ym 114 (fun B k => z_qload_n (r := v1) B dX8_make_113 rfl 1 rfl k) ?_
  replace h := bq_e h
  obtain ⟨a1, rfl, h⟩ := h
  have hk_a1 := hq_v1 a1 rfl
  replace h := qv_e h
  obtain ⟨w2, e_w2, h⟩ := h
  have hq_w2 : rk σ w2 3 := rk_T hT hk_a1 rfl (by decide) e_w2
  refine ym 117 (fun B k => gf_X8_179 (x := w2) B hk_a1 e_w2 dX8_make_114 k) ?_
  refine ym 118 (fun B k => z_iload_n B dX8_make_117 rfl 2 rfl k) ?_
  refine ym 119 (fun B k => z_lload_n B dX8_make_118 rfl 3 rfl k) ?_
  replace h := bq_e h
  obtain ⟨a3, rfl, h⟩ := h
  have hk_a3 := hq_w2 a3 rfl
  replace h := br_e h
  obtain ⟨u5, h4, h⟩ := h
  have m6 := ct_X1_add l (g := g) h4 hT hk_a3
  refine yc_Vv (Al := [.int x2, .long x3]) (rest := []) 122 rfl cw_X8_333 cx_2 dX8_make_119 m6 hk_a3 rfl (by decide) rfl (Nat.le_of_ble_eq_true rfl) ?_
  have hk_t := k_G m6.1.1 (by decide) hk_t
  have hk_a1 := k_G m6.1.1 (by decide) hk_a1
  have hq_v5 := rk_G m6.1.1 (by decide) hq_v5
  have hT := m6.1.1.2.2.2
  refine ym 123 (fun B k => z_iload_n B dX8_make_122 rfl 2 rfl k) ?_
  refine ym 125 (fun B k => z_bipush (v := 13) B dX8_make_123 (by decide) k) ?_
  by_cases c7 : x2 = 13
  · replace h := ite_p c7 h
    refine ym 128 (fun B k => z_icmp_ne (tgt := 134) B dX8_make_125 (by decide) (fun q => absurd c7 q) (fun _ => k)) ?_
    refine ym 129 (fun B k => z_aload_n B dX8_make_128 rfl 0 rfl k) ?_
    refine ym 130 (fun B k => z_aload_n B dX8_make_129 rfl 1 rfl k) ?_
    refine ym 131 (fun B k => z_lload_n B dX8_make_130 rfl 3 rfl k) ?_
    replace h := br_e h
    obtain ⟨u9, h8, h⟩ := h
    have m10 := ct_X8_tellParent l (g := g) h8 hT hk_t (rk_a hk_a1)
    refine yc_Vv (Al := [.ref a1, .long x3]) (rest := []) 134 rfl cw_X8_384 cx_9 dX8_make_131 m10 hk_t rfl (by decide) rfl (Nat.le_of_ble_eq_true rfl) ?_
    have hk_t := k_G m10.1.1 (by decide) hk_t
    have hk_a1 := k_G m10.1.1 (by decide) hk_a1
    have hq_v5 := rk_G m10.1.1 (by decide) hq_v5
    have hT := m10.1.1.2.2.2
    refine ym 136 (fun B k => z_qload (r := v5) B dX8_make_134 4 rfl k) ?_
    obtain ⟨rfl, rfl⟩ := Prod.mk.inj (Option.some.inj h)
    exact yr_q (v := v5) hT hq_v5 rfl dX8_make_136
  · replace h := ite_n c7 h
    refine ym 134 (fun B k => z_icmp_ne (tgt := 134) B dX8_make_125 (by decide) (fun _ => k) (fun q => absurd q c7)) ?_
    refine ym 136 (fun B k => z_qload (r := v5) B dX8_make_134 4 rfl k) ?_
    obtain ⟨rfl, rfl⟩ := Prod.mk.inj (Option.some.inj h)
    exact yr_q (v := v5) hT hq_v5 rfl dX8_make_136
set_option maxRecDepth 100000 in
set_option maxHeartbeats 4000000 in
theorem tb_X8_make_73 {l : Launch} {g : gx_T} {σ : sx_T} {u : sx_T} {r : Option Nat} {As : Array Value}  {t : Nat} {v1 : Option Nat} {x2 : Int32} {x3 : Int64} {v5 : Option Nat} (h : fb_X8_make_73 σ t v1 x2 x3 v5 = some (r, u)) (hT : TS g σ) (hk_t : sx_K σ t = 10) (hq_v1 : rk σ v1 2) (hq_v5 : rk σ v5 2) : ZY l g cX8_make RX8 "make" (some (.object "Loomkeeper$Flow")) 6 9 231 0 0 false As (QM g As (Qxq g r u)) (rk u r 2) u σ 73 [(0, .ref t), (1, va_rf v1), (2, .int x2), (3, .long x3), (5, va_rf v5)] [] := by
  unfold fb_X8_make_73 at h
  refine ym 74 (fun B k => z_aload_n B dX8_make_73 rfl 0 rfl k) ?_
  refine ym 75 (fun B k => z_qload_n (r := v1) B dX8_make_74 rfl 1 rfl k) ?_
  refine ym 76 (fun B k => z_lload_n B dX8_make_75 rfl 3 rfl k) ?_
  refine ym 77 (fun B k => z_l2i (v := x3.toInt32) B dX8_make_76 rfl k) ?_
  replace h := br_e h
  obtain ⟨u2, h1, h⟩ := h
  have m3 := ct_X8_schedule l (g := g) h1 hT hk_t hq_v1
  refine yc_Vv (Al := [va_rf v1, .int x3.toInt32]) (rest := []) 80 rfl cw_X8_377 cx_9 dX8_make_77 m3 hk_t rfl (by decide) rfl (Nat.le_of_ble_eq_true rfl) ?_
  have hk_t := k_G m3.1.1 (by decide) hk_t
  have hq_v1 := rk_G m3.1.1 (by decide) hq_v1
  have hq_v5 := rk_G m3.1.1 (by decide) hq_v5
  have hT := m3.1.1.2.2.2
  refine ym 113 (fun B k => z_goto (tgt := 113) B dX8_make_80 (by decide) k) ?_
  refine y_sub [(0, .ref t), (1, va_rf v1), (2, .int x2), (3, .long x3), (5, va_rf v5)] [0, 1, 2, 3, 4] rfl ?_
  exact tb_X8_make_113 h hT hk_t hq_v1 hq_v5
set_option maxRecDepth 100000 in
set_option maxHeartbeats 4000000 in
theorem tb_X8_make_58 {l : Launch} {g : gx_T} {σ : sx_T} {u : sx_T} {r : Option Nat} {As : Array Value}  {t : Nat} {v1 : Option Nat} {x2 : Int32} {v5 : Option Nat} {y0 : Int64} (h : fb_X8_make_58 σ t v1 x2 v5 y0 = some (r, u)) (hT : TS g σ) (hk_t : sx_K σ t = 10) (hq_v1 : rk σ v1 2) (hq_v5 : rk σ v5 2) : ZY l g cX8_make RX8 "make" (some (.object "Loomkeeper$Flow")) 6 9 231 0 0 false As (QM g As (Qxq g r u)) (rk u r 2) u σ 58 [(0, .ref t), (1, va_rf v1), (2, .int x2), (5, va_rf v5)] [.long y0] := by
  unfold fb_X8_make_58 at h
  refine ym 59 (fun B k => z_lstore_n (lv' := [(3, .long y0), (0, .ref t), (1, va_rf v1), (2, .int x2), (5, va_rf v5)]) B dX8_make_58 rfl (by decide) rfl k) ?_
  refine ym 113 (fun B k => z_goto (tgt := 113) B dX8_make_59 (by decide) k) ?_
  refine y_sub [(0, .ref t), (1, va_rf v1), (2, .int x2), (3, .long y0), (5, va_rf v5)] [1, 2, 3, 0, 4] rfl ?_
  exact tb_X8_make_113 h hT hk_t hq_v1 hq_v5
set_option maxRecDepth 100000 in
set_option maxHeartbeats 4000000 in
theorem tb_X8_make_31 {l : Launch} {g : gx_T} {σ : sx_T} {u : sx_T} {r : Option Nat} {As : Array Value}  {t : Nat} {v1 : Option Nat} {x2 : Int32} {x3 : Int64} (h : fb_X8_make_31 σ t v1 x2 x3 = some (r, u)) (hT : TS g σ) (hk_t : sx_K σ t = 10) (hq_v1 : rk σ v1 2) : ZY l g cX8_make RX8 "make" (some (.object "Loomkeeper$Flow")) 6 9 231 0 0 false As (QM g As (Qxq g r u)) (rk u r 2) u σ 31 [(0, .ref t), (1, va_rf v1), (2, .int x2), (3, .long x3)] [] := by
  unfold fb_X8_make_31 at h
  refine ym 32 (fun B k => z_aload_n B dX8_make_31 rfl 0 rfl k) ?_
  refine ym 33 (fun B k => z_qload_n (r := v1) B dX8_make_32 rfl 1 rfl k) ?_
  refine ym 34 (fun B k => z_iload_n B dX8_make_33 rfl 2 rfl k) ?_
  refine ym 35 (fun B k => z_lload_n B dX8_make_34 rfl 3 rfl k) ?_
  refine ym 36 (fun B k => z_l2i (v := x3.toInt32) B dX8_make_35 rfl k) ?_
  replace h := bd_e h
  obtain ⟨r2, u3, h1, h⟩ := h
  have m4 := ct_X8_launch l (g := g) h1 hT hk_t hq_v1
  refine yc_Vq (Al := [va_rf v1, .int x2, .int x3.toInt32]) (rest := []) 39 rfl cw_X8_371 cx_9 dX8_make_36 m4 hk_t rfl (by decide) rfl (Nat.le_of_ble_eq_true rfl) ?_
  have hk_t := k_G m4.1.1 (by decide) hk_t
  have hq_v1 := rk_G m4.1.1 (by decide) hq_v1
  have hT := m4.1.1.2.2.2
  have hq_r2 := m4.1.2
  refine ym 41 (fun B k => z_qstore (r := r2) (lv' := [(5, va_rf r2), (0, .ref t), (1, va_rf v1), (2, .int x2), (3, .long x3)]) B dX8_make_39 (by decide) rfl k) ?_
  refine ym 43 (fun B k => z_qload (r := r2) B dX8_make_41 0 rfl k) ?_
  rcases r2 with _ | a5
  · replace h := oc_n h
    refine ym 46 (fun B k => z_ifnonnull (r := none) (tgt := 52) B dX8_make_43 (by decide) (fun a h => nomatch h) (fun _ => k)) ?_
    refine ym 49 (fun B k => z_ldc2 (v := (-1)) B dX8_make_46 wg_561 k) ?_
    refine ym 58 (fun B k => z_goto (tgt := 58) B dX8_make_49 (by decide) k) ?_
    refine y_sub [(0, .ref t), (1, va_rf v1), (2, .int x2), (5, .null)] [1, 2, 3, 0] rfl ?_
    exact tb_X8_make_58 h hT hk_t hq_v1 rk_n
  · replace h := oc_s h
    have hk_a5 := hq_r2 a5 rfl
    refine ym 52 (fun B k => z_ifnonnull (r := (some a5)) (tgt := 52) B dX8_make_43 (by decide) (fun _ _ => k) (fun h => nomatch h)) ?_
    refine ym 54 (fun B k => z_aload B dX8_make_52 0 rfl k) ?_
    refine ym 57 (fun B k => gf_X8_150 (x := (sx_I u3 a5 0)) B hk_a5 rfl dX8_make_54 k) ?_
    refine ym 58 (fun B k => z_i2l (v := (sx_I u3 a5 0).toInt64) B dX8_make_57 rfl k) ?_
    refine y_sub [(0, .ref t), (1, va_rf v1), (2, .int x2), (5, .ref a5)] [1, 2, 3, 0] rfl ?_
    exact tb_X8_make_58 h hT hk_t hq_v1 (rk_a hk_a5)
set_option maxRecDepth 100000 in
set_option maxHeartbeats 4000000 in
theorem ct_X8_make (l : Launch) {g : gx_T} {σ : sx_T} {u : sx_T} {r : Option Nat}  {t : Nat} {v1 : Option Nat} (h : f_X8_make σ t v1 = some (r, u)) (hT : TS g σ) (hk_t : sx_K σ t = 10) (hq_v1 : rk σ v1 2) : CT l g yX8_make cX8_make 6 (some (.object "Loomkeeper$Flow")) 9 231 [.ref t, va_rf v1] (rk u r 2) u σ (Qxq g r u) := by
  refine yc_met (by decide) (by cases v1 <;> exact Nat.le_of_ble_eq_true rfl) ?_
  refine yc_lv (show lv_args 0 [.ref t, va_rf v1] = [(0, .ref t), (1, va_rf v1)] from (by cases v1 <;> rfl)) ?_
  show ZY l g _ _ _ _ _ _ _ _ _ _ _ _ _ _ σ 0 [(0, .ref t), (1, va_rf v1)] []
  unfold f_X8_make at h
  refine ym 1 (fun B k => z_qload_n (r := v1) B dX8_make_0 rfl 1 rfl k) ?_
  replace h := bq_e h
  obtain ⟨a1, rfl, h⟩ := h
  have hk_a1 := hq_v1 a1 rfl
  replace h := qv_e h
  obtain ⟨w2, e_w2, h⟩ := h
  have hq_w2 : rk σ w2 7 := rk_T hT hk_a1 rfl (by decide) e_w2
  refine ym 4 (fun B k => gf_X8_249 (x := w2) B hk_a1 e_w2 dX8_make_1 k) ?_
  replace h := bq_e h
  obtain ⟨a3, rfl, h⟩ := h
  have hk_a3 := hq_w2 a3 rfl
  refine ym 7 (fun B k => gf_X8_364 (x := (sx_I σ a3 16)) B hk_a3 rfl dX8_make_4 k) ?_
  refine ym 8 (fun B k => z_istore_n (lv' := [(2, .int (sx_I σ a3 16)), (0, .ref t), (1, .ref a1)]) B dX8_make_7 rfl (by decide) rfl k) ?_
  refine ym 9 (fun B k => z_aload_n B dX8_make_8 rfl 2 rfl k) ?_
  replace h := qv_e h
  obtain ⟨w4, e_w4, h⟩ := h
  have hq_w4 : rk σ w4 7 := rk_T hT hk_a1 rfl (by decide) e_w4
  refine ym 12 (fun B k => gf_X8_249 (x := w4) B hk_a1 e_w4 dX8_make_9 k) ?_
  replace h := bq_e h
  obtain ⟨a5, rfl, h⟩ := h
  have hk_a5 := hq_w4 a5 rfl
  refine ym 15 (fun B k => gf_X8_367 (x := (sx_J σ a5 17)) B hk_a5 rfl dX8_make_12 k) ?_
  refine ym 16 (fun B k => z_lstore_n (lv' := [(3, .long (sx_J σ a5 17)), (2, .int (sx_I σ a3 16)), (0, .ref t), (1, .ref a1)]) B dX8_make_15 rfl (by decide) rfl k) ?_
  refine ym 17 (fun B k => z_null B dX8_make_16 k) ?_
  refine ym 19 (fun B k => z_qstore (r := none) (lv' := [(5, .null), (3, .long (sx_J σ a5 17)), (2, .int (sx_I σ a3 16)), (0, .ref t), (1, .ref a1)]) B dX8_make_17 (by decide) rfl k) ?_
  refine ym 20 (fun B k => z_iload_n B dX8_make_19 rfl 2 rfl k) ?_
  refine ym 22 (fun B k => z_bipush (v := 7) B dX8_make_20 (by decide) k) ?_
  by_cases c6 : (sx_I σ a3 16) = 7
  · replace h := ite_p c6 h
    refine ym 31 (fun B k => z_icmp_eq (tgt := 31) B dX8_make_22 (by decide) (fun _ => k) (fun q => absurd c6 q)) ?_
    refine y_sub [(0, .ref t), (1, .ref a1), (2, .int (sx_I σ a3 16)), (3, .long (sx_J σ a5 17))] [3, 4, 2, 1] rfl ?_
    exact tb_X8_make_31 h hT hk_t (rk_a hk_a1)
  · replace h := ite_n c6 h
    refine ym 25 (fun B k => z_icmp_eq (tgt := 31) B dX8_make_22 (by decide) (fun q => absurd q c6) (fun _ => k)) ?_
    refine ym 26 (fun B k => z_iload_n B dX8_make_25 rfl 2 rfl k) ?_
    refine ym 28 (fun B k => z_bipush (v := 14) B dX8_make_26 (by decide) k) ?_
    by_cases c7 : (sx_I σ a3 16) = 14
    · replace h := ite_p c7 h
      refine ym 31 (fun B k => z_icmp_ne (tgt := 62) B dX8_make_28 (by decide) (fun q => absurd c7 q) (fun _ => k)) ?_
      refine y_sub [(0, .ref t), (1, .ref a1), (2, .int (sx_I σ a3 16)), (3, .long (sx_J σ a5 17))] [3, 4, 2, 1] rfl ?_
      exact tb_X8_make_31 h hT hk_t (rk_a hk_a1)
    · replace h := ite_n c7 h
      refine ym 62 (fun B k => z_icmp_ne (tgt := 62) B dX8_make_28 (by decide) (fun _ => k) (fun q => absurd q c7)) ?_
      refine ym 63 (fun B k => z_iload_n B dX8_make_62 rfl 2 rfl k) ?_
      refine ym 64 (fun B k => z_iconst (v := 1) B dX8_make_63 (by decide) k) ?_
      by_cases c8 : (sx_I σ a3 16) = 1
      · replace h := ite_p c8 h
        refine ym 73 (fun B k => z_icmp_eq (tgt := 73) B dX8_make_64 (by decide) (fun _ => k) (fun q => absurd c8 q)) ?_
        refine y_sub [(0, .ref t), (1, .ref a1), (2, .int (sx_I σ a3 16)), (3, .long (sx_J σ a5 17)), (5, .null)] [3, 4, 2, 1, 0] rfl ?_
        exact tb_X8_make_73 h hT hk_t (rk_a hk_a1) rk_n
      · replace h := ite_n c8 h
        refine ym 67 (fun B k => z_icmp_eq (tgt := 73) B dX8_make_64 (by decide) (fun q => absurd q c8) (fun _ => k)) ?_
        refine ym 68 (fun B k => z_iload_n B dX8_make_67 rfl 2 rfl k) ?_
        refine ym 70 (fun B k => z_bipush (v := 11) B dX8_make_68 (by decide) k) ?_
        by_cases c9 : (sx_I σ a3 16) = 11
        · replace h := ite_p c9 h
          refine ym 73 (fun B k => z_icmp_ne (tgt := 83) B dX8_make_70 (by decide) (fun q => absurd c9 q) (fun _ => k)) ?_
          refine y_sub [(0, .ref t), (1, .ref a1), (2, .int (sx_I σ a3 16)), (3, .long (sx_J σ a5 17)), (5, .null)] [3, 4, 2, 1, 0] rfl ?_
          exact tb_X8_make_73 h hT hk_t (rk_a hk_a1) rk_n
        · replace h := ite_n c9 h
          refine ym 83 (fun B k => z_icmp_ne (tgt := 83) B dX8_make_70 (by decide) (fun _ => k) (fun q => absurd q c9)) ?_
          refine ym 84 (fun B k => z_iload_n B dX8_make_83 rfl 2 rfl k) ?_
          refine ym 85 (fun B k => z_iconst (v := 4) B dX8_make_84 (by decide) k) ?_
          by_cases c10 : (sx_I σ a3 16) = 4
          · replace h := ite_p c10 h
            refine ym 88 (fun B k => z_icmp_ne (tgt := 99) B dX8_make_85 (by decide) (fun q => absurd c10 q) (fun _ => k)) ?_
            refine ym 89 (fun B k => z_aload_n B dX8_make_88 rfl 3 rfl k) ?_
            refine ym 92 (fun B k => gf_X8_206 (x := (sx_I σ t 8)) B hk_t rfl dX8_make_89 k) ?_
            refine ym 93 (fun B k => z_i2l (v := (sx_I σ t 8).toInt64) B dX8_make_92 rfl k) ?_
            refine ym 94 (fun B k => z_lload_n B dX8_make_93 rfl 1 rfl k) ?_
            refine ym 95 (fun B k => z_ladd B dX8_make_94 k) ?_
            refine ym 96 (fun B k => z_lstore_n (lv' := [(3, .long (((sx_I σ t 8).toInt64) + (sx_J σ a5 17))), (5, .null), (2, .int (sx_I σ a3 16)), (0, .ref t), (1, .ref a1)]) B dX8_make_95 rfl (by decide) rfl k) ?_
            refine ym 113 (fun B k => z_goto (tgt := 113) B dX8_make_96 (by decide) k) ?_
            refine y_sub [(0, .ref t), (1, .ref a1), (2, .int (sx_I σ a3 16)), (3, .long (((sx_I σ t 8).toInt64) + (sx_J σ a5 17))), (5, .null)] [3, 4, 2, 0, 1] rfl ?_
            exact tb_X8_make_113 h hT hk_t (rk_a hk_a1) rk_n
          · replace h := ite_n c10 h
            refine ym 99 (fun B k => z_icmp_ne (tgt := 99) B dX8_make_85 (by decide) (fun _ => k) (fun q => absurd q c10)) ?_
            refine ym 100 (fun B k => z_iload_n B dX8_make_99 rfl 2 rfl k) ?_
            refine ym 102 (fun B k => z_bipush (v := 9) B dX8_make_100 (by decide) k) ?_
            by_cases c11 : (sx_I σ a3 16) = 9
            · replace h := ite_p c11 h
              refine ym 105 (fun B k => z_icmp_ne (tgt := 113) B dX8_make_102 (by decide) (fun q => absurd c11 q) (fun _ => k)) ?_
              refine ym 106 (fun B k => z_aload_n B dX8_make_105 rfl 3 rfl k) ?_
              refine ym 107 (fun B k => z_lload_n B dX8_make_106 rfl 1 rfl k) ?_
              refine ym 108 (fun B k => z_l2i (v := (sx_J σ a5 17).toInt32) B dX8_make_107 rfl k) ?_
              replace h := bd_e h
              obtain ⟨r13, u14, h12, h⟩ := h
              have m15 := ct_X8_draw l (g := g) h12 hT hk_t
              refine yc_Vi (Al := [.int ((sx_J σ a5 17).toInt32)]) (rest := []) 111 rfl cw_X8_381 cx_9 dX8_make_108 m15 hk_t rfl (by decide) rfl (Nat.le_of_ble_eq_true rfl) ?_
              have hk_t := k_G m15.1.1 (by decide) hk_t
              have hk_a1 := k_G m15.1.1 (by decide) hk_a1
              have hT := m15.1.1.2.2.2
              refine ym 112 (fun B k => z_i2l (v := r13.toInt64) B dX8_make_111 rfl k) ?_
              refine ym 113 (fun B k => z_lstore_n (lv' := [(3, .long r13.toInt64), (5, .null), (2, .int (sx_I σ a3 16)), (0, .ref t), (1, .ref a1)]) B dX8_make_112 rfl (by decide) rfl k) ?_
              refine y_sub [(0, .ref t), (1, .ref a1), (2, .int (sx_I σ a3 16)), (3, .long r13.toInt64), (5, .null)] [3, 4, 2, 0, 1] rfl ?_
              exact tb_X8_make_113 h hT hk_t (rk_a hk_a1) rk_n
            · replace h := ite_n c11 h
              refine ym 113 (fun B k => z_icmp_ne (tgt := 113) B dX8_make_102 (by decide) (fun _ => k) (fun q => absurd q c11)) ?_
              refine y_sub [(0, .ref t), (1, .ref a1), (2, .int (sx_I σ a3 16)), (3, .long (sx_J σ a5 17)), (5, .null)] [3, 4, 2, 1, 0] rfl ?_
              exact tb_X8_make_113 h hT hk_t (rk_a hk_a1) rk_n
set_option maxRecDepth 100000 in
set_option maxHeartbeats 4000000 in
theorem ct_X2_removeLast (l : Launch) {g : gx_T} {σ : sx_T} {u : sx_T}  {t : Nat} (h : f_X2_removeLast σ t = some u) (hT : TS g σ) (hk_t : sx_K σ t = 4) : CT l g yX2_removeLast cX2_removeLast 1 none 0 0 [.ref t] (True) u σ (Qxv g u) := by
  refine yc_met (by decide) (Nat.le_of_ble_eq_true rfl) ?_
  refine yc_lv (show lv_args 0 [.ref t] = [(0, .ref t)] from rfl) ?_
  show ZY l g _ _ _ _ _ _ _ _ _ _ _ _ _ _ σ 0 [(0, .ref t)] []
  unfold f_X2_removeLast at h
  refine ym 1 (fun B k => z_aload_n B dX2_removeLast_0 rfl 0 rfl k) ?_
  refine ym 4 (fun B k => gf_X2_21 (x := (sx_I σ t 2)) B hk_t rfl dX2_removeLast_1 k) ?_
  refine ym 5 (fun B k => z_aload_n B dX2_removeLast_4 rfl 0 rfl k) ?_
  refine ym 8 (fun B k => gf_X2_17 (x := (sx_I σ t 1)) B hk_t rfl dX2_removeLast_5 k) ?_
  by_cases c1 : (sx_I σ t 2) ≤ (sx_I σ t 1)
  · replace h := ite_p c1 h
    refine ym 21 (fun B k => z_icmp_le (tgt := 21) B dX2_removeLast_8 (by decide) (fun _ => k) (fun q => absurd c1 q)) ?_
    obtain rfl := Option.some.inj h
    exact yr_v hT trivial rfl dX2_removeLast_21
  · replace h := ite_n c1 h
    refine ym 11 (fun B k => z_icmp_le (tgt := 21) B dX2_removeLast_8 (by decide) (fun q => absurd q c1) (fun _ => k)) ?_
    refine ym 12 (fun B k => z_aload_n B dX2_removeLast_11 rfl 0 rfl k) ?_
    refine ym 13 (fun B k => z_dup B dX2_removeLast_12 rfl k) ?_
    refine ym 16 (fun B k => gf_X2_21 (x := (sx_I σ t 2)) B hk_t rfl dX2_removeLast_13 k) ?_
    refine ym 17 (fun B k => z_iconst (v := 1) B dX2_removeLast_16 (by decide) k) ?_
    refine ym 18 (fun B k => z_isub B dX2_removeLast_17 k) ?_
    have j2 := hk_t
    refine ymw (σ' := (wx_I σ t 2 ((sx_I σ t 2) - 1))) 21 e_I (fun B hin k => pf_X2_21 (x := ((sx_I σ t 2) - 1)) B hk_t rfl dX2_removeLast_18 k) ?_
    have hT := TS_I (k := 2) (x := ((sx_I σ t 2) - 1)) hT hk_t (Or.inl rfl)
    have hk_t := kk_I (σ := σ) (a := t) (k := 2) (x := ((sx_I σ t 2) - 1)) hk_t
    obtain rfl := Option.some.inj h
    exact yr_v hT trivial rfl dX2_removeLast_21
set_option maxRecDepth 100000 in
set_option maxHeartbeats 4000000 in
theorem tl_X8_holder_8 {l : Launch} {g : gx_T} {r : Option Nat} {As : Array Value} {n0 : Nat} : ∀ {n : Nat} {σ : sx_T} {t : Nat} {v2 : Option Nat} {x3 : Int32}, fl_X8_holder_8 n0 n σ t v2 x3 = some r → TS g σ → sx_K σ t = 10 → rk σ v2 2 → ZY l g cX8_holder RX8 "holder" (some (.object "Loomkeeper$Flow")) 4 1 22 0 0 false As (QM g As (Qxq g r σ)) (rk σ r 2) σ σ 8 [(0, .ref t), (2, va_rf v2), (3, .int x3)] [] := by
  intro n
  induction n with
  | zero =>
    intro σ t v2 x3 h
    exact nomatch h
  | succ n ih_ =>
    have ih := @ih_
    intro σ t v2 x3 h hT hk_t hq_v2
    unfold fl_X8_holder_8 at h
    refine ym 9 (fun B k => z_iload_n B dX8_holder_8 rfl 2 rfl k) ?_
    refine ym 11 (fun B k => z_bipush (v := 40) B dX8_holder_9 (by decide) k) ?_
    by_cases c1 : 40 ≤ x3
    · replace h := ite_p c1 h
      refine ym 41 (fun B k => z_icmp_ge (tgt := 41) B dX8_holder_11 (by decide) (fun _ => k) (fun q => absurd c1 q)) ?_
      refine ym 42 (fun B k => z_qload_n (r := v2) B dX8_holder_41 rfl 1 rfl k) ?_
      obtain rfl := Option.some.inj h
      exact yr_q (v := v2) hT hq_v2 rfl dX8_holder_42
    · replace h := ite_n c1 h
      refine ym 14 (fun B k => z_icmp_ge (tgt := 41) B dX8_holder_11 (by decide) (fun q => absurd q c1) (fun _ => k)) ?_
      refine ym 15 (fun B k => z_qload_n (r := v2) B dX8_holder_14 rfl 1 rfl k) ?_
      rcases v2 with _ | a2
      · replace h := oc_n h
        refine ym 41 (fun B k => z_ifnull (r := none) (tgt := 41) B dX8_holder_15 (by decide) (fun _ => k) (fun a h => nomatch h)) ?_
        refine ym 42 (fun B k => z_qload_n (r := none) B dX8_holder_41 rfl 1 rfl k) ?_
        obtain rfl := Option.some.inj h
        exact yr_q (v := none) hT rk_n rfl dX8_holder_42
      · replace h := oc_s h
        have hk_a2 := hq_v2 a2 rfl
        refine ym 18 (fun B k => z_ifnull (r := (some a2)) (tgt := 41) B dX8_holder_15 (by decide) (fun h => nomatch h) (fun _ _ => k)) ?_
        refine ym 19 (fun B k => z_aload_n B dX8_holder_18 rfl 1 rfl k) ?_
        refine ym 22 (fun B k => gf_X8_403 (x := (sx_I σ a2 6)) B hk_a2 rfl dX8_holder_19 k) ?_
        refine ym 23 (fun B k => z_iconst (v := (-1)) B dX8_holder_22 (by decide) k) ?_
        by_cases c3 : (sx_I σ a2 6) = (-1)
        · replace h := ite_p c3 h
          refine ym 41 (fun B k => z_icmp_eq (tgt := 41) B dX8_holder_23 (by decide) (fun _ => k) (fun q => absurd c3 q)) ?_
          refine ym 42 (fun B k => z_aload_n B dX8_holder_41 rfl 1 rfl k) ?_
          obtain rfl := Option.some.inj h
          exact yr_q (v := (some a2)) hT (rk_a hk_a2) rfl dX8_holder_42
        · replace h := ite_n c3 h
          refine ym 26 (fun B k => z_icmp_eq (tgt := 41) B dX8_holder_23 (by decide) (fun q => absurd q c3) (fun _ => k)) ?_
          refine ym 27 (fun B k => z_aload_n B dX8_holder_26 rfl 0 rfl k) ?_
          refine ym 28 (fun B k => z_aload_n B dX8_holder_27 rfl 1 rfl k) ?_
          refine ym 31 (fun B k => gf_X8_403 (x := (sx_I σ a2 6)) B hk_a2 rfl dX8_holder_28 k) ?_
          replace h := br_e h
          obtain ⟨r5, h4, h⟩ := h
          have m6 := ct_X8_flowAt l (g := g) h4 hT hk_t
          refine yc_Vq (Al := [.int (sx_I σ a2 6)]) (rest := []) 34 rfl cw_X8_99 cx_9 dX8_holder_31 m6 hk_t rfl (by decide) rfl (Nat.le_of_ble_eq_true rfl) ?_
          have hq_r5 := m6.1.2
          refine ym 35 (fun B k => z_qstore_n (r := r5) (lv' := [(2, va_rf r5), (0, .ref t), (3, .int x3)]) B dX8_holder_34 rfl (by decide) rfl k) ?_
          refine ym 38 (fun B k => z_iinc (v := x3 + 1) (lv' := [(3, .int (x3 + 1)), (2, va_rf r5), (0, .ref t)]) B dX8_holder_35 2 rfl rfl (by decide) (by cases r5 <;> rfl) k) ?_
          refine ym 8 (fun B k => z_goto (tgt := 8) B dX8_holder_38 (by decide) k) ?_
          refine y_sub [(0, .ref t), (2, va_rf r5), (3, .int (x3 + 1))] [2, 1, 0] rfl ?_
          exact ih h hT hk_t hq_r5
set_option maxRecDepth 100000 in
set_option maxHeartbeats 4000000 in
theorem ct_X8_holder (l : Launch) {g : gx_T} {σ : sx_T} {r : Option Nat} {n0 : Nat} {t : Nat} {x1 : Int32} (h : f_X8_holder n0 σ t x1 = some r) (hT : TS g σ) (hk_t : sx_K σ t = 10) : CT l g yX8_holder cX8_holder 4 (some (.object "Loomkeeper$Flow")) 1 22 [.ref t, .int x1] (rk σ r 2) σ σ (Qxq g r σ) := by
  refine yc_met (by decide) (Nat.le_of_ble_eq_true rfl) ?_
  refine yc_lv (show lv_args 0 [.ref t, .int x1] = [(0, .ref t), (1, .int x1)] from rfl) ?_
  show ZY l g _ _ _ _ _ _ _ _ _ _ _ _ _ _ σ 0 [(0, .ref t), (1, .int x1)] []
  unfold f_X8_holder at h
  refine ym 1 (fun B k => z_aload_n B dX8_holder_0 rfl 0 rfl k) ?_
  refine ym 2 (fun B k => z_iload_n B dX8_holder_1 rfl 1 rfl k) ?_
  replace h := br_e h
  obtain ⟨r2, h1, h⟩ := h
  have m3 := ct_X8_flowAt l (g := g) h1 hT hk_t
  refine yc_Vq (Al := [.int x1]) (rest := []) 5 rfl cw_X8_99 cx_9 dX8_holder_2 m3 hk_t rfl (by decide) rfl (Nat.le_of_ble_eq_true rfl) ?_
  have hq_r2 := m3.1.2
  refine ym 6 (fun B k => z_qstore_n (r := r2) (lv' := [(2, va_rf r2), (0, .ref t), (1, .int x1)]) B dX8_holder_5 rfl (by decide) rfl k) ?_
  refine ym 7 (fun B k => z_iconst (v := 0) B dX8_holder_6 (by decide) k) ?_
  refine ym 8 (fun B k => z_istore_n (lv' := [(3, .int 0), (2, va_rf r2), (0, .ref t), (1, .int x1)]) B dX8_holder_7 rfl (by decide) (by cases r2 <;> rfl) k) ?_
  refine y_sub [(0, .ref t), (2, va_rf r2), (3, .int 0)] [2, 1, 0] rfl ?_
  exact tl_X8_holder_8 h hT hk_t hq_r2
set_option maxRecDepth 100000 in
set_option maxHeartbeats 4000000 in
theorem ct_X0_canReceive (l : Launch) {g : gx_T} {σ : sx_T} {r : Int32}  {t : Nat} (h : f_X0_canReceive σ t = some r) (hT : TS g σ) (hk_t : sx_K σ t = 2) : CT l g yX0_canReceive cX0_canReceive 1 (some .boolean) 3 65 [.ref t] (r = 0 ∨ r = 1) σ σ (Qxi g r σ) := by
  refine yc_met (by decide) (Nat.le_of_ble_eq_true rfl) ?_
  refine yc_lv (show lv_args 0 [.ref t] = [(0, .ref t)] from rfl) ?_
  show ZY l g _ _ _ _ _ _ _ _ _ _ _ _ _ _ σ 0 [(0, .ref t)] []
  unfold f_X0_canReceive at h
  refine ym 1 (fun B k => z_aload_n B dX0_canReceive_0 rfl 0 rfl k) ?_
  replace h := br_e h
  obtain ⟨r2, h1, h⟩ := h
  have m3 := ct_X0_hasEnded l (g := g) h1 hT hk_t
  refine yc_Vi (Al := []) (rest := []) 4 rfl cw_X0_42 cx_1 dX0_canReceive_1 m3 hk_t rfl (by decide) rfl (Nat.le_of_ble_eq_true rfl) ?_
  have hz_r2 := m3.1.2
  by_cases c4 : r2 = 0
  · replace h := ite_p c4 h
    refine ym 7 (fun B k => z_if_ne (tgt := 23) B dX0_canReceive_4 (by decide) (fun q => absurd c4 q) (fun _ => k)) ?_
    refine ym 8 (fun B k => z_aload_n B dX0_canReceive_7 rfl 0 rfl k) ?_
    replace h := qv_e h
    obtain ⟨w5, e_w5, h⟩ := h
    have hq_w5 : rk σ w5 3 := rk_T hT hk_t rfl (by decide) e_w5
    refine ym 11 (fun B k => gf_X0_28 (x := w5) B hk_t e_w5 dX0_canReceive_8 k) ?_
    replace h := bq_e h
    obtain ⟨a6, rfl, h⟩ := h
    have hk_a6 := hq_w5 a6 rfl
    replace h := br_e h
    obtain ⟨r8, h7, h⟩ := h
    have m9 := ct_X1_size l (g := g) h7 hT hk_a6
    refine yc_Vi (Al := []) (rest := []) 14 rfl cw_X0_46 cx_2 dX0_canReceive_11 m9 hk_a6 rfl (by decide) rfl (Nat.le_of_ble_eq_true rfl) ?_
    refine ym 16 (fun B k => z_bipush (v := 90) B dX0_canReceive_14 (by decide) k) ?_
    by_cases c10 : 90 ≤ r8
    · replace h := ite_p c10 h
      refine ym 23 (fun B k => z_icmp_ge (tgt := 23) B dX0_canReceive_16 (by decide) (fun _ => k) (fun q => absurd c10 q)) ?_
      refine ym 24 (fun B k => z_iconst (v := 0) B dX0_canReceive_23 (by decide) k) ?_
      obtain rfl := Option.some.inj h
      exact yr_z hT (Or.inl rfl) rfl (Or.inl rfl) dX0_canReceive_24
    · replace h := ite_n c10 h
      refine ym 19 (fun B k => z_icmp_ge (tgt := 23) B dX0_canReceive_16 (by decide) (fun q => absurd q c10) (fun _ => k)) ?_
      refine ym 20 (fun B k => z_iconst (v := 1) B dX0_canReceive_19 (by decide) k) ?_
      refine ym 24 (fun B k => z_goto (tgt := 24) B dX0_canReceive_20 (by decide) k) ?_
      obtain rfl := Option.some.inj h
      exact yr_z hT (Or.inr rfl) rfl (Or.inr rfl) dX0_canReceive_24
  · replace h := ite_n c4 h
    refine ym 23 (fun B k => z_if_ne (tgt := 23) B dX0_canReceive_4 (by decide) (fun _ => k) (fun q => absurd q c4)) ?_
    refine ym 24 (fun B k => z_iconst (v := 0) B dX0_canReceive_23 (by decide) k) ?_
    obtain rfl := Option.some.inj h
    exact yr_z hT (Or.inl rfl) rfl (Or.inl rfl) dX0_canReceive_24
set_option maxRecDepth 100000 in
set_option maxHeartbeats 4000000 in
theorem tb_X8_leave_68 {l : Launch} {g : gx_T} {σ : sx_T} {u : sx_T} {As : Array Value} {n0 : Nat} {t : Nat} {w0_ : Option Nat} (h : fb_X8_leave_68 n0 σ t w0_ = some u) (hT : TS g σ) (hk_t : sx_K σ t = 10) (hq_w0_ : rk σ w0_ 2) : ZY l g cX8_leave RX8 "leave" none 4 4 85 0 0 false As (QM g As (Qxv g u)) (True) u σ 68 [(0, .ref t)] [va_rf w0_] := by
  unfold fb_X8_leave_68 at h
  refine ym 69 (fun B k => z_qstore_n (r := w0_) (lv' := [(3, va_rf w0_), (0, .ref t)]) B dX8_leave_68 rfl (by decide) rfl k) ?_
  refine ym 70 (fun B k => z_qload_n (r := w0_) B dX8_leave_69 rfl 0 rfl k) ?_
  rcases w0_ with _ | a1
  · replace h := oc_n h
    refine ym 98 (fun B k => z_ifnull (r := none) (tgt := 98) B dX8_leave_70 (by decide) (fun _ => k) (fun a h => nomatch h)) ?_
    obtain rfl := Option.some.inj h
    exact yr_v hT trivial rfl dX8_leave_98
  · replace h := oc_s h
    have hk_a1 := hq_w0_ a1 rfl
    refine ym 73 (fun B k => z_ifnull (r := (some a1)) (tgt := 98) B dX8_leave_70 (by decide) (fun h => nomatch h) (fun _ _ => k)) ?_
    refine ym 74 (fun B k => z_aload_n B dX8_leave_73 rfl 0 rfl k) ?_
    replace h := br_e h
    obtain ⟨r3, h2, h⟩ := h
    have m4 := ct_X0_canReceive l (g := g) h2 hT hk_a1
    refine yc_Vi (Al := []) (rest := []) 77 rfl cw_X8_330 cx_1 dX8_leave_74 m4 hk_a1 rfl (by decide) rfl (Nat.le_of_ble_eq_true rfl) ?_
    have hz_r3 := m4.1.2
    by_cases c5 : r3 = 0
    · replace h := ite_p c5 h
      refine ym 98 (fun B k => z_if_eq (tgt := 98) B dX8_leave_77 (by decide) (fun _ => k) (fun q => absurd c5 q)) ?_
      obtain rfl := Option.some.inj h
      exact yr_v hT trivial rfl dX8_leave_98
    · replace h := ite_n c5 h
      refine ym 80 (fun B k => z_if_eq (tgt := 98) B dX8_leave_77 (by decide) (fun q => absurd q c5) (fun _ => k)) ?_
      refine ym 81 (fun B k => z_aload_n B dX8_leave_80 rfl 0 rfl k) ?_
      replace h := qv_e h
      obtain ⟨w6, e_w6, h⟩ := h
      have hq_w6 : rk σ w6 3 := rk_T hT hk_a1 rfl (by decide) e_w6
      refine ym 84 (fun B k => gf_X8_179 (x := w6) B hk_a1 e_w6 dX8_leave_81 k) ?_
      refine ym 86 (fun B k => z_bipush (v := 12) B dX8_leave_84 (by decide) k) ?_
      refine ym 87 (fun B k => z_lconst (v := 0) B dX8_leave_86 (by decide) k) ?_
      replace h := bq_e h
      obtain ⟨a7, rfl, h⟩ := h
      have hk_a7 := hq_w6 a7 rfl
      replace h := br_e h
      obtain ⟨u9, h8, h⟩ := h
      have m10 := ct_X1_add l (g := g) h8 hT hk_a7
      refine yc_Vv (Al := [.int 12, .long 0]) (rest := []) 90 rfl cw_X8_333 cx_2 dX8_leave_87 m10 hk_a7 rfl (by decide) rfl (Nat.le_of_ble_eq_true rfl) ?_
      have hk_a1 := k_G m10.1.1 (by decide) hk_a1
      have hk_t := k_G m10.1.1 (by decide) hk_t
      have hT := m10.1.1.2.2.2
      refine ym 91 (fun B k => z_aload_n B dX8_leave_90 rfl 1 rfl k) ?_
      replace h := qv_e h
      obtain ⟨w11, e_w11, h⟩ := h
      have hq_w11 : rk u9 w11 4 := rk_T hT hk_t rfl (by decide) e_w11
      refine ym 94 (fun B k => gf_X8_35 (x := w11) B hk_t e_w11 dX8_leave_91 k) ?_
      refine ym 95 (fun B k => z_aload_n B dX8_leave_94 rfl 0 rfl k) ?_
      replace h := bq_e h
      obtain ⟨a12, rfl, h⟩ := h
      have hk_a12 := hq_w11 a12 rfl
      replace h := br_e h
      obtain ⟨u14, h13, h⟩ := h
      have m15 := ct_X2_addLast l (g := g) h13 hT hk_a12 (rk_a hk_a1)
      refine yc_Vv (Al := [.ref a1]) (rest := []) 98 rfl cw_X8_337 cx_3 dX8_leave_95 m15 hk_a12 rfl (by decide) rfl (Nat.le_of_ble_eq_true rfl) ?_
      have hk_a1 := k_G m15.1.1 (by decide) hk_a1
      have hk_t := k_G m15.1.1 (by decide) hk_t
      have hT := m15.1.1.2.2.2
      obtain rfl := Option.some.inj h
      exact yr_v hT trivial rfl dX8_leave_98
set_option maxRecDepth 100000 in
set_option maxHeartbeats 4000000 in
theorem tb_X8_leave_37 {l : Launch} {g : gx_T} {σ : sx_T} {u : sx_T} {As : Array Value} {n0 : Nat} {t : Nat} {v1 : Option Nat} {y0 : Int32} (h : fb_X8_leave_37 n0 σ t v1 y0 = some u) (hT : TS g σ) (hk_t : sx_K σ t = 10) (hq_v1 : rk σ v1 2) (hz_y0 : y0 = 0 ∨ y0 = 1) : ZY l g cX8_leave RX8 "leave" none 4 4 85 0 0 false As (QM g As (Qxv g u)) (True) u σ 37 [(0, .ref t), (1, va_rf v1)] [.int y0] := by
  unfold fb_X8_leave_37 at h
  refine ym 38 (fun B k => z_istore_n (lv' := [(2, .int y0), (0, .ref t), (1, va_rf v1)]) B dX8_leave_37 rfl (by decide) (by cases v1 <;> rfl) k) ?_
  refine ym 39 (fun B k => z_qload_n (r := v1) B dX8_leave_38 rfl 2 rfl k) ?_
  refine ym 40 (fun B k => z_qload_n (r := v1) B dX8_leave_39 rfl 2 rfl k) ?_
  replace h := bq_e h
  obtain ⟨a1, rfl, h⟩ := h
  have hk_a1 := hq_v1 a1 rfl
  replace h := qv_e h
  obtain ⟨w2, e_w2, h⟩ := h
  have hq_w2 : rk σ w2 3 := rk_T hT hk_a1 rfl (by decide) e_w2
  refine ym 43 (fun B k => gf_X8_179 (x := w2) B hk_a1 e_w2 dX8_leave_40 k) ?_
  replace h := bq_e h
  obtain ⟨a3, rfl, h⟩ := h
  have hk_a3 := hq_w2 a3 rfl
  replace h := br_e h
  obtain ⟨r5, h4, h⟩ := h
  have m6 := ct_X1_size l (g := g) h4 hT hk_a3
  refine yc_Vi (Al := []) (rest := [.ref a1]) 46 rfl cw_X8_183 cx_2 dX8_leave_43 m6 hk_a3 rfl (by decide) rfl (Nat.le_of_ble_eq_true rfl) ?_
  have j7 := hk_a1
  refine ymw (σ' := (wx_I σ a1 8 r5)) 49 e_I (fun B hin k => pf_X8_394 (x := r5) B hk_a1 rfl dX8_leave_46 k) ?_
  have hT := TS_I (k := 8) (x := r5) hT hk_a1 (Or.inl rfl)
  have hk_t := kk_I (σ := σ) (a := a1) (k := 8) (x := r5) hk_t
  have hk_a1 := kk_I (σ := σ) (a := a1) (k := 8) (x := r5) hk_a1
  refine ym 50 (fun B k => z_iload_n B dX8_leave_49 rfl 0 rfl k) ?_
  by_cases c8 : y0 = 0
  · replace h := ite_p c8 h
    refine ym 67 (fun B k => z_if_eq (tgt := 67) B dX8_leave_50 (by decide) (fun _ => k) (fun q => absurd c8 q)) ?_
    refine ym 68 (fun B k => z_null B dX8_leave_67 k) ?_
    refine y_sub [(0, .ref t)] [1] rfl ?_
    exact tb_X8_leave_68 h hT hk_t rk_n
  · replace h := ite_n c8 h
    refine ym 53 (fun B k => z_if_eq (tgt := 67) B dX8_leave_50 (by decide) (fun q => absurd q c8) (fun _ => k)) ?_
    refine ym 54 (fun B k => z_aload_n B dX8_leave_53 rfl 1 rfl k) ?_
    refine ym 55 (fun B k => z_aload_n B dX8_leave_54 rfl 2 rfl k) ?_
    replace h := qv_e h
    obtain ⟨w9, e_w9, h⟩ := h
    have hq_w9 : rk (wx_I σ a1 8 r5) w9 7 := rk_T hT hk_a1 rfl (by decide) ((rR_I rfl).trans e_w9)
    refine ym 58 (fun B k => gf_X8_249 (x := w9) B hk_a1 ((rR_I rfl).trans e_w9) dX8_leave_55 k) ?_
    replace h := bq_e h
    obtain ⟨a10, rfl, h⟩ := h
    have hk_a10 := hq_w9 a10 rfl
    refine ym 61 (fun B k => gf_X8_397 (x := (sx_I σ a10 10)) B hk_a10 (rI_k (by decide) j7 (kd_I hk_a10) rfl) dX8_leave_58 k) ?_
    replace h := br_e h
    obtain ⟨r12, h11, h⟩ := h
    have m13 := ct_X8_holder l (g := g) h11 hT hk_t
    refine yc_Vq (Al := [.int (sx_I σ a10 10)]) (rest := []) 64 rfl cw_X8_400 cx_9 dX8_leave_61 m13 hk_t rfl (by decide) rfl (Nat.le_of_ble_eq_true rfl) ?_
    have hq_r12 := m13.1.2
    refine ym 68 (fun B k => z_goto (tgt := 68) B dX8_leave_64 (by decide) k) ?_
    refine y_sub [(0, .ref t)] [1] rfl ?_
    exact tb_X8_leave_68 h hT hk_t hq_r12
set_option maxRecDepth 100000 in
set_option maxHeartbeats 4000000 in
theorem ct_X8_leave (l : Launch) {g : gx_T} {σ : sx_T} {u : sx_T} {n0 : Nat} {t : Nat} {v1 : Option Nat} (h : f_X8_leave n0 σ t v1 = some u) (hT : TS g σ) (hk_t : sx_K σ t = 10) (hq_v1 : rk σ v1 2) : CT l g yX8_leave cX8_leave 4 none 4 85 [.ref t, va_rf v1] (True) u σ (Qxv g u) := by
  refine yc_met (by decide) (by cases v1 <;> exact Nat.le_of_ble_eq_true rfl) ?_
  refine yc_lv (show lv_args 0 [.ref t, va_rf v1] = [(0, .ref t), (1, va_rf v1)] from (by cases v1 <;> rfl)) ?_
  show ZY l g _ _ _ _ _ _ _ _ _ _ _ _ _ _ σ 0 [(0, .ref t), (1, va_rf v1)] []
  unfold f_X8_leave at h
  refine ym 1 (fun B k => z_aload_n B dX8_leave_0 rfl 0 rfl k) ?_
  replace h := qv_e h
  obtain ⟨w1, e_w1, h⟩ := h
  have hq_w1 : rk σ w1 4 := rk_T hT hk_t rfl (by decide) e_w1
  refine ym 4 (fun B k => gf_X8_35 (x := w1) B hk_t e_w1 dX8_leave_1 k) ?_
  replace h := bq_e h
  obtain ⟨a2, rfl, h⟩ := h
  have hk_a2 := hq_w1 a2 rfl
  replace h := br_e h
  obtain ⟨u4, h3, h⟩ := h
  have m5 := ct_X2_removeLast l (g := g) h3 hT hk_a2
  refine yc_Vv (Al := []) (rest := []) 7 rfl cw_X8_388 cx_3 dX8_leave_4 m5 hk_a2 rfl (by decide) rfl (Nat.le_of_ble_eq_true rfl) ?_
  have hk_t := k_G m5.1.1 (by decide) hk_t
  have hq_v1 := rk_G m5.1.1 (by decide) hq_v1
  have hT := m5.1.1.2.2.2
  refine ym 8 (fun B k => z_qload_n (r := v1) B dX8_leave_7 rfl 1 rfl k) ?_
  replace h := bq_e h
  obtain ⟨a6, rfl, h⟩ := h
  have hk_a6 := hq_v1 a6 rfl
  replace h := qv_e h
  obtain ⟨w7, e_w7, h⟩ := h
  have hq_w7 : rk u4 w7 7 := rk_T hT hk_a6 rfl (by decide) e_w7
  refine ym 11 (fun B k => gf_X8_249 (x := w7) B hk_a6 e_w7 dX8_leave_8 k) ?_
  replace h := bq_e h
  obtain ⟨a8, rfl, h⟩ := h
  have hk_a8 := hq_w7 a8 rfl
  refine ym 14 (fun B k => gf_X8_133 (x := (sx_I u4 a8 19)) B hk_a8 rfl dX8_leave_11 k) ?_
  by_cases c9 : (sx_I u4 a8 19) = 0
  · replace h := ite_p c9 h
    refine ym 18 (fun B k => z_if_eq (tgt := 18) B dX8_leave_14 (by decide) (fun _ => k) (fun q => absurd c9 q)) ?_
    refine ym 19 (fun B k => z_aload_n B dX8_leave_18 rfl 1 rfl k) ?_
    replace h := qv_e h
    obtain ⟨w10, e_w10, h⟩ := h
    have hq_w10 : rk u4 w10 7 := rk_T hT hk_a6 rfl (by decide) e_w10
    refine ym 22 (fun B k => gf_X8_249 (x := w10) B hk_a6 e_w10 dX8_leave_19 k) ?_
    replace h := bq_e h
    obtain ⟨a11, rfl, h⟩ := h
    have hk_a11 := hq_w10 a11 rfl
    refine ym 25 (fun B k => gf_X8_391 (x := (sx_I u4 a11 18)) B hk_a11 rfl dX8_leave_22 k) ?_
    refine ym 26 (fun B k => z_aload_n B dX8_leave_25 rfl 1 rfl k) ?_
    refine ym 29 (fun B k => gf_X8_394 (x := (sx_I u4 a6 8)) B hk_a6 rfl dX8_leave_26 k) ?_
    by_cases c12 : (sx_I u4 a11 18) < (sx_I u4 a6 8)
    · replace h := ite_p c12 h
      refine ym 36 (fun B k => z_icmp_lt (tgt := 36) B dX8_leave_29 (by decide) (fun _ => k) (fun q => absurd c12 q)) ?_
      refine ym 37 (fun B k => z_iconst (v := 0) B dX8_leave_36 (by decide) k) ?_
      refine y_sub [(0, .ref t), (1, .ref a6)] [0, 1] rfl ?_
      exact tb_X8_leave_37 h hT hk_t (rk_a hk_a6) (Or.inl rfl)
    · replace h := ite_n c12 h
      refine ym 32 (fun B k => z_icmp_lt (tgt := 36) B dX8_leave_29 (by decide) (fun q => absurd q c12) (fun _ => k)) ?_
      refine ym 33 (fun B k => z_iconst (v := 1) B dX8_leave_32 (by decide) k) ?_
      refine ym 37 (fun B k => z_goto (tgt := 37) B dX8_leave_33 (by decide) k) ?_
      refine y_sub [(0, .ref t), (1, .ref a6)] [0, 1] rfl ?_
      exact tb_X8_leave_37 h hT hk_t (rk_a hk_a6) (Or.inr rfl)
  · replace h := ite_n c9 h
    refine ym 17 (fun B k => z_if_eq (tgt := 18) B dX8_leave_14 (by decide) (fun q => absurd q c9) (fun _ => k)) ?_
    obtain rfl := Option.some.inj h
    exact yr_v hT trivial rfl dX8_leave_17
set_option maxRecDepth 100000 in
set_option maxHeartbeats 4000000 in
theorem tb_X8_goOn_41 {l : Launch} {g : gx_T} {σ : sx_T} {u : sx_T} {As : Array Value} {n0 : Nat} {kl10 : sx_T → Nat → Int32 → Option sx_T} (hkl10 : ∀ (σ : sx_T) (t : Nat) (x2 : Int32), kl10 σ t x2 = some u → TS g σ → sx_K σ t = 10 → ZY l g cX8_goOn RX8 "goOn" none 5 10 256 0 0 false As (QM g As (Qxv g u)) (True) u σ 10 [(0, .ref t), (2, .int x2)] []) {t : Nat} {x2 : Int32} (h : fb_X8_goOn_41 n0 kl10 σ t x2 = some u) (hT : TS g σ) (hk_t : sx_K σ t = 10) : ZY l g cX8_goOn RX8 "goOn" none 5 10 256 0 0 false As (QM g As (Qxv g u)) (True) u σ 41 [(0, .ref t), (2, .int x2)] [] := by
  unfold fb_X8_goOn_41 at h
  refine ym 42 (fun B k => z_aload_n B dX8_goOn_41 rfl 0 rfl k) ?_
  replace h := qv_e h
  obtain ⟨w1, e_w1, h⟩ := h
  have hq_w1 : rk σ w1 4 := rk_T hT hk_t rfl (by decide) e_w1
  refine ym 45 (fun B k => gf_X8_35 (x := w1) B hk_t e_w1 dX8_goOn_42 k) ?_
  replace h := bq_e h
  obtain ⟨a2, rfl, h⟩ := h
  have hk_a2 := hq_w1 a2 rfl
  replace h := br_e h
  obtain ⟨r4, h3, h⟩ := h
  have m5 := ct_X2_last l (g := g) h3 hT hk_a2
  refine yc_Vq (Al := []) (rest := []) 48 rfl cw_X8_348 cx_3 dX8_goOn_45 m5 hk_a2 rfl (by decide) rfl (Nat.le_of_ble_eq_true rfl) ?_
  have hq_r4 := m5.1.2
  refine ym 49 (fun B k => z_qstore_n (r := r4) (lv' := [(3, va_rf r4), (0, .ref t), (2, .int x2)]) B dX8_goOn_48 rfl (by decide) rfl k) ?_
  refine ym 50 (fun B k => z_qload_n (r := r4) B dX8_goOn_49 rfl 0 rfl k) ?_
  rcases r4 with _ | a6
  · replace h := oc_n h
    refine ym 53 (fun B k => z_ifnonnull (r := none) (tgt := 54) B dX8_goOn_50 (by decide) (fun a h => nomatch h) (fun _ => k)) ?_
    obtain rfl := Option.some.inj h
    exact yr_v hT trivial rfl dX8_goOn_53
  · replace h := oc_s h
    have hk_a6 := hq_r4 a6 rfl
    refine ym 54 (fun B k => z_ifnonnull (r := (some a6)) (tgt := 54) B dX8_goOn_50 (by decide) (fun _ _ => k) (fun h => nomatch h)) ?_
    refine ym 55 (fun B k => z_aload_n B dX8_goOn_54 rfl 0 rfl k) ?_
    replace h := qv_e h
    obtain ⟨w7, e_w7, h⟩ := h
    have hq_w7 : rk σ w7 7 := rk_T hT hk_a6 rfl (by decide) e_w7
    refine ym 58 (fun B k => gf_X8_249 (x := w7) B hk_a6 e_w7 dX8_goOn_55 k) ?_
    refine ym 59 (fun B k => z_aload_n B dX8_goOn_58 rfl 0 rfl k) ?_
    replace h := qv_e h
    obtain ⟨w8, e_w8, h⟩ := h
    have hq_w8 : rk σ w8 3 := rk_T hT hk_a6 rfl (by decide) e_w8
    refine ym 62 (fun B k => gf_X8_179 (x := w8) B hk_a6 e_w8 dX8_goOn_59 k) ?_
    replace h := bq_e h
    obtain ⟨a9, rfl, h⟩ := h
    have hk_a9 := hq_w8 a9 rfl
    replace h := br_e h
    obtain ⟨r11, h10, h⟩ := h
    have m12 := ct_X1_size l (g := g) h10 hT hk_a9
    refine yc_Vi (Al := []) (rest := [va_rf w7]) 65 rfl cw_X8_183 cx_2 dX8_goOn_62 m12 hk_a9 rfl (by decide) rfl (by cases w7 <;> exact Nat.le_of_ble_eq_true rfl) ?_
    replace h := bq_e h
    obtain ⟨a13, rfl, h⟩ := h
    have hk_a13 := hq_w7 a13 rfl
    replace h := br_e h
    obtain ⟨u15, h14, h⟩ := h
    have m16 := ct_X5_advance l (g := g) h14 hT hk_a13
    refine yc_Vv (Al := [.int r11]) (rest := []) 68 rfl cw_X8_289 cx_6 dX8_goOn_65 m16 hk_a13 rfl (by decide) rfl (Nat.le_of_ble_eq_true rfl) ?_
    have hk_a6 := k_G m16.1.1 (by decide) hk_a6
    have hk_t := k_G m16.1.1 (by decide) hk_t
    have hT := m16.1.1.2.2.2
    refine ym 69 (fun B k => z_aload_n B dX8_goOn_68 rfl 0 rfl k) ?_
    replace h := br_e h
    obtain ⟨u18, h17, h⟩ := h
    have m19 := ct_X0_letGo l (g := g) h17 hT hk_a6
    refine yc_Vv (Al := []) (rest := []) 72 rfl cw_X8_351 cx_1 dX8_goOn_69 m19 hk_a6 rfl (by decide) rfl (Nat.le_of_ble_eq_true rfl) ?_
    have hk_a6 := k_G m19.1.1 (by decide) hk_a6
    have hk_t := k_G m19.1.1 (by decide) hk_t
    have hT := m19.1.1.2.2.2
    refine ym 73 (fun B k => z_aload_n B dX8_goOn_72 rfl 0 rfl k) ?_
    replace h := qv_e h
    obtain ⟨w20, e_w20, h⟩ := h
    have hq_w20 : rk u18 w20 7 := rk_T hT hk_a6 rfl (by decide) e_w20
    refine ym 76 (fun B k => gf_X8_249 (x := w20) B hk_a6 e_w20 dX8_goOn_73 k) ?_
    replace h := bq_e h
    obtain ⟨a21, rfl, h⟩ := h
    have hk_a21 := hq_w20 a21 rfl
    replace h := br_e h
    obtain ⟨r23, h22, h⟩ := h
    have m24 := ct_X5_wantsEvent l (g := g) h22 hT hk_a21
    refine yc_Vi (Al := []) (rest := []) 79 rfl cw_X8_354 cx_6 dX8_goOn_76 m24 hk_a21 rfl (by decide) rfl (Nat.le_of_ble_eq_true rfl) ?_
    have hz_r23 := m24.1.2
    by_cases c25 : r23 = 0
    · replace h := ite_p c25 h
      refine ym 115 (fun B k => z_if_eq (tgt := 115) B dX8_goOn_79 (by decide) (fun _ => k) (fun q => absurd c25 q)) ?_
      refine ym 116 (fun B k => z_aload_n B dX8_goOn_115 rfl 1 rfl k) ?_
      refine ym 117 (fun B k => z_aload_n B dX8_goOn_116 rfl 0 rfl k) ?_
      replace h := br_e h
      obtain ⟨u27, h26, h⟩ := h
      have m28 := ct_X8_leave l (g := g) h26 hT hk_t (rk_a hk_a6)
      refine yc_Vv (Al := [.ref a6]) (rest := []) 120 rfl cw_X8_361 cx_9 dX8_goOn_117 m28 hk_t rfl (by decide) rfl (Nat.le_of_ble_eq_true rfl) ?_
      have hk_a6 := k_G m28.1.1 (by decide) hk_a6
      have hk_t := k_G m28.1.1 (by decide) hk_t
      have hT := m28.1.1.2.2.2
      refine ym 123 (fun B k => z_iinc (v := x2 + 1) (lv' := [(2, .int (x2 + 1)), (3, .ref a6), (0, .ref t)]) B dX8_goOn_120 2 rfl rfl (by decide) rfl k) ?_
      refine ym 10 (fun B k => z_goto (tgt := 10) B dX8_goOn_123 (by decide) k) ?_
      refine y_sub [(0, .ref t), (2, .int (x2 + 1))] [2, 0] rfl ?_
      exact hkl10 _ _ _ h hT hk_t
    · replace h := ite_n c25 h
      refine ym 82 (fun B k => z_if_eq (tgt := 115) B dX8_goOn_79 (by decide) (fun q => absurd q c25) (fun _ => k)) ?_
      refine ym 83 (fun B k => z_aload_n B dX8_goOn_82 rfl 1 rfl k) ?_
      refine ym 84 (fun B k => z_aload_n B dX8_goOn_83 rfl 0 rfl k) ?_
      replace h := bd_e h
      obtain ⟨r30, u31, h29, h⟩ := h
      have m32 := ct_X8_make l (g := g) h29 hT hk_t (rk_a hk_a6)
      refine yc_Vq (Al := [.ref a6]) (rest := []) 87 rfl cw_X8_357 cx_9 dX8_goOn_84 m32 hk_t rfl (by decide) rfl (Nat.le_of_ble_eq_true rfl) ?_
      have hk_a6 := k_G m32.1.1 (by decide) hk_a6
      have hk_t := k_G m32.1.1 (by decide) hk_t
      have hT := m32.1.1.2.2.2
      have hq_r30 := m32.1.2
      refine ym 89 (fun B k => z_qstore (r := r30) (lv' := [(4, va_rf r30), (3, .ref a6), (0, .ref t), (2, .int x2)]) B dX8_goOn_87 (by decide) rfl k) ?_
      refine ym 90 (fun B k => z_aload_n B dX8_goOn_89 rfl 1 rfl k) ?_
      replace h := qv_e h
      obtain ⟨w33, e_w33, h⟩ := h
      have hq_w33 : rk u31 w33 7 := rk_T hT hk_a6 rfl (by decide) e_w33
      refine ym 93 (fun B k => gf_X8_249 (x := w33) B hk_a6 e_w33 dX8_goOn_90 k) ?_
      refine ym 94 (fun B k => z_aload_n B dX8_goOn_93 rfl 1 rfl k) ?_
      replace h := qv_e h
      obtain ⟨w34, e_w34, h⟩ := h
      have hq_w34 : rk u31 w34 3 := rk_T hT hk_a6 rfl (by decide) e_w34
      refine ym 97 (fun B k => gf_X8_179 (x := w34) B hk_a6 e_w34 dX8_goOn_94 k) ?_
      replace h := bq_e h
      obtain ⟨a35, rfl, h⟩ := h
      have hk_a35 := hq_w34 a35 rfl
      replace h := br_e h
      obtain ⟨r37, h36, h⟩ := h
      have m38 := ct_X1_size l (g := g) h36 hT hk_a35
      refine yc_Vi (Al := []) (rest := [va_rf w33]) 100 rfl cw_X8_183 cx_2 dX8_goOn_97 m38 hk_a35 rfl (by decide) rfl (by cases w33 <;> exact Nat.le_of_ble_eq_true rfl) ?_
      replace h := bq_e h
      obtain ⟨a39, rfl, h⟩ := h
      have hk_a39 := hq_w33 a39 rfl
      replace h := br_e h
      obtain ⟨u41, h40, h⟩ := h
      have m42 := ct_X5_advance l (g := g) h40 hT hk_a39
      refine yc_Vv (Al := [.int r37]) (rest := []) 103 rfl cw_X8_289 cx_6 dX8_goOn_100 m42 hk_a39 rfl (by decide) rfl (Nat.le_of_ble_eq_true rfl) ?_
      have hq_r30 := rk_G m42.1.1 (by decide) hq_r30
      have hk_a6 := k_G m42.1.1 (by decide) hk_a6
      have hk_t := k_G m42.1.1 (by decide) hk_t
      have hT := m42.1.1.2.2.2
      refine ym 104 (fun B k => z_aload_n B dX8_goOn_103 rfl 2 rfl k) ?_
      replace h := qv_e h
      obtain ⟨w43, e_w43, h⟩ := h
      have hq_w43 : rk u41 w43 4 := rk_T hT hk_t rfl (by decide) e_w43
      refine ym 107 (fun B k => gf_X8_35 (x := w43) B hk_t e_w43 dX8_goOn_104 k) ?_
      refine ym 109 (fun B k => z_qload (r := r30) B dX8_goOn_107 0 rfl k) ?_
      replace h := bq_e h
      obtain ⟨a44, rfl, h⟩ := h
      have hk_a44 := hq_w43 a44 rfl
      replace h := br_e h
      obtain ⟨u46, h45, h⟩ := h
      have m47 := ct_X2_addLast l (g := g) h45 hT hk_a44 hq_r30
      refine yc_Vv (Al := [va_rf r30]) (rest := []) 112 rfl cw_X8_337 cx_3 dX8_goOn_109 m47 hk_a44 rfl (by decide) rfl (Nat.le_of_ble_eq_true rfl) ?_
      have hq_r30 := rk_G m47.1.1 (by decide) hq_r30
      have hk_a6 := k_G m47.1.1 (by decide) hk_a6
      have hk_t := k_G m47.1.1 (by decide) hk_t
      have hT := m47.1.1.2.2.2
      refine ym 120 (fun B k => z_goto (tgt := 120) B dX8_goOn_112 (by decide) k) ?_
      refine ym 123 (fun B k => z_iinc (v := x2 + 1) (lv' := [(2, .int (x2 + 1)), (4, va_rf r30), (3, .ref a6), (0, .ref t)]) B dX8_goOn_120 3 rfl rfl (by decide) rfl k) ?_
      refine ym 10 (fun B k => z_goto (tgt := 10) B dX8_goOn_123 (by decide) k) ?_
      refine y_sub [(0, .ref t), (2, .int (x2 + 1))] [3, 0] rfl ?_
      exact hkl10 _ _ _ h hT hk_t
set_option maxRecDepth 100000 in
set_option maxHeartbeats 4000000 in
theorem tl_X8_goOn_10 {l : Launch} {g : gx_T} {u : sx_T} {As : Array Value} {n0 : Nat} : ∀ {n : Nat} {σ : sx_T} {t : Nat} {x2 : Int32}, fl_X8_goOn_10 n0 n σ t x2 = some u → TS g σ → sx_K σ t = 10 → ZY l g cX8_goOn RX8 "goOn" none 5 10 256 0 0 false As (QM g As (Qxv g u)) (True) u σ 10 [(0, .ref t), (2, .int x2)] [] := by
  intro n
  induction n with
  | zero =>
    intro σ t x2 h
    exact nomatch h
  | succ n ih_ =>
    have ih := @ih_
    intro σ t x2 h hT hk_t
    unfold fl_X8_goOn_10 at h
    refine ym 11 (fun B k => z_iload_n B dX8_goOn_10 rfl 1 rfl k) ?_
    refine ym 14 (fun B k => z_ldcw (v := 1000000) B dX8_goOn_11 wg_515 k) ?_
    by_cases c1 : 1000000 ≤ x2
    · replace h := ite_p c1 h
      refine ym 126 (fun B k => z_icmp_ge (tgt := 126) B dX8_goOn_14 (by decide) (fun _ => k) (fun q => absurd c1 q)) ?_
      obtain rfl := Option.some.inj h
      exact yr_v hT trivial rfl dX8_goOn_126
    · replace h := ite_n c1 h
      refine ym 17 (fun B k => z_icmp_ge (tgt := 126) B dX8_goOn_14 (by decide) (fun q => absurd q c1) (fun _ => k)) ?_
      refine ym 18 (fun B k => z_aload_n B dX8_goOn_17 rfl 0 rfl k) ?_
      replace h := qv_e h
      obtain ⟨w2, e_w2, h⟩ := h
      have hq_w2 : rk σ w2 4 := rk_T hT hk_t rfl (by decide) e_w2
      refine ym 21 (fun B k => gf_X8_35 (x := w2) B hk_t e_w2 dX8_goOn_18 k) ?_
      replace h := bq_e h
      obtain ⟨a3, rfl, h⟩ := h
      have hk_a3 := hq_w2 a3 rfl
      replace h := br_e h
      obtain ⟨r5, h4, h⟩ := h
      have m6 := ct_X2_isEmpty l (g := g) h4 hT hk_a3
      refine yc_Vi (Al := []) (rest := []) 24 rfl cw_X8_341 cx_3 dX8_goOn_21 m6 hk_a3 rfl (by decide) rfl (Nat.le_of_ble_eq_true rfl) ?_
      have hz_r5 := m6.1.2
      by_cases c7 : r5 = 0
      · replace h := ite_p c7 h
        refine ym 41 (fun B k => z_if_eq (tgt := 41) B dX8_goOn_24 (by decide) (fun _ => k) (fun q => absurd c7 q)) ?_
        refine y_sub [(0, .ref t), (2, .int x2)] [0, 1] rfl ?_
        exact tb_X8_goOn_41 (fun _ _ _ => ih) h hT hk_t
      · replace h := ite_n c7 h
        refine ym 27 (fun B k => z_if_eq (tgt := 41) B dX8_goOn_24 (by decide) (fun q => absurd q c7) (fun _ => k)) ?_
        refine ym 28 (fun B k => z_aload_n B dX8_goOn_27 rfl 0 rfl k) ?_
        replace h := qv_e h
        obtain ⟨w8, e_w8, h⟩ := h
        have hq_w8 : rk σ w8 4 := rk_T hT hk_t rfl (by decide) e_w8
        refine ym 31 (fun B k => gf_X8_35 (x := w8) B hk_t e_w8 dX8_goOn_28 k) ?_
        refine ym 32 (fun B k => z_aload_n B dX8_goOn_31 rfl 0 rfl k) ?_
        replace h := qv_e h
        obtain ⟨w9, e_w9, h⟩ := h
        have hq_w9 : rk σ w9 4 := rk_T hT hk_t rfl (by decide) e_w9
        refine ym 35 (fun B k => gf_X8_39 (x := w9) B hk_t e_w9 dX8_goOn_32 k) ?_
        replace h := bq_e h
        obtain ⟨a10, rfl, h⟩ := h
        have hk_a10 := hq_w9 a10 rfl
        replace h := bd_e h
        obtain ⟨r12, u13, h11, h⟩ := h
        have m14 := ct_X2_removeFirst l (g := g) h11 hT hk_a10
        refine yc_Vq (Al := []) (rest := [va_rf w8]) 38 rfl cw_X8_344 cx_3 dX8_goOn_35 m14 hk_a10 rfl (by decide) rfl (by cases w8 <;> exact Nat.le_of_ble_eq_true rfl) ?_
        have hk_t := k_G m14.1.1 (by decide) hk_t
        have hq_w8 := rk_G m14.1.1 (by decide) hq_w8
        have hT := m14.1.1.2.2.2
        have hq_r12 := m14.1.2
        replace h := bq_e h
        obtain ⟨a15, rfl, h⟩ := h
        have hk_a15 := hq_w8 a15 rfl
        replace h := br_e h
        obtain ⟨u17, h16, h⟩ := h
        have m18 := ct_X2_addLast l (g := g) h16 hT hk_a15 hq_r12
        refine yc_Vv (Al := [va_rf r12]) (rest := []) 41 rfl cw_X8_337 cx_3 dX8_goOn_38 m18 hk_a15 rfl (by decide) rfl (Nat.le_of_ble_eq_true rfl) ?_
        have hk_t := k_G m18.1.1 (by decide) hk_t
        have hT := m18.1.1.2.2.2
        refine y_sub [(0, .ref t), (2, .int x2)] [0, 1] rfl ?_
        exact tb_X8_goOn_41 (fun _ _ _ => ih) h hT hk_t
set_option maxRecDepth 100000 in
set_option maxHeartbeats 4000000 in
theorem ct_X8_goOn (l : Launch) {g : gx_T} {σ : sx_T} {u : sx_T} {n0 : Nat} {t : Nat} {v1 : Option Nat} (h : f_X8_goOn n0 σ t v1 = some u) (hT : TS g σ) (hk_t : sx_K σ t = 10) (hq_v1 : rk σ v1 2) : CT l g yX8_goOn cX8_goOn 5 none 10 256 [.ref t, va_rf v1] (True) u σ (Qxv g u) := by
  refine yc_met (by decide) (by cases v1 <;> exact Nat.le_of_ble_eq_true rfl) ?_
  refine yc_lv (show lv_args 0 [.ref t, va_rf v1] = [(0, .ref t), (1, va_rf v1)] from (by cases v1 <;> rfl)) ?_
  show ZY l g _ _ _ _ _ _ _ _ _ _ _ _ _ _ σ 0 [(0, .ref t), (1, va_rf v1)] []
  unfold f_X8_goOn at h
  refine ym 1 (fun B k => z_aload_n B dX8_goOn_0 rfl 0 rfl k) ?_
  replace h := qv_e h
  obtain ⟨w1, e_w1, h⟩ := h
  have hq_w1 : rk σ w1 4 := rk_T hT hk_t rfl (by decide) e_w1
  refine ym 4 (fun B k => gf_X8_35 (x := w1) B hk_t e_w1 dX8_goOn_1 k) ?_
  refine ym 5 (fun B k => z_qload_n (r := v1) B dX8_goOn_4 rfl 1 rfl k) ?_
  replace h := bq_e h
  obtain ⟨a2, rfl, h⟩ := h
  have hk_a2 := hq_w1 a2 rfl
  replace h := br_e h
  obtain ⟨u4, h3, h⟩ := h
  have m5 := ct_X2_addLast l (g := g) h3 hT hk_a2 hq_v1
  refine yc_Vv (Al := [va_rf v1]) (rest := []) 8 rfl cw_X8_337 cx_3 dX8_goOn_5 m5 hk_a2 rfl (by decide) rfl (Nat.le_of_ble_eq_true rfl) ?_
  have hk_t := k_G m5.1.1 (by decide) hk_t
  have hq_v1 := rk_G m5.1.1 (by decide) hq_v1
  have hT := m5.1.1.2.2.2
  refine ym 9 (fun B k => z_iconst (v := 0) B dX8_goOn_8 (by decide) k) ?_
  refine ym 10 (fun B k => z_istore_n (lv' := [(2, .int 0), (0, .ref t), (1, va_rf v1)]) B dX8_goOn_9 rfl (by decide) (by cases v1 <;> rfl) k) ?_
  refine y_sub [(0, .ref t), (2, .int 0)] [1, 0] rfl ?_
  exact tl_X8_goOn_10 h hT hk_t
