set_option maxRecDepth 100000 in
set_option maxHeartbeats 4000000 in
theorem ct_X8_flowAt (l : Launch) {g : gx_T} {σ : sx_T} {r : Option Nat}  {t : Nat} {x1 : Int32} (h : f_X8_flowAt σ t x1 = some r) (hT : TS g σ) (hk_t : sx_K σ t = 10) : CT l g yX8_flowAt cX8_flowAt 3 (some (.object "Loomkeeper$Flow")) 0 0 [.ref t, .int x1] (rk σ r 2) σ σ (Qxq g r σ) := by
  refine yc_met (by decide) (Nat.le_of_ble_eq_true rfl) ?_
  refine yc_lv (show lv_args 0 [.ref t, .int x1] = [(0, .ref t), (1, .int x1)] from rfl) ?_
  show ZY l g _ _ _ _ _ _ _ _ _ _ _ _ _ _ σ 0 [(0, .ref t), (1, .int x1)] []
  unfold f_X8_flowAt at h
  refine ym 1 (fun B k => z_iload_n B dX8_flowAt_0 rfl 1 rfl k) ?_
  by_cases c1 : x1 < 0
  · replace h := ite_p c1 h
    refine ym 25 (fun B k => z_if_lt (tgt := 25) B dX8_flowAt_1 (by decide) (fun _ => k) (fun q => absurd c1 q)) ?_
    refine ym 26 (fun B k => z_iconst (v := 0) B dX8_flowAt_25 (by decide) k) ?_
    refine ym 27 (fun B k => z_istore_n (lv' := [(2, .int 0), (0, .ref t), (1, .int x1)]) B dX8_flowAt_26 rfl (by decide) rfl k) ?_
    refine ym 28 (fun B k => z_iload_n B dX8_flowAt_27 rfl 0 rfl k) ?_
    refine ym 40 (fun B k => z_if_eq (tgt := 40) B dX8_flowAt_28 (by decide) (fun _ => k) (fun q => absurd (by decide) q)) ?_
    refine ym 41 (fun B k => z_null B dX8_flowAt_40 k) ?_
    obtain rfl := Option.some.inj h
    exact yr_q (v := none) hT rk_n rfl dX8_flowAt_41
  · replace h := ite_n c1 h
    refine ym 4 (fun B k => z_if_lt (tgt := 25) B dX8_flowAt_1 (by decide) (fun q => absurd q c1) (fun _ => k)) ?_
    refine ym 5 (fun B k => z_iload_n B dX8_flowAt_4 rfl 1 rfl k) ?_
    refine ym 6 (fun B k => z_aload_n B dX8_flowAt_5 rfl 0 rfl k) ?_
    refine ym 9 (fun B k => gf_X8_96 (x := (sx_I σ t 7)) B hk_t rfl dX8_flowAt_6 k) ?_
    by_cases c2 : (sx_I σ t 7) ≤ x1
    · replace h := ite_p c2 h
      refine ym 25 (fun B k => z_icmp_ge (tgt := 25) B dX8_flowAt_9 (by decide) (fun _ => k) (fun q => absurd c2 q)) ?_
      refine ym 26 (fun B k => z_iconst (v := 0) B dX8_flowAt_25 (by decide) k) ?_
      refine ym 27 (fun B k => z_istore_n (lv' := [(2, .int 0), (0, .ref t), (1, .int x1)]) B dX8_flowAt_26 rfl (by decide) rfl k) ?_
      refine ym 28 (fun B k => z_iload_n B dX8_flowAt_27 rfl 0 rfl k) ?_
      refine ym 40 (fun B k => z_if_eq (tgt := 40) B dX8_flowAt_28 (by decide) (fun _ => k) (fun q => absurd (by decide) q)) ?_
      refine ym 41 (fun B k => z_null B dX8_flowAt_40 k) ?_
      obtain rfl := Option.some.inj h
      exact yr_q (v := none) hT rk_n rfl dX8_flowAt_41
    · replace h := ite_n c2 h
      refine ym 12 (fun B k => z_icmp_ge (tgt := 25) B dX8_flowAt_9 (by decide) (fun q => absurd q c2) (fun _ => k)) ?_
      refine ym 13 (fun B k => z_iload_n B dX8_flowAt_12 rfl 1 rfl k) ?_
      refine ym 14 (fun B k => z_aload_n B dX8_flowAt_13 rfl 0 rfl k) ?_
      replace h := qv_e h
      obtain ⟨w3, e_w3, h⟩ := h
      have hq_w3 : rk σ w3 15 := rk_T hT hk_t rfl (by decide) e_w3
      refine ym 17 (fun B k => gf_X8_21 (x := w3) B hk_t e_w3 dX8_flowAt_14 k) ?_
      replace h := bq_e h
      obtain ⟨a4, rfl, h⟩ := h
      have hk_a4 := hq_w3 a4 rfl
      refine ym 18 (fun B k => z_alen (kd := 15) (ti := 3) (v := Int32.ofNat (sx_N σ a4)) B hk_a4 (by decide) rfl rfl dX8_flowAt_17 k) ?_
      by_cases c5 : (Int32.ofNat (sx_N σ a4)) ≤ x1
      · replace h := ite_p c5 h
        refine ym 25 (fun B k => z_icmp_ge (tgt := 25) B dX8_flowAt_18 (by decide) (fun _ => k) (fun q => absurd c5 q)) ?_
        refine ym 26 (fun B k => z_iconst (v := 0) B dX8_flowAt_25 (by decide) k) ?_
        refine ym 27 (fun B k => z_istore_n (lv' := [(2, .int 0), (0, .ref t), (1, .int x1)]) B dX8_flowAt_26 rfl (by decide) rfl k) ?_
        refine ym 28 (fun B k => z_iload_n B dX8_flowAt_27 rfl 0 rfl k) ?_
        refine ym 40 (fun B k => z_if_eq (tgt := 40) B dX8_flowAt_28 (by decide) (fun _ => k) (fun q => absurd (by decide) q)) ?_
        refine ym 41 (fun B k => z_null B dX8_flowAt_40 k) ?_
        obtain rfl := Option.some.inj h
        exact yr_q (v := none) hT rk_n rfl dX8_flowAt_41
      · replace h := ite_n c5 h
        refine ym 21 (fun B k => z_icmp_ge (tgt := 25) B dX8_flowAt_18 (by decide) (fun q => absurd q c5) (fun _ => k)) ?_
        refine ym 22 (fun B k => z_iconst (v := 1) B dX8_flowAt_21 (by decide) k) ?_
        refine ym 26 (fun B k => z_goto (tgt := 26) B dX8_flowAt_22 (by decide) k) ?_
        refine ym 27 (fun B k => z_istore_n (lv' := [(2, .int 1), (0, .ref t), (1, .int x1)]) B dX8_flowAt_26 rfl (by decide) rfl k) ?_
        refine ym 28 (fun B k => z_iload_n B dX8_flowAt_27 rfl 0 rfl k) ?_
        refine ym 31 (fun B k => z_if_eq (tgt := 40) B dX8_flowAt_28 (by decide) (fun q => absurd q (by decide)) (fun _ => k)) ?_
        refine ym 32 (fun B k => z_aload_n B dX8_flowAt_31 rfl 1 rfl k) ?_
        replace h := qv_e h
        obtain ⟨w6, e_w6, h⟩ := h
        have hq_w6 : rk σ w6 15 := rk_T hT hk_t rfl (by decide) e_w6
        refine ym 35 (fun B k => gf_X8_21 (x := w6) B hk_t e_w6 dX8_flowAt_32 k) ?_
        refine ym 36 (fun B k => z_iload_n B dX8_flowAt_35 rfl 2 rfl k) ?_
        replace h := bq_e h
        obtain ⟨a7, rfl, h⟩ := h
        have hk_a7 := hq_w6 a7 rfl
        replace h := ck_e h
        obtain ⟨hi_8, h⟩ := h
        replace h := qv_e h
        obtain ⟨w9, e_w9, h⟩ := h
        have hq_w9 : rk σ w9 2 := rk_T hT hk_a7 rfl (by decide) e_w9
        refine ym 37 (fun B k => z_qald (j := (ti x1)) (kd := 15) (ti := 3) (r := w9) B hk_a7 (by decide) rfl rfl hi_8 e_w9 dX8_flowAt_36 k) ?_
        refine ym 41 (fun B k => z_goto (tgt := 41) B dX8_flowAt_37 (by decide) k) ?_
        obtain rfl := Option.some.inj h
        exact yr_q (v := w9) hT hq_w9 rfl dX8_flowAt_41
set_option maxRecDepth 100000 in
set_option maxHeartbeats 4000000 in
theorem ct_X1_kindAt (l : Launch) {g : gx_T} {σ : sx_T} {r : Int32}  {t : Nat} {x1 : Int32} (h : f_X1_kindAt σ t x1 = some r) (hT : TS g σ) (hk_t : sx_K σ t = 3) : CT l g yX1_kindAt cX1_kindAt 2 (some .int) 0 0 [.ref t, .int x1] (True) σ σ (Qxi g r σ) := by
  refine yc_met (by decide) (Nat.le_of_ble_eq_true rfl) ?_
  refine yc_lv (show lv_args 0 [.ref t, .int x1] = [(0, .ref t), (1, .int x1)] from rfl) ?_
  show ZY l g _ _ _ _ _ _ _ _ _ _ _ _ _ _ σ 0 [(0, .ref t), (1, .int x1)] []
  unfold f_X1_kindAt at h
  refine ym 1 (fun B k => z_iload_n B dX1_kindAt_0 rfl 1 rfl k) ?_
  by_cases c1 : x1 < 0
  · replace h := ite_p c1 h
    refine ym 30 (fun B k => z_if_lt (tgt := 30) B dX1_kindAt_1 (by decide) (fun _ => k) (fun q => absurd c1 q)) ?_
    refine ym 31 (fun B k => z_iconst (v := (-1)) B dX1_kindAt_30 (by decide) k) ?_
    obtain rfl := Option.some.inj h
    exact yr_i hT trivial rfl dX1_kindAt_31
  · replace h := ite_n c1 h
    refine ym 4 (fun B k => z_if_lt (tgt := 30) B dX1_kindAt_1 (by decide) (fun q => absurd q c1) (fun _ => k)) ?_
    refine ym 5 (fun B k => z_iload_n B dX1_kindAt_4 rfl 1 rfl k) ?_
    refine ym 6 (fun B k => z_aload_n B dX1_kindAt_5 rfl 0 rfl k) ?_
    refine ym 9 (fun B k => gf_X1_19 (x := (sx_I σ t 2)) B hk_t rfl dX1_kindAt_6 k) ?_
    by_cases c2 : (sx_I σ t 2) ≤ x1
    · replace h := ite_p c2 h
      refine ym 30 (fun B k => z_icmp_ge (tgt := 30) B dX1_kindAt_9 (by decide) (fun _ => k) (fun q => absurd c2 q)) ?_
      refine ym 31 (fun B k => z_iconst (v := (-1)) B dX1_kindAt_30 (by decide) k) ?_
      obtain rfl := Option.some.inj h
      exact yr_i hT trivial rfl dX1_kindAt_31
    · replace h := ite_n c2 h
      refine ym 12 (fun B k => z_icmp_ge (tgt := 30) B dX1_kindAt_9 (by decide) (fun q => absurd q c2) (fun _ => k)) ?_
      refine ym 13 (fun B k => z_iload_n B dX1_kindAt_12 rfl 1 rfl k) ?_
      refine ym 14 (fun B k => z_aload_n B dX1_kindAt_13 rfl 0 rfl k) ?_
      replace h := qv_e h
      obtain ⟨w3, e_w3, h⟩ := h
      have hq_w3 : rk σ w3 12 := rk_T hT hk_t rfl (by decide) e_w3
      refine ym 17 (fun B k => gf_X1_9 (x := w3) B hk_t e_w3 dX1_kindAt_14 k) ?_
      replace h := bq_e h
      obtain ⟨a4, rfl, h⟩ := h
      have hk_a4 := hq_w3 a4 rfl
      refine ym 18 (fun B k => z_alen (kd := 12) (ti := 0) (v := Int32.ofNat (sx_N σ a4)) B hk_a4 (by decide) rfl rfl dX1_kindAt_17 k) ?_
      by_cases c5 : (Int32.ofNat (sx_N σ a4)) ≤ x1
      · replace h := ite_p c5 h
        refine ym 30 (fun B k => z_icmp_ge (tgt := 30) B dX1_kindAt_18 (by decide) (fun _ => k) (fun q => absurd c5 q)) ?_
        refine ym 31 (fun B k => z_iconst (v := (-1)) B dX1_kindAt_30 (by decide) k) ?_
        obtain rfl := Option.some.inj h
        exact yr_i hT trivial rfl dX1_kindAt_31
      · replace h := ite_n c5 h
        refine ym 21 (fun B k => z_icmp_ge (tgt := 30) B dX1_kindAt_18 (by decide) (fun q => absurd q c5) (fun _ => k)) ?_
        refine ym 22 (fun B k => z_aload_n B dX1_kindAt_21 rfl 0 rfl k) ?_
        replace h := qv_e h
        obtain ⟨w6, e_w6, h⟩ := h
        have hq_w6 : rk σ w6 12 := rk_T hT hk_t rfl (by decide) e_w6
        refine ym 25 (fun B k => gf_X1_9 (x := w6) B hk_t e_w6 dX1_kindAt_22 k) ?_
        refine ym 26 (fun B k => z_iload_n B dX1_kindAt_25 rfl 1 rfl k) ?_
        replace h := bq_e h
        obtain ⟨a7, rfl, h⟩ := h
        have hk_a7 := hq_w6 a7 rfl
        replace h := ck_e h
        obtain ⟨hi_8, h⟩ := h
        refine ym 27 (fun B k => z_bald (j := (ti x1)) (x := (sx_I σ a7 (ti x1))) B hk_a7 rfl hi_8 rfl dX1_kindAt_26 k) ?_
        refine ym 31 (fun B k => z_goto (tgt := 31) B dX1_kindAt_27 (by decide) k) ?_
        obtain rfl := Option.some.inj h
        exact yr_i hT trivial rfl dX1_kindAt_31
set_option maxRecDepth 100000 in
set_option maxHeartbeats 4000000 in
theorem ct_X1_numberAt (l : Launch) {g : gx_T} {σ : sx_T} {r : Int64}  {t : Nat} {x1 : Int32} (h : f_X1_numberAt σ t x1 = some r) (hT : TS g σ) (hk_t : sx_K σ t = 3) : CT l g yX1_numberAt cX1_numberAt 2 (some .long) 0 0 [.ref t, .int x1] (True) σ σ (Qxl g r σ) := by
  refine yc_met (by decide) (Nat.le_of_ble_eq_true rfl) ?_
  refine yc_lv (show lv_args 0 [.ref t, .int x1] = [(0, .ref t), (1, .int x1)] from rfl) ?_
  show ZY l g _ _ _ _ _ _ _ _ _ _ _ _ _ _ σ 0 [(0, .ref t), (1, .int x1)] []
  unfold f_X1_numberAt at h
  refine ym 1 (fun B k => z_iload_n B dX1_numberAt_0 rfl 1 rfl k) ?_
  by_cases c1 : x1 < 0
  · replace h := ite_p c1 h
    refine ym 30 (fun B k => z_if_lt (tgt := 30) B dX1_numberAt_1 (by decide) (fun _ => k) (fun q => absurd c1 q)) ?_
    refine ym 31 (fun B k => z_lconst (v := 0) B dX1_numberAt_30 (by decide) k) ?_
    obtain rfl := Option.some.inj h
    exact yr_l hT trivial rfl dX1_numberAt_31
  · replace h := ite_n c1 h
    refine ym 4 (fun B k => z_if_lt (tgt := 30) B dX1_numberAt_1 (by decide) (fun q => absurd q c1) (fun _ => k)) ?_
    refine ym 5 (fun B k => z_iload_n B dX1_numberAt_4 rfl 1 rfl k) ?_
    refine ym 6 (fun B k => z_aload_n B dX1_numberAt_5 rfl 0 rfl k) ?_
    refine ym 9 (fun B k => gf_X1_19 (x := (sx_I σ t 2)) B hk_t rfl dX1_numberAt_6 k) ?_
    by_cases c2 : (sx_I σ t 2) ≤ x1
    · replace h := ite_p c2 h
      refine ym 30 (fun B k => z_icmp_ge (tgt := 30) B dX1_numberAt_9 (by decide) (fun _ => k) (fun q => absurd c2 q)) ?_
      refine ym 31 (fun B k => z_lconst (v := 0) B dX1_numberAt_30 (by decide) k) ?_
      obtain rfl := Option.some.inj h
      exact yr_l hT trivial rfl dX1_numberAt_31
    · replace h := ite_n c2 h
      refine ym 12 (fun B k => z_icmp_ge (tgt := 30) B dX1_numberAt_9 (by decide) (fun q => absurd q c2) (fun _ => k)) ?_
      refine ym 13 (fun B k => z_iload_n B dX1_numberAt_12 rfl 1 rfl k) ?_
      refine ym 14 (fun B k => z_aload_n B dX1_numberAt_13 rfl 0 rfl k) ?_
      replace h := qv_e h
      obtain ⟨w3, e_w3, h⟩ := h
      have hq_w3 : rk σ w3 14 := rk_T hT hk_t rfl (by decide) e_w3
      refine ym 17 (fun B k => gf_X1_15 (x := w3) B hk_t e_w3 dX1_numberAt_14 k) ?_
      replace h := bq_e h
      obtain ⟨a4, rfl, h⟩ := h
      have hk_a4 := hq_w3 a4 rfl
      refine ym 18 (fun B k => z_alen (kd := 14) (ti := 2) (v := Int32.ofNat (sx_N σ a4)) B hk_a4 (by decide) rfl rfl dX1_numberAt_17 k) ?_
      by_cases c5 : (Int32.ofNat (sx_N σ a4)) ≤ x1
      · replace h := ite_p c5 h
        refine ym 30 (fun B k => z_icmp_ge (tgt := 30) B dX1_numberAt_18 (by decide) (fun _ => k) (fun q => absurd c5 q)) ?_
        refine ym 31 (fun B k => z_lconst (v := 0) B dX1_numberAt_30 (by decide) k) ?_
        obtain rfl := Option.some.inj h
        exact yr_l hT trivial rfl dX1_numberAt_31
      · replace h := ite_n c5 h
        refine ym 21 (fun B k => z_icmp_ge (tgt := 30) B dX1_numberAt_18 (by decide) (fun q => absurd q c5) (fun _ => k)) ?_
        refine ym 22 (fun B k => z_aload_n B dX1_numberAt_21 rfl 0 rfl k) ?_
        replace h := qv_e h
        obtain ⟨w6, e_w6, h⟩ := h
        have hq_w6 : rk σ w6 14 := rk_T hT hk_t rfl (by decide) e_w6
        refine ym 25 (fun B k => gf_X1_15 (x := w6) B hk_t e_w6 dX1_numberAt_22 k) ?_
        refine ym 26 (fun B k => z_iload_n B dX1_numberAt_25 rfl 1 rfl k) ?_
        replace h := bq_e h
        obtain ⟨a7, rfl, h⟩ := h
        have hk_a7 := hq_w6 a7 rfl
        replace h := ck_e h
        obtain ⟨hi_8, h⟩ := h
        refine ym 27 (fun B k => z_lald (j := (ti x1)) (x := (sx_J σ a7 (ti x1))) B hk_a7 rfl hi_8 rfl dX1_numberAt_26 k) ?_
        refine ym 31 (fun B k => z_goto (tgt := 31) B dX1_numberAt_27 (by decide) k) ?_
        obtain rfl := Option.some.inj h
        exact yr_l hT trivial rfl dX1_numberAt_31
set_option maxRecDepth 100000 in
set_option maxHeartbeats 4000000 in
theorem ct_J9_floorMod_f86c9 (l : Launch) {g : gx_T} {σ : sx_T} {r : Int64}  {x0 : Int64} {x2 : Int64} (h : f_J9_floorMod_f86c9 σ x0 x2 = some r) (hT : TS g σ)  : CT l g yJ9_floorMod_f86c9 cJ9_floorMod_f86c9 6 (some .long) 0 0 [.long x0, .long x2] (True) σ σ (Qxl g r σ) := by
  refine yc_metF (by decide +kernel) (Nat.le_of_ble_eq_true rfl) ?_
  refine yc_lv (show lv_args 0 [.long x0, .long x2] = [(0, .long x0), (2, .long x2)] from rfl) ?_
  show ZY l g _ _ _ _ _ _ _ _ _ _ _ _ _ _ σ 0 [(0, .long x0), (2, .long x2)] []
  unfold f_J9_floorMod_f86c9 at h
  refine ym 1 (fun B k => z_lload_n B dJ9_floorMod_f86c9_0 rfl 0 rfl k) ?_
  refine ym 2 (fun B k => z_lload_n B dJ9_floorMod_f86c9_1 rfl 1 rfl k) ?_
  by_cases h0_1 : x2 = 0
  · exact nomatch (ite_p h0_1 h)
  replace h := ite_n h0_1 h
  refine ym 3 (fun B k => z_lrem B dJ9_floorMod_f86c9_2 h0_1 k) ?_
  refine ym 5 (fun B k => z_lstore (lv' := [(4, .long (jreml x0 x2)), (0, .long x0), (2, .long x2)]) B dJ9_floorMod_f86c9_3 (by decide) rfl k) ?_
  refine ym 6 (fun B k => z_lload_n B dJ9_floorMod_f86c9_5 rfl 1 rfl k) ?_
  refine ym 7 (fun B k => z_lload_n B dJ9_floorMod_f86c9_6 rfl 2 rfl k) ?_
  refine ym 8 (fun B k => z_lxor B dJ9_floorMod_f86c9_7 k) ?_
  refine ym 9 (fun B k => z_lconst (v := 0) B dJ9_floorMod_f86c9_8 (by decide) k) ?_
  refine ym 10 (fun B k => z_lcmp (v := lg_cmp (x0 ^^^ x2) 0) B dJ9_floorMod_f86c9_9 rfl k) ?_
  by_cases c2 : 0 ≤ (lg_cmp (x0 ^^^ x2) 0)
  · replace h := ite_p c2 h
    refine ym 25 (fun B k => z_if_ge (tgt := 25) B dJ9_floorMod_f86c9_10 (by decide) (fun _ => k) (fun q => absurd c2 q)) ?_
    refine ym 27 (fun B k => z_lload B dJ9_floorMod_f86c9_25 0 rfl k) ?_
    obtain rfl := Option.some.inj h
    exact yr_l hT trivial rfl dJ9_floorMod_f86c9_27
  · replace h := ite_n c2 h
    refine ym 13 (fun B k => z_if_ge (tgt := 25) B dJ9_floorMod_f86c9_10 (by decide) (fun q => absurd q c2) (fun _ => k)) ?_
    refine ym 15 (fun B k => z_lload B dJ9_floorMod_f86c9_13 0 rfl k) ?_
    refine ym 16 (fun B k => z_lconst (v := 0) B dJ9_floorMod_f86c9_15 (by decide) k) ?_
    refine ym 17 (fun B k => z_lcmp (v := lg_cmp (jreml x0 x2) 0) B dJ9_floorMod_f86c9_16 rfl k) ?_
    by_cases c3 : (lg_cmp (jreml x0 x2) 0) = 0
    · replace h := ite_p c3 h
      refine ym 25 (fun B k => z_if_eq (tgt := 25) B dJ9_floorMod_f86c9_17 (by decide) (fun _ => k) (fun q => absurd c3 q)) ?_
      refine ym 27 (fun B k => z_lload B dJ9_floorMod_f86c9_25 0 rfl k) ?_
      obtain rfl := Option.some.inj h
      exact yr_l hT trivial rfl dJ9_floorMod_f86c9_27
    · replace h := ite_n c3 h
      refine ym 20 (fun B k => z_if_eq (tgt := 25) B dJ9_floorMod_f86c9_17 (by decide) (fun q => absurd q c3) (fun _ => k)) ?_
      refine ym 22 (fun B k => z_lload B dJ9_floorMod_f86c9_20 0 rfl k) ?_
      refine ym 23 (fun B k => z_lload_n B dJ9_floorMod_f86c9_22 rfl 2 rfl k) ?_
      refine ym 24 (fun B k => z_ladd B dJ9_floorMod_f86c9_23 k) ?_
      obtain rfl := Option.some.inj h
      exact yr_l hT trivial rfl dJ9_floorMod_f86c9_24
set_option maxRecDepth 100000 in
set_option maxHeartbeats 4000000 in
theorem ct_X1_ending (l : Launch) {g : gx_T} {σ : sx_T} {r : Int32}  {t : Nat} (h : f_X1_ending σ t = some r) (hT : TS g σ) (hk_t : sx_K σ t = 3) : CT l g yX1_ending cX1_ending 1 (some .int) 1 25 [.ref t] (True) σ σ (Qxi g r σ) := by
  refine yc_met (by decide) (Nat.le_of_ble_eq_true rfl) ?_
  refine yc_lv (show lv_args 0 [.ref t] = [(0, .ref t)] from rfl) ?_
  show ZY l g _ _ _ _ _ _ _ _ _ _ _ _ _ _ σ 0 [(0, .ref t)] []
  unfold f_X1_ending at h
  refine ym 1 (fun B k => z_aload_n B dX1_ending_0 rfl 0 rfl k) ?_
  refine ym 2 (fun B k => z_aload_n B dX1_ending_1 rfl 0 rfl k) ?_
  refine ym 5 (fun B k => gf_X1_19 (x := (sx_I σ t 2)) B hk_t rfl dX1_ending_2 k) ?_
  refine ym 6 (fun B k => z_iconst (v := 1) B dX1_ending_5 (by decide) k) ?_
  refine ym 7 (fun B k => z_isub B dX1_ending_6 k) ?_
  replace h := br_e h
  obtain ⟨r2, h1, h⟩ := h
  have m3 := ct_X1_kindAt l (g := g) h1 hT hk_t
  refine yc_Vi (Al := [.int ((sx_I σ t 2) - 1)]) (rest := []) 10 rfl cw_X1_23 cx_2 dX1_ending_7 m3 hk_t rfl (by decide) rfl (Nat.le_of_ble_eq_true rfl) ?_
  refine ym 12 (fun B k => z_bipush (v := 13) B dX1_ending_10 (by decide) k) ?_
  by_cases c4 : r2 = 13
  · replace h := ite_p c4 h
    refine ym 15 (fun B k => z_icmp_ne (tgt := 35) B dX1_ending_12 (by decide) (fun q => absurd c4 q) (fun _ => k)) ?_
    refine ym 16 (fun B k => z_aload_n B dX1_ending_15 rfl 0 rfl k) ?_
    refine ym 17 (fun B k => z_aload_n B dX1_ending_16 rfl 0 rfl k) ?_
    refine ym 20 (fun B k => gf_X1_19 (x := (sx_I σ t 2)) B hk_t rfl dX1_ending_17 k) ?_
    refine ym 21 (fun B k => z_iconst (v := 1) B dX1_ending_20 (by decide) k) ?_
    refine ym 22 (fun B k => z_isub B dX1_ending_21 k) ?_
    replace h := br_e h
    obtain ⟨r6, h5, h⟩ := h
    have m7 := ct_X1_numberAt l (g := g) h5 hT hk_t
    refine yc_Vl (Al := [.int ((sx_I σ t 2) - 1)]) (rest := []) 25 rfl cw_X1_27 cx_2 dX1_ending_22 m7 hk_t rfl (by decide) rfl (Nat.le_of_ble_eq_true rfl) ?_
    refine ym 28 (fun B k => z_ldc2 (v := 10) B dX1_ending_25 wg_334 k) ?_
    replace h := br_e h
    obtain ⟨r9, h8, h⟩ := h
    have m10 := ct_J9_floorMod_f86c9 l (g := g) h8 hT
    refine yc_Sl (Al := [.long r6, .long 10]) (rest := []) 31 rfl cw_X1_33 dX1_ending_28 m10 rfl (by decide) rfl (Nat.le_of_ble_eq_true rfl) ?_
    refine ym 32 (fun B k => z_l2i (v := r9.toInt32) B dX1_ending_31 rfl k) ?_
    refine ym 36 (fun B k => z_goto (tgt := 36) B dX1_ending_32 (by decide) k) ?_
    obtain rfl := Option.some.inj h
    exact yr_i hT trivial rfl dX1_ending_36
  · replace h := ite_n c4 h
    refine ym 35 (fun B k => z_icmp_ne (tgt := 35) B dX1_ending_12 (by decide) (fun _ => k) (fun q => absurd q c4)) ?_
    refine ym 36 (fun B k => z_iconst (v := 0) B dX1_ending_35 (by decide) k) ?_
    obtain rfl := Option.some.inj h
    exact yr_i hT trivial rfl dX1_ending_36
set_option maxRecDepth 100000 in
set_option maxHeartbeats 4000000 in
theorem ct_X0_hasEnded (l : Launch) {g : gx_T} {σ : sx_T} {r : Int32}  {t : Nat} (h : f_X0_hasEnded σ t = some r) (hT : TS g σ) (hk_t : sx_K σ t = 2) : CT l g yX0_hasEnded cX0_hasEnded 1 (some .boolean) 2 45 [.ref t] (r = 0 ∨ r = 1) σ σ (Qxi g r σ) := by
  refine yc_met (by decide) (Nat.le_of_ble_eq_true rfl) ?_
  refine yc_lv (show lv_args 0 [.ref t] = [(0, .ref t)] from rfl) ?_
  show ZY l g _ _ _ _ _ _ _ _ _ _ _ _ _ _ σ 0 [(0, .ref t)] []
  unfold f_X0_hasEnded at h
  refine ym 1 (fun B k => z_aload_n B dX0_hasEnded_0 rfl 0 rfl k) ?_
  replace h := qv_e h
  obtain ⟨w1, e_w1, h⟩ := h
  have hq_w1 : rk σ w1 3 := rk_T hT hk_t rfl (by decide) e_w1
  refine ym 4 (fun B k => gf_X0_28 (x := w1) B hk_t e_w1 dX0_hasEnded_1 k) ?_
  replace h := bq_e h
  obtain ⟨a2, rfl, h⟩ := h
  have hk_a2 := hq_w1 a2 rfl
  replace h := br_e h
  obtain ⟨r4, h3, h⟩ := h
  have m5 := ct_X1_ending l (g := g) h3 hT hk_a2
  refine yc_Vi (Al := []) (rest := []) 7 rfl cw_X0_36 cx_2 dX0_hasEnded_4 m5 hk_a2 rfl (by decide) rfl (Nat.le_of_ble_eq_true rfl) ?_
  by_cases c6 : r4 = 0
  · replace h := ite_p c6 h
    refine ym 14 (fun B k => z_if_eq (tgt := 14) B dX0_hasEnded_7 (by decide) (fun _ => k) (fun q => absurd c6 q)) ?_
    refine ym 15 (fun B k => z_iconst (v := 0) B dX0_hasEnded_14 (by decide) k) ?_
    obtain rfl := Option.some.inj h
    exact yr_z hT (Or.inl rfl) rfl (Or.inl rfl) dX0_hasEnded_15
  · replace h := ite_n c6 h
    refine ym 10 (fun B k => z_if_eq (tgt := 14) B dX0_hasEnded_7 (by decide) (fun q => absurd q c6) (fun _ => k)) ?_
    refine ym 11 (fun B k => z_iconst (v := 1) B dX0_hasEnded_10 (by decide) k) ?_
    refine ym 15 (fun B k => z_goto (tgt := 15) B dX0_hasEnded_11 (by decide) k) ?_
    obtain rfl := Option.some.inj h
    exact yr_z hT (Or.inr rfl) rfl (Or.inr rfl) dX0_hasEnded_15
set_option maxRecDepth 100000 in
set_option maxHeartbeats 4000000 in
theorem ct_X5_begin (l : Launch) {g : gx_T} {σ : sx_T} {u : sx_T}  {t : Nat} {v1 : Option Nat} {v2 : Option Nat} (h : f_X5_begin σ t v1 v2 = some u) (hT : TS g σ) (hk_t : sx_K σ t = 7) (hq_v1 : rk σ v1 6) (hq_v2 : rk σ v2 3) : CT l g yX5_begin cX5_begin 3 none 1 21 [.ref t, va_rf v1, va_rf v2] (True) u σ (Qxv g u) := by
  refine yc_met (by decide) (by cases v1 <;> cases v2 <;> exact Nat.le_of_ble_eq_true rfl) ?_
  refine yc_lv (show lv_args 0 [.ref t, va_rf v1, va_rf v2] = [(0, .ref t), (1, va_rf v1), (2, va_rf v2)] from (by cases v1 <;> cases v2 <;> rfl)) ?_
  show ZY l g _ _ _ _ _ _ _ _ _ _ _ _ _ _ σ 0 [(0, .ref t), (1, va_rf v1), (2, va_rf v2)] []
  unfold f_X5_begin at h
  refine ym 1 (fun B k => z_aload_n B dX5_begin_0 rfl 0 rfl k) ?_
  refine ym 2 (fun B k => z_qload_n (r := v1) B dX5_begin_1 rfl 1 rfl k) ?_
  have j1 := hk_t
  refine ymw (σ' := (wx_R σ t 2 v1)) 5 e_R (fun B hin k => pf_X5_25 (x := v1) B hk_t rfl dX5_begin_2 k) ?_
  have hT := TS_R (k := 2) (v := v1) hT hk_t (Or.inr hq_v1) (Or.inl (by decide))
  have hk_t := kk_R (σ := σ) (a := t) (k := 2) (x := v1) hk_t
  have hq_v1 := qk_R (σ := σ) (a := t) (k := 2) (x := v1) hq_v1
  have hq_v2 := qk_R (σ := σ) (a := t) (k := 2) (x := v1) hq_v2
  refine ym 6 (fun B k => z_aload_n B dX5_begin_5 rfl 0 rfl k) ?_
  refine ym 7 (fun B k => z_qload_n (r := v2) B dX5_begin_6 rfl 2 rfl k) ?_
  have j2 := hk_t
  refine ymw (σ' := (wx_R (wx_R σ t 2 v1) t 3 v2)) 10 e_R (fun B hin k => pf_X5_29 (x := v2) B hk_t rfl dX5_begin_7 k) ?_
  have hT := TS_R (k := 3) (v := v2) hT hk_t (Or.inr hq_v2) (Or.inl (by decide))
  have hk_t := kk_R (σ := (wx_R σ t 2 v1)) (a := t) (k := 3) (x := v2) hk_t
  have hq_v1 := qk_R (σ := (wx_R σ t 2 v1)) (a := t) (k := 3) (x := v2) hq_v1
  have hq_v2 := qk_R (σ := (wx_R σ t 2 v1)) (a := t) (k := 3) (x := v2) hq_v2
  refine ym 11 (fun B k => z_aload_n B dX5_begin_10 rfl 0 rfl k) ?_
  replace h := qv_e h
  obtain ⟨w3, e_w3, h⟩ := h
  have hq_w3 : rk (wx_R (wx_R σ t 2 v1) t 3 v2) w3 5 := rk_T hT hk_t rfl (by decide) ((rR_n (by decide) (rR_n (by decide) rfl)).trans e_w3)
  refine ym 14 (fun B k => gf_X5_12 (x := w3) B hk_t ((rR_n (by decide) (rR_n (by decide) rfl)).trans e_w3) dX5_begin_11 k) ?_
  refine ym 15 (fun B k => z_iconst (v := 0) B dX5_begin_14 (by decide) k) ?_
  replace h := bq_e h
  obtain ⟨a4, rfl, h⟩ := h
  have hk_a4 := hq_w3 a4 rfl
  have j5 := hk_a4
  refine ymw (σ' := (wx_I (wx_R (wx_R σ t 2 v1) t 3 v2) a4 1 0)) 18 e_I (fun B hin k => pf_X5_33 (x := 0) B hk_a4 rfl dX5_begin_15 k) ?_
  have hT := TS_I (k := 1) (x := 0) hT hk_a4 (Or.inl rfl)
  have hk_t := kk_I (σ := (wx_R (wx_R σ t 2 v1) t 3 v2)) (a := a4) (k := 1) (x := 0) hk_t
  have hq_v1 := qk_I (σ := (wx_R (wx_R σ t 2 v1) t 3 v2)) (a := a4) (k := 1) (x := 0) hq_v1
  have hq_v2 := qk_I (σ := (wx_R (wx_R σ t 2 v1) t 3 v2)) (a := a4) (k := 1) (x := 0) hq_v2
  refine ym 19 (fun B k => z_aload_n B dX5_begin_18 rfl 0 rfl k) ?_
  replace h := qv_e h
  obtain ⟨w6, e_w6, h⟩ := h
  have hq_w6 : rk (wx_I (wx_R (wx_R σ t 2 v1) t 3 v2) a4 1 0) w6 8 := rk_T hT hk_t rfl (by decide) ((rR_I (rR_n (by decide) (rR_n (by decide) rfl))).trans e_w6)
  refine ym 22 (fun B k => gf_X5_21 (x := w6) B hk_t ((rR_I (rR_n (by decide) (rR_n (by decide) rfl))).trans e_w6) dX5_begin_19 k) ?_
  refine ym 23 (fun B k => z_iconst (v := 0) B dX5_begin_22 (by decide) k) ?_
  replace h := bq_e h
  obtain ⟨a7, rfl, h⟩ := h
  have hk_a7 := hq_w6 a7 rfl
  have j8 := hk_a7
  refine ymw (σ' := (wx_I (wx_I (wx_R (wx_R σ t 2 v1) t 3 v2) a4 1 0) a7 1 0)) 26 e_I (fun B hin k => pf_X5_37 (x := 0) B hk_a7 rfl dX5_begin_23 k) ?_
  have hT := TS_I (k := 1) (x := 0) hT hk_a7 (Or.inl rfl)
  have hk_t := kk_I (σ := (wx_I (wx_R (wx_R σ t 2 v1) t 3 v2) a4 1 0)) (a := a7) (k := 1) (x := 0) hk_t
  have hq_v1 := qk_I (σ := (wx_I (wx_R (wx_R σ t 2 v1) t 3 v2) a4 1 0)) (a := a7) (k := 1) (x := 0) hq_v1
  have hq_v2 := qk_I (σ := (wx_I (wx_R (wx_R σ t 2 v1) t 3 v2) a4 1 0)) (a := a7) (k := 1) (x := 0) hq_v2
  refine ym 27 (fun B k => z_aload_n B dX5_begin_26 rfl 0 rfl k) ?_
  refine ym 28 (fun B k => z_iconst (v := 1) B dX5_begin_27 (by decide) k) ?_
  have j9 := hk_t
  refine ymw (σ' := (wx_I (wx_I (wx_I (wx_R (wx_R σ t 2 v1) t 3 v2) a4 1 0) a7 1 0) t 4 1)) 31 e_I (fun B hin k => pf_X5_38 (x := 1) B hk_t rfl dX5_begin_28 k) ?_
  have hT := TS_I (k := 4) (x := 1) hT hk_t (Or.inl rfl)
  have hk_t := kk_I (σ := (wx_I (wx_I (wx_R (wx_R σ t 2 v1) t 3 v2) a4 1 0) a7 1 0)) (a := t) (k := 4) (x := 1) hk_t
  have hq_v1 := qk_I (σ := (wx_I (wx_I (wx_R (wx_R σ t 2 v1) t 3 v2) a4 1 0) a7 1 0)) (a := t) (k := 4) (x := 1) hq_v1
  have hq_v2 := qk_I (σ := (wx_I (wx_I (wx_R (wx_R σ t 2 v1) t 3 v2) a4 1 0) a7 1 0)) (a := t) (k := 4) (x := 1) hq_v2
  refine ym 32 (fun B k => z_aload_n B dX5_begin_31 rfl 0 rfl k) ?_
  refine ym 33 (fun B k => z_iconst (v := 0) B dX5_begin_32 (by decide) k) ?_
  have j10 := hk_t
  refine ymw (σ' := (wx_I (wx_I (wx_I (wx_I (wx_R (wx_R σ t 2 v1) t 3 v2) a4 1 0) a7 1 0) t 4 1) t 5 0)) 36 e_I (fun B hin k => pf_X5_41 (x := 0) B hk_t rfl dX5_begin_33 k) ?_
  have hT := TS_I (k := 5) (x := 0) hT hk_t (Or.inl rfl)
  have hk_t := kk_I (σ := (wx_I (wx_I (wx_I (wx_R (wx_R σ t 2 v1) t 3 v2) a4 1 0) a7 1 0) t 4 1)) (a := t) (k := 5) (x := 0) hk_t
  have hq_v1 := qk_I (σ := (wx_I (wx_I (wx_I (wx_R (wx_R σ t 2 v1) t 3 v2) a4 1 0) a7 1 0) t 4 1)) (a := t) (k := 5) (x := 0) hq_v1
  have hq_v2 := qk_I (σ := (wx_I (wx_I (wx_I (wx_R (wx_R σ t 2 v1) t 3 v2) a4 1 0) a7 1 0) t 4 1)) (a := t) (k := 5) (x := 0) hq_v2
  refine ym 37 (fun B k => z_aload_n B dX5_begin_36 rfl 0 rfl k) ?_
  refine ym 38 (fun B k => z_qload_n (r := v2) B dX5_begin_37 rfl 2 rfl k) ?_
  refine ym 39 (fun B k => z_iconst (v := 0) B dX5_begin_38 (by decide) k) ?_
  replace h := bq_e h
  obtain ⟨a11, rfl, h⟩ := h
  have hk_a11 := hq_v2 a11 rfl
  replace h := br_e h
  obtain ⟨r13, h12, h⟩ := h
  have m14 := ct_X1_numberAt l (g := g) h12 hT hk_a11
  refine yc_Vl (Al := [.int 0]) (rest := [.ref t]) 42 rfl cw_X5_44 cx_2 dX5_begin_39 m14 hk_a11 rfl (by decide) rfl (Nat.le_of_ble_eq_true rfl) ?_
  refine ym 43 (fun B k => z_l2i (v := r13.toInt32) B dX5_begin_42 rfl k) ?_
  have j15 := hk_t
  refine ymw (σ' := (wx_I (wx_I (wx_I (wx_I (wx_I (wx_R (wx_R σ t 2 v1) t 3 (some a11)) a4 1 0) a7 1 0) t 4 1) t 5 0) t 6 r13.toInt32)) 46 e_I (fun B hin k => pf_X5_50 (x := r13.toInt32) B hk_t rfl dX5_begin_43 k) ?_
  have hT := TS_I (k := 6) (x := r13.toInt32) hT hk_t (Or.inl rfl)
  have hk_t := kk_I (σ := (wx_I (wx_I (wx_I (wx_I (wx_R (wx_R σ t 2 v1) t 3 (some a11)) a4 1 0) a7 1 0) t 4 1) t 5 0)) (a := t) (k := 6) (x := r13.toInt32) hk_t
  have hq_v1 := qk_I (σ := (wx_I (wx_I (wx_I (wx_I (wx_R (wx_R σ t 2 v1) t 3 (some a11)) a4 1 0) a7 1 0) t 4 1) t 5 0)) (a := t) (k := 6) (x := r13.toInt32) hq_v1
  have hk_a11 := kk_I (σ := (wx_I (wx_I (wx_I (wx_I (wx_R (wx_R σ t 2 v1) t 3 (some a11)) a4 1 0) a7 1 0) t 4 1) t 5 0)) (a := t) (k := 6) (x := r13.toInt32) hk_a11
  refine ym 47 (fun B k => z_aload_n B dX5_begin_46 rfl 0 rfl k) ?_
  refine ym 48 (fun B k => z_iconst (v := 0) B dX5_begin_47 (by decide) k) ?_
  have j16 := hk_t
  refine ymw (σ' := (wx_I (wx_I (wx_I (wx_I (wx_I (wx_I (wx_R (wx_R σ t 2 v1) t 3 (some a11)) a4 1 0) a7 1 0) t 4 1) t 5 0) t 6 r13.toInt32) t 7 0)) 51 e_I (fun B hin k => pf_X5_53 (x := 0) B hk_t rfl dX5_begin_48 k) ?_
  have hT := TS_I (k := 7) (x := 0) hT hk_t (Or.inl rfl)
  have hk_t := kk_I (σ := (wx_I (wx_I (wx_I (wx_I (wx_I (wx_R (wx_R σ t 2 v1) t 3 (some a11)) a4 1 0) a7 1 0) t 4 1) t 5 0) t 6 r13.toInt32)) (a := t) (k := 7) (x := 0) hk_t
  have hq_v1 := qk_I (σ := (wx_I (wx_I (wx_I (wx_I (wx_I (wx_R (wx_R σ t 2 v1) t 3 (some a11)) a4 1 0) a7 1 0) t 4 1) t 5 0) t 6 r13.toInt32)) (a := t) (k := 7) (x := 0) hq_v1
  have hk_a11 := kk_I (σ := (wx_I (wx_I (wx_I (wx_I (wx_I (wx_R (wx_R σ t 2 v1) t 3 (some a11)) a4 1 0) a7 1 0) t 4 1) t 5 0) t 6 r13.toInt32)) (a := t) (k := 7) (x := 0) hk_a11
  refine ym 52 (fun B k => z_aload_n B dX5_begin_51 rfl 0 rfl k) ?_
  refine ym 53 (fun B k => z_iconst (v := 0) B dX5_begin_52 (by decide) k) ?_
  have j17 := hk_t
  refine ymw (σ' := (wx_I (wx_I (wx_I (wx_I (wx_I (wx_I (wx_I (wx_R (wx_R σ t 2 v1) t 3 (some a11)) a4 1 0) a7 1 0) t 4 1) t 5 0) t 6 r13.toInt32) t 7 0) t 8 0)) 56 e_I (fun B hin k => pf_X5_56 (x := 0) B hk_t rfl dX5_begin_53 k) ?_
  have hT := TS_I (k := 8) (x := 0) hT hk_t (Or.inl rfl)
  have hk_t := kk_I (σ := (wx_I (wx_I (wx_I (wx_I (wx_I (wx_I (wx_R (wx_R σ t 2 v1) t 3 (some a11)) a4 1 0) a7 1 0) t 4 1) t 5 0) t 6 r13.toInt32) t 7 0)) (a := t) (k := 8) (x := 0) hk_t
  have hq_v1 := qk_I (σ := (wx_I (wx_I (wx_I (wx_I (wx_I (wx_I (wx_R (wx_R σ t 2 v1) t 3 (some a11)) a4 1 0) a7 1 0) t 4 1) t 5 0) t 6 r13.toInt32) t 7 0)) (a := t) (k := 8) (x := 0) hq_v1
  have hk_a11 := kk_I (σ := (wx_I (wx_I (wx_I (wx_I (wx_I (wx_I (wx_R (wx_R σ t 2 v1) t 3 (some a11)) a4 1 0) a7 1 0) t 4 1) t 5 0) t 6 r13.toInt32) t 7 0)) (a := t) (k := 8) (x := 0) hk_a11
  refine ym 57 (fun B k => z_aload_n B dX5_begin_56 rfl 0 rfl k) ?_
  refine ym 58 (fun B k => z_iconst (v := (-1)) B dX5_begin_57 (by decide) k) ?_
  have j18 := hk_t
  refine ymw (σ' := (wx_I (wx_I (wx_I (wx_I (wx_I (wx_I (wx_I (wx_I (wx_R (wx_R σ t 2 v1) t 3 (some a11)) a4 1 0) a7 1 0) t 4 1) t 5 0) t 6 r13.toInt32) t 7 0) t 8 0) t 9 (-1))) 61 e_I (fun B hin k => pf_X5_59 (x := (-1)) B hk_t rfl dX5_begin_58 k) ?_
  have hT := TS_I (k := 9) (x := (-1)) hT hk_t (Or.inl rfl)
  have hk_t := kk_I (σ := (wx_I (wx_I (wx_I (wx_I (wx_I (wx_I (wx_I (wx_R (wx_R σ t 2 v1) t 3 (some a11)) a4 1 0) a7 1 0) t 4 1) t 5 0) t 6 r13.toInt32) t 7 0) t 8 0)) (a := t) (k := 9) (x := (-1)) hk_t
  have hq_v1 := qk_I (σ := (wx_I (wx_I (wx_I (wx_I (wx_I (wx_I (wx_I (wx_R (wx_R σ t 2 v1) t 3 (some a11)) a4 1 0) a7 1 0) t 4 1) t 5 0) t 6 r13.toInt32) t 7 0) t 8 0)) (a := t) (k := 9) (x := (-1)) hq_v1
  have hk_a11 := kk_I (σ := (wx_I (wx_I (wx_I (wx_I (wx_I (wx_I (wx_I (wx_R (wx_R σ t 2 v1) t 3 (some a11)) a4 1 0) a7 1 0) t 4 1) t 5 0) t 6 r13.toInt32) t 7 0) t 8 0)) (a := t) (k := 9) (x := (-1)) hk_a11
  refine ym 62 (fun B k => z_aload_n B dX5_begin_61 rfl 0 rfl k) ?_
  refine ym 63 (fun B k => z_iconst (v := (-1)) B dX5_begin_62 (by decide) k) ?_
  have j19 := hk_t
  refine ymw (σ' := (wx_I (wx_I (wx_I (wx_I (wx_I (wx_I (wx_I (wx_I (wx_I (wx_R (wx_R σ t 2 v1) t 3 (some a11)) a4 1 0) a7 1 0) t 4 1) t 5 0) t 6 r13.toInt32) t 7 0) t 8 0) t 9 (-1)) t 10 (-1))) 66 e_I (fun B hin k => pf_X5_62 (x := (-1)) B hk_t rfl dX5_begin_63 k) ?_
  have hT := TS_I (k := 10) (x := (-1)) hT hk_t (Or.inl rfl)
  have hk_t := kk_I (σ := (wx_I (wx_I (wx_I (wx_I (wx_I (wx_I (wx_I (wx_I (wx_R (wx_R σ t 2 v1) t 3 (some a11)) a4 1 0) a7 1 0) t 4 1) t 5 0) t 6 r13.toInt32) t 7 0) t 8 0) t 9 (-1))) (a := t) (k := 10) (x := (-1)) hk_t
  have hq_v1 := qk_I (σ := (wx_I (wx_I (wx_I (wx_I (wx_I (wx_I (wx_I (wx_I (wx_R (wx_R σ t 2 v1) t 3 (some a11)) a4 1 0) a7 1 0) t 4 1) t 5 0) t 6 r13.toInt32) t 7 0) t 8 0) t 9 (-1))) (a := t) (k := 10) (x := (-1)) hq_v1
  have hk_a11 := kk_I (σ := (wx_I (wx_I (wx_I (wx_I (wx_I (wx_I (wx_I (wx_I (wx_R (wx_R σ t 2 v1) t 3 (some a11)) a4 1 0) a7 1 0) t 4 1) t 5 0) t 6 r13.toInt32) t 7 0) t 8 0) t 9 (-1))) (a := t) (k := 10) (x := (-1)) hk_a11
  refine ym 67 (fun B k => z_aload_n B dX5_begin_66 rfl 0 rfl k) ?_
  refine ym 68 (fun B k => z_lconst (v := 0) B dX5_begin_67 (by decide) k) ?_
  have j20 := hk_t
  refine ymw (σ' := (wx_J (wx_I (wx_I (wx_I (wx_I (wx_I (wx_I (wx_I (wx_I (wx_I (wx_R (wx_R σ t 2 v1) t 3 (some a11)) a4 1 0) a7 1 0) t 4 1) t 5 0) t 6 r13.toInt32) t 7 0) t 8 0) t 9 (-1)) t 10 (-1)) t 11 0)) 71 e_J (fun B hin k => pf_X5_65 (x := 0) B hk_t rfl dX5_begin_68 k) ?_
  have hT := TS_J (a := t) (k := 11) (x := 0) hT
  have hk_t := kk_J (σ := (wx_I (wx_I (wx_I (wx_I (wx_I (wx_I (wx_I (wx_I (wx_I (wx_R (wx_R σ t 2 v1) t 3 (some a11)) a4 1 0) a7 1 0) t 4 1) t 5 0) t 6 r13.toInt32) t 7 0) t 8 0) t 9 (-1)) t 10 (-1))) (a := t) (k := 11) (x := 0) hk_t
  have hq_v1 := qk_J (σ := (wx_I (wx_I (wx_I (wx_I (wx_I (wx_I (wx_I (wx_I (wx_I (wx_R (wx_R σ t 2 v1) t 3 (some a11)) a4 1 0) a7 1 0) t 4 1) t 5 0) t 6 r13.toInt32) t 7 0) t 8 0) t 9 (-1)) t 10 (-1))) (a := t) (k := 11) (x := 0) hq_v1
  have hk_a11 := kk_J (σ := (wx_I (wx_I (wx_I (wx_I (wx_I (wx_I (wx_I (wx_I (wx_I (wx_R (wx_R σ t 2 v1) t 3 (some a11)) a4 1 0) a7 1 0) t 4 1) t 5 0) t 6 r13.toInt32) t 7 0) t 8 0) t 9 (-1)) t 10 (-1))) (a := t) (k := 11) (x := 0) hk_a11
  refine ym 72 (fun B k => z_aload_n B dX5_begin_71 rfl 0 rfl k) ?_
  refine ym 73 (fun B k => z_iconst (v := 0) B dX5_begin_72 (by decide) k) ?_
  have j21 := hk_t
  refine ymw (σ' := (wx_I (wx_J (wx_I (wx_I (wx_I (wx_I (wx_I (wx_I (wx_I (wx_I (wx_I (wx_R (wx_R σ t 2 v1) t 3 (some a11)) a4 1 0) a7 1 0) t 4 1) t 5 0) t 6 r13.toInt32) t 7 0) t 8 0) t 9 (-1)) t 10 (-1)) t 11 0) t 12 0)) 76 e_I (fun B hin k => pf_X5_69 (x := 0) B (Or.inl rfl) hk_t rfl dX5_begin_73 k) ?_
  have hT := TS_I (k := 12) (x := 0) hT hk_t (Or.inr (Or.inl rfl))
  have hk_t := kk_I (σ := (wx_J (wx_I (wx_I (wx_I (wx_I (wx_I (wx_I (wx_I (wx_I (wx_I (wx_R (wx_R σ t 2 v1) t 3 (some a11)) a4 1 0) a7 1 0) t 4 1) t 5 0) t 6 r13.toInt32) t 7 0) t 8 0) t 9 (-1)) t 10 (-1)) t 11 0)) (a := t) (k := 12) (x := 0) hk_t
  have hq_v1 := qk_I (σ := (wx_J (wx_I (wx_I (wx_I (wx_I (wx_I (wx_I (wx_I (wx_I (wx_I (wx_R (wx_R σ t 2 v1) t 3 (some a11)) a4 1 0) a7 1 0) t 4 1) t 5 0) t 6 r13.toInt32) t 7 0) t 8 0) t 9 (-1)) t 10 (-1)) t 11 0)) (a := t) (k := 12) (x := 0) hq_v1
  have hk_a11 := kk_I (σ := (wx_J (wx_I (wx_I (wx_I (wx_I (wx_I (wx_I (wx_I (wx_I (wx_I (wx_R (wx_R σ t 2 v1) t 3 (some a11)) a4 1 0) a7 1 0) t 4 1) t 5 0) t 6 r13.toInt32) t 7 0) t 8 0) t 9 (-1)) t 10 (-1)) t 11 0)) (a := t) (k := 12) (x := 0) hk_a11
  refine ym 77 (fun B k => z_aload_n B dX5_begin_76 rfl 0 rfl k) ?_
  refine ym 78 (fun B k => z_iconst (v := 0) B dX5_begin_77 (by decide) k) ?_
  have j22 := hk_t
  refine ymw (σ' := (wx_I (wx_I (wx_J (wx_I (wx_I (wx_I (wx_I (wx_I (wx_I (wx_I (wx_I (wx_I (wx_R (wx_R σ t 2 v1) t 3 (some a11)) a4 1 0) a7 1 0) t 4 1) t 5 0) t 6 r13.toInt32) t 7 0) t 8 0) t 9 (-1)) t 10 (-1)) t 11 0) t 12 0) t 13 0)) 81 e_I (fun B hin k => pf_X5_73 (x := 0) B (Or.inl rfl) hk_t rfl dX5_begin_78 k) ?_
  have hT := TS_I (k := 13) (x := 0) hT hk_t (Or.inr (Or.inl rfl))
  have hk_t := kk_I (σ := (wx_I (wx_J (wx_I (wx_I (wx_I (wx_I (wx_I (wx_I (wx_I (wx_I (wx_I (wx_R (wx_R σ t 2 v1) t 3 (some a11)) a4 1 0) a7 1 0) t 4 1) t 5 0) t 6 r13.toInt32) t 7 0) t 8 0) t 9 (-1)) t 10 (-1)) t 11 0) t 12 0)) (a := t) (k := 13) (x := 0) hk_t
  have hq_v1 := qk_I (σ := (wx_I (wx_J (wx_I (wx_I (wx_I (wx_I (wx_I (wx_I (wx_I (wx_I (wx_I (wx_R (wx_R σ t 2 v1) t 3 (some a11)) a4 1 0) a7 1 0) t 4 1) t 5 0) t 6 r13.toInt32) t 7 0) t 8 0) t 9 (-1)) t 10 (-1)) t 11 0) t 12 0)) (a := t) (k := 13) (x := 0) hq_v1
  have hk_a11 := kk_I (σ := (wx_I (wx_J (wx_I (wx_I (wx_I (wx_I (wx_I (wx_I (wx_I (wx_I (wx_I (wx_R (wx_R σ t 2 v1) t 3 (some a11)) a4 1 0) a7 1 0) t 4 1) t 5 0) t 6 r13.toInt32) t 7 0) t 8 0) t 9 (-1)) t 10 (-1)) t 11 0) t 12 0)) (a := t) (k := 13) (x := 0) hk_a11
  refine ym 82 (fun B k => z_aload_n B dX5_begin_81 rfl 0 rfl k) ?_
  refine ym 83 (fun B k => z_iconst (v := 0) B dX5_begin_82 (by decide) k) ?_
  have j23 := hk_t
  refine ymw (σ' := (wx_I (wx_I (wx_I (wx_J (wx_I (wx_I (wx_I (wx_I (wx_I (wx_I (wx_I (wx_I (wx_I (wx_R (wx_R σ t 2 v1) t 3 (some a11)) a4 1 0) a7 1 0) t 4 1) t 5 0) t 6 r13.toInt32) t 7 0) t 8 0) t 9 (-1)) t 10 (-1)) t 11 0) t 12 0) t 13 0) t 14 0)) 86 e_I (fun B hin k => pf_X5_76 (x := 0) B hk_t rfl dX5_begin_83 k) ?_
  have hT := TS_I (k := 14) (x := 0) hT hk_t (Or.inl rfl)
  have hk_t := kk_I (σ := (wx_I (wx_I (wx_J (wx_I (wx_I (wx_I (wx_I (wx_I (wx_I (wx_I (wx_I (wx_I (wx_R (wx_R σ t 2 v1) t 3 (some a11)) a4 1 0) a7 1 0) t 4 1) t 5 0) t 6 r13.toInt32) t 7 0) t 8 0) t 9 (-1)) t 10 (-1)) t 11 0) t 12 0) t 13 0)) (a := t) (k := 14) (x := 0) hk_t
  have hq_v1 := qk_I (σ := (wx_I (wx_I (wx_J (wx_I (wx_I (wx_I (wx_I (wx_I (wx_I (wx_I (wx_I (wx_I (wx_R (wx_R σ t 2 v1) t 3 (some a11)) a4 1 0) a7 1 0) t 4 1) t 5 0) t 6 r13.toInt32) t 7 0) t 8 0) t 9 (-1)) t 10 (-1)) t 11 0) t 12 0) t 13 0)) (a := t) (k := 14) (x := 0) hq_v1
  have hk_a11 := kk_I (σ := (wx_I (wx_I (wx_J (wx_I (wx_I (wx_I (wx_I (wx_I (wx_I (wx_I (wx_I (wx_I (wx_R (wx_R σ t 2 v1) t 3 (some a11)) a4 1 0) a7 1 0) t 4 1) t 5 0) t 6 r13.toInt32) t 7 0) t 8 0) t 9 (-1)) t 10 (-1)) t 11 0) t 12 0) t 13 0)) (a := t) (k := 14) (x := 0) hk_a11
  refine ym 87 (fun B k => z_aload_n B dX5_begin_86 rfl 0 rfl k) ?_
  refine ym 88 (fun B k => z_iconst (v := 0) B dX5_begin_87 (by decide) k) ?_
  have j24 := hk_t
  refine ymw (σ' := (wx_I (wx_I (wx_I (wx_I (wx_J (wx_I (wx_I (wx_I (wx_I (wx_I (wx_I (wx_I (wx_I (wx_I (wx_R (wx_R σ t 2 v1) t 3 (some a11)) a4 1 0) a7 1 0) t 4 1) t 5 0) t 6 r13.toInt32) t 7 0) t 8 0) t 9 (-1)) t 10 (-1)) t 11 0) t 12 0) t 13 0) t 14 0) t 15 0)) 91 e_I (fun B hin k => pf_X5_79 (x := 0) B (Or.inl rfl) hk_t rfl dX5_begin_88 k) ?_
  have hT := TS_I (k := 15) (x := 0) hT hk_t (Or.inr (Or.inl rfl))
  have hk_t := kk_I (σ := (wx_I (wx_I (wx_I (wx_J (wx_I (wx_I (wx_I (wx_I (wx_I (wx_I (wx_I (wx_I (wx_I (wx_R (wx_R σ t 2 v1) t 3 (some a11)) a4 1 0) a7 1 0) t 4 1) t 5 0) t 6 r13.toInt32) t 7 0) t 8 0) t 9 (-1)) t 10 (-1)) t 11 0) t 12 0) t 13 0) t 14 0)) (a := t) (k := 15) (x := 0) hk_t
  have hq_v1 := qk_I (σ := (wx_I (wx_I (wx_I (wx_J (wx_I (wx_I (wx_I (wx_I (wx_I (wx_I (wx_I (wx_I (wx_I (wx_R (wx_R σ t 2 v1) t 3 (some a11)) a4 1 0) a7 1 0) t 4 1) t 5 0) t 6 r13.toInt32) t 7 0) t 8 0) t 9 (-1)) t 10 (-1)) t 11 0) t 12 0) t 13 0) t 14 0)) (a := t) (k := 15) (x := 0) hq_v1
  have hk_a11 := kk_I (σ := (wx_I (wx_I (wx_I (wx_J (wx_I (wx_I (wx_I (wx_I (wx_I (wx_I (wx_I (wx_I (wx_I (wx_R (wx_R σ t 2 v1) t 3 (some a11)) a4 1 0) a7 1 0) t 4 1) t 5 0) t 6 r13.toInt32) t 7 0) t 8 0) t 9 (-1)) t 10 (-1)) t 11 0) t 12 0) t 13 0) t 14 0)) (a := t) (k := 15) (x := 0) hk_a11
  refine ym 92 (fun B k => z_aload_n B dX5_begin_91 rfl 0 rfl k) ?_
  refine ym 93 (fun B k => z_iconst (v := (-1)) B dX5_begin_92 (by decide) k) ?_
  have j25 := hk_t
  refine ymw (σ' := (wx_I (wx_I (wx_I (wx_I (wx_I (wx_J (wx_I (wx_I (wx_I (wx_I (wx_I (wx_I (wx_I (wx_I (wx_I (wx_R (wx_R σ t 2 v1) t 3 (some a11)) a4 1 0) a7 1 0) t 4 1) t 5 0) t 6 r13.toInt32) t 7 0) t 8 0) t 9 (-1)) t 10 (-1)) t 11 0) t 12 0) t 13 0) t 14 0) t 15 0) t 16 (-1))) 96 e_I (fun B hin k => pf_X5_82 (x := (-1)) B hk_t rfl dX5_begin_93 k) ?_
  have hT := TS_I (k := 16) (x := (-1)) hT hk_t (Or.inl rfl)
  have hk_t := kk_I (σ := (wx_I (wx_I (wx_I (wx_I (wx_J (wx_I (wx_I (wx_I (wx_I (wx_I (wx_I (wx_I (wx_I (wx_I (wx_R (wx_R σ t 2 v1) t 3 (some a11)) a4 1 0) a7 1 0) t 4 1) t 5 0) t 6 r13.toInt32) t 7 0) t 8 0) t 9 (-1)) t 10 (-1)) t 11 0) t 12 0) t 13 0) t 14 0) t 15 0)) (a := t) (k := 16) (x := (-1)) hk_t
  have hq_v1 := qk_I (σ := (wx_I (wx_I (wx_I (wx_I (wx_J (wx_I (wx_I (wx_I (wx_I (wx_I (wx_I (wx_I (wx_I (wx_I (wx_R (wx_R σ t 2 v1) t 3 (some a11)) a4 1 0) a7 1 0) t 4 1) t 5 0) t 6 r13.toInt32) t 7 0) t 8 0) t 9 (-1)) t 10 (-1)) t 11 0) t 12 0) t 13 0) t 14 0) t 15 0)) (a := t) (k := 16) (x := (-1)) hq_v1
  have hk_a11 := kk_I (σ := (wx_I (wx_I (wx_I (wx_I (wx_J (wx_I (wx_I (wx_I (wx_I (wx_I (wx_I (wx_I (wx_I (wx_I (wx_R (wx_R σ t 2 v1) t 3 (some a11)) a4 1 0) a7 1 0) t 4 1) t 5 0) t 6 r13.toInt32) t 7 0) t 8 0) t 9 (-1)) t 10 (-1)) t 11 0) t 12 0) t 13 0) t 14 0) t 15 0)) (a := t) (k := 16) (x := (-1)) hk_a11
  refine ym 97 (fun B k => z_aload_n B dX5_begin_96 rfl 0 rfl k) ?_
  refine ym 98 (fun B k => z_lconst (v := 0) B dX5_begin_97 (by decide) k) ?_
  have j26 := hk_t
  refine ymw (σ' := (wx_J (wx_I (wx_I (wx_I (wx_I (wx_I (wx_J (wx_I (wx_I (wx_I (wx_I (wx_I (wx_I (wx_I (wx_I (wx_I (wx_R (wx_R σ t 2 v1) t 3 (some a11)) a4 1 0) a7 1 0) t 4 1) t 5 0) t 6 r13.toInt32) t 7 0) t 8 0) t 9 (-1)) t 10 (-1)) t 11 0) t 12 0) t 13 0) t 14 0) t 15 0) t 16 (-1)) t 17 0)) 101 e_J (fun B hin k => pf_X5_85 (x := 0) B hk_t rfl dX5_begin_98 k) ?_
  have hT := TS_J (a := t) (k := 17) (x := 0) hT
  have hk_t := kk_J (σ := (wx_I (wx_I (wx_I (wx_I (wx_I (wx_J (wx_I (wx_I (wx_I (wx_I (wx_I (wx_I (wx_I (wx_I (wx_I (wx_R (wx_R σ t 2 v1) t 3 (some a11)) a4 1 0) a7 1 0) t 4 1) t 5 0) t 6 r13.toInt32) t 7 0) t 8 0) t 9 (-1)) t 10 (-1)) t 11 0) t 12 0) t 13 0) t 14 0) t 15 0) t 16 (-1))) (a := t) (k := 17) (x := 0) hk_t
  have hq_v1 := qk_J (σ := (wx_I (wx_I (wx_I (wx_I (wx_I (wx_J (wx_I (wx_I (wx_I (wx_I (wx_I (wx_I (wx_I (wx_I (wx_I (wx_R (wx_R σ t 2 v1) t 3 (some a11)) a4 1 0) a7 1 0) t 4 1) t 5 0) t 6 r13.toInt32) t 7 0) t 8 0) t 9 (-1)) t 10 (-1)) t 11 0) t 12 0) t 13 0) t 14 0) t 15 0) t 16 (-1))) (a := t) (k := 17) (x := 0) hq_v1
  have hk_a11 := kk_J (σ := (wx_I (wx_I (wx_I (wx_I (wx_I (wx_J (wx_I (wx_I (wx_I (wx_I (wx_I (wx_I (wx_I (wx_I (wx_I (wx_R (wx_R σ t 2 v1) t 3 (some a11)) a4 1 0) a7 1 0) t 4 1) t 5 0) t 6 r13.toInt32) t 7 0) t 8 0) t 9 (-1)) t 10 (-1)) t 11 0) t 12 0) t 13 0) t 14 0) t 15 0) t 16 (-1))) (a := t) (k := 17) (x := 0) hk_a11
  refine ym 102 (fun B k => z_aload_n B dX5_begin_101 rfl 0 rfl k) ?_
  refine ym 103 (fun B k => z_iconst (v := (-1)) B dX5_begin_102 (by decide) k) ?_
  have j27 := hk_t
  refine ymw (σ' := (wx_I (wx_J (wx_I (wx_I (wx_I (wx_I (wx_I (wx_J (wx_I (wx_I (wx_I (wx_I (wx_I (wx_I (wx_I (wx_I (wx_I (wx_R (wx_R σ t 2 v1) t 3 (some a11)) a4 1 0) a7 1 0) t 4 1) t 5 0) t 6 r13.toInt32) t 7 0) t 8 0) t 9 (-1)) t 10 (-1)) t 11 0) t 12 0) t 13 0) t 14 0) t 15 0) t 16 (-1)) t 17 0) t 18 (-1))) 106 e_I (fun B hin k => pf_X5_88 (x := (-1)) B hk_t rfl dX5_begin_103 k) ?_
  have hT := TS_I (k := 18) (x := (-1)) hT hk_t (Or.inl rfl)
  have hk_t := kk_I (σ := (wx_J (wx_I (wx_I (wx_I (wx_I (wx_I (wx_J (wx_I (wx_I (wx_I (wx_I (wx_I (wx_I (wx_I (wx_I (wx_I (wx_R (wx_R σ t 2 v1) t 3 (some a11)) a4 1 0) a7 1 0) t 4 1) t 5 0) t 6 r13.toInt32) t 7 0) t 8 0) t 9 (-1)) t 10 (-1)) t 11 0) t 12 0) t 13 0) t 14 0) t 15 0) t 16 (-1)) t 17 0)) (a := t) (k := 18) (x := (-1)) hk_t
  have hq_v1 := qk_I (σ := (wx_J (wx_I (wx_I (wx_I (wx_I (wx_I (wx_J (wx_I (wx_I (wx_I (wx_I (wx_I (wx_I (wx_I (wx_I (wx_I (wx_R (wx_R σ t 2 v1) t 3 (some a11)) a4 1 0) a7 1 0) t 4 1) t 5 0) t 6 r13.toInt32) t 7 0) t 8 0) t 9 (-1)) t 10 (-1)) t 11 0) t 12 0) t 13 0) t 14 0) t 15 0) t 16 (-1)) t 17 0)) (a := t) (k := 18) (x := (-1)) hq_v1
  have hk_a11 := kk_I (σ := (wx_J (wx_I (wx_I (wx_I (wx_I (wx_I (wx_J (wx_I (wx_I (wx_I (wx_I (wx_I (wx_I (wx_I (wx_I (wx_I (wx_R (wx_R σ t 2 v1) t 3 (some a11)) a4 1 0) a7 1 0) t 4 1) t 5 0) t 6 r13.toInt32) t 7 0) t 8 0) t 9 (-1)) t 10 (-1)) t 11 0) t 12 0) t 13 0) t 14 0) t 15 0) t 16 (-1)) t 17 0)) (a := t) (k := 18) (x := (-1)) hk_a11
  refine ym 107 (fun B k => z_aload_n B dX5_begin_106 rfl 0 rfl k) ?_
  refine ym 108 (fun B k => z_iconst (v := 0) B dX5_begin_107 (by decide) k) ?_
  have j28 := hk_t
  refine ymw (σ' := (wx_I (wx_I (wx_J (wx_I (wx_I (wx_I (wx_I (wx_I (wx_J (wx_I (wx_I (wx_I (wx_I (wx_I (wx_I (wx_I (wx_I (wx_I (wx_R (wx_R σ t 2 v1) t 3 (some a11)) a4 1 0) a7 1 0) t 4 1) t 5 0) t 6 r13.toInt32) t 7 0) t 8 0) t 9 (-1)) t 10 (-1)) t 11 0) t 12 0) t 13 0) t 14 0) t 15 0) t 16 (-1)) t 17 0) t 18 (-1)) t 19 0)) 111 e_I (fun B hin k => pf_X5_91 (x := 0) B (Or.inl rfl) hk_t rfl dX5_begin_108 k) ?_
  have hT := TS_I (k := 19) (x := 0) hT hk_t (Or.inr (Or.inl rfl))
  have hk_t := kk_I (σ := (wx_I (wx_J (wx_I (wx_I (wx_I (wx_I (wx_I (wx_J (wx_I (wx_I (wx_I (wx_I (wx_I (wx_I (wx_I (wx_I (wx_I (wx_R (wx_R σ t 2 v1) t 3 (some a11)) a4 1 0) a7 1 0) t 4 1) t 5 0) t 6 r13.toInt32) t 7 0) t 8 0) t 9 (-1)) t 10 (-1)) t 11 0) t 12 0) t 13 0) t 14 0) t 15 0) t 16 (-1)) t 17 0) t 18 (-1))) (a := t) (k := 19) (x := 0) hk_t
  have hq_v1 := qk_I (σ := (wx_I (wx_J (wx_I (wx_I (wx_I (wx_I (wx_I (wx_J (wx_I (wx_I (wx_I (wx_I (wx_I (wx_I (wx_I (wx_I (wx_I (wx_R (wx_R σ t 2 v1) t 3 (some a11)) a4 1 0) a7 1 0) t 4 1) t 5 0) t 6 r13.toInt32) t 7 0) t 8 0) t 9 (-1)) t 10 (-1)) t 11 0) t 12 0) t 13 0) t 14 0) t 15 0) t 16 (-1)) t 17 0) t 18 (-1))) (a := t) (k := 19) (x := 0) hq_v1
  have hk_a11 := kk_I (σ := (wx_I (wx_J (wx_I (wx_I (wx_I (wx_I (wx_I (wx_J (wx_I (wx_I (wx_I (wx_I (wx_I (wx_I (wx_I (wx_I (wx_I (wx_R (wx_R σ t 2 v1) t 3 (some a11)) a4 1 0) a7 1 0) t 4 1) t 5 0) t 6 r13.toInt32) t 7 0) t 8 0) t 9 (-1)) t 10 (-1)) t 11 0) t 12 0) t 13 0) t 14 0) t 15 0) t 16 (-1)) t 17 0) t 18 (-1))) (a := t) (k := 19) (x := 0) hk_a11
  obtain rfl := Option.some.inj h
  exact yr_v hT trivial rfl dX5_begin_111
set_option maxRecDepth 100000 in
set_option maxHeartbeats 4000000 in
theorem ct_X1_size (l : Launch) {g : gx_T} {σ : sx_T} {r : Int32}  {t : Nat} (h : f_X1_size σ t = some r) (hT : TS g σ) (hk_t : sx_K σ t = 3) : CT l g yX1_size cX1_size 1 (some .int) 0 0 [.ref t] (True) σ σ (Qxi g r σ) := by
  refine yc_met (by decide) (Nat.le_of_ble_eq_true rfl) ?_
  refine yc_lv (show lv_args 0 [.ref t] = [(0, .ref t)] from rfl) ?_
  show ZY l g _ _ _ _ _ _ _ _ _ _ _ _ _ _ σ 0 [(0, .ref t)] []
  unfold f_X1_size at h
  refine ym 1 (fun B k => z_aload_n B dX1_size_0 rfl 0 rfl k) ?_
  refine ym 4 (fun B k => gf_X1_19 (x := (sx_I σ t 2)) B hk_t rfl dX1_size_1 k) ?_
  obtain rfl := Option.some.inj h
  exact yr_i hT trivial rfl dX1_size_4
set_option maxRecDepth 100000 in
set_option maxHeartbeats 4000000 in
theorem ct_X5_failNow (l : Launch) {g : gx_T} {σ : sx_T} {u : sx_T}  {t : Nat} (h : f_X5_failNow σ t = some u) (hT : TS g σ) (hk_t : sx_K σ t = 7) : CT l g yX5_failNow cX5_failNow 1 none 0 0 [.ref t] (True) u σ (Qxv g u) := by
  refine yc_met (by decide) (Nat.le_of_ble_eq_true rfl) ?_
  refine yc_lv (show lv_args 0 [.ref t] = [(0, .ref t)] from rfl) ?_
  show ZY l g _ _ _ _ _ _ _ _ _ _ _ _ _ _ σ 0 [(0, .ref t)] []
  unfold f_X5_failNow at h
  refine ym 1 (fun B k => z_aload_n B dX5_failNow_0 rfl 0 rfl k) ?_
  refine ym 2 (fun B k => z_iconst (v := 0) B dX5_failNow_1 (by decide) k) ?_
  have j1 := hk_t
  refine ymw (σ' := (wx_I σ t 8 0)) 5 e_I (fun B hin k => pf_X5_56 (x := 0) B hk_t rfl dX5_failNow_2 k) ?_
  have hT := TS_I (k := 8) (x := 0) hT hk_t (Or.inl rfl)
  have hk_t := kk_I (σ := σ) (a := t) (k := 8) (x := 0) hk_t
  refine ym 6 (fun B k => z_aload_n B dX5_failNow_5 rfl 0 rfl k) ?_
  refine ym 7 (fun B k => z_iconst (v := 2) B dX5_failNow_6 (by decide) k) ?_
  have j2 := hk_t
  refine ymw (σ' := (wx_I (wx_I σ t 8 0) t 14 2)) 10 e_I (fun B hin k => pf_X5_76 (x := 2) B hk_t rfl dX5_failNow_7 k) ?_
  have hT := TS_I (k := 14) (x := 2) hT hk_t (Or.inl rfl)
  have hk_t := kk_I (σ := (wx_I σ t 8 0)) (a := t) (k := 14) (x := 2) hk_t
  obtain rfl := Option.some.inj h
  exact yr_v hT trivial rfl dX5_failNow_10
set_option maxRecDepth 100000 in
set_option maxHeartbeats 4000000 in
theorem ct_X5_want (l : Launch) {g : gx_T} {σ : sx_T} {u : sx_T}  {t : Nat} {x1 : Int32} {x2 : Int64} (h : f_X5_want σ t x1 x2 = some u) (hT : TS g σ) (hk_t : sx_K σ t = 7) : CT l g yX5_want cX5_want 4 none 0 0 [.ref t, .int x1, .long x2] (True) u σ (Qxv g u) := by
  refine yc_met (by decide) (Nat.le_of_ble_eq_true rfl) ?_
  refine yc_lv (show lv_args 0 [.ref t, .int x1, .long x2] = [(0, .ref t), (1, .int x1), (2, .long x2)] from rfl) ?_
  show ZY l g _ _ _ _ _ _ _ _ _ _ _ _ _ _ σ 0 [(0, .ref t), (1, .int x1), (2, .long x2)] []
  unfold f_X5_want at h
  refine ym 1 (fun B k => z_aload_n B dX5_want_0 rfl 0 rfl k) ?_
  refine ym 2 (fun B k => z_iload_n B dX5_want_1 rfl 1 rfl k) ?_
  have j1 := hk_t
  refine ymw (σ' := (wx_I σ t 16 x1)) 5 e_I (fun B hin k => pf_X5_82 (x := x1) B hk_t rfl dX5_want_2 k) ?_
  have hT := TS_I (k := 16) (x := x1) hT hk_t (Or.inl rfl)
  have hk_t := kk_I (σ := σ) (a := t) (k := 16) (x := x1) hk_t
  refine ym 6 (fun B k => z_aload_n B dX5_want_5 rfl 0 rfl k) ?_
  refine ym 7 (fun B k => z_lload_n B dX5_want_6 rfl 2 rfl k) ?_
  have j2 := hk_t
  refine ymw (σ' := (wx_J (wx_I σ t 16 x1) t 17 x2)) 10 e_J (fun B hin k => pf_X5_85 (x := x2) B hk_t rfl dX5_want_7 k) ?_
  have hT := TS_J (a := t) (k := 17) (x := x2) hT
  have hk_t := kk_J (σ := (wx_I σ t 16 x1)) (a := t) (k := 17) (x := x2) hk_t
  obtain rfl := Option.some.inj h
  exact yr_v hT trivial rfl dX5_want_10
set_option maxRecDepth 100000 in
set_option maxHeartbeats 4000000 in
theorem tb_X5_follow_108 {l : Launch} {g : gx_T} {σ : sx_T} {u : sx_T} {As : Array Value}  {y0 : Int32} {t : Nat} (h : fb_X5_follow_108 σ y0 t = some u) (hT : TS g σ) (hk_t : sx_K σ t = 7) : ZY l g cX5_follow RX5 "follow" none 4 1 23 0 0 false As (QM g As (Qxv g u)) (True) u σ 108 [] [.int y0, .ref t] := by
  unfold fb_X5_follow_108 at h
  have j1 := hk_t
  refine ymw (σ' := (wx_I σ t 8 y0)) 111 e_I (fun B hin k => pf_X5_56 (x := y0) B hk_t rfl dX5_follow_108 k) ?_
  have hT := TS_I (k := 8) (x := y0) hT hk_t (Or.inl rfl)
  refine ym 192 (fun B k => z_goto (tgt := 192) B dX5_follow_111 (by decide) k) ?_
  obtain rfl := Option.some.inj h
  exact yr_v hT trivial rfl dX5_follow_192
set_option maxRecDepth 100000 in
set_option maxHeartbeats 4000000 in
theorem ct_X5_follow (l : Launch) {g : gx_T} {σ : sx_T} {u : sx_T}  {t : Nat} {x1 : Int32} {x2 : Int64} (h : f_X5_follow σ t x1 x2 = some u) (hT : TS g σ) (hk_t : sx_K σ t = 7) : CT l g yX5_follow cX5_follow 4 none 1 23 [.ref t, .int x1, .long x2] (True) u σ (Qxv g u) := by
  refine yc_met (by decide) (Nat.le_of_ble_eq_true rfl) ?_
  refine yc_lv (show lv_args 0 [.ref t, .int x1, .long x2] = [(0, .ref t), (1, .int x1), (2, .long x2)] from rfl) ?_
  show ZY l g _ _ _ _ _ _ _ _ _ _ _ _ _ _ σ 0 [(0, .ref t), (1, .int x1), (2, .long x2)] []
  unfold f_X5_follow at h
  refine ym 1 (fun B k => z_iload_n B dX5_follow_0 rfl 1 rfl k) ?_
  by_cases c1 : x1 = 1
  · replace h := ite_p c1 h
    refine ym 72 (fun B k => z_tableIn (tgt := 72) B dX5_follow_1 (by rw [c1]; decide) (by rw [c1]; decide) (show _ = some (71 : Int) by rw [c1]; decide) (by decide) k) ?_
    refine ym 73 (fun B k => z_aload_n B dX5_follow_72 rfl 0 rfl k) ?_
    refine ym 74 (fun B k => z_iconst (v := 1) B dX5_follow_73 (by decide) k) ?_
    have j2 := hk_t
    refine ymw (σ' := (wx_I σ t 8 1)) 77 e_I (fun B hin k => pf_X5_56 (x := 1) B hk_t rfl dX5_follow_74 k) ?_
    have hT := TS_I (k := 8) (x := 1) hT hk_t (Or.inl rfl)
    have hk_t := kk_I (σ := σ) (a := t) (k := 8) (x := 1) hk_t
    refine ym 192 (fun B k => z_goto (tgt := 192) B dX5_follow_77 (by decide) k) ?_
    obtain rfl := Option.some.inj h
    exact yr_v hT trivial rfl dX5_follow_192
  replace h := ite_n c1 h
  by_cases c3 : x1 = 4
  · replace h := ite_p c3 h
    refine ym 89 (fun B k => z_tableIn (tgt := 89) B dX5_follow_1 (by rw [c3]; decide) (by rw [c3]; decide) (show _ = some (88 : Int) by rw [c3]; decide) (by decide) k) ?_
    refine ym 90 (fun B k => z_aload_n B dX5_follow_89 rfl 0 rfl k) ?_
    refine ym 91 (fun B k => z_lload_n B dX5_follow_90 rfl 2 rfl k) ?_
    have j4 := hk_t
    refine ymw (σ' := (wx_J σ t 11 x2)) 94 e_J (fun B hin k => pf_X5_65 (x := x2) B hk_t rfl dX5_follow_91 k) ?_
    have hT := TS_J (a := t) (k := 11) (x := x2) hT
    have hk_t := kk_J (σ := σ) (a := t) (k := 11) (x := x2) hk_t
    refine ym 95 (fun B k => z_aload_n B dX5_follow_94 rfl 0 rfl k) ?_
    refine ym 96 (fun B k => z_aload_n B dX5_follow_95 rfl 0 rfl k) ?_
    refine ym 99 (fun B k => gf_X5_59 (x := (sx_I σ t 9)) B hk_t (rI_J rfl) dX5_follow_96 k) ?_
    refine ym 100 (fun B k => z_iconst (v := (-1)) B dX5_follow_99 (by decide) k) ?_
    by_cases c5 : (sx_I σ t 9) = (-1)
    · replace h := ite_p c5 h
      refine ym 103 (fun B k => z_icmp_ne (tgt := 107) B dX5_follow_100 (by decide) (fun q => absurd c5 q) (fun _ => k)) ?_
      refine ym 104 (fun B k => z_iconst (v := 2) B dX5_follow_103 (by decide) k) ?_
      refine ym 108 (fun B k => z_goto (tgt := 108) B dX5_follow_104 (by decide) k) ?_
      refine y_sub [] [] rfl ?_
      exact tb_X5_follow_108 h hT hk_t
    · replace h := ite_n c5 h
      refine ym 107 (fun B k => z_icmp_ne (tgt := 107) B dX5_follow_100 (by decide) (fun _ => k) (fun q => absurd q c5)) ?_
      refine ym 108 (fun B k => z_iconst (v := 4) B dX5_follow_107 (by decide) k) ?_
      refine y_sub [] [] rfl ?_
      exact tb_X5_follow_108 h hT hk_t
  replace h := ite_n c3 h
  by_cases c6 : x1 = 7
  · replace h := ite_p c6 h
    refine ym 114 (fun B k => z_tableIn (tgt := 114) B dX5_follow_1 (by rw [c6]; decide) (by rw [c6]; decide) (show _ = some (113 : Int) by rw [c6]; decide) (by decide) k) ?_
    refine ym 115 (fun B k => z_aload_n B dX5_follow_114 rfl 0 rfl k) ?_
    refine ym 116 (fun B k => z_iconst (v := 5) B dX5_follow_115 (by decide) k) ?_
    have j7 := hk_t
    refine ymw (σ' := (wx_I σ t 8 5)) 119 e_I (fun B hin k => pf_X5_56 (x := 5) B hk_t rfl dX5_follow_116 k) ?_
    have hT := TS_I (k := 8) (x := 5) hT hk_t (Or.inl rfl)
    have hk_t := kk_I (σ := σ) (a := t) (k := 8) (x := 5) hk_t
    refine ym 120 (fun B k => z_aload_n B dX5_follow_119 rfl 0 rfl k) ?_
    refine ym 121 (fun B k => z_lload_n B dX5_follow_120 rfl 2 rfl k) ?_
    refine ym 122 (fun B k => z_l2i (v := x2.toInt32) B dX5_follow_121 rfl k) ?_
    have j8 := hk_t
    refine ymw (σ' := (wx_I (wx_I σ t 8 5) t 10 x2.toInt32)) 125 e_I (fun B hin k => pf_X5_62 (x := x2.toInt32) B hk_t rfl dX5_follow_122 k) ?_
    have hT := TS_I (k := 10) (x := x2.toInt32) hT hk_t (Or.inl rfl)
    have hk_t := kk_I (σ := (wx_I σ t 8 5)) (a := t) (k := 10) (x := x2.toInt32) hk_t
    refine ym 192 (fun B k => z_goto (tgt := 192) B dX5_follow_125 (by decide) k) ?_
    obtain rfl := Option.some.inj h
    exact yr_v hT trivial rfl dX5_follow_192
  replace h := ite_n c6 h
  by_cases c9 : x1 = 9
  · replace h := ite_p c9 h
    refine ym 170 (fun B k => z_tableIn (tgt := 170) B dX5_follow_1 (by rw [c9]; decide) (by rw [c9]; decide) (show _ = some (169 : Int) by rw [c9]; decide) (by decide) k) ?_
    refine ym 171 (fun B k => z_aload_n B dX5_follow_170 rfl 0 rfl k) ?_
    refine ym 172 (fun B k => z_lload_n B dX5_follow_171 rfl 2 rfl k) ?_
    refine ym 173 (fun B k => z_l2i (v := x2.toInt32) B dX5_follow_172 rfl k) ?_
    have j10 := hk_t
    refine ymw (σ' := (wx_I σ t 6 x2.toInt32)) 176 e_I (fun B hin k => pf_X5_50 (x := x2.toInt32) B hk_t rfl dX5_follow_173 k) ?_
    have hT := TS_I (k := 6) (x := x2.toInt32) hT hk_t (Or.inl rfl)
    have hk_t := kk_I (σ := σ) (a := t) (k := 6) (x := x2.toInt32) hk_t
    refine ym 192 (fun B k => z_goto (tgt := 192) B dX5_follow_176 (by decide) k) ?_
    obtain rfl := Option.some.inj h
    exact yr_v hT trivial rfl dX5_follow_192
  replace h := ite_n c9 h
  by_cases c11 : x1 = 10
  · replace h := ite_p c11 h
    refine ym 179 (fun B k => z_tableIn (tgt := 179) B dX5_follow_1 (by rw [c11]; decide) (by rw [c11]; decide) (show _ = some (178 : Int) by rw [c11]; decide) (by decide) k) ?_
    refine ym 180 (fun B k => z_aload_n B dX5_follow_179 rfl 0 rfl k) ?_
    refine ym 181 (fun B k => z_iconst (v := 1) B dX5_follow_180 (by decide) k) ?_
    have j12 := hk_t
    refine ymw (σ' := (wx_I σ t 6 1)) 184 e_I (fun B hin k => pf_X5_50 (x := 1) B hk_t rfl dX5_follow_181 k) ?_
    have hT := TS_I (k := 6) (x := 1) hT hk_t (Or.inl rfl)
    have hk_t := kk_I (σ := σ) (a := t) (k := 6) (x := 1) hk_t
    refine ym 192 (fun B k => z_goto (tgt := 192) B dX5_follow_184 (by decide) k) ?_
    obtain rfl := Option.some.inj h
    exact yr_v hT trivial rfl dX5_follow_192
  replace h := ite_n c11 h
  by_cases c13 : x1 = 11
  · replace h := ite_p c13 h
    refine ym 80 (fun B k => z_tableIn (tgt := 80) B dX5_follow_1 (by rw [c13]; decide) (by rw [c13]; decide) (show _ = some (79 : Int) by rw [c13]; decide) (by decide) k) ?_
    refine ym 81 (fun B k => z_aload_n B dX5_follow_80 rfl 0 rfl k) ?_
    refine ym 83 (fun B k => z_bipush (v := 6) B dX5_follow_81 (by decide) k) ?_
    have j14 := hk_t
    refine ymw (σ' := (wx_I σ t 8 6)) 86 e_I (fun B hin k => pf_X5_56 (x := 6) B hk_t rfl dX5_follow_83 k) ?_
    have hT := TS_I (k := 8) (x := 6) hT hk_t (Or.inl rfl)
    have hk_t := kk_I (σ := σ) (a := t) (k := 8) (x := 6) hk_t
    refine ym 192 (fun B k => z_goto (tgt := 192) B dX5_follow_86 (by decide) k) ?_
    obtain rfl := Option.some.inj h
    exact yr_v hT trivial rfl dX5_follow_192
  replace h := ite_n c13 h
  by_cases c15 : x1 = 14
  · replace h := ite_p c15 h
    refine ym 128 (fun B k => z_tableIn (tgt := 128) B dX5_follow_1 (by rw [c15]; decide) (by rw [c15]; decide) (show _ = some (127 : Int) by rw [c15]; decide) (by decide) k) ?_
    refine ym 129 (fun B k => z_aload_n B dX5_follow_128 rfl 0 rfl k) ?_
    refine ym 132 (fun B k => gf_X5_85 (x := (sx_J σ t 17)) B hk_t rfl dX5_follow_129 k) ?_
    refine ym 135 (fun B k => z_ldc2 (v := (-1)) B dX5_follow_132 wg_369 k) ?_
    refine ym 136 (fun B k => z_lcmp (v := lg_cmp (sx_J σ t 17) (-1)) B dX5_follow_135 rfl k) ?_
    by_cases c16 : (lg_cmp (sx_J σ t 17) (-1)) = 0
    · replace h := ite_p c16 h
      refine ym 139 (fun B k => z_if_ne (tgt := 161) B dX5_follow_136 (by decide) (fun q => absurd c16 q) (fun _ => k)) ?_
      refine ym 140 (fun B k => z_aload_n B dX5_follow_139 rfl 0 rfl k) ?_
      refine ym 142 (fun B k => z_bipush (v := 13) B dX5_follow_140 (by decide) k) ?_
      refine ym 145 (fun B k => z_ldc2 (v := 10) B dX5_follow_142 wg_370 k) ?_
      refine ym 146 (fun B k => z_aload_n B dX5_follow_145 rfl 0 rfl k) ?_
      refine ym 149 (fun B k => gf_X5_50 (x := (sx_I σ t 6)) B hk_t rfl dX5_follow_146 k) ?_
      refine ym 150 (fun B k => z_i2l (v := (sx_I σ t 6).toInt64) B dX5_follow_149 rfl k) ?_
      refine ym 151 (fun B k => z_lmul B dX5_follow_150 k) ?_
      refine ym 154 (fun B k => z_ldc2 (v := 4) B dX5_follow_151 wg_371 k) ?_
      refine ym 155 (fun B k => z_ladd B dX5_follow_154 k) ?_
      replace h := br_e h
      obtain ⟨u18, h17, h⟩ := h
      have m19 := ct_X5_want l (g := g) h17 hT hk_t
      refine yc_Vv (Al := [.int 13, .long ((10 * ((sx_I σ t 6).toInt64)) + 4)]) (rest := []) 158 rfl cw_X5_114 cx_6 dX5_follow_155 m19 hk_t rfl (by decide) rfl (Nat.le_of_ble_eq_true rfl) ?_
      have hk_t := k_G m19.1.1 (by decide) hk_t
      have hT := m19.1.1.2.2.2
      refine ym 192 (fun B k => z_goto (tgt := 192) B dX5_follow_158 (by decide) k) ?_
      obtain rfl := Option.some.inj h
      exact yr_v hT trivial rfl dX5_follow_192
    · replace h := ite_n c16 h
      refine ym 161 (fun B k => z_if_ne (tgt := 161) B dX5_follow_136 (by decide) (fun _ => k) (fun q => absurd q c16)) ?_
      refine ym 162 (fun B k => z_aload_n B dX5_follow_161 rfl 0 rfl k) ?_
      refine ym 163 (fun B k => z_lload_n B dX5_follow_162 rfl 2 rfl k) ?_
      refine ym 164 (fun B k => z_l2i (v := x2.toInt32) B dX5_follow_163 rfl k) ?_
      have j20 := hk_t
      refine ymw (σ' := (wx_I σ t 6 x2.toInt32)) 167 e_I (fun B hin k => pf_X5_50 (x := x2.toInt32) B hk_t rfl dX5_follow_164 k) ?_
      have hT := TS_I (k := 6) (x := x2.toInt32) hT hk_t (Or.inl rfl)
      have hk_t := kk_I (σ := σ) (a := t) (k := 6) (x := x2.toInt32) hk_t
      refine ym 192 (fun B k => z_goto (tgt := 192) B dX5_follow_167 (by decide) k) ?_
      obtain rfl := Option.some.inj h
      exact yr_v hT trivial rfl dX5_follow_192
  replace h := ite_n c15 h
  refine ym 187 (fun B k => z_tabDf (tgt := 187) (vs := [1, 4, 7, 9, 10, 11, 14]) B dX5_follow_1 (by decide) (by decide) (by decide) (by intro v hv; simp only [List.mem_cons, List.not_mem_nil, or_false] at hv; rcases hv with rfl | rfl | rfl | rfl | rfl | rfl | rfl; all_goals assumption) k) ?_
  refine ym 188 (fun B k => z_aload_n B dX5_follow_187 rfl 0 rfl k) ?_
  refine ym 189 (fun B k => z_iconst (v := 1) B dX5_follow_188 (by decide) k) ?_
  have j21 := hk_t
  refine ymw (σ' := (wx_I σ t 15 1)) 192 e_I (fun B hin k => pf_X5_79 (x := 1) B (Or.inr rfl) hk_t rfl dX5_follow_189 k) ?_
  have hT := TS_I (k := 15) (x := 1) hT hk_t (Or.inr (Or.inr rfl))
  have hk_t := kk_I (σ := σ) (a := t) (k := 15) (x := 1) hk_t
  obtain rfl := Option.some.inj h
  exact yr_v hT trivial rfl dX5_follow_192
set_option maxRecDepth 100000 in
set_option maxHeartbeats 4000000 in
theorem tb_X5_takeWanted_130 {l : Launch} {g : gx_T} {σ : sx_T} {u : sx_T} {As : Array Value}  {t : Nat} (h : fb_X5_takeWanted_130 σ t = some u) (hT : TS g σ) (hk_t : sx_K σ t = 7) : ZY l g cX5_takeWanted RX5 "takeWanted" none 6 2 46 0 0 false As (QM g As (Qxv g u)) (True) u σ 130 [(0, .ref t)] [] := by
  unfold fb_X5_takeWanted_130 at h
  refine ym 131 (fun B k => z_aload_n B dX5_takeWanted_130 rfl 0 rfl k) ?_
  refine ym 134 (fun B k => gf_X5_82 (x := (sx_I σ t 16)) B hk_t rfl dX5_takeWanted_131 k) ?_
  refine ym 136 (fun B k => z_bipush (v := 10) B dX5_takeWanted_134 (by decide) k) ?_
  by_cases c1 : (sx_I σ t 16) = 10
  · replace h := ite_p c1 h
    refine ym 139 (fun B k => z_icmp_ne (tgt := 152) B dX5_takeWanted_136 (by decide) (fun q => absurd c1 q) (fun _ => k)) ?_
    refine ym 140 (fun B k => z_aload_n B dX5_takeWanted_139 rfl 0 rfl k) ?_
    refine ym 141 (fun B k => z_iconst (v := (-1)) B dX5_takeWanted_140 (by decide) k) ?_
    have j2 := hk_t
    refine ymw (σ' := (wx_I σ t 16 (-1))) 144 e_I (fun B hin k => pf_X5_82 (x := (-1)) B hk_t rfl dX5_takeWanted_141 k) ?_
    have hT := TS_I (k := 16) (x := (-1)) hT hk_t (Or.inl rfl)
    have hk_t := kk_I (σ := σ) (a := t) (k := 16) (x := (-1)) hk_t
    refine ym 145 (fun B k => z_aload_n B dX5_takeWanted_144 rfl 0 rfl k) ?_
    refine ym 146 (fun B k => z_iconst (v := 0) B dX5_takeWanted_145 (by decide) k) ?_
    have j3 := hk_t
    refine ymw (σ' := (wx_I (wx_I σ t 16 (-1)) t 6 0)) 149 e_I (fun B hin k => pf_X5_50 (x := 0) B hk_t rfl dX5_takeWanted_146 k) ?_
    have hT := TS_I (k := 6) (x := 0) hT hk_t (Or.inl rfl)
    have hk_t := kk_I (σ := (wx_I σ t 16 (-1))) (a := t) (k := 6) (x := 0) hk_t
    refine ym 157 (fun B k => z_goto (tgt := 157) B dX5_takeWanted_149 (by decide) k) ?_
    obtain rfl := Option.some.inj h
    exact yr_v hT trivial rfl dX5_takeWanted_157
  · replace h := ite_n c1 h
    refine ym 152 (fun B k => z_icmp_ne (tgt := 152) B dX5_takeWanted_136 (by decide) (fun _ => k) (fun q => absurd q c1)) ?_
    refine ym 153 (fun B k => z_aload_n B dX5_takeWanted_152 rfl 0 rfl k) ?_
    refine ym 154 (fun B k => z_iconst (v := 1) B dX5_takeWanted_153 (by decide) k) ?_
    have j4 := hk_t
    refine ymw (σ' := (wx_I σ t 19 1)) 157 e_I (fun B hin k => pf_X5_91 (x := 1) B (Or.inr rfl) hk_t rfl dX5_takeWanted_154 k) ?_
    have hT := TS_I (k := 19) (x := 1) hT hk_t (Or.inr (Or.inr rfl))
    have hk_t := kk_I (σ := σ) (a := t) (k := 19) (x := 1) hk_t
    obtain rfl := Option.some.inj h
    exact yr_v hT trivial rfl dX5_takeWanted_157
set_option maxRecDepth 100000 in
set_option maxHeartbeats 4000000 in
theorem tb_X5_takeWanted_121 {l : Launch} {g : gx_T} {σ : sx_T} {u : sx_T} {As : Array Value}  {t : Nat} {x2 : Int32} {x3 : Int64} (h : fb_X5_takeWanted_121 σ t x2 x3 = some u) (hT : TS g σ) (hk_t : sx_K σ t = 7) : ZY l g cX5_takeWanted RX5 "takeWanted" none 6 2 46 0 0 false As (QM g As (Qxv g u)) (True) u σ 121 [(0, .ref t), (2, .int x2), (3, .long x3)] [] := by
  unfold fb_X5_takeWanted_121 at h
  refine ym 122 (fun B k => z_aload_n B dX5_takeWanted_121 rfl 0 rfl k) ?_
  refine ym 123 (fun B k => z_iload_n B dX5_takeWanted_122 rfl 1 rfl k) ?_
  refine ym 124 (fun B k => z_lload_n B dX5_takeWanted_123 rfl 2 rfl k) ?_
  replace h := br_e h
  obtain ⟨u2, h1, h⟩ := h
  have m3 := ct_X5_follow l (g := g) h1 hT hk_t
  refine yc_Vv (Al := [.int x2, .long x3]) (rest := []) 127 rfl cw_X5_125 cx_6 dX5_takeWanted_124 m3 hk_t rfl (by decide) rfl (Nat.le_of_ble_eq_true rfl) ?_
  have hk_t := k_G m3.1.1 (by decide) hk_t
  have hT := m3.1.1.2.2.2
  refine ym 157 (fun B k => z_goto (tgt := 157) B dX5_takeWanted_127 (by decide) k) ?_
  obtain rfl := Option.some.inj h
  exact yr_v hT trivial rfl dX5_takeWanted_157
set_option maxRecDepth 100000 in
set_option maxHeartbeats 4000000 in
theorem tb_X5_takeWanted_114 {l : Launch} {g : gx_T} {σ : sx_T} {u : sx_T} {As : Array Value}  {t : Nat} (h : fb_X5_takeWanted_114 σ t = some u) (hT : TS g σ) (hk_t : sx_K σ t = 7) : ZY l g cX5_takeWanted RX5 "takeWanted" none 6 2 46 0 0 false As (QM g As (Qxv g u)) (True) u σ 114 [(0, .ref t)] [] := by
  unfold fb_X5_takeWanted_114 at h
  refine ym 115 (fun B k => z_aload_n B dX5_takeWanted_114 rfl 0 rfl k) ?_
  replace h := br_e h
  obtain ⟨u2, h1, h⟩ := h
  have m3 := ct_X5_failNow l (g := g) h1 hT hk_t
  refine yc_Vv (Al := []) (rest := []) 118 rfl cw_X5_122 cx_6 dX5_takeWanted_115 m3 hk_t rfl (by decide) rfl (Nat.le_of_ble_eq_true rfl) ?_
  have hk_t := k_G m3.1.1 (by decide) hk_t
  have hT := m3.1.1.2.2.2
  refine ym 157 (fun B k => z_goto (tgt := 157) B dX5_takeWanted_118 (by decide) k) ?_
  obtain rfl := Option.some.inj h
  exact yr_v hT trivial rfl dX5_takeWanted_157
set_option maxRecDepth 100000 in
set_option maxHeartbeats 4000000 in
theorem tb_X5_takeWanted_81 {l : Launch} {g : gx_T} {σ : sx_T} {u : sx_T} {As : Array Value}  {t : Nat} {x2 : Int32} {x3 : Int64} (h : fb_X5_takeWanted_81 σ t x2 x3 = some u) (hT : TS g σ) (hk_t : sx_K σ t = 7) : ZY l g cX5_takeWanted RX5 "takeWanted" none 6 2 46 0 0 false As (QM g As (Qxv g u)) (True) u σ 81 [(0, .ref t), (2, .int x2), (3, .long x3)] [] := by
  unfold fb_X5_takeWanted_81 at h
  refine ym 82 (fun B k => z_aload_n B dX5_takeWanted_81 rfl 0 rfl k) ?_
  refine ym 83 (fun B k => z_iconst (v := (-1)) B dX5_takeWanted_82 (by decide) k) ?_
  have j1 := hk_t
  refine ymw (σ' := (wx_I σ t 16 (-1))) 86 e_I (fun B hin k => pf_X5_82 (x := (-1)) B hk_t rfl dX5_takeWanted_83 k) ?_
  have hT := TS_I (k := 16) (x := (-1)) hT hk_t (Or.inl rfl)
  have hk_t := kk_I (σ := σ) (a := t) (k := 16) (x := (-1)) hk_t
  refine ym 87 (fun B k => z_aload_n B dX5_takeWanted_86 rfl 0 rfl k) ?_
  refine ym 88 (fun B k => z_dup B dX5_takeWanted_87 rfl k) ?_
  refine ym 91 (fun B k => gf_X5_38 (x := (sx_I σ t 4)) B hk_t (rI_n (by decide) rfl) dX5_takeWanted_88 k) ?_
  refine ym 92 (fun B k => z_iconst (v := 1) B dX5_takeWanted_91 (by decide) k) ?_
  refine ym 93 (fun B k => z_iadd B dX5_takeWanted_92 k) ?_
  have j2 := hk_t
  refine ymw (σ' := (wx_I (wx_I σ t 16 (-1)) t 4 ((sx_I σ t 4) + 1))) 96 e_I (fun B hin k => pf_X5_38 (x := ((sx_I σ t 4) + 1)) B hk_t rfl dX5_takeWanted_93 k) ?_
  have hT := TS_I (k := 4) (x := ((sx_I σ t 4) + 1)) hT hk_t (Or.inl rfl)
  have hk_t := kk_I (σ := (wx_I σ t 16 (-1))) (a := t) (k := 4) (x := ((sx_I σ t 4) + 1)) hk_t
  refine ym 97 (fun B k => z_lload_n B dX5_takeWanted_96 rfl 2 rfl k) ?_
  refine ym 98 (fun B k => z_lconst (v := 0) B dX5_takeWanted_97 (by decide) k) ?_
  refine ym 99 (fun B k => z_lcmp (v := lg_cmp x3 0) B dX5_takeWanted_98 rfl k) ?_
  by_cases c3 : 0 ≤ (lg_cmp x3 0)
  · replace h := ite_p c3 h
    refine ym 121 (fun B k => z_if_ge (tgt := 121) B dX5_takeWanted_99 (by decide) (fun _ => k) (fun q => absurd c3 q)) ?_
    refine y_sub [(0, .ref t), (2, .int x2), (3, .long x3)] [0, 1, 2] rfl ?_
    exact tb_X5_takeWanted_121 h hT hk_t
  · replace h := ite_n c3 h
    refine ym 102 (fun B k => z_if_ge (tgt := 121) B dX5_takeWanted_99 (by decide) (fun q => absurd q c3) (fun _ => k)) ?_
    refine ym 103 (fun B k => z_iload_n B dX5_takeWanted_102 rfl 1 rfl k) ?_
    refine ym 105 (fun B k => z_bipush (v := 7) B dX5_takeWanted_103 (by decide) k) ?_
    by_cases c4 : x2 = 7
    · replace h := ite_p c4 h
      refine ym 114 (fun B k => z_icmp_eq (tgt := 114) B dX5_takeWanted_105 (by decide) (fun _ => k) (fun q => absurd c4 q)) ?_
      refine y_sub [(0, .ref t)] [0] rfl ?_
      exact tb_X5_takeWanted_114 h hT hk_t
    · replace h := ite_n c4 h
      refine ym 108 (fun B k => z_icmp_eq (tgt := 114) B dX5_takeWanted_105 (by decide) (fun q => absurd q c4) (fun _ => k)) ?_
      refine ym 109 (fun B k => z_iload_n B dX5_takeWanted_108 rfl 1 rfl k) ?_
      refine ym 111 (fun B k => z_bipush (v := 14) B dX5_takeWanted_109 (by decide) k) ?_
      by_cases c5 : x2 = 14
      · replace h := ite_p c5 h
        refine ym 114 (fun B k => z_icmp_ne (tgt := 121) B dX5_takeWanted_111 (by decide) (fun q => absurd c5 q) (fun _ => k)) ?_
        refine y_sub [(0, .ref t)] [0] rfl ?_
        exact tb_X5_takeWanted_114 h hT hk_t
      · replace h := ite_n c5 h
        refine ym 121 (fun B k => z_icmp_ne (tgt := 121) B dX5_takeWanted_111 (by decide) (fun _ => k) (fun q => absurd q c5)) ?_
        refine y_sub [(0, .ref t), (2, .int x2), (3, .long x3)] [0, 1, 2] rfl ?_
        exact tb_X5_takeWanted_121 h hT hk_t
set_option maxRecDepth 100000 in
set_option maxHeartbeats 4000000 in
theorem tb_X5_takeWanted_57 {l : Launch} {g : gx_T} {σ : sx_T} {u : sx_T} {As : Array Value}  {t : Nat} {x2 : Int32} {x3 : Int64} {y0 : Int32} (h : fb_X5_takeWanted_57 σ t x2 x3 y0 = some u) (hT : TS g σ) (hk_t : sx_K σ t = 7) (hz_y0 : y0 = 0 ∨ y0 = 1) : ZY l g cX5_takeWanted RX5 "takeWanted" none 6 2 46 0 0 false As (QM g As (Qxv g u)) (True) u σ 57 [(0, .ref t), (2, .int x2), (3, .long x3)] [.int y0] := by
  unfold fb_X5_takeWanted_57 at h
  refine ym 59 (fun B k => z_istore (lv' := [(5, .int y0), (0, .ref t), (2, .int x2), (3, .long x3)]) B dX5_takeWanted_57 (by decide) rfl k) ?_
  refine ym 60 (fun B k => z_iload_n B dX5_takeWanted_59 rfl 2 rfl k) ?_
  refine ym 61 (fun B k => z_aload_n B dX5_takeWanted_60 rfl 1 rfl k) ?_
  refine ym 64 (fun B k => gf_X5_82 (x := (sx_I σ t 16)) B hk_t rfl dX5_takeWanted_61 k) ?_
  by_cases c1 : x2 = (sx_I σ t 16)
  · replace h := ite_p c1 h
    refine ym 67 (fun B k => z_icmp_ne (tgt := 130) B dX5_takeWanted_64 (by decide) (fun q => absurd c1 q) (fun _ => k)) ?_
    refine ym 69 (fun B k => z_iload B dX5_takeWanted_67 0 rfl k) ?_
    by_cases c2 : y0 = 0
    · replace h := ite_p c2 h
      refine ym 72 (fun B k => z_if_ne (tgt := 81) B dX5_takeWanted_69 (by decide) (fun q => absurd c2 q) (fun _ => k)) ?_
      refine ym 73 (fun B k => z_lload_n B dX5_takeWanted_72 rfl 3 rfl k) ?_
      refine ym 74 (fun B k => z_aload_n B dX5_takeWanted_73 rfl 1 rfl k) ?_
      refine ym 77 (fun B k => gf_X5_85 (x := (sx_J σ t 17)) B hk_t rfl dX5_takeWanted_74 k) ?_
      refine ym 78 (fun B k => z_lcmp (v := lg_cmp x3 (sx_J σ t 17)) B dX5_takeWanted_77 rfl k) ?_
      by_cases c3 : (lg_cmp x3 (sx_J σ t 17)) = 0
      · replace h := ite_p c3 h
        refine ym 81 (fun B k => z_if_ne (tgt := 130) B dX5_takeWanted_78 (by decide) (fun q => absurd c3 q) (fun _ => k)) ?_
        refine y_sub [(0, .ref t), (2, .int x2), (3, .long x3)] [1, 2, 3] rfl ?_
        exact tb_X5_takeWanted_81 h hT hk_t
      · replace h := ite_n c3 h
        refine ym 130 (fun B k => z_if_ne (tgt := 130) B dX5_takeWanted_78 (by decide) (fun _ => k) (fun q => absurd q c3)) ?_
        refine y_sub [(0, .ref t)] [1] rfl ?_
        exact tb_X5_takeWanted_130 h hT hk_t
    · replace h := ite_n c2 h
      refine ym 81 (fun B k => z_if_ne (tgt := 81) B dX5_takeWanted_69 (by decide) (fun _ => k) (fun q => absurd q c2)) ?_
      refine y_sub [(0, .ref t), (2, .int x2), (3, .long x3)] [1, 2, 3] rfl ?_
      exact tb_X5_takeWanted_81 h hT hk_t
  · replace h := ite_n c1 h
    refine ym 130 (fun B k => z_icmp_ne (tgt := 130) B dX5_takeWanted_64 (by decide) (fun _ => k) (fun q => absurd q c1)) ?_
    refine y_sub [(0, .ref t)] [1] rfl ?_
    exact tb_X5_takeWanted_130 h hT hk_t
set_option maxRecDepth 100000 in
set_option maxHeartbeats 4000000 in
theorem tb_X5_takeWanted_52 {l : Launch} {g : gx_T} {σ : sx_T} {u : sx_T} {As : Array Value}  {t : Nat} {x2 : Int32} {x3 : Int64} (h : fb_X5_takeWanted_52 σ t x2 x3 = some u) (hT : TS g σ) (hk_t : sx_K σ t = 7) : ZY l g cX5_takeWanted RX5 "takeWanted" none 6 2 46 0 0 false As (QM g As (Qxv g u)) (True) u σ 52 [(0, .ref t), (2, .int x2), (3, .long x3)] [] := by
  unfold fb_X5_takeWanted_52 at h
  refine ym 53 (fun B k => z_iconst (v := 1) B dX5_takeWanted_52 (by decide) k) ?_
  refine ym 57 (fun B k => z_goto (tgt := 57) B dX5_takeWanted_53 (by decide) k) ?_
  refine y_sub [(0, .ref t), (2, .int x2), (3, .long x3)] [0, 1, 2] rfl ?_
  exact tb_X5_takeWanted_57 h hT hk_t (Or.inr rfl)
set_option maxRecDepth 100000 in
set_option maxHeartbeats 4000000 in
theorem ct_X5_takeWanted (l : Launch) {g : gx_T} {σ : sx_T} {u : sx_T}  {t : Nat} {x1 : Int32} (h : f_X5_takeWanted σ t x1 = some u) (hT : TS g σ) (hk_t : sx_K σ t = 7) (hz_x1 : x1 = 0 ∨ x1 = 1) : CT l g yX5_takeWanted cX5_takeWanted 6 none 2 46 [.ref t, .int x1] (True) u σ (Qxv g u) := by
  refine yc_met (by decide) (Nat.le_of_ble_eq_true rfl) ?_
  refine yc_lv (show lv_args 0 [.ref t, .int x1] = [(0, .ref t), (1, .int x1)] from rfl) ?_
  show ZY l g _ _ _ _ _ _ _ _ _ _ _ _ _ _ σ 0 [(0, .ref t), (1, .int x1)] []
  unfold f_X5_takeWanted at h
  refine ym 1 (fun B k => z_iload_n B dX5_takeWanted_0 rfl 1 rfl k) ?_
  by_cases c1 : x1 = 0
  · replace h := ite_p c1 h
    refine ym 4 (fun B k => z_if_ne (tgt := 5) B dX5_takeWanted_1 (by decide) (fun q => absurd c1 q) (fun _ => k)) ?_
    obtain rfl := Option.some.inj h
    exact yr_v hT trivial rfl dX5_takeWanted_4
  · replace h := ite_n c1 h
    refine ym 5 (fun B k => z_if_ne (tgt := 5) B dX5_takeWanted_1 (by decide) (fun _ => k) (fun q => absurd q c1)) ?_
    refine ym 6 (fun B k => z_aload_n B dX5_takeWanted_5 rfl 0 rfl k) ?_
    replace h := qv_e h
    obtain ⟨w2, e_w2, h⟩ := h
    have hq_w2 : rk σ w2 3 := rk_T hT hk_t rfl (by decide) e_w2
    refine ym 9 (fun B k => gf_X5_29 (x := w2) B hk_t e_w2 dX5_takeWanted_6 k) ?_
    refine ym 10 (fun B k => z_aload_n B dX5_takeWanted_9 rfl 0 rfl k) ?_
    refine ym 13 (fun B k => gf_X5_38 (x := (sx_I σ t 4)) B hk_t rfl dX5_takeWanted_10 k) ?_
    replace h := bq_e h
    obtain ⟨a3, rfl, h⟩ := h
    have hk_a3 := hq_w2 a3 rfl
    replace h := br_e h
    obtain ⟨r5, h4, h⟩ := h
    have m6 := ct_X1_kindAt l (g := g) h4 hT hk_a3
    refine yc_Vi (Al := [.int (sx_I σ t 4)]) (rest := []) 16 rfl cw_X5_118 cx_2 dX5_takeWanted_13 m6 hk_a3 rfl (by decide) rfl (Nat.le_of_ble_eq_true rfl) ?_
    refine ym 17 (fun B k => z_istore_n (lv' := [(2, .int r5), (0, .ref t), (1, .int x1)]) B dX5_takeWanted_16 rfl (by decide) rfl k) ?_
    refine ym 18 (fun B k => z_aload_n B dX5_takeWanted_17 rfl 1 rfl k) ?_
    replace h := qv_e h
    obtain ⟨w7, e_w7, h⟩ := h
    have hq_w7 : rk σ w7 3 := rk_T hT hk_t rfl (by decide) e_w7
    refine ym 21 (fun B k => gf_X5_29 (x := w7) B hk_t e_w7 dX5_takeWanted_18 k) ?_
    refine ym 22 (fun B k => z_aload_n B dX5_takeWanted_21 rfl 1 rfl k) ?_
    refine ym 25 (fun B k => gf_X5_38 (x := (sx_I σ t 4)) B hk_t rfl dX5_takeWanted_22 k) ?_
    replace h := bq_e h
    obtain ⟨a8, rfl, h⟩ := h
    have hk_a8 := hq_w7 a8 rfl
    replace h := br_e h
    obtain ⟨r10, h9, h⟩ := h
    have m11 := ct_X1_numberAt l (g := g) h9 hT hk_a8
    refine yc_Vl (Al := [.int (sx_I σ t 4)]) (rest := []) 28 rfl cw_X5_44 cx_2 dX5_takeWanted_25 m11 hk_a8 rfl (by decide) rfl (Nat.le_of_ble_eq_true rfl) ?_
    refine ym 29 (fun B k => z_lstore_n (lv' := [(3, .long r10), (2, .int r5), (0, .ref t), (1, .int x1)]) B dX5_takeWanted_28 rfl (by decide) rfl k) ?_
    refine ym 30 (fun B k => z_iload_n B dX5_takeWanted_29 rfl 1 rfl k) ?_
    refine ym 31 (fun B k => z_iconst (v := 4) B dX5_takeWanted_30 (by decide) k) ?_
    by_cases c12 : r5 = 4
    · replace h := ite_p c12 h
      refine ym 52 (fun B k => z_icmp_eq (tgt := 52) B dX5_takeWanted_31 (by decide) (fun _ => k) (fun q => absurd c12 q)) ?_
      refine y_sub [(0, .ref t), (2, .int r5), (3, .long r10)] [2, 1, 0] rfl ?_
      exact tb_X5_takeWanted_52 h hT hk_t
    · replace h := ite_n c12 h
      refine ym 34 (fun B k => z_icmp_eq (tgt := 52) B dX5_takeWanted_31 (by decide) (fun q => absurd q c12) (fun _ => k)) ?_
      refine ym 35 (fun B k => z_iload_n B dX5_takeWanted_34 rfl 1 rfl k) ?_
      refine ym 37 (fun B k => z_bipush (v := 7) B dX5_takeWanted_35 (by decide) k) ?_
      by_cases c13 : r5 = 7
      · replace h := ite_p c13 h
        refine ym 52 (fun B k => z_icmp_eq (tgt := 52) B dX5_takeWanted_37 (by decide) (fun _ => k) (fun q => absurd c13 q)) ?_
        refine y_sub [(0, .ref t), (2, .int r5), (3, .long r10)] [2, 1, 0] rfl ?_
        exact tb_X5_takeWanted_52 h hT hk_t
      · replace h := ite_n c13 h
        refine ym 40 (fun B k => z_icmp_eq (tgt := 52) B dX5_takeWanted_37 (by decide) (fun q => absurd q c13) (fun _ => k)) ?_
        refine ym 41 (fun B k => z_iload_n B dX5_takeWanted_40 rfl 1 rfl k) ?_
        refine ym 43 (fun B k => z_bipush (v := 9) B dX5_takeWanted_41 (by decide) k) ?_
        by_cases c14 : r5 = 9
        · replace h := ite_p c14 h
          refine ym 52 (fun B k => z_icmp_eq (tgt := 52) B dX5_takeWanted_43 (by decide) (fun _ => k) (fun q => absurd c14 q)) ?_
          refine y_sub [(0, .ref t), (2, .int r5), (3, .long r10)] [2, 1, 0] rfl ?_
          exact tb_X5_takeWanted_52 h hT hk_t
        · replace h := ite_n c14 h
          refine ym 46 (fun B k => z_icmp_eq (tgt := 52) B dX5_takeWanted_43 (by decide) (fun q => absurd q c14) (fun _ => k)) ?_
          refine ym 47 (fun B k => z_iload_n B dX5_takeWanted_46 rfl 1 rfl k) ?_
          refine ym 49 (fun B k => z_bipush (v := 14) B dX5_takeWanted_47 (by decide) k) ?_
          by_cases c15 : r5 = 14
          · replace h := ite_p c15 h
            refine ym 52 (fun B k => z_icmp_ne (tgt := 56) B dX5_takeWanted_49 (by decide) (fun q => absurd c15 q) (fun _ => k)) ?_
            refine y_sub [(0, .ref t), (2, .int r5), (3, .long r10)] [2, 1, 0] rfl ?_
            exact tb_X5_takeWanted_52 h hT hk_t
          · replace h := ite_n c15 h
            refine ym 56 (fun B k => z_icmp_ne (tgt := 56) B dX5_takeWanted_49 (by decide) (fun _ => k) (fun q => absurd q c15)) ?_
            refine ym 57 (fun B k => z_iconst (v := 0) B dX5_takeWanted_56 (by decide) k) ?_
            refine y_sub [(0, .ref t), (2, .int r5), (3, .long r10)] [2, 1, 0] rfl ?_
            exact tb_X5_takeWanted_57 h hT hk_t (Or.inl rfl)
set_option maxRecDepth 100000 in
set_option maxHeartbeats 4000000 in
theorem ct_X6_keep (l : Launch) {g : gx_T} {σ : sx_T} {u : sx_T}  {t : Nat} {x1 : Int32} (h : f_X6_keep σ t x1 = some u) (hT : TS g σ) (hk_t : sx_K σ t = 8) : CT l g yX6_keep cX6_keep 2 none 0 0 [.ref t, .int x1] (True) u σ (Qxv g u) := by
  refine yc_met (by decide) (Nat.le_of_ble_eq_true rfl) ?_
  refine yc_lv (show lv_args 0 [.ref t, .int x1] = [(0, .ref t), (1, .int x1)] from rfl) ?_
  show ZY l g _ _ _ _ _ _ _ _ _ _ _ _ _ _ σ 0 [(0, .ref t), (1, .int x1)] []
  unfold f_X6_keep at h
  refine ym 1 (fun B k => z_aload_n B dX6_keep_0 rfl 0 rfl k) ?_
  refine ym 4 (fun B k => gf_X6_15 (x := (sx_I σ t 1)) B hk_t rfl dX6_keep_1 k) ?_
  by_cases c1 : (sx_I σ t 1) < 0
  · replace h := ite_p c1 h
    refine ym 39 (fun B k => z_if_lt (tgt := 39) B dX6_keep_4 (by decide) (fun _ => k) (fun q => absurd c1 q)) ?_
    obtain rfl := Option.some.inj h
    exact yr_v hT trivial rfl dX6_keep_39
  · replace h := ite_n c1 h
    refine ym 7 (fun B k => z_if_lt (tgt := 39) B dX6_keep_4 (by decide) (fun q => absurd q c1) (fun _ => k)) ?_
    refine ym 8 (fun B k => z_aload_n B dX6_keep_7 rfl 0 rfl k) ?_
    refine ym 11 (fun B k => gf_X6_15 (x := (sx_I σ t 1)) B hk_t rfl dX6_keep_8 k) ?_
    refine ym 12 (fun B k => z_aload_n B dX6_keep_11 rfl 0 rfl k) ?_
    replace h := qv_e h
    obtain ⟨w2, e_w2, h⟩ := h
    have hq_w2 : rk σ w2 13 := rk_T hT hk_t rfl (by decide) e_w2
    refine ym 15 (fun B k => gf_X6_9 (x := w2) B hk_t e_w2 dX6_keep_12 k) ?_
    replace h := bq_e h
    obtain ⟨a3, rfl, h⟩ := h
    have hk_a3 := hq_w2 a3 rfl
    refine ym 16 (fun B k => z_alen (kd := 13) (ti := 1) (v := Int32.ofNat (sx_N σ a3)) B hk_a3 (by decide) rfl rfl dX6_keep_15 k) ?_
    by_cases c4 : (Int32.ofNat (sx_N σ a3)) ≤ (sx_I σ t 1)
    · replace h := ite_p c4 h
      refine ym 39 (fun B k => z_icmp_ge (tgt := 39) B dX6_keep_16 (by decide) (fun _ => k) (fun q => absurd c4 q)) ?_
      obtain rfl := Option.some.inj h
      exact yr_v hT trivial rfl dX6_keep_39
    · replace h := ite_n c4 h
      refine ym 19 (fun B k => z_icmp_ge (tgt := 39) B dX6_keep_16 (by decide) (fun q => absurd q c4) (fun _ => k)) ?_
      refine ym 20 (fun B k => z_aload_n B dX6_keep_19 rfl 0 rfl k) ?_
      replace h := qv_e h
      obtain ⟨w5, e_w5, h⟩ := h
      have hq_w5 : rk σ w5 13 := rk_T hT hk_t rfl (by decide) e_w5
      refine ym 23 (fun B k => gf_X6_9 (x := w5) B hk_t e_w5 dX6_keep_20 k) ?_
      refine ym 24 (fun B k => z_aload_n B dX6_keep_23 rfl 0 rfl k) ?_
      refine ym 27 (fun B k => gf_X6_15 (x := (sx_I σ t 1)) B hk_t rfl dX6_keep_24 k) ?_
      refine ym 28 (fun B k => z_iload_n B dX6_keep_27 rfl 1 rfl k) ?_
      replace h := bq_e h
      obtain ⟨a6, rfl, h⟩ := h
      have hk_a6 := hq_w5 a6 rfl
      replace h := ck_e h
      obtain ⟨hi_7, h⟩ := h
      have j8 := hk_a6
      refine ymw (σ' := (wx_I σ a6 (ti (sx_I σ t 1)) x1)) 29 e_I (fun B _ k => z_iast (j := (ti (sx_I σ t 1))) B hk_a6 rfl hi_7 rfl dX6_keep_28 k) ?_
      have hT := TS_I (k := (ti (sx_I σ t 1))) (x := x1) hT hk_a6 (Or.inl rfl)
      have hk_t := kk_I (σ := σ) (a := a6) (k := (ti (sx_I σ t 1))) (x := x1) hk_t
      refine ym 30 (fun B k => z_aload_n B dX6_keep_29 rfl 0 rfl k) ?_
      refine ym 31 (fun B k => z_dup B dX6_keep_30 rfl k) ?_
      refine ym 34 (fun B k => gf_X6_15 (x := (sx_I σ t 1)) B hk_t (rI_k (by decide) j8 (kd_I hk_t) rfl) dX6_keep_31 k) ?_
      refine ym 35 (fun B k => z_iconst (v := 1) B dX6_keep_34 (by decide) k) ?_
      refine ym 36 (fun B k => z_iadd B dX6_keep_35 k) ?_
      have j9 := hk_t
      refine ymw (σ' := (wx_I (wx_I σ a6 (ti (sx_I σ t 1)) x1) t 1 ((sx_I σ t 1) + 1))) 39 e_I (fun B hin k => pf_X6_15 (x := ((sx_I σ t 1) + 1)) B hk_t rfl dX6_keep_36 k) ?_
      have hT := TS_I (k := 1) (x := ((sx_I σ t 1) + 1)) hT hk_t (Or.inl rfl)
      have hk_t := kk_I (σ := (wx_I σ a6 (ti (sx_I σ t 1)) x1)) (a := t) (k := 1) (x := ((sx_I σ t 1) + 1)) hk_t
      obtain rfl := Option.some.inj h
      exact yr_v hT trivial rfl dX6_keep_39
set_option maxRecDepth 100000 in
set_option maxHeartbeats 4000000 in
theorem tb_X5_receive_63 {l : Launch} {g : gx_T} {σ : sx_T} {u : sx_T} {As : Array Value}  {t : Nat} {y0 : Int32} (h : fb_X5_receive_63 σ t y0 = some u) (hT : TS g σ) (hk_t : sx_K σ t = 7) : ZY l g cX5_receive RX5 "receive" none 3 1 21 0 0 false As (QM g As (Qxv g u)) (True) u σ 63 [(0, .ref t)] [.int y0, .ref t] := by
  unfold fb_X5_receive_63 at h
  have j1 := hk_t
  refine ymw (σ' := (wx_I σ t 6 y0)) 66 e_I (fun B hin k => pf_X5_50 (x := y0) B hk_t rfl dX5_receive_63 k) ?_
  have hT := TS_I (k := 6) (x := y0) hT hk_t (Or.inl rfl)
  have hk_t := kk_I (σ := σ) (a := t) (k := 6) (x := y0) hk_t
  refine ym 67 (fun B k => z_aload_n B dX5_receive_66 rfl 0 rfl k) ?_
  refine ym 68 (fun B k => z_iconst (v := 0) B dX5_receive_67 (by decide) k) ?_
  have j2 := hk_t
  refine ymw (σ' := (wx_I (wx_I σ t 6 y0) t 8 0)) 71 e_I (fun B hin k => pf_X5_56 (x := 0) B hk_t rfl dX5_receive_68 k) ?_
  have hT := TS_I (k := 8) (x := 0) hT hk_t (Or.inl rfl)
  have hk_t := kk_I (σ := (wx_I σ t 6 y0)) (a := t) (k := 8) (x := 0) hk_t
  obtain rfl := Option.some.inj h
  exact yr_v hT trivial rfl dX5_receive_71
set_option maxRecDepth 100000 in
set_option maxHeartbeats 4000000 in
theorem tb_X5_receive_16 {l : Launch} {g : gx_T} {σ : sx_T} {u : sx_T} {As : Array Value}  {t : Nat} {x1 : Int32} (h : fb_X5_receive_16 σ t x1 = some u) (hT : TS g σ) (hk_t : sx_K σ t = 7) : ZY l g cX5_receive RX5 "receive" none 3 1 21 0 0 false As (QM g As (Qxv g u)) (True) u σ 16 [(0, .ref t), (1, .int x1)] [] := by
  unfold fb_X5_receive_16 at h
  refine ym 17 (fun B k => z_iload_n B dX5_receive_16 rfl 1 rfl k) ?_
  refine ym 19 (fun B k => z_bipush (v := 100) B dX5_receive_17 (by decide) k) ?_
  refine ym 20 (fun B k => z_idiv B dX5_receive_19 (by decide) k) ?_
  refine ym 21 (fun B k => z_aload_n B dX5_receive_20 rfl 0 rfl k) ?_
  refine ym 24 (fun B k => gf_X5_59 (x := (sx_I σ t 9)) B hk_t rfl dX5_receive_21 k) ?_
  by_cases c1 : (x1 / 100) = (sx_I σ t 9)
  · replace h := ite_p c1 h
    refine ym 27 (fun B k => z_icmp_ne (tgt := 31) B dX5_receive_24 (by decide) (fun q => absurd c1 q) (fun _ => k)) ?_
    refine ym 28 (fun B k => z_iconst (v := 1) B dX5_receive_27 (by decide) k) ?_
    refine ym 32 (fun B k => z_goto (tgt := 32) B dX5_receive_28 (by decide) k) ?_
    refine ym 33 (fun B k => z_istore_n (lv' := [(2, .int 1), (0, .ref t), (1, .int x1)]) B dX5_receive_32 rfl (by decide) rfl k) ?_
    refine ym 34 (fun B k => z_iload_n B dX5_receive_33 rfl 0 rfl k) ?_
    refine ym 46 (fun B k => z_if_ne (tgt := 46) B dX5_receive_34 (by decide) (fun _ => k) (fun q => absurd q (by decide))) ?_
    refine ym 47 (fun B k => z_aload_n B dX5_receive_46 rfl 1 rfl k) ?_
    refine ym 48 (fun B k => z_aload_n B dX5_receive_47 rfl 1 rfl k) ?_
    refine ym 51 (fun B k => gf_X5_56 (x := (sx_I σ t 8)) B hk_t rfl dX5_receive_48 k) ?_
    refine ym 52 (fun B k => z_iconst (v := 4) B dX5_receive_51 (by decide) k) ?_
    by_cases c2 : (sx_I σ t 8) = 4
    · replace h := ite_p c2 h
      refine ym 55 (fun B k => z_icmp_ne (tgt := 59) B dX5_receive_52 (by decide) (fun q => absurd c2 q) (fun _ => k)) ?_
      refine ym 56 (fun B k => z_iconst (v := 1) B dX5_receive_55 (by decide) k) ?_
      refine ym 63 (fun B k => z_goto (tgt := 63) B dX5_receive_56 (by decide) k) ?_
      refine y_sub [(0, .ref t)] [1] rfl ?_
      exact tb_X5_receive_63 h hT hk_t
    · replace h := ite_n c2 h
      refine ym 59 (fun B k => z_icmp_ne (tgt := 59) B dX5_receive_52 (by decide) (fun _ => k) (fun q => absurd q c2)) ?_
      refine ym 60 (fun B k => z_iload_n B dX5_receive_59 rfl 2 rfl k) ?_
      refine ym 62 (fun B k => z_bipush (v := 100) B dX5_receive_60 (by decide) k) ?_
      refine ym 63 (fun B k => z_irem B dX5_receive_62 (by decide) k) ?_
      refine y_sub [(0, .ref t)] [1] rfl ?_
      exact tb_X5_receive_63 h hT hk_t
  · replace h := ite_n c1 h
    refine ym 31 (fun B k => z_icmp_ne (tgt := 31) B dX5_receive_24 (by decide) (fun _ => k) (fun q => absurd q c1)) ?_
    refine ym 32 (fun B k => z_iconst (v := 0) B dX5_receive_31 (by decide) k) ?_
    refine ym 33 (fun B k => z_istore_n (lv' := [(2, .int 0), (0, .ref t), (1, .int x1)]) B dX5_receive_32 rfl (by decide) rfl k) ?_
    refine ym 34 (fun B k => z_iload_n B dX5_receive_33 rfl 0 rfl k) ?_
    refine ym 37 (fun B k => z_if_ne (tgt := 46) B dX5_receive_34 (by decide) (fun q => absurd (by decide) q) (fun _ => k)) ?_
    refine ym 38 (fun B k => z_aload_n B dX5_receive_37 rfl 1 rfl k) ?_
    replace h := qv_e h
    obtain ⟨w3, e_w3, h⟩ := h
    have hq_w3 : rk σ w3 8 := rk_T hT hk_t rfl (by decide) e_w3
    refine ym 41 (fun B k => gf_X5_21 (x := w3) B hk_t e_w3 dX5_receive_38 k) ?_
    refine ym 42 (fun B k => z_iload_n B dX5_receive_41 rfl 2 rfl k) ?_
    replace h := bq_e h
    obtain ⟨a4, rfl, h⟩ := h
    have hk_a4 := hq_w3 a4 rfl
    replace h := br_e h
    obtain ⟨u6, h5, h⟩ := h
    have m7 := ct_X6_keep l (g := g) h5 hT hk_a4
    refine yc_Vv (Al := [.int x1]) (rest := []) 45 rfl cw_X5_143 cx_7 dX5_receive_42 m7 hk_a4 rfl (by decide) rfl (Nat.le_of_ble_eq_true rfl) ?_
    have hk_t := k_G m7.1.1 (by decide) hk_t
    have hT := m7.1.1.2.2.2
    obtain rfl := Option.some.inj h
    exact yr_v hT trivial rfl dX5_receive_45
set_option maxRecDepth 100000 in
set_option maxHeartbeats 4000000 in
theorem ct_X5_receive (l : Launch) {g : gx_T} {σ : sx_T} {u : sx_T}  {t : Nat} {x1 : Int32} (h : f_X5_receive σ t x1 = some u) (hT : TS g σ) (hk_t : sx_K σ t = 7) : CT l g yX5_receive cX5_receive 3 none 1 21 [.ref t, .int x1] (True) u σ (Qxv g u) := by
  refine yc_met (by decide) (Nat.le_of_ble_eq_true rfl) ?_
  refine yc_lv (show lv_args 0 [.ref t, .int x1] = [(0, .ref t), (1, .int x1)] from rfl) ?_
  show ZY l g _ _ _ _ _ _ _ _ _ _ _ _ _ _ σ 0 [(0, .ref t), (1, .int x1)] []
  unfold f_X5_receive at h
  refine ym 1 (fun B k => z_aload_n B dX5_receive_0 rfl 0 rfl k) ?_
  refine ym 4 (fun B k => gf_X5_56 (x := (sx_I σ t 8)) B hk_t rfl dX5_receive_1 k) ?_
  refine ym 5 (fun B k => z_iconst (v := 3) B dX5_receive_4 (by decide) k) ?_
  by_cases c1 : (sx_I σ t 8) = 3
  · replace h := ite_p c1 h
    refine ym 16 (fun B k => z_icmp_eq (tgt := 16) B dX5_receive_5 (by decide) (fun _ => k) (fun q => absurd c1 q)) ?_
    refine y_sub [(0, .ref t), (1, .int x1)] [0, 1] rfl ?_
    exact tb_X5_receive_16 h hT hk_t
  · replace h := ite_n c1 h
    refine ym 8 (fun B k => z_icmp_eq (tgt := 16) B dX5_receive_5 (by decide) (fun q => absurd q c1) (fun _ => k)) ?_
    refine ym 9 (fun B k => z_aload_n B dX5_receive_8 rfl 0 rfl k) ?_
    refine ym 12 (fun B k => gf_X5_56 (x := (sx_I σ t 8)) B hk_t rfl dX5_receive_9 k) ?_
    refine ym 13 (fun B k => z_iconst (v := 4) B dX5_receive_12 (by decide) k) ?_
    by_cases c2 : (sx_I σ t 8) = 4
    · replace h := ite_p c2 h
      refine ym 16 (fun B k => z_icmp_ne (tgt := 31) B dX5_receive_13 (by decide) (fun q => absurd c2 q) (fun _ => k)) ?_
      refine y_sub [(0, .ref t), (1, .int x1)] [0, 1] rfl ?_
      exact tb_X5_receive_16 h hT hk_t
    · replace h := ite_n c2 h
      refine ym 31 (fun B k => z_icmp_ne (tgt := 31) B dX5_receive_13 (by decide) (fun _ => k) (fun q => absurd q c2)) ?_
      refine ym 32 (fun B k => z_iconst (v := 0) B dX5_receive_31 (by decide) k) ?_
      refine ym 33 (fun B k => z_istore_n (lv' := [(2, .int 0), (0, .ref t), (1, .int x1)]) B dX5_receive_32 rfl (by decide) rfl k) ?_
      refine ym 34 (fun B k => z_iload_n B dX5_receive_33 rfl 0 rfl k) ?_
      refine ym 37 (fun B k => z_if_ne (tgt := 46) B dX5_receive_34 (by decide) (fun q => absurd (by decide) q) (fun _ => k)) ?_
      refine ym 38 (fun B k => z_aload_n B dX5_receive_37 rfl 1 rfl k) ?_
      replace h := qv_e h
      obtain ⟨w3, e_w3, h⟩ := h
      have hq_w3 : rk σ w3 8 := rk_T hT hk_t rfl (by decide) e_w3
      refine ym 41 (fun B k => gf_X5_21 (x := w3) B hk_t e_w3 dX5_receive_38 k) ?_
      refine ym 42 (fun B k => z_iload_n B dX5_receive_41 rfl 2 rfl k) ?_
      replace h := bq_e h
      obtain ⟨a4, rfl, h⟩ := h
      have hk_a4 := hq_w3 a4 rfl
      replace h := br_e h
      obtain ⟨u6, h5, h⟩ := h
      have m7 := ct_X6_keep l (g := g) h5 hT hk_a4
      refine yc_Vv (Al := [.int x1]) (rest := []) 45 rfl cw_X5_143 cx_7 dX5_receive_42 m7 hk_a4 rfl (by decide) rfl (Nat.le_of_ble_eq_true rfl) ?_
      have hk_t := k_G m7.1.1 (by decide) hk_t
      have hT := m7.1.1.2.2.2
      obtain rfl := Option.some.inj h
      exact yr_v hT trivial rfl dX5_receive_45
set_option maxRecDepth 100000 in
set_option maxHeartbeats 4000000 in
theorem tb_X5_beAsked_39 {l : Launch} {g : gx_T} {σ : sx_T} {u : sx_T} {As : Array Value}  {t : Nat} (h : fb_X5_beAsked_39 σ t = some u) (hT : TS g σ) (hk_t : sx_K σ t = 7) : ZY l g cX5_beAsked RX5 "beAsked" none 1 0 0 0 0 false As (QM g As (Qxv g u)) (True) u σ 39 [(0, .ref t)] [] := by
  unfold fb_X5_beAsked_39 at h
  refine ym 40 (fun B k => z_aload_n B dX5_beAsked_39 rfl 0 rfl k) ?_
  refine ym 41 (fun B k => z_iconst (v := 0) B dX5_beAsked_40 (by decide) k) ?_
  have j1 := hk_t
  refine ymw (σ' := (wx_I σ t 8 0)) 44 e_I (fun B hin k => pf_X5_56 (x := 0) B hk_t rfl dX5_beAsked_41 k) ?_
  have hT := TS_I (k := 8) (x := 0) hT hk_t (Or.inl rfl)
  have hk_t := kk_I (σ := σ) (a := t) (k := 8) (x := 0) hk_t
  refine ym 45 (fun B k => z_aload_n B dX5_beAsked_44 rfl 0 rfl k) ?_
  refine ym 46 (fun B k => z_iconst (v := 3) B dX5_beAsked_45 (by decide) k) ?_
  have j2 := hk_t
  refine ymw (σ' := (wx_I (wx_I σ t 8 0) t 14 3)) 49 e_I (fun B hin k => pf_X5_76 (x := 3) B hk_t rfl dX5_beAsked_46 k) ?_
  have hT := TS_I (k := 14) (x := 3) hT hk_t (Or.inl rfl)
  have hk_t := kk_I (σ := (wx_I σ t 8 0)) (a := t) (k := 14) (x := 3) hk_t
  obtain rfl := Option.some.inj h
  exact yr_v hT trivial rfl dX5_beAsked_49
set_option maxRecDepth 100000 in
set_option maxHeartbeats 4000000 in
theorem ct_X5_beAsked (l : Launch) {g : gx_T} {σ : sx_T} {u : sx_T}  {t : Nat} (h : f_X5_beAsked σ t = some u) (hT : TS g σ) (hk_t : sx_K σ t = 7) : CT l g yX5_beAsked cX5_beAsked 1 none 0 0 [.ref t] (True) u σ (Qxv g u) := by
  refine yc_met (by decide) (Nat.le_of_ble_eq_true rfl) ?_
  refine yc_lv (show lv_args 0 [.ref t] = [(0, .ref t)] from rfl) ?_
  show ZY l g _ _ _ _ _ _ _ _ _ _ _ _ _ _ σ 0 [(0, .ref t)] []
  unfold f_X5_beAsked at h
  refine ym 1 (fun B k => z_aload_n B dX5_beAsked_0 rfl 0 rfl k) ?_
  refine ym 4 (fun B k => gf_X5_76 (x := (sx_I σ t 14)) B hk_t rfl dX5_beAsked_1 k) ?_
  by_cases c1 : (sx_I σ t 14) = 0
  · replace h := ite_p c1 h
    refine ym 8 (fun B k => z_if_eq (tgt := 8) B dX5_beAsked_4 (by decide) (fun _ => k) (fun q => absurd c1 q)) ?_
    refine ym 9 (fun B k => z_aload_n B dX5_beAsked_8 rfl 0 rfl k) ?_
    refine ym 12 (fun B k => gf_X5_69 (x := (sx_I σ t 12)) B hk_t rfl dX5_beAsked_9 k) ?_
    by_cases c2 : (sx_I σ t 12) = 0
    · replace h := ite_p c2 h
      refine ym 21 (fun B k => z_if_eq (tgt := 21) B dX5_beAsked_12 (by decide) (fun _ => k) (fun q => absurd c2 q)) ?_
      refine ym 22 (fun B k => z_aload_n B dX5_beAsked_21 rfl 0 rfl k) ?_
      refine ym 25 (fun B k => gf_X5_56 (x := (sx_I σ t 8)) B hk_t rfl dX5_beAsked_22 k) ?_
      refine ym 26 (fun B k => z_iconst (v := 5) B dX5_beAsked_25 (by decide) k) ?_
      by_cases c3 : (sx_I σ t 8) = 5
      · replace h := ite_p c3 h
        refine ym 29 (fun B k => z_icmp_ne (tgt := 39) B dX5_beAsked_26 (by decide) (fun q => absurd c3 q) (fun _ => k)) ?_
        refine ym 30 (fun B k => z_aload_n B dX5_beAsked_29 rfl 0 rfl k) ?_
        refine ym 31 (fun B k => z_aload_n B dX5_beAsked_30 rfl 0 rfl k) ?_
        refine ym 34 (fun B k => gf_X5_38 (x := (sx_I σ t 4)) B hk_t rfl dX5_beAsked_31 k) ?_
        refine ym 35 (fun B k => z_iconst (v := 1) B dX5_beAsked_34 (by decide) k) ?_
        refine ym 36 (fun B k => z_isub B dX5_beAsked_35 k) ?_
        have j4 := hk_t
        refine ymw (σ' := (wx_I σ t 18 ((sx_I σ t 4) - 1))) 39 e_I (fun B hin k => pf_X5_88 (x := ((sx_I σ t 4) - 1)) B hk_t rfl dX5_beAsked_36 k) ?_
        have hT := TS_I (k := 18) (x := ((sx_I σ t 4) - 1)) hT hk_t (Or.inl rfl)
        have hk_t := kk_I (σ := σ) (a := t) (k := 18) (x := ((sx_I σ t 4) - 1)) hk_t
        refine y_sub [(0, .ref t)] [0] rfl ?_
        exact tb_X5_beAsked_39 h hT hk_t
      · replace h := ite_n c3 h
        refine ym 39 (fun B k => z_icmp_ne (tgt := 39) B dX5_beAsked_26 (by decide) (fun _ => k) (fun q => absurd q c3)) ?_
        refine y_sub [(0, .ref t)] [0] rfl ?_
        exact tb_X5_beAsked_39 h hT hk_t
    · replace h := ite_n c2 h
      refine ym 15 (fun B k => z_if_eq (tgt := 21) B dX5_beAsked_12 (by decide) (fun q => absurd q c2) (fun _ => k)) ?_
      refine ym 16 (fun B k => z_aload_n B dX5_beAsked_15 rfl 0 rfl k) ?_
      refine ym 17 (fun B k => z_iconst (v := 1) B dX5_beAsked_16 (by decide) k) ?_
      have j5 := hk_t
      refine ymw (σ' := (wx_I σ t 13 1)) 20 e_I (fun B hin k => pf_X5_73 (x := 1) B (Or.inr rfl) hk_t rfl dX5_beAsked_17 k) ?_
      have hT := TS_I (k := 13) (x := 1) hT hk_t (Or.inr (Or.inr rfl))
      have hk_t := kk_I (σ := σ) (a := t) (k := 13) (x := 1) hk_t
      obtain rfl := Option.some.inj h
      exact yr_v hT trivial rfl dX5_beAsked_20
  · replace h := ite_n c1 h
    refine ym 7 (fun B k => z_if_eq (tgt := 8) B dX5_beAsked_4 (by decide) (fun q => absurd q c1) (fun _ => k)) ?_
    obtain rfl := Option.some.inj h
    exact yr_v hT trivial rfl dX5_beAsked_7
set_option maxRecDepth 100000 in
set_option maxHeartbeats 4000000 in
theorem ct_J9_floorDiv_f86c9 (l : Launch) {g : gx_T} {σ : sx_T} {r : Int64}  {x0 : Int64} {x2 : Int64} (h : f_J9_floorDiv_f86c9 σ x0 x2 = some r) (hT : TS g σ)  : CT l g yJ9_floorDiv_f86c9 cJ9_floorDiv_f86c9 6 (some .long) 0 0 [.long x0, .long x2] (True) σ σ (Qxl g r σ) := by
  refine yc_metF (by decide +kernel) (Nat.le_of_ble_eq_true rfl) ?_
  refine yc_lv (show lv_args 0 [.long x0, .long x2] = [(0, .long x0), (2, .long x2)] from rfl) ?_
  show ZY l g _ _ _ _ _ _ _ _ _ _ _ _ _ _ σ 0 [(0, .long x0), (2, .long x2)] []
  unfold f_J9_floorDiv_f86c9 at h
  refine ym 1 (fun B k => z_lload_n B dJ9_floorDiv_f86c9_0 rfl 0 rfl k) ?_
  refine ym 2 (fun B k => z_lload_n B dJ9_floorDiv_f86c9_1 rfl 1 rfl k) ?_
  by_cases h0_1 : x2 = 0
  · exact nomatch (ite_p h0_1 h)
  replace h := ite_n h0_1 h
  refine ym 3 (fun B k => z_ldiv B dJ9_floorDiv_f86c9_2 h0_1 k) ?_
  refine ym 5 (fun B k => z_lstore (lv' := [(4, .long (x0 / x2)), (0, .long x0), (2, .long x2)]) B dJ9_floorDiv_f86c9_3 (by decide) rfl k) ?_
  refine ym 6 (fun B k => z_lload_n B dJ9_floorDiv_f86c9_5 rfl 1 rfl k) ?_
  refine ym 7 (fun B k => z_lload_n B dJ9_floorDiv_f86c9_6 rfl 2 rfl k) ?_
  refine ym 8 (fun B k => z_lxor B dJ9_floorDiv_f86c9_7 k) ?_
  refine ym 9 (fun B k => z_lconst (v := 0) B dJ9_floorDiv_f86c9_8 (by decide) k) ?_
  refine ym 10 (fun B k => z_lcmp (v := lg_cmp (x0 ^^^ x2) 0) B dJ9_floorDiv_f86c9_9 rfl k) ?_
  by_cases c2 : 0 ≤ (lg_cmp (x0 ^^^ x2) 0)
  · replace h := ite_p c2 h
    refine ym 27 (fun B k => z_if_ge (tgt := 27) B dJ9_floorDiv_f86c9_10 (by decide) (fun _ => k) (fun q => absurd c2 q)) ?_
    refine ym 29 (fun B k => z_lload B dJ9_floorDiv_f86c9_27 0 rfl k) ?_
    obtain rfl := Option.some.inj h
    exact yr_l hT trivial rfl dJ9_floorDiv_f86c9_29
  · replace h := ite_n c2 h
    refine ym 13 (fun B k => z_if_ge (tgt := 27) B dJ9_floorDiv_f86c9_10 (by decide) (fun q => absurd q c2) (fun _ => k)) ?_
    refine ym 15 (fun B k => z_lload B dJ9_floorDiv_f86c9_13 0 rfl k) ?_
    refine ym 16 (fun B k => z_lload_n B dJ9_floorDiv_f86c9_15 rfl 2 rfl k) ?_
    refine ym 17 (fun B k => z_lmul B dJ9_floorDiv_f86c9_16 k) ?_
    refine ym 18 (fun B k => z_lload_n B dJ9_floorDiv_f86c9_17 rfl 1 rfl k) ?_
    refine ym 19 (fun B k => z_lcmp (v := lg_cmp ((x0 / x2) * x2) x0) B dJ9_floorDiv_f86c9_18 rfl k) ?_
    by_cases c3 : (lg_cmp ((x0 / x2) * x2) x0) = 0
    · replace h := ite_p c3 h
      refine ym 27 (fun B k => z_if_eq (tgt := 27) B dJ9_floorDiv_f86c9_19 (by decide) (fun _ => k) (fun q => absurd c3 q)) ?_
      refine ym 29 (fun B k => z_lload B dJ9_floorDiv_f86c9_27 0 rfl k) ?_
      obtain rfl := Option.some.inj h
      exact yr_l hT trivial rfl dJ9_floorDiv_f86c9_29
    · replace h := ite_n c3 h
      refine ym 22 (fun B k => z_if_eq (tgt := 27) B dJ9_floorDiv_f86c9_19 (by decide) (fun q => absurd q c3) (fun _ => k)) ?_
      refine ym 24 (fun B k => z_lload B dJ9_floorDiv_f86c9_22 0 rfl k) ?_
      refine ym 25 (fun B k => z_lconst (v := 1) B dJ9_floorDiv_f86c9_24 (by decide) k) ?_
      refine ym 26 (fun B k => z_lsub B dJ9_floorDiv_f86c9_25 k) ?_
      obtain rfl := Option.some.inj h
      exact yr_l hT trivial rfl dJ9_floorDiv_f86c9_26
set_option maxRecDepth 100000 in
set_option maxHeartbeats 4000000 in
theorem ct_X5_takeEnded (l : Launch) {g : gx_T} {σ : sx_T} {u : sx_T}  {t : Nat} {x1 : Int64} (h : f_X5_takeEnded σ t x1 = some u) (hT : TS g σ) (hk_t : sx_K σ t = 7) : CT l g yX5_takeEnded cX5_takeEnded 3 none 1 25 [.ref t, .long x1] (True) u σ (Qxv g u) := by
  refine yc_met (by decide) (Nat.le_of_ble_eq_true rfl) ?_
  refine yc_lv (show lv_args 0 [.ref t, .long x1] = [(0, .ref t), (1, .long x1)] from rfl) ?_
  show ZY l g _ _ _ _ _ _ _ _ _ _ _ _ _ _ σ 0 [(0, .ref t), (1, .long x1)] []
  unfold f_X5_takeEnded at h
  refine ym 1 (fun B k => z_aload_n B dX5_takeEnded_0 rfl 0 rfl k) ?_
  refine ym 2 (fun B k => z_iconst (v := 0) B dX5_takeEnded_1 (by decide) k) ?_
  have j1 := hk_t
  refine ymw (σ' := (wx_I σ t 8 0)) 5 e_I (fun B hin k => pf_X5_56 (x := 0) B hk_t rfl dX5_takeEnded_2 k) ?_
  have hT := TS_I (k := 8) (x := 0) hT hk_t (Or.inl rfl)
  have hk_t := kk_I (σ := σ) (a := t) (k := 8) (x := 0) hk_t
  refine ym 6 (fun B k => z_lload_n B dX5_takeEnded_5 rfl 1 rfl k) ?_
  refine ym 9 (fun B k => z_ldc2 (v := 10) B dX5_takeEnded_6 wg_370 k) ?_
  replace h := br_e h
  obtain ⟨r3, h2, h⟩ := h
  have m4 := ct_J9_floorMod_f86c9 l (g := g) h2 hT
  refine yc_Sl (Al := [.long x1, .long 10]) (rest := []) 12 rfl cw_X5_146 dX5_takeEnded_9 m4 rfl (by decide) rfl (Nat.le_of_ble_eq_true rfl) ?_
  refine ym 13 (fun B k => z_lconst (v := 1) B dX5_takeEnded_12 (by decide) k) ?_
  refine ym 14 (fun B k => z_lcmp (v := lg_cmp r3 1) B dX5_takeEnded_13 rfl k) ?_
  by_cases c5 : (lg_cmp r3 1) = 0
  · replace h := ite_p c5 h
    refine ym 17 (fun B k => z_if_ne (tgt := 32) B dX5_takeEnded_14 (by decide) (fun q => absurd c5 q) (fun _ => k)) ?_
    refine ym 18 (fun B k => z_aload_n B dX5_takeEnded_17 rfl 0 rfl k) ?_
    refine ym 19 (fun B k => z_lload_n B dX5_takeEnded_18 rfl 1 rfl k) ?_
    refine ym 22 (fun B k => z_ldc2 (v := 10) B dX5_takeEnded_19 wg_370 k) ?_
    replace h := br_e h
    obtain ⟨r7, h6, h⟩ := h
    have m8 := ct_J9_floorDiv_f86c9 l (g := g) h6 hT
    refine yc_Sl (Al := [.long x1, .long 10]) (rest := [.ref t]) 25 rfl cw_X5_152 dX5_takeEnded_22 m8 rfl (by decide) rfl (Nat.le_of_ble_eq_true rfl) ?_
    refine ym 26 (fun B k => z_l2i (v := r7.toInt32) B dX5_takeEnded_25 rfl k) ?_
    have j9 := hk_t
    refine ymw (σ' := (wx_I (wx_I σ t 8 0) t 6 r7.toInt32)) 29 e_I (fun B hin k => pf_X5_50 (x := r7.toInt32) B hk_t rfl dX5_takeEnded_26 k) ?_
    have hT := TS_I (k := 6) (x := r7.toInt32) hT hk_t (Or.inl rfl)
    have hk_t := kk_I (σ := (wx_I σ t 8 0)) (a := t) (k := 6) (x := r7.toInt32) hk_t
    refine ym 36 (fun B k => z_goto (tgt := 36) B dX5_takeEnded_29 (by decide) k) ?_
    obtain rfl := Option.some.inj h
    exact yr_v hT trivial rfl dX5_takeEnded_36
  · replace h := ite_n c5 h
    refine ym 32 (fun B k => z_if_ne (tgt := 32) B dX5_takeEnded_14 (by decide) (fun _ => k) (fun q => absurd q c5)) ?_
    refine ym 33 (fun B k => z_aload_n B dX5_takeEnded_32 rfl 0 rfl k) ?_
    replace h := br_e h
    obtain ⟨u11, h10, h⟩ := h
    have m12 := ct_X5_failNow l (g := g) h10 hT hk_t
    refine yc_Vv (Al := []) (rest := []) 36 rfl cw_X5_122 cx_6 dX5_takeEnded_33 m12 hk_t rfl (by decide) rfl (Nat.le_of_ble_eq_true rfl) ?_
    have hk_t := k_G m12.1.1 (by decide) hk_t
    have hT := m12.1.1.2.2.2
    obtain rfl := Option.some.inj h
    exact yr_v hT trivial rfl dX5_takeEnded_36
set_option maxRecDepth 100000 in
set_option maxHeartbeats 4000000 in
theorem tb_X5_takeAwaited_215 {l : Launch} {g : gx_T} {σ : sx_T} {u : sx_T} {As : Array Value}  {t : Nat} (h : fb_X5_takeAwaited_215 σ t = some u) (hT : TS g σ) (hk_t : sx_K σ t = 7) : ZY l g cX5_takeAwaited RX5 "takeAwaited" none 5 2 47 0 0 false As (QM g As (Qxv g u)) (True) u σ 215 [(0, .ref t)] [] := by
  unfold fb_X5_takeAwaited_215 at h
  refine ym 216 (fun B k => z_aload_n B dX5_takeAwaited_215 rfl 0 rfl k) ?_
  refine ym 217 (fun B k => z_iconst (v := 1) B dX5_takeAwaited_216 (by decide) k) ?_
  have j1 := hk_t
  refine ymw (σ' := (wx_I σ t 19 1)) 220 e_I (fun B hin k => pf_X5_91 (x := 1) B (Or.inr rfl) hk_t rfl dX5_takeAwaited_217 k) ?_
  have hT := TS_I (k := 19) (x := 1) hT hk_t (Or.inr (Or.inr rfl))
  have hk_t := kk_I (σ := σ) (a := t) (k := 19) (x := 1) hk_t
  obtain rfl := Option.some.inj h
  exact yr_v hT trivial rfl dX5_takeAwaited_220
set_option maxRecDepth 100000 in
set_option maxHeartbeats 4000000 in
theorem tb_X5_takeAwaited_193 {l : Launch} {g : gx_T} {σ : sx_T} {u : sx_T} {As : Array Value}  {t : Nat} {x2 : Int32} {x3 : Int64} (h : fb_X5_takeAwaited_193 σ t x2 x3 = some u) (hT : TS g σ) (hk_t : sx_K σ t = 7) : ZY l g cX5_takeAwaited RX5 "takeAwaited" none 5 2 47 0 0 false As (QM g As (Qxv g u)) (True) u σ 193 [(0, .ref t), (2, .int x2), (3, .long x3)] [] := by
  unfold fb_X5_takeAwaited_193 at h
  refine ym 194 (fun B k => z_iload_n B dX5_takeAwaited_193 rfl 1 rfl k) ?_
  refine ym 196 (fun B k => z_bipush (v := 8) B dX5_takeAwaited_194 (by decide) k) ?_
  by_cases c1 : x2 = 8
  · replace h := ite_p c1 h
    refine ym 199 (fun B k => z_icmp_ne (tgt := 215) B dX5_takeAwaited_196 (by decide) (fun q => absurd c1 q) (fun _ => k)) ?_
    refine ym 200 (fun B k => z_aload_n B dX5_takeAwaited_199 rfl 0 rfl k) ?_
    refine ym 203 (fun B k => gf_X5_56 (x := (sx_I σ t 8)) B hk_t rfl dX5_takeAwaited_200 k) ?_
    refine ym 204 (fun B k => z_iconst (v := 5) B dX5_takeAwaited_203 (by decide) k) ?_
    by_cases c2 : (sx_I σ t 8) = 5
    · replace h := ite_p c2 h
      refine ym 207 (fun B k => z_icmp_ne (tgt := 215) B dX5_takeAwaited_204 (by decide) (fun q => absurd c2 q) (fun _ => k)) ?_
      refine ym 208 (fun B k => z_aload_n B dX5_takeAwaited_207 rfl 0 rfl k) ?_
      refine ym 209 (fun B k => z_lload_n B dX5_takeAwaited_208 rfl 2 rfl k) ?_
      replace h := br_e h
      obtain ⟨u4, h3, h⟩ := h
      have m5 := ct_X5_takeEnded l (g := g) h3 hT hk_t
      refine yc_Vv (Al := [.long x3]) (rest := []) 212 rfl cw_X5_139 cx_6 dX5_takeAwaited_209 m5 hk_t rfl (by decide) rfl (Nat.le_of_ble_eq_true rfl) ?_
      have hk_t := k_G m5.1.1 (by decide) hk_t
      have hT := m5.1.1.2.2.2
      refine ym 220 (fun B k => z_goto (tgt := 220) B dX5_takeAwaited_212 (by decide) k) ?_
      obtain rfl := Option.some.inj h
      exact yr_v hT trivial rfl dX5_takeAwaited_220
    · replace h := ite_n c2 h
      refine ym 215 (fun B k => z_icmp_ne (tgt := 215) B dX5_takeAwaited_204 (by decide) (fun _ => k) (fun q => absurd q c2)) ?_
      refine y_sub [(0, .ref t)] [0] rfl ?_
      exact tb_X5_takeAwaited_215 h hT hk_t
  · replace h := ite_n c1 h
    refine ym 215 (fun B k => z_icmp_ne (tgt := 215) B dX5_takeAwaited_196 (by decide) (fun _ => k) (fun q => absurd q c1)) ?_
    refine y_sub [(0, .ref t)] [0] rfl ?_
    exact tb_X5_takeAwaited_215 h hT hk_t
set_option maxRecDepth 100000 in
set_option maxHeartbeats 4000000 in
theorem tb_X5_takeAwaited_167 {l : Launch} {g : gx_T} {σ : sx_T} {u : sx_T} {As : Array Value}  {t : Nat} {x2 : Int32} {x3 : Int64} (h : fb_X5_takeAwaited_167 σ t x2 x3 = some u) (hT : TS g σ) (hk_t : sx_K σ t = 7) : ZY l g cX5_takeAwaited RX5 "takeAwaited" none 5 2 47 0 0 false As (QM g As (Qxv g u)) (True) u σ 167 [(0, .ref t), (2, .int x2), (3, .long x3)] [] := by
  unfold fb_X5_takeAwaited_167 at h
  refine ym 168 (fun B k => z_iload_n B dX5_takeAwaited_167 rfl 1 rfl k) ?_
  refine ym 169 (fun B k => z_iconst (v := 5) B dX5_takeAwaited_168 (by decide) k) ?_
  by_cases c1 : x2 = 5
  · replace h := ite_p c1 h
    refine ym 172 (fun B k => z_icmp_ne (tgt := 193) B dX5_takeAwaited_169 (by decide) (fun q => absurd c1 q) (fun _ => k)) ?_
    refine ym 173 (fun B k => z_aload_n B dX5_takeAwaited_172 rfl 0 rfl k) ?_
    refine ym 176 (fun B k => gf_X5_56 (x := (sx_I σ t 8)) B hk_t rfl dX5_takeAwaited_173 k) ?_
    refine ym 177 (fun B k => z_iconst (v := 4) B dX5_takeAwaited_176 (by decide) k) ?_
    by_cases c2 : (sx_I σ t 8) = 4
    · replace h := ite_p c2 h
      refine ym 180 (fun B k => z_icmp_ne (tgt := 193) B dX5_takeAwaited_177 (by decide) (fun q => absurd c2 q) (fun _ => k)) ?_
      refine ym 181 (fun B k => z_aload_n B dX5_takeAwaited_180 rfl 0 rfl k) ?_
      refine ym 182 (fun B k => z_iconst (v := 0) B dX5_takeAwaited_181 (by decide) k) ?_
      have j3 := hk_t
      refine ymw (σ' := (wx_I σ t 8 0)) 185 e_I (fun B hin k => pf_X5_56 (x := 0) B hk_t rfl dX5_takeAwaited_182 k) ?_
      have hT := TS_I (k := 8) (x := 0) hT hk_t (Or.inl rfl)
      have hk_t := kk_I (σ := σ) (a := t) (k := 8) (x := 0) hk_t
      refine ym 186 (fun B k => z_aload_n B dX5_takeAwaited_185 rfl 0 rfl k) ?_
      refine ym 187 (fun B k => z_iconst (v := 0) B dX5_takeAwaited_186 (by decide) k) ?_
      have j4 := hk_t
      refine ymw (σ' := (wx_I (wx_I σ t 8 0) t 6 0)) 190 e_I (fun B hin k => pf_X5_50 (x := 0) B hk_t rfl dX5_takeAwaited_187 k) ?_
      have hT := TS_I (k := 6) (x := 0) hT hk_t (Or.inl rfl)
      have hk_t := kk_I (σ := (wx_I σ t 8 0)) (a := t) (k := 6) (x := 0) hk_t
      refine ym 220 (fun B k => z_goto (tgt := 220) B dX5_takeAwaited_190 (by decide) k) ?_
      obtain rfl := Option.some.inj h
      exact yr_v hT trivial rfl dX5_takeAwaited_220
    · replace h := ite_n c2 h
      refine ym 193 (fun B k => z_icmp_ne (tgt := 193) B dX5_takeAwaited_177 (by decide) (fun _ => k) (fun q => absurd q c2)) ?_
      refine y_sub [(0, .ref t), (2, .int x2), (3, .long x3)] [0, 1, 2] rfl ?_
      exact tb_X5_takeAwaited_193 h hT hk_t
  · replace h := ite_n c1 h
    refine ym 193 (fun B k => z_icmp_ne (tgt := 193) B dX5_takeAwaited_169 (by decide) (fun _ => k) (fun q => absurd q c1)) ?_
    refine y_sub [(0, .ref t), (2, .int x2), (3, .long x3)] [0, 1, 2] rfl ?_
    exact tb_X5_takeAwaited_193 h hT hk_t
set_option maxRecDepth 100000 in
set_option maxHeartbeats 4000000 in
theorem tb_X5_takeAwaited_146 {l : Launch} {g : gx_T} {σ : sx_T} {u : sx_T} {As : Array Value}  {t : Nat} {x2 : Int32} {x3 : Int64} (h : fb_X5_takeAwaited_146 σ t x2 x3 = some u) (hT : TS g σ) (hk_t : sx_K σ t = 7) : ZY l g cX5_takeAwaited RX5 "takeAwaited" none 5 2 47 0 0 false As (QM g As (Qxv g u)) (True) u σ 146 [(0, .ref t), (2, .int x2), (3, .long x3)] [] := by
  unfold fb_X5_takeAwaited_146 at h
  refine ym 147 (fun B k => z_iload_n B dX5_takeAwaited_146 rfl 1 rfl k) ?_
  refine ym 148 (fun B k => z_iconst (v := 5) B dX5_takeAwaited_147 (by decide) k) ?_
  by_cases c1 : x2 = 5
  · replace h := ite_p c1 h
    refine ym 151 (fun B k => z_icmp_ne (tgt := 167) B dX5_takeAwaited_148 (by decide) (fun q => absurd c1 q) (fun _ => k)) ?_
    refine ym 152 (fun B k => z_aload_n B dX5_takeAwaited_151 rfl 0 rfl k) ?_
    refine ym 155 (fun B k => gf_X5_56 (x := (sx_I σ t 8)) B hk_t rfl dX5_takeAwaited_152 k) ?_
    refine ym 156 (fun B k => z_iconst (v := 2) B dX5_takeAwaited_155 (by decide) k) ?_
    by_cases c2 : (sx_I σ t 8) = 2
    · replace h := ite_p c2 h
      refine ym 159 (fun B k => z_icmp_ne (tgt := 167) B dX5_takeAwaited_156 (by decide) (fun q => absurd c2 q) (fun _ => k)) ?_
      refine ym 160 (fun B k => z_aload_n B dX5_takeAwaited_159 rfl 0 rfl k) ?_
      refine ym 161 (fun B k => z_iconst (v := 0) B dX5_takeAwaited_160 (by decide) k) ?_
      have j3 := hk_t
      refine ymw (σ' := (wx_I σ t 8 0)) 164 e_I (fun B hin k => pf_X5_56 (x := 0) B hk_t rfl dX5_takeAwaited_161 k) ?_
      have hT := TS_I (k := 8) (x := 0) hT hk_t (Or.inl rfl)
      have hk_t := kk_I (σ := σ) (a := t) (k := 8) (x := 0) hk_t
      refine ym 220 (fun B k => z_goto (tgt := 220) B dX5_takeAwaited_164 (by decide) k) ?_
      obtain rfl := Option.some.inj h
      exact yr_v hT trivial rfl dX5_takeAwaited_220
    · replace h := ite_n c2 h
      refine ym 167 (fun B k => z_icmp_ne (tgt := 167) B dX5_takeAwaited_156 (by decide) (fun _ => k) (fun q => absurd q c2)) ?_
      refine y_sub [(0, .ref t), (2, .int x2), (3, .long x3)] [0, 1, 2] rfl ?_
      exact tb_X5_takeAwaited_167 h hT hk_t
  · replace h := ite_n c1 h
    refine ym 167 (fun B k => z_icmp_ne (tgt := 167) B dX5_takeAwaited_148 (by decide) (fun _ => k) (fun q => absurd q c1)) ?_
    refine y_sub [(0, .ref t), (2, .int x2), (3, .long x3)] [0, 1, 2] rfl ?_
    exact tb_X5_takeAwaited_167 h hT hk_t
set_option maxRecDepth 100000 in
set_option maxHeartbeats 4000000 in
theorem tb_X5_takeAwaited_129 {l : Launch} {g : gx_T} {σ : sx_T} {u : sx_T} {As : Array Value}  {t : Nat} {x2 : Int32} {x3 : Int64} (h : fb_X5_takeAwaited_129 σ t x2 x3 = some u) (hT : TS g σ) (hk_t : sx_K σ t = 7) : ZY l g cX5_takeAwaited RX5 "takeAwaited" none 5 2 47 0 0 false As (QM g As (Qxv g u)) (True) u σ 129 [(0, .ref t), (2, .int x2), (3, .long x3)] [] := by
  unfold fb_X5_takeAwaited_129 at h
  refine ym 130 (fun B k => z_aload_n B dX5_takeAwaited_129 rfl 0 rfl k) ?_
  refine ym 133 (fun B k => gf_X5_56 (x := (sx_I σ t 8)) B hk_t rfl dX5_takeAwaited_130 k) ?_
  refine ym 135 (fun B k => z_bipush (v := 6) B dX5_takeAwaited_133 (by decide) k) ?_
  by_cases c1 : (sx_I σ t 8) = 6
  · replace h := ite_p c1 h
    refine ym 138 (fun B k => z_icmp_ne (tgt := 146) B dX5_takeAwaited_135 (by decide) (fun q => absurd c1 q) (fun _ => k)) ?_
    refine ym 139 (fun B k => z_aload_n B dX5_takeAwaited_138 rfl 0 rfl k) ?_
    refine ym 140 (fun B k => z_iconst (v := 0) B dX5_takeAwaited_139 (by decide) k) ?_
    have j2 := hk_t
    refine ymw (σ' := (wx_I σ t 8 0)) 143 e_I (fun B hin k => pf_X5_56 (x := 0) B hk_t rfl dX5_takeAwaited_140 k) ?_
    have hT := TS_I (k := 8) (x := 0) hT hk_t (Or.inl rfl)
    have hk_t := kk_I (σ := σ) (a := t) (k := 8) (x := 0) hk_t
    refine ym 220 (fun B k => z_goto (tgt := 220) B dX5_takeAwaited_143 (by decide) k) ?_
    obtain rfl := Option.some.inj h
    exact yr_v hT trivial rfl dX5_takeAwaited_220
  · replace h := ite_n c1 h
    refine ym 146 (fun B k => z_icmp_ne (tgt := 146) B dX5_takeAwaited_135 (by decide) (fun _ => k) (fun q => absurd q c1)) ?_
    refine y_sub [(0, .ref t), (2, .int x2), (3, .long x3)] [0, 1, 2] rfl ?_
    exact tb_X5_takeAwaited_146 h hT hk_t
set_option maxRecDepth 100000 in
set_option maxHeartbeats 4000000 in
theorem tb_X5_takeAwaited_119 {l : Launch} {g : gx_T} {σ : sx_T} {u : sx_T} {As : Array Value}  {t : Nat} {x2 : Int32} {x3 : Int64} (h : fb_X5_takeAwaited_119 σ t x2 x3 = some u) (hT : TS g σ) (hk_t : sx_K σ t = 7) : ZY l g cX5_takeAwaited RX5 "takeAwaited" none 5 2 47 0 0 false As (QM g As (Qxv g u)) (True) u σ 119 [(0, .ref t), (2, .int x2), (3, .long x3)] [] := by
  unfold fb_X5_takeAwaited_119 at h
  refine ym 120 (fun B k => z_iload_n B dX5_takeAwaited_119 rfl 1 rfl k) ?_
  refine ym 121 (fun B k => z_iconst (v := 2) B dX5_takeAwaited_120 (by decide) k) ?_
  by_cases c1 : x2 = 2
  · replace h := ite_p c1 h
    refine ym 129 (fun B k => z_icmp_eq (tgt := 129) B dX5_takeAwaited_121 (by decide) (fun _ => k) (fun q => absurd c1 q)) ?_
    refine y_sub [(0, .ref t), (2, .int x2), (3, .long x3)] [0, 1, 2] rfl ?_
    exact tb_X5_takeAwaited_129 h hT hk_t
  · replace h := ite_n c1 h
    refine ym 124 (fun B k => z_icmp_eq (tgt := 129) B dX5_takeAwaited_121 (by decide) (fun q => absurd q c1) (fun _ => k)) ?_
    refine ym 125 (fun B k => z_iload_n B dX5_takeAwaited_124 rfl 1 rfl k) ?_
    refine ym 126 (fun B k => z_iconst (v := 3) B dX5_takeAwaited_125 (by decide) k) ?_
    by_cases c2 : x2 = 3
    · replace h := ite_p c2 h
      refine ym 129 (fun B k => z_icmp_ne (tgt := 146) B dX5_takeAwaited_126 (by decide) (fun q => absurd c2 q) (fun _ => k)) ?_
      refine y_sub [(0, .ref t), (2, .int x2), (3, .long x3)] [0, 1, 2] rfl ?_
      exact tb_X5_takeAwaited_129 h hT hk_t
    · replace h := ite_n c2 h
      refine ym 146 (fun B k => z_icmp_ne (tgt := 146) B dX5_takeAwaited_126 (by decide) (fun _ => k) (fun q => absurd q c2)) ?_
      refine y_sub [(0, .ref t), (2, .int x2), (3, .long x3)] [0, 1, 2] rfl ?_
      exact tb_X5_takeAwaited_146 h hT hk_t
set_option maxRecDepth 100000 in
set_option maxHeartbeats 4000000 in
theorem tb_X5_takeAwaited_99 {l : Launch} {g : gx_T} {σ : sx_T} {u : sx_T} {As : Array Value}  {t : Nat} {x2 : Int32} {x3 : Int64} (h : fb_X5_takeAwaited_99 σ t x2 x3 = some u) (hT : TS g σ) (hk_t : sx_K σ t = 7) : ZY l g cX5_takeAwaited RX5 "takeAwaited" none 5 2 47 0 0 false As (QM g As (Qxv g u)) (True) u σ 99 [(0, .ref t), (2, .int x2), (3, .long x3)] [] := by
  unfold fb_X5_takeAwaited_99 at h
  refine ym 100 (fun B k => z_iload_n B dX5_takeAwaited_99 rfl 1 rfl k) ?_
  refine ym 101 (fun B k => z_iconst (v := 3) B dX5_takeAwaited_100 (by decide) k) ?_
  by_cases c1 : x2 = 3
  · replace h := ite_p c1 h
    refine ym 104 (fun B k => z_icmp_ne (tgt := 119) B dX5_takeAwaited_101 (by decide) (fun q => absurd c1 q) (fun _ => k)) ?_
    refine ym 105 (fun B k => z_aload_n B dX5_takeAwaited_104 rfl 0 rfl k) ?_
    refine ym 108 (fun B k => gf_X5_56 (x := (sx_I σ t 8)) B hk_t rfl dX5_takeAwaited_105 k) ?_
    refine ym 109 (fun B k => z_iconst (v := 1) B dX5_takeAwaited_108 (by decide) k) ?_
    by_cases c2 : (sx_I σ t 8) = 1
    · replace h := ite_p c2 h
      refine ym 112 (fun B k => z_icmp_ne (tgt := 119) B dX5_takeAwaited_109 (by decide) (fun q => absurd c2 q) (fun _ => k)) ?_
      refine ym 113 (fun B k => z_aload_n B dX5_takeAwaited_112 rfl 0 rfl k) ?_
      replace h := br_e h
      obtain ⟨u4, h3, h⟩ := h
      have m5 := ct_X5_failNow l (g := g) h3 hT hk_t
      refine yc_Vv (Al := []) (rest := []) 116 rfl cw_X5_122 cx_6 dX5_takeAwaited_113 m5 hk_t rfl (by decide) rfl (Nat.le_of_ble_eq_true rfl) ?_
      have hk_t := k_G m5.1.1 (by decide) hk_t
      have hT := m5.1.1.2.2.2
      refine ym 220 (fun B k => z_goto (tgt := 220) B dX5_takeAwaited_116 (by decide) k) ?_
      obtain rfl := Option.some.inj h
      exact yr_v hT trivial rfl dX5_takeAwaited_220
    · replace h := ite_n c2 h
      refine ym 119 (fun B k => z_icmp_ne (tgt := 119) B dX5_takeAwaited_109 (by decide) (fun _ => k) (fun q => absurd q c2)) ?_
      refine y_sub [(0, .ref t), (2, .int x2), (3, .long x3)] [0, 1, 2] rfl ?_
      exact tb_X5_takeAwaited_119 h hT hk_t
  · replace h := ite_n c1 h
    refine ym 119 (fun B k => z_icmp_ne (tgt := 119) B dX5_takeAwaited_101 (by decide) (fun _ => k) (fun q => absurd q c1)) ?_
    refine y_sub [(0, .ref t), (2, .int x2), (3, .long x3)] [0, 1, 2] rfl ?_
    exact tb_X5_takeAwaited_119 h hT hk_t
set_option maxRecDepth 100000 in
set_option maxHeartbeats 4000000 in
theorem ct_X5_takeAwaited (l : Launch) {g : gx_T} {σ : sx_T} {u : sx_T}  {t : Nat} {x1 : Int32} (h : f_X5_takeAwaited σ t x1 = some u) (hT : TS g σ) (hk_t : sx_K σ t = 7) (hz_x1 : x1 = 0 ∨ x1 = 1) : CT l g yX5_takeAwaited cX5_takeAwaited 5 none 2 47 [.ref t, .int x1] (True) u σ (Qxv g u) := by
  refine yc_met (by decide) (Nat.le_of_ble_eq_true rfl) ?_
  refine yc_lv (show lv_args 0 [.ref t, .int x1] = [(0, .ref t), (1, .int x1)] from rfl) ?_
  show ZY l g _ _ _ _ _ _ _ _ _ _ _ _ _ _ σ 0 [(0, .ref t), (1, .int x1)] []
  unfold f_X5_takeAwaited at h
  refine ym 1 (fun B k => z_iload_n B dX5_takeAwaited_0 rfl 1 rfl k) ?_
  by_cases c1 : x1 = 0
  · replace h := ite_p c1 h
    refine ym 4 (fun B k => z_if_ne (tgt := 5) B dX5_takeAwaited_1 (by decide) (fun q => absurd c1 q) (fun _ => k)) ?_
    obtain rfl := Option.some.inj h
    exact yr_v hT trivial rfl dX5_takeAwaited_4
  · replace h := ite_n c1 h
    refine ym 5 (fun B k => z_if_ne (tgt := 5) B dX5_takeAwaited_1 (by decide) (fun _ => k) (fun q => absurd q c1)) ?_
    refine ym 6 (fun B k => z_aload_n B dX5_takeAwaited_5 rfl 0 rfl k) ?_
    replace h := qv_e h
    obtain ⟨w2, e_w2, h⟩ := h
    have hq_w2 : rk σ w2 3 := rk_T hT hk_t rfl (by decide) e_w2
    refine ym 9 (fun B k => gf_X5_29 (x := w2) B hk_t e_w2 dX5_takeAwaited_6 k) ?_
    refine ym 10 (fun B k => z_aload_n B dX5_takeAwaited_9 rfl 0 rfl k) ?_
    refine ym 13 (fun B k => gf_X5_38 (x := (sx_I σ t 4)) B hk_t rfl dX5_takeAwaited_10 k) ?_
    replace h := bq_e h
    obtain ⟨a3, rfl, h⟩ := h
    have hk_a3 := hq_w2 a3 rfl
    replace h := br_e h
    obtain ⟨r5, h4, h⟩ := h
    have m6 := ct_X1_kindAt l (g := g) h4 hT hk_a3
    refine yc_Vi (Al := [.int (sx_I σ t 4)]) (rest := []) 16 rfl cw_X5_118 cx_2 dX5_takeAwaited_13 m6 hk_a3 rfl (by decide) rfl (Nat.le_of_ble_eq_true rfl) ?_
    refine ym 17 (fun B k => z_istore_n (lv' := [(2, .int r5), (0, .ref t), (1, .int x1)]) B dX5_takeAwaited_16 rfl (by decide) rfl k) ?_
    refine ym 18 (fun B k => z_aload_n B dX5_takeAwaited_17 rfl 1 rfl k) ?_
    replace h := qv_e h
    obtain ⟨w7, e_w7, h⟩ := h
    have hq_w7 : rk σ w7 3 := rk_T hT hk_t rfl (by decide) e_w7
    refine ym 21 (fun B k => gf_X5_29 (x := w7) B hk_t e_w7 dX5_takeAwaited_18 k) ?_
    refine ym 22 (fun B k => z_aload_n B dX5_takeAwaited_21 rfl 1 rfl k) ?_
    refine ym 25 (fun B k => gf_X5_38 (x := (sx_I σ t 4)) B hk_t rfl dX5_takeAwaited_22 k) ?_
    replace h := bq_e h
    obtain ⟨a8, rfl, h⟩ := h
    have hk_a8 := hq_w7 a8 rfl
    replace h := br_e h
    obtain ⟨r10, h9, h⟩ := h
    have m11 := ct_X1_numberAt l (g := g) h9 hT hk_a8
    refine yc_Vl (Al := [.int (sx_I σ t 4)]) (rest := []) 28 rfl cw_X5_44 cx_2 dX5_takeAwaited_25 m11 hk_a8 rfl (by decide) rfl (Nat.le_of_ble_eq_true rfl) ?_
    refine ym 29 (fun B k => z_lstore_n (lv' := [(3, .long r10), (2, .int r5), (0, .ref t), (1, .int x1)]) B dX5_takeAwaited_28 rfl (by decide) rfl k) ?_
    refine ym 30 (fun B k => z_aload_n B dX5_takeAwaited_29 rfl 2 rfl k) ?_
    refine ym 31 (fun B k => z_dup B dX5_takeAwaited_30 rfl k) ?_
    refine ym 34 (fun B k => gf_X5_38 (x := (sx_I σ t 4)) B hk_t rfl dX5_takeAwaited_31 k) ?_
    refine ym 35 (fun B k => z_iconst (v := 1) B dX5_takeAwaited_34 (by decide) k) ?_
    refine ym 36 (fun B k => z_iadd B dX5_takeAwaited_35 k) ?_
    have j12 := hk_t
    refine ymw (σ' := (wx_I σ t 4 ((sx_I σ t 4) + 1))) 39 e_I (fun B hin k => pf_X5_38 (x := ((sx_I σ t 4) + 1)) B hk_t rfl dX5_takeAwaited_36 k) ?_
    have hT := TS_I (k := 4) (x := ((sx_I σ t 4) + 1)) hT hk_t (Or.inl rfl)
    have hk_t := kk_I (σ := σ) (a := t) (k := 4) (x := ((sx_I σ t 4) + 1)) hk_t
    refine ym 40 (fun B k => z_aload_n B dX5_takeAwaited_39 rfl 2 rfl k) ?_
    refine ym 41 (fun B k => z_iconst (v := 0) B dX5_takeAwaited_40 (by decide) k) ?_
    have j13 := hk_t
    refine ymw (σ' := (wx_I (wx_I σ t 4 ((sx_I σ t 4) + 1)) t 7 0)) 44 e_I (fun B hin k => pf_X5_53 (x := 0) B hk_t rfl dX5_takeAwaited_41 k) ?_
    have hT := TS_I (k := 7) (x := 0) hT hk_t (Or.inl rfl)
    have hk_t := kk_I (σ := (wx_I σ t 4 ((sx_I σ t 4) + 1))) (a := t) (k := 7) (x := 0) hk_t
    refine ym 45 (fun B k => z_iload_n B dX5_takeAwaited_44 rfl 1 rfl k) ?_
    refine ym 47 (fun B k => z_bipush (v := 6) B dX5_takeAwaited_45 (by decide) k) ?_
    by_cases c14 : r5 = 6
    · replace h := ite_p c14 h
      refine ym 50 (fun B k => z_icmp_ne (tgt := 59) B dX5_takeAwaited_47 (by decide) (fun q => absurd c14 q) (fun _ => k)) ?_
      refine ym 51 (fun B k => z_aload_n B dX5_takeAwaited_50 rfl 2 rfl k) ?_
      refine ym 52 (fun B k => z_lload_n B dX5_takeAwaited_51 rfl 0 rfl k) ?_
      refine ym 53 (fun B k => z_l2i (v := r10.toInt32) B dX5_takeAwaited_52 rfl k) ?_
      replace h := br_e h
      obtain ⟨u16, h15, h⟩ := h
      have m17 := ct_X5_receive l (g := g) h15 hT hk_t
      refine yc_Vv (Al := [.int r10.toInt32]) (rest := []) 56 rfl cw_X5_132 cx_6 dX5_takeAwaited_53 m17 hk_t rfl (by decide) rfl (Nat.le_of_ble_eq_true rfl) ?_
      have hk_t := k_G m17.1.1 (by decide) hk_t
      have hT := m17.1.1.2.2.2
      refine ym 220 (fun B k => z_goto (tgt := 220) B dX5_takeAwaited_56 (by decide) k) ?_
      obtain rfl := Option.some.inj h
      exact yr_v hT trivial rfl dX5_takeAwaited_220
    · replace h := ite_n c14 h
      refine ym 59 (fun B k => z_icmp_ne (tgt := 59) B dX5_takeAwaited_47 (by decide) (fun _ => k) (fun q => absurd q c14)) ?_
      refine ym 60 (fun B k => z_iload_n B dX5_takeAwaited_59 rfl 1 rfl k) ?_
      refine ym 62 (fun B k => z_bipush (v := 12) B dX5_takeAwaited_60 (by decide) k) ?_
      by_cases c18 : r5 = 12
      · replace h := ite_p c18 h
        refine ym 65 (fun B k => z_icmp_ne (tgt := 72) B dX5_takeAwaited_62 (by decide) (fun q => absurd c18 q) (fun _ => k)) ?_
        refine ym 66 (fun B k => z_aload_n B dX5_takeAwaited_65 rfl 2 rfl k) ?_
        replace h := br_e h
        obtain ⟨u20, h19, h⟩ := h
        have m21 := ct_X5_beAsked l (g := g) h19 hT hk_t
        refine yc_Vv (Al := []) (rest := []) 69 rfl cw_X5_136 cx_6 dX5_takeAwaited_66 m21 hk_t rfl (by decide) rfl (Nat.le_of_ble_eq_true rfl) ?_
        have hk_t := k_G m21.1.1 (by decide) hk_t
        have hT := m21.1.1.2.2.2
        refine ym 220 (fun B k => z_goto (tgt := 220) B dX5_takeAwaited_69 (by decide) k) ?_
        obtain rfl := Option.some.inj h
        exact yr_v hT trivial rfl dX5_takeAwaited_220
      · replace h := ite_n c18 h
        refine ym 72 (fun B k => z_icmp_ne (tgt := 72) B dX5_takeAwaited_62 (by decide) (fun _ => k) (fun q => absurd q c18)) ?_
        refine ym 73 (fun B k => z_iload_n B dX5_takeAwaited_72 rfl 1 rfl k) ?_
        refine ym 74 (fun B k => z_iconst (v := 2) B dX5_takeAwaited_73 (by decide) k) ?_
        by_cases c22 : r5 = 2
        · replace h := ite_p c22 h
          refine ym 77 (fun B k => z_icmp_ne (tgt := 99) B dX5_takeAwaited_74 (by decide) (fun q => absurd c22 q) (fun _ => k)) ?_
          refine ym 78 (fun B k => z_aload_n B dX5_takeAwaited_77 rfl 2 rfl k) ?_
          refine ym 81 (fun B k => gf_X5_56 (x := (sx_I σ t 8)) B hk_t (rI_n (by decide) (rI_n (by decide) rfl)) dX5_takeAwaited_78 k) ?_
          refine ym 82 (fun B k => z_iconst (v := 1) B dX5_takeAwaited_81 (by decide) k) ?_
          by_cases c23 : (sx_I σ t 8) = 1
          · replace h := ite_p c23 h
            refine ym 85 (fun B k => z_icmp_ne (tgt := 99) B dX5_takeAwaited_82 (by decide) (fun q => absurd c23 q) (fun _ => k)) ?_
            refine ym 86 (fun B k => z_aload_n B dX5_takeAwaited_85 rfl 2 rfl k) ?_
            refine ym 87 (fun B k => z_iconst (v := 0) B dX5_takeAwaited_86 (by decide) k) ?_
            have j24 := hk_t
            refine ymw (σ' := (wx_I (wx_I (wx_I σ t 4 ((sx_I σ t 4) + 1)) t 7 0) t 8 0)) 90 e_I (fun B hin k => pf_X5_56 (x := 0) B hk_t rfl dX5_takeAwaited_87 k) ?_
            have hT := TS_I (k := 8) (x := 0) hT hk_t (Or.inl rfl)
            have hk_t := kk_I (σ := (wx_I (wx_I σ t 4 ((sx_I σ t 4) + 1)) t 7 0)) (a := t) (k := 8) (x := 0) hk_t
            refine ym 91 (fun B k => z_aload_n B dX5_takeAwaited_90 rfl 2 rfl k) ?_
            refine ym 92 (fun B k => z_lload_n B dX5_takeAwaited_91 rfl 0 rfl k) ?_
            refine ym 93 (fun B k => z_l2i (v := r10.toInt32) B dX5_takeAwaited_92 rfl k) ?_
            have j25 := hk_t
            refine ymw (σ' := (wx_I (wx_I (wx_I (wx_I σ t 4 ((sx_I σ t 4) + 1)) t 7 0) t 8 0) t 6 r10.toInt32)) 96 e_I (fun B hin k => pf_X5_50 (x := r10.toInt32) B hk_t rfl dX5_takeAwaited_93 k) ?_
            have hT := TS_I (k := 6) (x := r10.toInt32) hT hk_t (Or.inl rfl)
            have hk_t := kk_I (σ := (wx_I (wx_I (wx_I σ t 4 ((sx_I σ t 4) + 1)) t 7 0) t 8 0)) (a := t) (k := 6) (x := r10.toInt32) hk_t
            refine ym 220 (fun B k => z_goto (tgt := 220) B dX5_takeAwaited_96 (by decide) k) ?_
            obtain rfl := Option.some.inj h
            exact yr_v hT trivial rfl dX5_takeAwaited_220
          · replace h := ite_n c23 h
            refine ym 99 (fun B k => z_icmp_ne (tgt := 99) B dX5_takeAwaited_82 (by decide) (fun _ => k) (fun q => absurd q c23)) ?_
            refine y_sub [(0, .ref t), (2, .int r5), (3, .long r10)] [2, 1, 0] rfl ?_
            exact tb_X5_takeAwaited_99 h hT hk_t
        · replace h := ite_n c22 h
          refine ym 99 (fun B k => z_icmp_ne (tgt := 99) B dX5_takeAwaited_74 (by decide) (fun _ => k) (fun q => absurd q c22)) ?_
          refine y_sub [(0, .ref t), (2, .int r5), (3, .long r10)] [2, 1, 0] rfl ?_
          exact tb_X5_takeAwaited_99 h hT hk_t
set_option maxRecDepth 100000 in
set_option maxHeartbeats 4000000 in
theorem ct_X3_pop (l : Launch) {g : gx_T} {σ : sx_T} {u : sx_T} {r : Int32}  {t : Nat} (h : f_X3_pop σ t = some (r, u)) (hT : TS g σ) (hk_t : sx_K σ t = 5) : CT l g yX3_pop cX3_pop 2 (some .int) 0 0 [.ref t] (True) u σ (Qxi g r u) := by
  refine yc_met (by decide) (Nat.le_of_ble_eq_true rfl) ?_
  refine yc_lv (show lv_args 0 [.ref t] = [(0, .ref t)] from rfl) ?_
  show ZY l g _ _ _ _ _ _ _ _ _ _ _ _ _ _ σ 0 [(0, .ref t)] []
  unfold f_X3_pop at h
  refine ym 1 (fun B k => z_aload_n B dX3_pop_0 rfl 0 rfl k) ?_
  refine ym 4 (fun B k => gf_X3_15 (x := (sx_I σ t 1)) B hk_t rfl dX3_pop_1 k) ?_
  refine ym 5 (fun B k => z_iconst (v := 1) B dX3_pop_4 (by decide) k) ?_
  refine ym 6 (fun B k => z_isub B dX3_pop_5 k) ?_
  refine ym 7 (fun B k => z_istore_n (lv' := [(1, .int ((sx_I σ t 1) - 1)), (0, .ref t)]) B dX3_pop_6 rfl (by decide) rfl k) ?_
  refine ym 8 (fun B k => z_iload_n B dX3_pop_7 rfl 0 rfl k) ?_
  by_cases c1 : ((sx_I σ t 1) - 1) < 0
  · replace h := ite_p c1 h
    refine ym 20 (fun B k => z_if_lt (tgt := 20) B dX3_pop_8 (by decide) (fun _ => k) (fun q => absurd c1 q)) ?_
    refine ym 21 (fun B k => z_iconst (v := (-1)) B dX3_pop_20 (by decide) k) ?_
    obtain ⟨rfl, rfl⟩ := Prod.mk.inj (Option.some.inj h)
    exact yr_i hT trivial rfl dX3_pop_21
  · replace h := ite_n c1 h
    refine ym 11 (fun B k => z_if_lt (tgt := 20) B dX3_pop_8 (by decide) (fun q => absurd q c1) (fun _ => k)) ?_
    refine ym 12 (fun B k => z_iload_n B dX3_pop_11 rfl 0 rfl k) ?_
    refine ym 13 (fun B k => z_aload_n B dX3_pop_12 rfl 1 rfl k) ?_
    replace h := qv_e h
    obtain ⟨w2, e_w2, h⟩ := h
    have hq_w2 : rk σ w2 13 := rk_T hT hk_t rfl (by decide) e_w2
    refine ym 16 (fun B k => gf_X3_9 (x := w2) B hk_t e_w2 dX3_pop_13 k) ?_
    replace h := bq_e h
    obtain ⟨a3, rfl, h⟩ := h
    have hk_a3 := hq_w2 a3 rfl
    refine ym 17 (fun B k => z_alen (kd := 13) (ti := 1) (v := Int32.ofNat (sx_N σ a3)) B hk_a3 (by decide) rfl rfl dX3_pop_16 k) ?_
    by_cases c4 : ((sx_I σ t 1) - 1) < (Int32.ofNat (sx_N σ a3))
    · replace h := ite_p c4 h
      refine ym 22 (fun B k => z_icmp_lt (tgt := 22) B dX3_pop_17 (by decide) (fun _ => k) (fun q => absurd c4 q)) ?_
      refine ym 23 (fun B k => z_aload_n B dX3_pop_22 rfl 1 rfl k) ?_
      refine ym 24 (fun B k => z_iload_n B dX3_pop_23 rfl 0 rfl k) ?_
      have j5 := hk_t
      refine ymw (σ' := (wx_I σ t 1 ((sx_I σ t 1) - 1))) 27 e_I (fun B hin k => pf_X3_15 (x := ((sx_I σ t 1) - 1)) B hk_t rfl dX3_pop_24 k) ?_
      have hT := TS_I (k := 1) (x := ((sx_I σ t 1) - 1)) hT hk_t (Or.inl rfl)
      have hk_t := kk_I (σ := σ) (a := t) (k := 1) (x := ((sx_I σ t 1) - 1)) hk_t
      refine ym 28 (fun B k => z_aload_n B dX3_pop_27 rfl 1 rfl k) ?_
      replace h := qv_e h
      obtain ⟨w6, e_w6, h⟩ := h
      have hq_w6 : rk (wx_I σ t 1 ((sx_I σ t 1) - 1)) w6 13 := rk_T hT hk_t rfl (by decide) ((rR_I rfl).trans e_w6)
      refine ym 31 (fun B k => gf_X3_9 (x := w6) B hk_t ((rR_I rfl).trans e_w6) dX3_pop_28 k) ?_
      refine ym 32 (fun B k => z_iload_n B dX3_pop_31 rfl 0 rfl k) ?_
      replace h := bq_e h
      obtain ⟨a7, rfl, h⟩ := h
      have hk_a7 := hq_w6 a7 rfl
      replace h := ck_e h
      obtain ⟨hi_8, h⟩ := h
      refine ym 33 (fun B k => z_iald (j := (ti ((sx_I σ t 1) - 1))) (x := (sx_I σ a7 (ti ((sx_I σ t 1) - 1)))) B hk_a7 rfl hi_8 (rI_k (by decide) j5 (kd_I hk_a7) rfl) dX3_pop_32 k) ?_
      obtain ⟨rfl, rfl⟩ := Prod.mk.inj (Option.some.inj h)
      exact yr_i hT trivial rfl dX3_pop_33
    · replace h := ite_n c4 h
      refine ym 20 (fun B k => z_icmp_lt (tgt := 22) B dX3_pop_17 (by decide) (fun q => absurd q c4) (fun _ => k)) ?_
      refine ym 21 (fun B k => z_iconst (v := (-1)) B dX3_pop_20 (by decide) k) ?_
      obtain ⟨rfl, rfl⟩ := Prod.mk.inj (Option.some.inj h)
      exact yr_i hT trivial rfl dX3_pop_21
set_option maxRecDepth 100000 in
set_option maxHeartbeats 4000000 in
theorem ct_X5_undo (l : Launch) {g : gx_T} {σ : sx_T} {u : sx_T}  {t : Nat} (h : f_X5_undo σ t = some u) (hT : TS g σ) (hk_t : sx_K σ t = 7) : CT l g yX5_undo cX5_undo 2 none 1 23 [.ref t] (True) u σ (Qxv g u) := by
  refine yc_met (by decide) (Nat.le_of_ble_eq_true rfl) ?_
  refine yc_lv (show lv_args 0 [.ref t] = [(0, .ref t)] from rfl) ?_
  show ZY l g _ _ _ _ _ _ _ _ _ _ _ _ _ _ σ 0 [(0, .ref t)] []
  unfold f_X5_undo at h
  refine ym 1 (fun B k => z_aload_n B dX5_undo_0 rfl 0 rfl k) ?_
  replace h := qv_e h
  obtain ⟨w1, e_w1, h⟩ := h
  have hq_w1 : rk σ w1 5 := rk_T hT hk_t rfl (by decide) e_w1
  refine ym 4 (fun B k => gf_X5_12 (x := w1) B hk_t e_w1 dX5_undo_1 k) ?_
  replace h := bq_e h
  obtain ⟨a2, rfl, h⟩ := h
  have hk_a2 := hq_w1 a2 rfl
  replace h := bd_e h
  obtain ⟨r4, u5, h3, h⟩ := h
  have m6 := ct_X3_pop l (g := g) h3 hT hk_a2
  refine yc_Vi (Al := []) (rest := []) 7 rfl cw_X5_108 cx_4 dX5_undo_4 m6 hk_a2 rfl (by decide) rfl (Nat.le_of_ble_eq_true rfl) ?_
  have hk_t := k_G m6.1.1 (by decide) hk_t
  have hT := m6.1.1.2.2.2
  refine ym 8 (fun B k => z_istore_n (lv' := [(1, .int r4), (0, .ref t)]) B dX5_undo_7 rfl (by decide) rfl k) ?_
  refine ym 9 (fun B k => z_iload_n B dX5_undo_8 rfl 0 rfl k) ?_
  refine ym 10 (fun B k => z_iconst (v := (-1)) B dX5_undo_9 (by decide) k) ?_
  by_cases c7 : r4 = (-1)
  · replace h := ite_p c7 h
    refine ym 13 (fun B k => z_icmp_ne (tgt := 37) B dX5_undo_10 (by decide) (fun q => absurd c7 q) (fun _ => k)) ?_
    refine ym 14 (fun B k => z_aload_n B dX5_undo_13 rfl 1 rfl k) ?_
    refine ym 16 (fun B k => z_bipush (v := 13) B dX5_undo_14 (by decide) k) ?_
    refine ym 19 (fun B k => z_ldc2 (v := 10) B dX5_undo_16 wg_370 k) ?_
    refine ym 20 (fun B k => z_aload_n B dX5_undo_19 rfl 1 rfl k) ?_
    refine ym 23 (fun B k => gf_X5_50 (x := (sx_I u5 t 6)) B hk_t rfl dX5_undo_20 k) ?_
    refine ym 24 (fun B k => z_i2l (v := (sx_I u5 t 6).toInt64) B dX5_undo_23 rfl k) ?_
    refine ym 25 (fun B k => z_lmul B dX5_undo_24 k) ?_
    refine ym 26 (fun B k => z_aload_n B dX5_undo_25 rfl 1 rfl k) ?_
    refine ym 29 (fun B k => gf_X5_76 (x := (sx_I u5 t 14)) B hk_t rfl dX5_undo_26 k) ?_
    refine ym 30 (fun B k => z_i2l (v := (sx_I u5 t 14).toInt64) B dX5_undo_29 rfl k) ?_
    refine ym 31 (fun B k => z_ladd B dX5_undo_30 k) ?_
    replace h := br_e h
    obtain ⟨u9, h8, h⟩ := h
    have m10 := ct_X5_want l (g := g) h8 hT hk_t
    refine yc_Vv (Al := [.int 13, .long ((10 * ((sx_I u5 t 6).toInt64)) + ((sx_I u5 t 14).toInt64))]) (rest := []) 34 rfl cw_X5_114 cx_6 dX5_undo_31 m10 hk_t rfl (by decide) rfl (Nat.le_of_ble_eq_true rfl) ?_
    have hk_t := k_G m10.1.1 (by decide) hk_t
    have hT := m10.1.1.2.2.2
    refine ym 45 (fun B k => z_goto (tgt := 45) B dX5_undo_34 (by decide) k) ?_
    obtain rfl := Option.some.inj h
    exact yr_v hT trivial rfl dX5_undo_45
  · replace h := ite_n c7 h
    refine ym 37 (fun B k => z_icmp_ne (tgt := 37) B dX5_undo_10 (by decide) (fun _ => k) (fun q => absurd q c7)) ?_
    refine ym 38 (fun B k => z_aload_n B dX5_undo_37 rfl 1 rfl k) ?_
    refine ym 40 (fun B k => z_bipush (v := 11) B dX5_undo_38 (by decide) k) ?_
    refine ym 41 (fun B k => z_iload_n B dX5_undo_40 rfl 0 rfl k) ?_
    refine ym 42 (fun B k => z_i2l (v := r4.toInt64) B dX5_undo_41 rfl k) ?_
    replace h := br_e h
    obtain ⟨u12, h11, h⟩ := h
    have m13 := ct_X5_want l (g := g) h11 hT hk_t
    refine yc_Vv (Al := [.int 11, .long r4.toInt64]) (rest := []) 45 rfl cw_X5_114 cx_6 dX5_undo_42 m13 hk_t rfl (by decide) rfl (Nat.le_of_ble_eq_true rfl) ?_
    have hk_t := k_G m13.1.1 (by decide) hk_t
    have hT := m13.1.1.2.2.2
    obtain rfl := Option.some.inj h
    exact yr_v hT trivial rfl dX5_undo_45
set_option maxRecDepth 100000 in
set_option maxHeartbeats 4000000 in
theorem ct_X4_operation (l : Launch) {g : gx_T} {σ : sx_T} {r : Int32}  {t : Nat} {x1 : Int32} (h : f_X4_operation σ t x1 = some r) (hT : TS g σ) (hk_t : sx_K σ t = 6) : CT l g yX4_operation cX4_operation 2 (some .int) 0 0 [.ref t, .int x1] (True) σ σ (Qxi g r σ) := by
  refine yc_met (by decide) (Nat.le_of_ble_eq_true rfl) ?_
  refine yc_lv (show lv_args 0 [.ref t, .int x1] = [(0, .ref t), (1, .int x1)] from rfl) ?_
  show ZY l g _ _ _ _ _ _ _ _ _ _ _ _ _ _ σ 0 [(0, .ref t), (1, .int x1)] []
  unfold f_X4_operation at h
  refine ym 1 (fun B k => z_iload_n B dX4_operation_0 rfl 1 rfl k) ?_
  by_cases c1 : x1 < 0
  · replace h := ite_p c1 h
    refine ym 22 (fun B k => z_if_lt (tgt := 22) B dX4_operation_1 (by decide) (fun _ => k) (fun q => absurd c1 q)) ?_
    refine ym 23 (fun B k => z_iconst (v := 0) B dX4_operation_22 (by decide) k) ?_
    obtain rfl := Option.some.inj h
    exact yr_i hT trivial rfl dX4_operation_23
  · replace h := ite_n c1 h
    refine ym 4 (fun B k => z_if_lt (tgt := 22) B dX4_operation_1 (by decide) (fun q => absurd q c1) (fun _ => k)) ?_
    refine ym 5 (fun B k => z_iload_n B dX4_operation_4 rfl 1 rfl k) ?_
    refine ym 6 (fun B k => z_aload_n B dX4_operation_5 rfl 0 rfl k) ?_
    replace h := qv_e h
    obtain ⟨w2, e_w2, h⟩ := h
    have hq_w2 : rk σ w2 13 := rk_T hT hk_t rfl (by decide) e_w2
    refine ym 9 (fun B k => gf_X4_9 (x := w2) B hk_t e_w2 dX4_operation_6 k) ?_
    replace h := bq_e h
    obtain ⟨a3, rfl, h⟩ := h
    have hk_a3 := hq_w2 a3 rfl
    refine ym 10 (fun B k => z_alen (kd := 13) (ti := 1) (v := Int32.ofNat (sx_N σ a3)) B hk_a3 (by decide) rfl rfl dX4_operation_9 k) ?_
    by_cases c4 : (Int32.ofNat (sx_N σ a3)) ≤ x1
    · replace h := ite_p c4 h
      refine ym 22 (fun B k => z_icmp_ge (tgt := 22) B dX4_operation_10 (by decide) (fun _ => k) (fun q => absurd c4 q)) ?_
      refine ym 23 (fun B k => z_iconst (v := 0) B dX4_operation_22 (by decide) k) ?_
      obtain rfl := Option.some.inj h
      exact yr_i hT trivial rfl dX4_operation_23
    · replace h := ite_n c4 h
      refine ym 13 (fun B k => z_icmp_ge (tgt := 22) B dX4_operation_10 (by decide) (fun q => absurd q c4) (fun _ => k)) ?_
      refine ym 14 (fun B k => z_aload_n B dX4_operation_13 rfl 0 rfl k) ?_
      replace h := qv_e h
      obtain ⟨w5, e_w5, h⟩ := h
      have hq_w5 : rk σ w5 13 := rk_T hT hk_t rfl (by decide) e_w5
      refine ym 17 (fun B k => gf_X4_9 (x := w5) B hk_t e_w5 dX4_operation_14 k) ?_
      refine ym 18 (fun B k => z_iload_n B dX4_operation_17 rfl 1 rfl k) ?_
      replace h := bq_e h
      obtain ⟨a6, rfl, h⟩ := h
      have hk_a6 := hq_w5 a6 rfl
      replace h := ck_e h
      obtain ⟨hi_7, h⟩ := h
      refine ym 19 (fun B k => z_iald (j := (ti x1)) (x := (sx_I σ a6 (ti x1))) B hk_a6 rfl hi_7 rfl dX4_operation_18 k) ?_
      refine ym 23 (fun B k => z_goto (tgt := 23) B dX4_operation_19 (by decide) k) ?_
      obtain rfl := Option.some.inj h
      exact yr_i hT trivial rfl dX4_operation_23
set_option maxRecDepth 100000 in
set_option maxHeartbeats 4000000 in
theorem ct_X4_first (l : Launch) {g : gx_T} {σ : sx_T} {r : Int32}  {t : Nat} {x1 : Int32} (h : f_X4_first σ t x1 = some r) (hT : TS g σ) (hk_t : sx_K σ t = 6) : CT l g yX4_first cX4_first 2 (some .int) 0 0 [.ref t, .int x1] (True) σ σ (Qxi g r σ) := by
  refine yc_met (by decide) (Nat.le_of_ble_eq_true rfl) ?_
  refine yc_lv (show lv_args 0 [.ref t, .int x1] = [(0, .ref t), (1, .int x1)] from rfl) ?_
  show ZY l g _ _ _ _ _ _ _ _ _ _ _ _ _ _ σ 0 [(0, .ref t), (1, .int x1)] []
  unfold f_X4_first at h
  refine ym 1 (fun B k => z_iload_n B dX4_first_0 rfl 1 rfl k) ?_
  by_cases c1 : x1 < 0
  · replace h := ite_p c1 h
    refine ym 22 (fun B k => z_if_lt (tgt := 22) B dX4_first_1 (by decide) (fun _ => k) (fun q => absurd c1 q)) ?_
    refine ym 23 (fun B k => z_iconst (v := 0) B dX4_first_22 (by decide) k) ?_
    obtain rfl := Option.some.inj h
    exact yr_i hT trivial rfl dX4_first_23
  · replace h := ite_n c1 h
    refine ym 4 (fun B k => z_if_lt (tgt := 22) B dX4_first_1 (by decide) (fun q => absurd q c1) (fun _ => k)) ?_
    refine ym 5 (fun B k => z_iload_n B dX4_first_4 rfl 1 rfl k) ?_
    refine ym 6 (fun B k => z_aload_n B dX4_first_5 rfl 0 rfl k) ?_
    replace h := qv_e h
    obtain ⟨w2, e_w2, h⟩ := h
    have hq_w2 : rk σ w2 13 := rk_T hT hk_t rfl (by decide) e_w2
    refine ym 9 (fun B k => gf_X4_15 (x := w2) B hk_t e_w2 dX4_first_6 k) ?_
    replace h := bq_e h
    obtain ⟨a3, rfl, h⟩ := h
    have hk_a3 := hq_w2 a3 rfl
    refine ym 10 (fun B k => z_alen (kd := 13) (ti := 1) (v := Int32.ofNat (sx_N σ a3)) B hk_a3 (by decide) rfl rfl dX4_first_9 k) ?_
    by_cases c4 : (Int32.ofNat (sx_N σ a3)) ≤ x1
    · replace h := ite_p c4 h
      refine ym 22 (fun B k => z_icmp_ge (tgt := 22) B dX4_first_10 (by decide) (fun _ => k) (fun q => absurd c4 q)) ?_
      refine ym 23 (fun B k => z_iconst (v := 0) B dX4_first_22 (by decide) k) ?_
      obtain rfl := Option.some.inj h
      exact yr_i hT trivial rfl dX4_first_23
    · replace h := ite_n c4 h
      refine ym 13 (fun B k => z_icmp_ge (tgt := 22) B dX4_first_10 (by decide) (fun q => absurd q c4) (fun _ => k)) ?_
      refine ym 14 (fun B k => z_aload_n B dX4_first_13 rfl 0 rfl k) ?_
      replace h := qv_e h
      obtain ⟨w5, e_w5, h⟩ := h
      have hq_w5 : rk σ w5 13 := rk_T hT hk_t rfl (by decide) e_w5
      refine ym 17 (fun B k => gf_X4_15 (x := w5) B hk_t e_w5 dX4_first_14 k) ?_
      refine ym 18 (fun B k => z_iload_n B dX4_first_17 rfl 1 rfl k) ?_
      replace h := bq_e h
      obtain ⟨a6, rfl, h⟩ := h
      have hk_a6 := hq_w5 a6 rfl
      replace h := ck_e h
      obtain ⟨hi_7, h⟩ := h
      refine ym 19 (fun B k => z_iald (j := (ti x1)) (x := (sx_I σ a6 (ti x1))) B hk_a6 rfl hi_7 rfl dX4_first_18 k) ?_
      refine ym 23 (fun B k => z_goto (tgt := 23) B dX4_first_19 (by decide) k) ?_
      obtain rfl := Option.some.inj h
      exact yr_i hT trivial rfl dX4_first_23
set_option maxRecDepth 100000 in
set_option maxHeartbeats 4000000 in
theorem ct_X4_second (l : Launch) {g : gx_T} {σ : sx_T} {r : Int32}  {t : Nat} {x1 : Int32} (h : f_X4_second σ t x1 = some r) (hT : TS g σ) (hk_t : sx_K σ t = 6) : CT l g yX4_second cX4_second 2 (some .int) 0 0 [.ref t, .int x1] (True) σ σ (Qxi g r σ) := by
  refine yc_met (by decide) (Nat.le_of_ble_eq_true rfl) ?_
  refine yc_lv (show lv_args 0 [.ref t, .int x1] = [(0, .ref t), (1, .int x1)] from rfl) ?_
  show ZY l g _ _ _ _ _ _ _ _ _ _ _ _ _ _ σ 0 [(0, .ref t), (1, .int x1)] []
  unfold f_X4_second at h
  refine ym 1 (fun B k => z_iload_n B dX4_second_0 rfl 1 rfl k) ?_
  by_cases c1 : x1 < 0
  · replace h := ite_p c1 h
    refine ym 22 (fun B k => z_if_lt (tgt := 22) B dX4_second_1 (by decide) (fun _ => k) (fun q => absurd c1 q)) ?_
    refine ym 23 (fun B k => z_iconst (v := 0) B dX4_second_22 (by decide) k) ?_
    obtain rfl := Option.some.inj h
    exact yr_i hT trivial rfl dX4_second_23
  · replace h := ite_n c1 h
    refine ym 4 (fun B k => z_if_lt (tgt := 22) B dX4_second_1 (by decide) (fun q => absurd q c1) (fun _ => k)) ?_
    refine ym 5 (fun B k => z_iload_n B dX4_second_4 rfl 1 rfl k) ?_
    refine ym 6 (fun B k => z_aload_n B dX4_second_5 rfl 0 rfl k) ?_
    replace h := qv_e h
    obtain ⟨w2, e_w2, h⟩ := h
    have hq_w2 : rk σ w2 13 := rk_T hT hk_t rfl (by decide) e_w2
    refine ym 9 (fun B k => gf_X4_18 (x := w2) B hk_t e_w2 dX4_second_6 k) ?_
    replace h := bq_e h
    obtain ⟨a3, rfl, h⟩ := h
    have hk_a3 := hq_w2 a3 rfl
    refine ym 10 (fun B k => z_alen (kd := 13) (ti := 1) (v := Int32.ofNat (sx_N σ a3)) B hk_a3 (by decide) rfl rfl dX4_second_9 k) ?_
    by_cases c4 : (Int32.ofNat (sx_N σ a3)) ≤ x1
    · replace h := ite_p c4 h
      refine ym 22 (fun B k => z_icmp_ge (tgt := 22) B dX4_second_10 (by decide) (fun _ => k) (fun q => absurd c4 q)) ?_
      refine ym 23 (fun B k => z_iconst (v := 0) B dX4_second_22 (by decide) k) ?_
      obtain rfl := Option.some.inj h
      exact yr_i hT trivial rfl dX4_second_23
    · replace h := ite_n c4 h
      refine ym 13 (fun B k => z_icmp_ge (tgt := 22) B dX4_second_10 (by decide) (fun q => absurd q c4) (fun _ => k)) ?_
      refine ym 14 (fun B k => z_aload_n B dX4_second_13 rfl 0 rfl k) ?_
      replace h := qv_e h
      obtain ⟨w5, e_w5, h⟩ := h
      have hq_w5 : rk σ w5 13 := rk_T hT hk_t rfl (by decide) e_w5
      refine ym 17 (fun B k => gf_X4_18 (x := w5) B hk_t e_w5 dX4_second_14 k) ?_
      refine ym 18 (fun B k => z_iload_n B dX4_second_17 rfl 1 rfl k) ?_
      replace h := bq_e h
      obtain ⟨a6, rfl, h⟩ := h
      have hk_a6 := hq_w5 a6 rfl
      replace h := ck_e h
      obtain ⟨hi_7, h⟩ := h
      refine ym 19 (fun B k => z_iald (j := (ti x1)) (x := (sx_I σ a6 (ti x1))) B hk_a6 rfl hi_7 rfl dX4_second_18 k) ?_
      refine ym 23 (fun B k => z_goto (tgt := 23) B dX4_second_19 (by decide) k) ?_
      obtain rfl := Option.some.inj h
      exact yr_i hT trivial rfl dX4_second_23
set_option maxRecDepth 100000 in
set_option maxHeartbeats 4000000 in
theorem ct_X3_isFull (l : Launch) {g : gx_T} {σ : sx_T} {r : Int32}  {t : Nat} (h : f_X3_isFull σ t = some r) (hT : TS g σ) (hk_t : sx_K σ t = 5) : CT l g yX3_isFull cX3_isFull 1 (some .boolean) 0 0 [.ref t] (r = 0 ∨ r = 1) σ σ (Qxi g r σ) := by
  refine yc_met (by decide) (Nat.le_of_ble_eq_true rfl) ?_
  refine yc_lv (show lv_args 0 [.ref t] = [(0, .ref t)] from rfl) ?_
  show ZY l g _ _ _ _ _ _ _ _ _ _ _ _ _ _ σ 0 [(0, .ref t)] []
  unfold f_X3_isFull at h
  refine ym 1 (fun B k => z_aload_n B dX3_isFull_0 rfl 0 rfl k) ?_
  refine ym 4 (fun B k => gf_X3_15 (x := (sx_I σ t 1)) B hk_t rfl dX3_isFull_1 k) ?_
  refine ym 6 (fun B k => z_bipush (v := 20) B dX3_isFull_4 (by decide) k) ?_
  by_cases c1 : (sx_I σ t 1) < 20
  · replace h := ite_p c1 h
    refine ym 13 (fun B k => z_icmp_lt (tgt := 13) B dX3_isFull_6 (by decide) (fun _ => k) (fun q => absurd c1 q)) ?_
    refine ym 14 (fun B k => z_iconst (v := 0) B dX3_isFull_13 (by decide) k) ?_
    obtain rfl := Option.some.inj h
    exact yr_z hT (Or.inl rfl) rfl (Or.inl rfl) dX3_isFull_14
  · replace h := ite_n c1 h
    refine ym 9 (fun B k => z_icmp_lt (tgt := 13) B dX3_isFull_6 (by decide) (fun q => absurd q c1) (fun _ => k)) ?_
    refine ym 10 (fun B k => z_iconst (v := 1) B dX3_isFull_9 (by decide) k) ?_
    refine ym 14 (fun B k => z_goto (tgt := 14) B dX3_isFull_10 (by decide) k) ?_
    obtain rfl := Option.some.inj h
    exact yr_z hT (Or.inr rfl) rfl (Or.inr rfl) dX3_isFull_14
