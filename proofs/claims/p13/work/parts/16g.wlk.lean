set_option maxRecDepth 100000 in
set_option maxHeartbeats 4000000 in
theorem ct_X9_adds (l : Launch) {g : gx_T} {σ : sx_T} {u : sx_T}  {t : Nat} {x1 : Int32} {x2 : Int32} {x3 : Int64} (h : f_X9_adds σ t x1 x2 x3 = some u) (hT : TS g σ) (hk_t : sx_K σ t = 11) : CT l g yX9_adds cX9_adds 5 none 0 0 [.ref t, .int x1, .int x2, .long x3] (True) u σ (Qxv g u) := by
  refine yc_met (by decide) (Nat.le_of_ble_eq_true rfl) ?_
  refine yc_lv (show lv_args 0 [.ref t, .int x1, .int x2, .long x3] = [(0, .ref t), (1, .int x1), (2, .int x2), (3, .long x3)] from rfl) ?_
  show ZY l g _ _ _ _ _ _ _ _ _ _ _ _ _ _ σ 0 [(0, .ref t), (1, .int x1), (2, .int x2), (3, .long x3)] []
  unfold f_X9_adds at h
  refine ym 1 (fun B k => z_aload_n B dX9_adds_0 rfl 0 rfl k) ?_
  replace h := qv_e h
  obtain ⟨w1, e_w1, h⟩ := h
  have hq_w1 : rk σ w1 13 := rk_T hT hk_t rfl (by decide) e_w1
  refine ym 4 (fun B k => gf_X9_44 (x := w1) B hk_t e_w1 dX9_adds_1 k) ?_
  refine ym 7 (fun B k => z_sipush (v := 160) B dX9_adds_4 (by decide) k) ?_
  refine ym 8 (fun B k => z_iload_n B dX9_adds_7 rfl 1 rfl k) ?_
  refine ym 9 (fun B k => z_imul B dX9_adds_8 k) ?_
  refine ym 10 (fun B k => z_aload_n B dX9_adds_9 rfl 0 rfl k) ?_
  replace h := qv_e h
  obtain ⟨w2, e_w2, h⟩ := h
  have hq_w2 : rk σ w2 13 := rk_T hT hk_t rfl (by decide) e_w2
  refine ym 13 (fun B k => gf_X9_35 (x := w2) B hk_t e_w2 dX9_adds_10 k) ?_
  refine ym 14 (fun B k => z_iload_n B dX9_adds_13 rfl 1 rfl k) ?_
  replace h := bq_e h
  obtain ⟨a3, rfl, h⟩ := h
  have hk_a3 := hq_w2 a3 rfl
  replace h := ck_e h
  obtain ⟨hi_4, h⟩ := h
  refine ym 15 (fun B k => z_iald (j := (ti x1)) (x := (sx_I σ a3 (ti x1))) B hk_a3 rfl hi_4 rfl dX9_adds_14 k) ?_
  refine ym 16 (fun B k => z_iadd B dX9_adds_15 k) ?_
  refine ym 17 (fun B k => z_iload_n B dX9_adds_16 rfl 2 rfl k) ?_
  replace h := bq_e h
  obtain ⟨a5, rfl, h⟩ := h
  have hk_a5 := hq_w1 a5 rfl
  replace h := ck_e h
  obtain ⟨hi_6, h⟩ := h
  have j7 := hk_a5
  refine ymw (σ' := (wx_I σ a5 (ti ((160 * x1) + (sx_I σ a3 (ti x1)))) x2)) 18 e_I (fun B _ k => z_iast (j := (ti ((160 * x1) + (sx_I σ a3 (ti x1))))) B hk_a5 rfl hi_6 rfl dX9_adds_17 k) ?_
  have hT := TS_I (k := (ti ((160 * x1) + (sx_I σ a3 (ti x1))))) (x := x2) hT hk_a5 (Or.inl rfl)
  have hk_t := kk_I (σ := σ) (a := a5) (k := (ti ((160 * x1) + (sx_I σ a3 (ti x1))))) (x := x2) hk_t
  refine ym 19 (fun B k => z_aload_n B dX9_adds_18 rfl 0 rfl k) ?_
  replace h := qv_e h
  obtain ⟨w8, e_w8, h⟩ := h
  have hq_w8 : rk (wx_I σ a5 (ti ((160 * x1) + (sx_I σ a3 (ti x1)))) x2) w8 14 := rk_T hT hk_t rfl (by decide) ((rR_I rfl).trans e_w8)
  refine ym 22 (fun B k => gf_X9_47 (x := w8) B hk_t ((rR_I rfl).trans e_w8) dX9_adds_19 k) ?_
  refine ym 25 (fun B k => z_sipush (v := 160) B dX9_adds_22 (by decide) k) ?_
  refine ym 26 (fun B k => z_iload_n B dX9_adds_25 rfl 1 rfl k) ?_
  refine ym 27 (fun B k => z_imul B dX9_adds_26 k) ?_
  refine ym 28 (fun B k => z_aload_n B dX9_adds_27 rfl 0 rfl k) ?_
  replace h := qv_e h
  obtain ⟨w9, e_w9, h⟩ := h
  have hq_w9 : rk (wx_I σ a5 (ti ((160 * x1) + (sx_I σ a3 (ti x1)))) x2) w9 13 := rk_T hT hk_t rfl (by decide) ((rR_I rfl).trans e_w9)
  refine ym 31 (fun B k => gf_X9_35 (x := w9) B hk_t ((rR_I rfl).trans e_w9) dX9_adds_28 k) ?_
  refine ym 32 (fun B k => z_iload_n B dX9_adds_31 rfl 1 rfl k) ?_
  replace h := bq_e h
  obtain ⟨a10, rfl, h⟩ := h
  have hk_a10 := hq_w9 a10 rfl
  replace h := ck_e h
  obtain ⟨hi_11, h⟩ := h
  refine ym 33 (fun B k => z_iald (j := (ti x1)) (x := (sx_I (wx_I σ a5 (ti ((160 * x1) + (sx_I σ a3 (ti x1)))) x2) a10 (ti x1))) B hk_a10 rfl hi_11 rfl dX9_adds_32 k) ?_
  refine ym 34 (fun B k => z_iadd B dX9_adds_33 k) ?_
  refine ym 35 (fun B k => z_lload_n B dX9_adds_34 rfl 3 rfl k) ?_
  replace h := bq_e h
  obtain ⟨a12, rfl, h⟩ := h
  have hk_a12 := hq_w8 a12 rfl
  replace h := ck_e h
  obtain ⟨hi_13, h⟩ := h
  have j14 := hk_a12
  refine ymw (σ' := (wx_J (wx_I σ a5 (ti ((160 * x1) + (sx_I σ a3 (ti x1)))) x2) a12 (ti ((160 * x1) + (sx_I (wx_I σ a5 (ti ((160 * x1) + (sx_I σ a3 (ti x1)))) x2) a10 (ti x1)))) x3)) 36 e_J (fun B _ k => z_last (j := (ti ((160 * x1) + (sx_I (wx_I σ a5 (ti ((160 * x1) + (sx_I σ a3 (ti x1)))) x2) a10 (ti x1))))) B hk_a12 rfl hi_13 rfl dX9_adds_35 k) ?_
  have hT := TS_J (a := a12) (k := (ti ((160 * x1) + (sx_I (wx_I σ a5 (ti ((160 * x1) + (sx_I σ a3 (ti x1)))) x2) a10 (ti x1))))) (x := x3) hT
  have hk_t := kk_J (σ := (wx_I σ a5 (ti ((160 * x1) + (sx_I σ a3 (ti x1)))) x2)) (a := a12) (k := (ti ((160 * x1) + (sx_I (wx_I σ a5 (ti ((160 * x1) + (sx_I σ a3 (ti x1)))) x2) a10 (ti x1))))) (x := x3) hk_t
  refine ym 37 (fun B k => z_aload_n B dX9_adds_36 rfl 0 rfl k) ?_
  replace h := qv_e h
  obtain ⟨w15, e_w15, h⟩ := h
  have hq_w15 : rk (wx_J (wx_I σ a5 (ti ((160 * x1) + (sx_I σ a3 (ti x1)))) x2) a12 (ti ((160 * x1) + (sx_I (wx_I σ a5 (ti ((160 * x1) + (sx_I σ a3 (ti x1)))) x2) a10 (ti x1)))) x3) w15 13 := rk_T hT hk_t rfl (by decide) ((rR_J (rR_I rfl)).trans e_w15)
  refine ym 40 (fun B k => gf_X9_35 (x := w15) B hk_t ((rR_J (rR_I rfl)).trans e_w15) dX9_adds_37 k) ?_
  refine ym 41 (fun B k => z_iload_n B dX9_adds_40 rfl 1 rfl k) ?_
  refine ym 42 (fun B k => z_dup2 B dX9_adds_41 rfl (by cases w15 <;> rfl) k) ?_
  replace h := bq_e h
  obtain ⟨a16, rfl, h⟩ := h
  have hk_a16 := hq_w15 a16 rfl
  replace h := ck_e h
  obtain ⟨hi_17, h⟩ := h
  refine ym 43 (fun B k => z_iald (j := (ti x1)) (x := (sx_I (wx_J (wx_I σ a5 (ti ((160 * x1) + (sx_I σ a3 (ti x1)))) x2) a12 (ti ((160 * x1) + (sx_I (wx_I σ a5 (ti ((160 * x1) + (sx_I σ a3 (ti x1)))) x2) a10 (ti x1)))) x3) a16 (ti x1))) B hk_a16 rfl hi_17 rfl dX9_adds_42 k) ?_
  refine ym 44 (fun B k => z_iconst (v := 1) B dX9_adds_43 (by decide) k) ?_
  refine ym 45 (fun B k => z_iadd B dX9_adds_44 k) ?_
  replace h := ck_e h
  obtain ⟨hi_18, h⟩ := h
  have j19 := hk_a16
  refine ymw (σ' := (wx_I (wx_J (wx_I σ a5 (ti ((160 * x1) + (sx_I σ a3 (ti x1)))) x2) a12 (ti ((160 * x1) + (sx_I (wx_I σ a5 (ti ((160 * x1) + (sx_I σ a3 (ti x1)))) x2) a10 (ti x1)))) x3) a16 (ti x1) ((sx_I (wx_J (wx_I σ a5 (ti ((160 * x1) + (sx_I σ a3 (ti x1)))) x2) a12 (ti ((160 * x1) + (sx_I (wx_I σ a5 (ti ((160 * x1) + (sx_I σ a3 (ti x1)))) x2) a10 (ti x1)))) x3) a16 (ti x1)) + 1))) 46 e_I (fun B _ k => z_iast (j := (ti x1)) B hk_a16 rfl hi_18 rfl dX9_adds_45 k) ?_
  have hT := TS_I (k := (ti x1)) (x := ((sx_I (wx_J (wx_I σ a5 (ti ((160 * x1) + (sx_I σ a3 (ti x1)))) x2) a12 (ti ((160 * x1) + (sx_I (wx_I σ a5 (ti ((160 * x1) + (sx_I σ a3 (ti x1)))) x2) a10 (ti x1)))) x3) a16 (ti x1)) + 1)) hT hk_a16 (Or.inl rfl)
  have hk_t := kk_I (σ := (wx_J (wx_I σ a5 (ti ((160 * x1) + (sx_I σ a3 (ti x1)))) x2) a12 (ti ((160 * x1) + (sx_I (wx_I σ a5 (ti ((160 * x1) + (sx_I σ a3 (ti x1)))) x2) a10 (ti x1)))) x3)) (a := a16) (k := (ti x1)) (x := ((sx_I (wx_J (wx_I σ a5 (ti ((160 * x1) + (sx_I σ a3 (ti x1)))) x2) a12 (ti ((160 * x1) + (sx_I (wx_I σ a5 (ti ((160 * x1) + (sx_I σ a3 (ti x1)))) x2) a10 (ti x1)))) x3) a16 (ti x1)) + 1)) hk_t
  obtain rfl := Option.some.inj h
  exact yr_v hT trivial rfl dX9_adds_46
set_option maxRecDepth 100000 in
set_option maxHeartbeats 4000000 in
theorem tb_X9_meets_60 {l : Launch} {g : gx_T} {σ : sx_T} {u : sx_T} {r : Int32} {As : Array Value}  {t : Nat} {y0 : Int32} (h : fb_X9_meets_60 σ t y0 = some (r, u)) (hT : TS g σ) (hk_t : sx_K σ t = 11) (hz_y0 : y0 = 0 ∨ y0 = 1) : ZY l g cX9_meets RX9 "meets" (some .boolean) 8 1 24 0 0 false As (QM g As (Qxi g r u)) (r = 0 ∨ r = 1) u σ 60 [(0, .ref t)] [.int y0, .ref t] := by
  unfold fb_X9_meets_60 at h
  have j1 := hk_t
  refine ymw (σ' := (wx_I σ t 26 y0)) 63 e_I (fun B hin k => pf_X9_103 (x := y0) B hz_y0 hk_t rfl dX9_meets_60 k) ?_
  have hT := TS_I (k := 26) (x := y0) hT hk_t (Or.inr hz_y0)
  have hk_t := kk_I (σ := σ) (a := t) (k := 26) (x := y0) hk_t
  refine ym 64 (fun B k => z_aload_n B dX9_meets_63 rfl 0 rfl k) ?_
  refine ym 65 (fun B k => z_dup B dX9_meets_64 rfl k) ?_
  refine ym 68 (fun B k => gf_X9_107 (x := (sx_I σ t 27)) B hk_t (rI_n (by decide) rfl) dX9_meets_65 k) ?_
  refine ym 69 (fun B k => z_iconst (v := 1) B dX9_meets_68 (by decide) k) ?_
  refine ym 70 (fun B k => z_iadd B dX9_meets_69 k) ?_
  have j2 := hk_t
  refine ymw (σ' := (wx_I (wx_I σ t 26 y0) t 27 ((sx_I σ t 27) + 1))) 73 e_I (fun B hin k => pf_X9_107 (x := ((sx_I σ t 27) + 1)) B hk_t rfl dX9_meets_70 k) ?_
  have hT := TS_I (k := 27) (x := ((sx_I σ t 27) + 1)) hT hk_t (Or.inl rfl)
  have hk_t := kk_I (σ := (wx_I σ t 26 y0)) (a := t) (k := 27) (x := ((sx_I σ t 27) + 1)) hk_t
  refine ym 74 (fun B k => z_aload_n B dX9_meets_73 rfl 0 rfl k) ?_
  refine ym 77 (fun B k => gf_X9_103 (x := y0) B hk_t (rI_n (by decide) rI_s) dX9_meets_74 k) ?_
  obtain ⟨rfl, rfl⟩ := Prod.mk.inj (Option.some.inj h)
  exact yr_z hT hz_y0 rfl hz_y0 dX9_meets_77
set_option maxRecDepth 100000 in
set_option maxHeartbeats 4000000 in
theorem tb_X9_meets_59 {l : Launch} {g : gx_T} {σ : sx_T} {u : sx_T} {r : Int32} {As : Array Value}  {t : Nat} (h : fb_X9_meets_59 σ t = some (r, u)) (hT : TS g σ) (hk_t : sx_K σ t = 11) : ZY l g cX9_meets RX9 "meets" (some .boolean) 8 1 24 0 0 false As (QM g As (Qxi g r u)) (r = 0 ∨ r = 1) u σ 59 [(0, .ref t)] [.ref t] := by
  unfold fb_X9_meets_59 at h
  refine ym 60 (fun B k => z_iconst (v := 0) B dX9_meets_59 (by decide) k) ?_
  refine y_sub [(0, .ref t)] [0] rfl ?_
  exact tb_X9_meets_60 h hT hk_t (Or.inl rfl)
set_option maxRecDepth 100000 in
set_option maxHeartbeats 4000000 in
theorem tb_X9_meets_55 {l : Launch} {g : gx_T} {σ : sx_T} {u : sx_T} {r : Int32} {As : Array Value}  {t : Nat} (h : fb_X9_meets_55 σ t = some (r, u)) (hT : TS g σ) (hk_t : sx_K σ t = 11) : ZY l g cX9_meets RX9 "meets" (some .boolean) 8 1 24 0 0 false As (QM g As (Qxi g r u)) (r = 0 ∨ r = 1) u σ 55 [(0, .ref t)] [.ref t] := by
  unfold fb_X9_meets_55 at h
  refine ym 56 (fun B k => z_iconst (v := 1) B dX9_meets_55 (by decide) k) ?_
  refine ym 60 (fun B k => z_goto (tgt := 60) B dX9_meets_56 (by decide) k) ?_
  refine y_sub [(0, .ref t)] [0] rfl ?_
  exact tb_X9_meets_60 h hT hk_t (Or.inr rfl)
set_option maxRecDepth 100000 in
set_option maxHeartbeats 4000000 in
theorem ct_X9_meets (l : Launch) {g : gx_T} {σ : sx_T} {u : sx_T} {r : Int32}  {t : Nat} {x1 : Int32} {x2 : Int32} {x3 : Int32} {x4 : Int32} {x5 : Int64} {x7 : Int32} (h : f_X9_meets σ t x1 x2 x3 x4 x5 x7 = some (r, u)) (hT : TS g σ) (hk_t : sx_K σ t = 11) (hz_x3 : x3 = 0 ∨ x3 = 1) (hz_x7 : x7 = 0 ∨ x7 = 1) : CT l g yX9_meets cX9_meets 8 (some .boolean) 1 24 [.ref t, .int x1, .int x2, .int x3, .int x4, .long x5, .int x7] (r = 0 ∨ r = 1) u σ (Qxi g r u) := by
  refine yc_met (by decide) (Nat.le_of_ble_eq_true rfl) ?_
  refine yc_lv (show lv_args 0 [.ref t, .int x1, .int x2, .int x3, .int x4, .long x5, .int x7] = [(0, .ref t), (1, .int x1), (2, .int x2), (3, .int x3), (4, .int x4), (5, .long x5), (7, .int x7)] from rfl) ?_
  show ZY l g _ _ _ _ _ _ _ _ _ _ _ _ _ _ σ 0 [(0, .ref t), (1, .int x1), (2, .int x2), (3, .int x3), (4, .int x4), (5, .long x5), (7, .int x7)] []
  unfold f_X9_meets at h
  refine ym 1 (fun B k => z_aload_n B dX9_meets_0 rfl 0 rfl k) ?_
  refine ym 4 (fun B k => gf_X9_107 (x := (sx_I σ t 27)) B hk_t rfl dX9_meets_1 k) ?_
  refine ym 5 (fun B k => z_iload_n B dX9_meets_4 rfl 2 rfl k) ?_
  by_cases c1 : x2 ≤ (sx_I σ t 27)
  · replace h := ite_p c1 h
    refine ym 78 (fun B k => z_icmp_ge (tgt := 78) B dX9_meets_5 (by decide) (fun _ => k) (fun q => absurd c1 q)) ?_
    refine ym 79 (fun B k => z_iload_n B dX9_meets_78 rfl 3 rfl k) ?_
    by_cases c2 : x3 = 0
    · replace h := ite_p c2 h
      refine ym 101 (fun B k => z_if_eq (tgt := 101) B dX9_meets_79 (by decide) (fun _ => k) (fun q => absurd c2 q)) ?_
      refine ym 102 (fun B k => z_iload_n B dX9_meets_101 rfl 3 rfl k) ?_
      obtain ⟨rfl, rfl⟩ := Prod.mk.inj (Option.some.inj h)
      exact yr_z hT hz_x3 rfl hz_x3 dX9_meets_102
    · replace h := ite_n c2 h
      refine ym 82 (fun B k => z_if_eq (tgt := 101) B dX9_meets_79 (by decide) (fun q => absurd q c2) (fun _ => k)) ?_
      refine ym 83 (fun B k => z_aload_n B dX9_meets_82 rfl 0 rfl k) ?_
      refine ym 84 (fun B k => z_iload_n B dX9_meets_83 rfl 1 rfl k) ?_
      refine ym 86 (fun B k => z_iload B dX9_meets_84 4 rfl k) ?_
      refine ym 88 (fun B k => z_lload B dX9_meets_86 5 rfl k) ?_
      replace h := br_e h
      obtain ⟨u4, h3, h⟩ := h
      have m5 := ct_X9_adds l (g := g) h3 hT hk_t
      refine yc_Vv (Al := [.int x1, .int x4, .long x5]) (rest := []) 91 rfl cw_X9_143 cx_10 dX9_meets_88 m5 hk_t rfl (by decide) rfl (Nat.le_of_ble_eq_true rfl) ?_
      have hk_t := k_G m5.1.1 (by decide) hk_t
      have hT := m5.1.1.2.2.2
      refine ym 92 (fun B k => z_aload_n B dX9_meets_91 rfl 0 rfl k) ?_
      refine ym 93 (fun B k => z_dup B dX9_meets_92 rfl k) ?_
      refine ym 96 (fun B k => gf_X9_107 (x := (sx_I u4 t 27)) B hk_t rfl dX9_meets_93 k) ?_
      refine ym 97 (fun B k => z_iconst (v := 1) B dX9_meets_96 (by decide) k) ?_
      refine ym 98 (fun B k => z_iadd B dX9_meets_97 k) ?_
      have j6 := hk_t
      refine ymw (σ' := (wx_I u4 t 27 ((sx_I u4 t 27) + 1))) 101 e_I (fun B hin k => pf_X9_107 (x := ((sx_I u4 t 27) + 1)) B hk_t rfl dX9_meets_98 k) ?_
      have hT := TS_I (k := 27) (x := ((sx_I u4 t 27) + 1)) hT hk_t (Or.inl rfl)
      have hk_t := kk_I (σ := u4) (a := t) (k := 27) (x := ((sx_I u4 t 27) + 1)) hk_t
      refine ym 102 (fun B k => z_iload_n B dX9_meets_101 rfl 3 rfl k) ?_
      obtain ⟨rfl, rfl⟩ := Prod.mk.inj (Option.some.inj h)
      exact yr_z hT hz_x3 rfl hz_x3 dX9_meets_102
  · replace h := ite_n c1 h
    refine ym 8 (fun B k => z_icmp_ge (tgt := 78) B dX9_meets_5 (by decide) (fun q => absurd q c1) (fun _ => k)) ?_
    refine ym 9 (fun B k => z_aload_n B dX9_meets_8 rfl 0 rfl k) ?_
    refine ym 10 (fun B k => z_aload_n B dX9_meets_9 rfl 0 rfl k) ?_
    replace h := qv_e h
    obtain ⟨w7, e_w7, h⟩ := h
    have hq_w7 : rk σ w7 13 := rk_T hT hk_t rfl (by decide) e_w7
    refine ym 13 (fun B k => gf_X9_44 (x := w7) B hk_t e_w7 dX9_meets_10 k) ?_
    refine ym 16 (fun B k => z_sipush (v := 160) B dX9_meets_13 (by decide) k) ?_
    refine ym 17 (fun B k => z_iload_n B dX9_meets_16 rfl 1 rfl k) ?_
    refine ym 18 (fun B k => z_imul B dX9_meets_17 k) ?_
    refine ym 19 (fun B k => z_aload_n B dX9_meets_18 rfl 0 rfl k) ?_
    refine ym 22 (fun B k => gf_X9_107 (x := (sx_I σ t 27)) B hk_t rfl dX9_meets_19 k) ?_
    refine ym 23 (fun B k => z_iadd B dX9_meets_22 k) ?_
    replace h := bq_e h
    obtain ⟨a8, rfl, h⟩ := h
    have hk_a8 := hq_w7 a8 rfl
    replace h := ck_e h
    obtain ⟨hi_9, h⟩ := h
    refine ym 24 (fun B k => z_iald (j := (ti ((160 * x1) + (sx_I σ t 27)))) (x := (sx_I σ a8 (ti ((160 * x1) + (sx_I σ t 27))))) B hk_a8 rfl hi_9 rfl dX9_meets_23 k) ?_
    refine ym 26 (fun B k => z_iload B dX9_meets_24 4 rfl k) ?_
    by_cases c10 : (sx_I σ a8 (ti ((160 * x1) + (sx_I σ t 27)))) = x4
    · replace h := ite_p c10 h
      refine ym 29 (fun B k => z_icmp_ne (tgt := 59) B dX9_meets_26 (by decide) (fun q => absurd c10 q) (fun _ => k)) ?_
      refine ym 31 (fun B k => z_iload B dX9_meets_29 6 rfl k) ?_
      by_cases c11 : x7 = 0
      · replace h := ite_p c11 h
        refine ym 34 (fun B k => z_if_ne (tgt := 55) B dX9_meets_31 (by decide) (fun q => absurd c11 q) (fun _ => k)) ?_
        refine ym 35 (fun B k => z_aload_n B dX9_meets_34 rfl 0 rfl k) ?_
        replace h := qv_e h
        obtain ⟨w12, e_w12, h⟩ := h
        have hq_w12 : rk σ w12 14 := rk_T hT hk_t rfl (by decide) e_w12
        refine ym 38 (fun B k => gf_X9_47 (x := w12) B hk_t e_w12 dX9_meets_35 k) ?_
        refine ym 41 (fun B k => z_sipush (v := 160) B dX9_meets_38 (by decide) k) ?_
        refine ym 42 (fun B k => z_iload_n B dX9_meets_41 rfl 1 rfl k) ?_
        refine ym 43 (fun B k => z_imul B dX9_meets_42 k) ?_
        refine ym 44 (fun B k => z_aload_n B dX9_meets_43 rfl 0 rfl k) ?_
        refine ym 47 (fun B k => gf_X9_107 (x := (sx_I σ t 27)) B hk_t rfl dX9_meets_44 k) ?_
        refine ym 48 (fun B k => z_iadd B dX9_meets_47 k) ?_
        replace h := bq_e h
        obtain ⟨a13, rfl, h⟩ := h
        have hk_a13 := hq_w12 a13 rfl
        replace h := ck_e h
        obtain ⟨hi_14, h⟩ := h
        refine ym 49 (fun B k => z_lald (j := (ti ((160 * x1) + (sx_I σ t 27)))) (x := (sx_J σ a13 (ti ((160 * x1) + (sx_I σ t 27))))) B hk_a13 rfl hi_14 rfl dX9_meets_48 k) ?_
        refine ym 51 (fun B k => z_lload B dX9_meets_49 5 rfl k) ?_
        refine ym 52 (fun B k => z_lcmp (v := lg_cmp (sx_J σ a13 (ti ((160 * x1) + (sx_I σ t 27)))) x5) B dX9_meets_51 rfl k) ?_
        by_cases c15 : (lg_cmp (sx_J σ a13 (ti ((160 * x1) + (sx_I σ t 27)))) x5) = 0
        · replace h := ite_p c15 h
          refine ym 55 (fun B k => z_if_ne (tgt := 59) B dX9_meets_52 (by decide) (fun q => absurd c15 q) (fun _ => k)) ?_
          refine y_sub [(0, .ref t)] [0] rfl ?_
          exact tb_X9_meets_55 h hT hk_t
        · replace h := ite_n c15 h
          refine ym 59 (fun B k => z_if_ne (tgt := 59) B dX9_meets_52 (by decide) (fun _ => k) (fun q => absurd q c15)) ?_
          refine y_sub [(0, .ref t)] [0] rfl ?_
          exact tb_X9_meets_59 h hT hk_t
      · replace h := ite_n c11 h
        refine ym 55 (fun B k => z_if_ne (tgt := 55) B dX9_meets_31 (by decide) (fun _ => k) (fun q => absurd q c11)) ?_
        refine y_sub [(0, .ref t)] [0] rfl ?_
        exact tb_X9_meets_55 h hT hk_t
    · replace h := ite_n c10 h
      refine ym 59 (fun B k => z_icmp_ne (tgt := 59) B dX9_meets_26 (by decide) (fun _ => k) (fun q => absurd q c10)) ?_
      refine y_sub [(0, .ref t)] [0] rfl ?_
      exact tb_X9_meets_59 h hT hk_t
set_option maxRecDepth 100000 in
set_option maxHeartbeats 4000000 in
theorem ct_X9_makesTask (l : Launch) {g : gx_T} {σ : sx_T} {u : sx_T} {r : Int32}  {t : Nat} {x1 : Int32} {x2 : Int32} (h : f_X9_makesTask σ t x1 x2 = some (r, u)) (hT : TS g σ) (hk_t : sx_K σ t = 11) : CT l g yX9_makesTask cX9_makesTask 3 (some .int) 0 0 [.ref t, .int x1, .int x2] (True) u σ (Qxi g r u) := by
  refine yc_met (by decide) (Nat.le_of_ble_eq_true rfl) ?_
  refine yc_lv (show lv_args 0 [.ref t, .int x1, .int x2] = [(0, .ref t), (1, .int x1), (2, .int x2)] from rfl) ?_
  show ZY l g _ _ _ _ _ _ _ _ _ _ _ _ _ _ σ 0 [(0, .ref t), (1, .int x1), (2, .int x2)] []
  unfold f_X9_makesTask at h
  refine ym 1 (fun B k => z_aload_n B dX9_makesTask_0 rfl 0 rfl k) ?_
  replace h := qv_e h
  obtain ⟨w1, e_w1, h⟩ := h
  have hq_w1 : rk σ w1 13 := rk_T hT hk_t rfl (by decide) e_w1
  refine ym 4 (fun B k => gf_X9_51 (x := w1) B hk_t e_w1 dX9_makesTask_1 k) ?_
  refine ym 5 (fun B k => z_aload_n B dX9_makesTask_4 rfl 0 rfl k) ?_
  refine ym 8 (fun B k => gf_X9_100 (x := (sx_I σ t 16)) B hk_t rfl dX9_makesTask_5 k) ?_
  refine ym 9 (fun B k => z_iload_n B dX9_makesTask_8 rfl 1 rfl k) ?_
  replace h := bq_e h
  obtain ⟨a2, rfl, h⟩ := h
  have hk_a2 := hq_w1 a2 rfl
  replace h := ck_e h
  obtain ⟨hi_3, h⟩ := h
  have j4 := hk_a2
  refine ymw (σ' := (wx_I σ a2 (ti (sx_I σ t 16)) x1)) 10 e_I (fun B _ k => z_iast (j := (ti (sx_I σ t 16))) B hk_a2 rfl hi_3 rfl dX9_makesTask_9 k) ?_
  have hT := TS_I (k := (ti (sx_I σ t 16))) (x := x1) hT hk_a2 (Or.inl rfl)
  have hk_t := kk_I (σ := σ) (a := a2) (k := (ti (sx_I σ t 16))) (x := x1) hk_t
  refine ym 11 (fun B k => z_aload_n B dX9_makesTask_10 rfl 0 rfl k) ?_
  replace h := qv_e h
  obtain ⟨w5, e_w5, h⟩ := h
  have hq_w5 : rk (wx_I σ a2 (ti (sx_I σ t 16)) x1) w5 13 := rk_T hT hk_t rfl (by decide) ((rR_I rfl).trans e_w5)
  refine ym 14 (fun B k => gf_X9_54 (x := w5) B hk_t ((rR_I rfl).trans e_w5) dX9_makesTask_11 k) ?_
  refine ym 15 (fun B k => z_aload_n B dX9_makesTask_14 rfl 0 rfl k) ?_
  refine ym 18 (fun B k => gf_X9_100 (x := (sx_I σ t 16)) B hk_t (rI_k (by decide) j4 (kd_I hk_t) rfl) dX9_makesTask_15 k) ?_
  refine ym 19 (fun B k => z_iload_n B dX9_makesTask_18 rfl 2 rfl k) ?_
  replace h := bq_e h
  obtain ⟨a6, rfl, h⟩ := h
  have hk_a6 := hq_w5 a6 rfl
  replace h := ck_e h
  obtain ⟨hi_7, h⟩ := h
  have j8 := hk_a6
  refine ymw (σ' := (wx_I (wx_I σ a2 (ti (sx_I σ t 16)) x1) a6 (ti (sx_I σ t 16)) x2)) 20 e_I (fun B _ k => z_iast (j := (ti (sx_I σ t 16))) B hk_a6 rfl hi_7 rfl dX9_makesTask_19 k) ?_
  have hT := TS_I (k := (ti (sx_I σ t 16))) (x := x2) hT hk_a6 (Or.inl rfl)
  have hk_t := kk_I (σ := (wx_I σ a2 (ti (sx_I σ t 16)) x1)) (a := a6) (k := (ti (sx_I σ t 16))) (x := x2) hk_t
  refine ym 21 (fun B k => z_aload_n B dX9_makesTask_20 rfl 0 rfl k) ?_
  replace h := qv_e h
  obtain ⟨w9, e_w9, h⟩ := h
  have hq_w9 : rk (wx_I (wx_I σ a2 (ti (sx_I σ t 16)) x1) a6 (ti (sx_I σ t 16)) x2) w9 13 := rk_T hT hk_t rfl (by decide) ((rR_I (rR_I rfl)).trans e_w9)
  refine ym 24 (fun B k => gf_X9_57 (x := w9) B hk_t ((rR_I (rR_I rfl)).trans e_w9) dX9_makesTask_21 k) ?_
  refine ym 25 (fun B k => z_aload_n B dX9_makesTask_24 rfl 0 rfl k) ?_
  refine ym 28 (fun B k => gf_X9_100 (x := (sx_I σ t 16)) B hk_t (rI_k (by decide) j8 (kd_I hk_t) (rI_k (by decide) j4 (kd_I (kd_I hk_t)) rfl)) dX9_makesTask_25 k) ?_
  refine ym 29 (fun B k => z_iconst (v := 0) B dX9_makesTask_28 (by decide) k) ?_
  replace h := bq_e h
  obtain ⟨a10, rfl, h⟩ := h
  have hk_a10 := hq_w9 a10 rfl
  replace h := ck_e h
  obtain ⟨hi_11, h⟩ := h
  have j12 := hk_a10
  refine ymw (σ' := (wx_I (wx_I (wx_I σ a2 (ti (sx_I σ t 16)) x1) a6 (ti (sx_I σ t 16)) x2) a10 (ti (sx_I σ t 16)) 0)) 30 e_I (fun B _ k => z_iast (j := (ti (sx_I σ t 16))) B hk_a10 rfl hi_11 rfl dX9_makesTask_29 k) ?_
  have hT := TS_I (k := (ti (sx_I σ t 16))) (x := 0) hT hk_a10 (Or.inl rfl)
  have hk_t := kk_I (σ := (wx_I (wx_I σ a2 (ti (sx_I σ t 16)) x1) a6 (ti (sx_I σ t 16)) x2)) (a := a10) (k := (ti (sx_I σ t 16))) (x := 0) hk_t
  refine ym 31 (fun B k => z_aload_n B dX9_makesTask_30 rfl 0 rfl k) ?_
  replace h := qv_e h
  obtain ⟨w13, e_w13, h⟩ := h
  have hq_w13 : rk (wx_I (wx_I (wx_I σ a2 (ti (sx_I σ t 16)) x1) a6 (ti (sx_I σ t 16)) x2) a10 (ti (sx_I σ t 16)) 0) w13 13 := rk_T hT hk_t rfl (by decide) ((rR_I (rR_I (rR_I rfl))).trans e_w13)
  refine ym 34 (fun B k => gf_X9_41 (x := w13) B hk_t ((rR_I (rR_I (rR_I rfl))).trans e_w13) dX9_makesTask_31 k) ?_
  refine ym 35 (fun B k => z_iload_n B dX9_makesTask_34 rfl 1 rfl k) ?_
  refine ym 36 (fun B k => z_aload_n B dX9_makesTask_35 rfl 0 rfl k) ?_
  refine ym 39 (fun B k => gf_X9_100 (x := (sx_I σ t 16)) B hk_t (rI_k (by decide) j12 (kd_I hk_t) (rI_k (by decide) j8 (kd_I (kd_I hk_t)) (rI_k (by decide) j4 (kd_I (kd_I (kd_I hk_t))) rfl))) dX9_makesTask_36 k) ?_
  replace h := bq_e h
  obtain ⟨a14, rfl, h⟩ := h
  have hk_a14 := hq_w13 a14 rfl
  replace h := ck_e h
  obtain ⟨hi_15, h⟩ := h
  have j16 := hk_a14
  refine ymw (σ' := (wx_I (wx_I (wx_I (wx_I σ a2 (ti (sx_I σ t 16)) x1) a6 (ti (sx_I σ t 16)) x2) a10 (ti (sx_I σ t 16)) 0) a14 (ti x1) (sx_I σ t 16))) 40 e_I (fun B _ k => z_iast (j := (ti x1)) B hk_a14 rfl hi_15 rfl dX9_makesTask_39 k) ?_
  have hT := TS_I (k := (ti x1)) (x := (sx_I σ t 16)) hT hk_a14 (Or.inl rfl)
  have hk_t := kk_I (σ := (wx_I (wx_I (wx_I σ a2 (ti (sx_I σ t 16)) x1) a6 (ti (sx_I σ t 16)) x2) a10 (ti (sx_I σ t 16)) 0)) (a := a14) (k := (ti x1)) (x := (sx_I σ t 16)) hk_t
  refine ym 41 (fun B k => z_aload_n B dX9_makesTask_40 rfl 0 rfl k) ?_
  refine ym 42 (fun B k => z_dup B dX9_makesTask_41 rfl k) ?_
  refine ym 45 (fun B k => gf_X9_100 (x := (sx_I σ t 16)) B hk_t (rI_k (by decide) j16 (kd_I hk_t) (rI_k (by decide) j12 (kd_I (kd_I hk_t)) (rI_k (by decide) j8 (kd_I (kd_I (kd_I hk_t))) (rI_k (by decide) j4 (kd_I (kd_I (kd_I (kd_I hk_t)))) rfl)))) dX9_makesTask_42 k) ?_
  refine ym 46 (fun B k => z_iconst (v := 1) B dX9_makesTask_45 (by decide) k) ?_
  refine ym 47 (fun B k => z_iadd B dX9_makesTask_46 k) ?_
  have j17 := hk_t
  refine ymw (σ' := (wx_I (wx_I (wx_I (wx_I (wx_I σ a2 (ti (sx_I σ t 16)) x1) a6 (ti (sx_I σ t 16)) x2) a10 (ti (sx_I σ t 16)) 0) a14 (ti x1) (sx_I σ t 16)) t 16 ((sx_I σ t 16) + 1))) 50 e_I (fun B hin k => pf_X9_100 (x := ((sx_I σ t 16) + 1)) B hk_t rfl dX9_makesTask_47 k) ?_
  have hT := TS_I (k := 16) (x := ((sx_I σ t 16) + 1)) hT hk_t (Or.inl rfl)
  have hk_t := kk_I (σ := (wx_I (wx_I (wx_I (wx_I σ a2 (ti (sx_I σ t 16)) x1) a6 (ti (sx_I σ t 16)) x2) a10 (ti (sx_I σ t 16)) 0) a14 (ti x1) (sx_I σ t 16))) (a := t) (k := 16) (x := ((sx_I σ t 16) + 1)) hk_t
  refine ym 51 (fun B k => z_aload_n B dX9_makesTask_50 rfl 0 rfl k) ?_
  refine ym 54 (fun B k => gf_X9_100 (x := ((sx_I σ t 16) + 1)) B hk_t rI_s dX9_makesTask_51 k) ?_
  refine ym 55 (fun B k => z_iconst (v := 1) B dX9_makesTask_54 (by decide) k) ?_
  refine ym 56 (fun B k => z_isub B dX9_makesTask_55 k) ?_
  obtain ⟨rfl, rfl⟩ := Prod.mk.inj (Option.some.inj h)
  exact yr_i hT trivial rfl dX9_makesTask_56
set_option maxRecDepth 100000 in
set_option maxHeartbeats 4000000 in
theorem tb_X9_undoes_88 {l : Launch} {g : gx_T} {σ : sx_T} {u : sx_T} {r : Int32} {As : Array Value}  {t : Nat} {x1 : Int32} {x2 : Int32} {x3 : Int32} {x4 : Int32} {y0 : Int32} (h : fb_X9_undoes_88 σ t x1 x2 x3 x4 y0 = some (r, u)) (hT : TS g σ) (hk_t : sx_K σ t = 11) (hz_x3 : x3 = 0 ∨ x3 = 1) (hz_y0 : y0 = 0 ∨ y0 = 1) : ZY l g cX9_undoes RX9 "undoes" (some .boolean) 6 2 51 0 0 false As (QM g As (Qxi g r u)) (r = 0 ∨ r = 1) u σ 88 [(0, .ref t), (1, .int x1), (2, .int x2), (3, .int x3), (4, .int x4)] [.int y0] := by
  unfold fb_X9_undoes_88 at h
  refine ym 90 (fun B k => z_istore (lv' := [(5, .int y0), (0, .ref t), (1, .int x1), (2, .int x2), (3, .int x3), (4, .int x4)]) B dX9_undoes_88 (by decide) rfl k) ?_
  refine ym 91 (fun B k => z_aload_n B dX9_undoes_90 rfl 1 rfl k) ?_
  refine ym 92 (fun B k => z_iload_n B dX9_undoes_91 rfl 2 rfl k) ?_
  refine ym 93 (fun B k => z_iload_n B dX9_undoes_92 rfl 3 rfl k) ?_
  refine ym 94 (fun B k => z_iload_n B dX9_undoes_93 rfl 4 rfl k) ?_
  refine ym 96 (fun B k => z_bipush (v := 11) B dX9_undoes_94 (by decide) k) ?_
  refine ym 98 (fun B k => z_iload B dX9_undoes_96 5 rfl k) ?_
  refine ym 99 (fun B k => z_i2l (v := x4.toInt64) B dX9_undoes_98 rfl k) ?_
  refine ym 100 (fun B k => z_iconst (v := 0) B dX9_undoes_99 (by decide) k) ?_
  replace h := bd_e h
  obtain ⟨r2, u3, h1, h⟩ := h
  have m4 := ct_X9_meets l (g := g) h1 hT hk_t hz_x3 (Or.inl rfl)
  refine yc_Vi (Al := [.int x1, .int x2, .int x3, .int 11, .long x4.toInt64, .int 0]) (rest := []) 103 rfl cw_X9_164 cx_10 dX9_undoes_100 m4 hk_t rfl (by decide) rfl (Nat.le_of_ble_eq_true rfl) ?_
  have hk_t := k_G m4.1.1 (by decide) hk_t
  have hT := m4.1.1.2.2.2
  have hz_r2 := m4.1.2
  by_cases c5 : r2 = 0
  · replace h := ite_p c5 h
    refine ym 106 (fun B k => z_if_ne (tgt := 108) B dX9_undoes_103 (by decide) (fun q => absurd c5 q) (fun _ => k)) ?_
    refine ym 107 (fun B k => z_iconst (v := 0) B dX9_undoes_106 (by decide) k) ?_
    obtain ⟨rfl, rfl⟩ := Prod.mk.inj (Option.some.inj h)
    exact yr_z hT (Or.inl rfl) rfl (Or.inl rfl) dX9_undoes_107
  · replace h := ite_n c5 h
    refine ym 108 (fun B k => z_if_ne (tgt := 108) B dX9_undoes_103 (by decide) (fun _ => k) (fun q => absurd q c5)) ?_
    refine ym 109 (fun B k => z_aload_n B dX9_undoes_108 rfl 1 rfl k) ?_
    refine ym 110 (fun B k => z_dup B dX9_undoes_109 rfl k) ?_
    refine ym 113 (fun B k => gf_X9_122 (x := (sx_I u3 t 32)) B hk_t rfl dX9_undoes_110 k) ?_
    refine ym 114 (fun B k => z_iconst (v := 1) B dX9_undoes_113 (by decide) k) ?_
    refine ym 115 (fun B k => z_isub B dX9_undoes_114 k) ?_
    have j6 := hk_t
    refine ymw (σ' := (wx_I u3 t 32 ((sx_I u3 t 32) - 1))) 118 e_I (fun B hin k => pf_X9_122 (x := ((sx_I u3 t 32) - 1)) B hk_t rfl dX9_undoes_115 k) ?_
    have hT := TS_I (k := 32) (x := ((sx_I u3 t 32) - 1)) hT hk_t (Or.inl rfl)
    have hk_t := kk_I (σ := u3) (a := t) (k := 32) (x := ((sx_I u3 t 32) - 1)) hk_t
    refine ym 119 (fun B k => z_aload_n B dX9_undoes_118 rfl 1 rfl k) ?_
    refine ym 121 (fun B k => z_bipush (v := 6) B dX9_undoes_119 (by decide) k) ?_
    have j7 := hk_t
    refine ymw (σ' := (wx_I (wx_I u3 t 32 ((sx_I u3 t 32) - 1)) t 30 6)) 124 e_I (fun B hin k => pf_X9_116 (x := 6) B hk_t rfl dX9_undoes_121 k) ?_
    have hT := TS_I (k := 30) (x := 6) hT hk_t (Or.inl rfl)
    have hk_t := kk_I (σ := (wx_I u3 t 32 ((sx_I u3 t 32) - 1))) (a := t) (k := 30) (x := 6) hk_t
    refine ym 125 (fun B k => z_aload_n B dX9_undoes_124 rfl 1 rfl k) ?_
    refine ym 127 (fun B k => z_iload B dX9_undoes_125 5 rfl k) ?_
    have j8 := hk_t
    refine ymw (σ' := (wx_I (wx_I (wx_I u3 t 32 ((sx_I u3 t 32) - 1)) t 30 6) t 31 x4)) 130 e_I (fun B hin k => pf_X9_119 (x := x4) B hk_t rfl dX9_undoes_127 k) ?_
    have hT := TS_I (k := 31) (x := x4) hT hk_t (Or.inl rfl)
    have hk_t := kk_I (σ := (wx_I (wx_I u3 t 32 ((sx_I u3 t 32) - 1)) t 30 6)) (a := t) (k := 31) (x := x4) hk_t
    refine ym 132 (fun B k => z_iload B dX9_undoes_130 0 rfl k) ?_
    by_cases c9 : y0 = 0
    · replace h := ite_p c9 h
      refine ym 143 (fun B k => z_if_eq (tgt := 143) B dX9_undoes_132 (by decide) (fun _ => k) (fun q => absurd c9 q)) ?_
      refine ym 144 (fun B k => z_iconst (v := 1) B dX9_undoes_143 (by decide) k) ?_
      obtain ⟨rfl, rfl⟩ := Prod.mk.inj (Option.some.inj h)
      exact yr_z hT (Or.inr rfl) rfl (Or.inr rfl) dX9_undoes_144
    · replace h := ite_n c9 h
      refine ym 135 (fun B k => z_if_eq (tgt := 143) B dX9_undoes_132 (by decide) (fun q => absurd q c9) (fun _ => k)) ?_
      refine ym 136 (fun B k => z_aload_n B dX9_undoes_135 rfl 1 rfl k) ?_
      refine ym 137 (fun B k => z_iload_n B dX9_undoes_136 rfl 2 rfl k) ?_
      refine ym 139 (fun B k => z_iload B dX9_undoes_137 5 rfl k) ?_
      replace h := bd_e h
      obtain ⟨r11, u12, h10, h⟩ := h
      have m13 := ct_X9_makesTask l (g := g) h10 hT hk_t
      refine yc_Vi (Al := [.int x1, .int x4]) (rest := []) 142 rfl cw_X9_189 cx_10 dX9_undoes_139 m13 hk_t rfl (by decide) rfl (Nat.le_of_ble_eq_true rfl) ?_
      have hk_t := k_G m13.1.1 (by decide) hk_t
      have hT := m13.1.1.2.2.2
      refine ym 143 (fun B k => z_pop B dX9_undoes_142 rfl k) ?_
      refine ym 144 (fun B k => z_iconst (v := 1) B dX9_undoes_143 (by decide) k) ?_
      obtain ⟨rfl, rfl⟩ := Prod.mk.inj (Option.some.inj h)
      exact yr_z hT (Or.inr rfl) rfl (Or.inr rfl) dX9_undoes_144
set_option maxRecDepth 100000 in
set_option maxHeartbeats 4000000 in
theorem tb_X9_undoes_56 {l : Launch} {g : gx_T} {σ : sx_T} {u : sx_T} {r : Int32} {As : Array Value}  {x4 : Int32} {y0 : Int32} {t : Nat} (h : fb_X9_undoes_56 σ x4 y0 t = some (r, u)) (hT : TS g σ) (hz_x4 : x4 = 0 ∨ x4 = 1) (hk_t : sx_K σ t = 11) : ZY l g cX9_undoes RX9 "undoes" (some .boolean) 6 2 51 0 0 false As (QM g As (Qxi g r u)) (r = 0 ∨ r = 1) u σ 56 [(4, .int x4)] [.int y0, .ref t] := by
  unfold fb_X9_undoes_56 at h
  have j1 := hk_t
  refine ymw (σ' := (wx_I σ t 37 y0)) 59 e_I (fun B hin k => pf_X9_134 (x := y0) B hk_t rfl dX9_undoes_56 k) ?_
  have hT := TS_I (k := 37) (x := y0) hT hk_t (Or.inl rfl)
  refine ym 61 (fun B k => z_iload B dX9_undoes_59 0 rfl k) ?_
  obtain ⟨rfl, rfl⟩ := Prod.mk.inj (Option.some.inj h)
  exact yr_z hT hz_x4 rfl hz_x4 dX9_undoes_61
set_option maxRecDepth 100000 in
set_option maxHeartbeats 4000000 in
theorem tb_X9_undoes_15 {l : Launch} {g : gx_T} {σ : sx_T} {u : sx_T} {r : Int32} {As : Array Value}  {t : Nat} {x1 : Int32} {x2 : Int32} {x3 : Int32} (h : fb_X9_undoes_15 σ t x1 x2 x3 = some (r, u)) (hT : TS g σ) (hk_t : sx_K σ t = 11) (hz_x3 : x3 = 0 ∨ x3 = 1) : ZY l g cX9_undoes RX9 "undoes" (some .boolean) 6 2 51 0 0 false As (QM g As (Qxi g r u)) (r = 0 ∨ r = 1) u σ 15 [(0, .ref t), (1, .int x1), (2, .int x2), (3, .int x3)] [] := by
  unfold fb_X9_undoes_15 at h
  refine ym 16 (fun B k => z_aload_n B dX9_undoes_15 rfl 0 rfl k) ?_
  refine ym 17 (fun B k => z_iload_n B dX9_undoes_16 rfl 1 rfl k) ?_
  refine ym 18 (fun B k => z_iload_n B dX9_undoes_17 rfl 2 rfl k) ?_
  refine ym 19 (fun B k => z_iload_n B dX9_undoes_18 rfl 3 rfl k) ?_
  refine ym 21 (fun B k => z_bipush (v := 13) B dX9_undoes_19 (by decide) k) ?_
  refine ym 24 (fun B k => z_ldc2 (v := 10) B dX9_undoes_21 wg_1247 k) ?_
  refine ym 25 (fun B k => z_aload_n B dX9_undoes_24 rfl 0 rfl k) ?_
  refine ym 28 (fun B k => gf_X9_113 (x := (sx_I σ t 29)) B hk_t rfl dX9_undoes_25 k) ?_
  refine ym 29 (fun B k => z_i2l (v := (sx_I σ t 29).toInt64) B dX9_undoes_28 rfl k) ?_
  refine ym 30 (fun B k => z_lmul B dX9_undoes_29 k) ?_
  refine ym 31 (fun B k => z_aload_n B dX9_undoes_30 rfl 0 rfl k) ?_
  refine ym 34 (fun B k => gf_X9_131 (x := (sx_I σ t 36)) B hk_t rfl dX9_undoes_31 k) ?_
  refine ym 35 (fun B k => z_i2l (v := (sx_I σ t 36).toInt64) B dX9_undoes_34 rfl k) ?_
  refine ym 36 (fun B k => z_ladd B dX9_undoes_35 k) ?_
  refine ym 37 (fun B k => z_iconst (v := 0) B dX9_undoes_36 (by decide) k) ?_
  replace h := bd_e h
  obtain ⟨r2, u3, h1, h⟩ := h
  have m4 := ct_X9_meets l (g := g) h1 hT hk_t hz_x3 (Or.inl rfl)
  refine yc_Vi (Al := [.int x1, .int x2, .int x3, .int 13, .long ((10 * ((sx_I σ t 29).toInt64)) + ((sx_I σ t 36).toInt64)), .int 0]) (rest := []) 40 rfl cw_X9_164 cx_10 dX9_undoes_37 m4 hk_t rfl (by decide) rfl (Nat.le_of_ble_eq_true rfl) ?_
  have hk_t := k_G m4.1.1 (by decide) hk_t
  have hT := m4.1.1.2.2.2
  have hz_r2 := m4.1.2
  refine ym 42 (fun B k => z_istore (lv' := [(4, .int r2), (0, .ref t), (1, .int x1), (2, .int x2), (3, .int x3)]) B dX9_undoes_40 (by decide) rfl k) ?_
  refine ym 43 (fun B k => z_aload_n B dX9_undoes_42 rfl 1 rfl k) ?_
  refine ym 45 (fun B k => z_iload B dX9_undoes_43 0 rfl k) ?_
  by_cases c5 : r2 = 0
  · replace h := ite_p c5 h
    refine ym 55 (fun B k => z_if_eq (tgt := 55) B dX9_undoes_45 (by decide) (fun _ => k) (fun q => absurd c5 q)) ?_
    refine ym 56 (fun B k => z_iconst (v := 0) B dX9_undoes_55 (by decide) k) ?_
    refine y_sub [(4, .int r2)] [0] rfl ?_
    exact tb_X9_undoes_56 h hT hz_r2 hk_t
  · replace h := ite_n c5 h
    refine ym 48 (fun B k => z_if_eq (tgt := 55) B dX9_undoes_45 (by decide) (fun q => absurd q c5) (fun _ => k)) ?_
    refine ym 49 (fun B k => z_aload_n B dX9_undoes_48 rfl 1 rfl k) ?_
    refine ym 52 (fun B k => gf_X9_131 (x := (sx_I u3 t 36)) B hk_t rfl dX9_undoes_49 k) ?_
    refine ym 56 (fun B k => z_goto (tgt := 56) B dX9_undoes_52 (by decide) k) ?_
    refine y_sub [(4, .int r2)] [0] rfl ?_
    exact tb_X9_undoes_56 h hT hz_r2 hk_t
set_option maxRecDepth 100000 in
set_option maxHeartbeats 4000000 in
theorem ct_X9_undoes (l : Launch) {g : gx_T} {σ : sx_T} {u : sx_T} {r : Int32}  {t : Nat} {x1 : Int32} {x2 : Int32} {x3 : Int32} (h : f_X9_undoes σ t x1 x2 x3 = some (r, u)) (hT : TS g σ) (hk_t : sx_K σ t = 11) (hz_x3 : x3 = 0 ∨ x3 = 1) : CT l g yX9_undoes cX9_undoes 6 (some .boolean) 2 51 [.ref t, .int x1, .int x2, .int x3] (r = 0 ∨ r = 1) u σ (Qxi g r u) := by
  refine yc_met (by decide) (Nat.le_of_ble_eq_true rfl) ?_
  refine yc_lv (show lv_args 0 [.ref t, .int x1, .int x2, .int x3] = [(0, .ref t), (1, .int x1), (2, .int x2), (3, .int x3)] from rfl) ?_
  show ZY l g _ _ _ _ _ _ _ _ _ _ _ _ _ _ σ 0 [(0, .ref t), (1, .int x1), (2, .int x2), (3, .int x3)] []
  unfold f_X9_undoes at h
  refine ym 1 (fun B k => z_aload_n B dX9_undoes_0 rfl 0 rfl k) ?_
  refine ym 4 (fun B k => gf_X9_122 (x := (sx_I σ t 32)) B hk_t rfl dX9_undoes_1 k) ?_
  by_cases c1 : (sx_I σ t 32) = 0
  · replace h := ite_p c1 h
    refine ym 15 (fun B k => z_if_eq (tgt := 15) B dX9_undoes_4 (by decide) (fun _ => k) (fun q => absurd c1 q)) ?_
    refine y_sub [(0, .ref t), (1, .int x1), (2, .int x2), (3, .int x3)] [0, 1, 2, 3] rfl ?_
    exact tb_X9_undoes_15 h hT hk_t hz_x3
  · replace h := ite_n c1 h
    refine ym 7 (fun B k => z_if_eq (tgt := 15) B dX9_undoes_4 (by decide) (fun q => absurd q c1) (fun _ => k)) ?_
    refine ym 8 (fun B k => z_aload_n B dX9_undoes_7 rfl 0 rfl k) ?_
    refine ym 11 (fun B k => gf_X9_131 (x := (sx_I σ t 36)) B hk_t rfl dX9_undoes_8 k) ?_
    refine ym 12 (fun B k => z_iconst (v := 4) B dX9_undoes_11 (by decide) k) ?_
    by_cases c2 : (sx_I σ t 36) = 4
    · replace h := ite_p c2 h
      refine ym 15 (fun B k => z_icmp_ne (tgt := 62) B dX9_undoes_12 (by decide) (fun q => absurd c2 q) (fun _ => k)) ?_
      refine y_sub [(0, .ref t), (1, .int x1), (2, .int x2), (3, .int x3)] [0, 1, 2, 3] rfl ?_
      exact tb_X9_undoes_15 h hT hk_t hz_x3
    · replace h := ite_n c2 h
      refine ym 62 (fun B k => z_icmp_ne (tgt := 62) B dX9_undoes_12 (by decide) (fun _ => k) (fun q => absurd q c2)) ?_
      refine ym 63 (fun B k => z_aload_n B dX9_undoes_62 rfl 0 rfl k) ?_
      replace h := qv_e h
      obtain ⟨w3, e_w3, h⟩ := h
      have hq_w3 : rk σ w3 13 := rk_T hT hk_t rfl (by decide) e_w3
      refine ym 66 (fun B k => gf_X9_72 (x := w3) B hk_t e_w3 dX9_undoes_63 k) ?_
      refine ym 67 (fun B k => z_aload_n B dX9_undoes_66 rfl 0 rfl k) ?_
      refine ym 70 (fun B k => gf_X9_122 (x := (sx_I σ t 32)) B hk_t rfl dX9_undoes_67 k) ?_
      refine ym 71 (fun B k => z_iconst (v := 1) B dX9_undoes_70 (by decide) k) ?_
      refine ym 72 (fun B k => z_isub B dX9_undoes_71 k) ?_
      replace h := bq_e h
      obtain ⟨a4, rfl, h⟩ := h
      have hk_a4 := hq_w3 a4 rfl
      replace h := ck_e h
      obtain ⟨hi_5, h⟩ := h
      refine ym 73 (fun B k => z_iald (j := (ti ((sx_I σ t 32) - 1))) (x := (sx_I σ a4 (ti ((sx_I σ t 32) - 1)))) B hk_a4 rfl hi_5 rfl dX9_undoes_72 k) ?_
      refine ym 75 (fun B k => z_istore (lv' := [(4, .int (sx_I σ a4 (ti ((sx_I σ t 32) - 1)))), (0, .ref t), (1, .int x1), (2, .int x2), (3, .int x3)]) B dX9_undoes_73 (by decide) rfl k) ?_
      refine ym 76 (fun B k => z_aload_n B dX9_undoes_75 rfl 1 rfl k) ?_
      refine ym 79 (fun B k => gf_X9_107 (x := (sx_I σ t 27)) B hk_t rfl dX9_undoes_76 k) ?_
      refine ym 80 (fun B k => z_iload_n B dX9_undoes_79 rfl 3 rfl k) ?_
      by_cases c6 : (sx_I σ t 27) < x2
      · replace h := ite_p c6 h
        refine ym 87 (fun B k => z_icmp_lt (tgt := 87) B dX9_undoes_80 (by decide) (fun _ => k) (fun q => absurd c6 q)) ?_
        refine ym 88 (fun B k => z_iconst (v := 0) B dX9_undoes_87 (by decide) k) ?_
        refine y_sub [(0, .ref t), (1, .int x1), (2, .int x2), (3, .int x3), (4, .int (sx_I σ a4 (ti ((sx_I σ t 32) - 1))))] [1, 2, 3, 4, 0] rfl ?_
        exact tb_X9_undoes_88 h hT hk_t hz_x3 (Or.inl rfl)
      · replace h := ite_n c6 h
        refine ym 83 (fun B k => z_icmp_lt (tgt := 87) B dX9_undoes_80 (by decide) (fun q => absurd q c6) (fun _ => k)) ?_
        refine ym 84 (fun B k => z_iconst (v := 1) B dX9_undoes_83 (by decide) k) ?_
        refine ym 88 (fun B k => z_goto (tgt := 88) B dX9_undoes_84 (by decide) k) ?_
        refine y_sub [(0, .ref t), (1, .int x1), (2, .int x2), (3, .int x3), (4, .int (sx_I σ a4 (ti ((sx_I σ t 32) - 1))))] [1, 2, 3, 4, 0] rfl ?_
        exact tb_X9_undoes_88 h hT hk_t hz_x3 (Or.inr rfl)
set_option maxRecDepth 100000 in
set_option maxHeartbeats 4000000 in
theorem ct_X9_isBounded (l : Launch) {g : gx_T} {σ : sx_T} {r : Int32}  {x0 : Int32} (h : f_X9_isBounded σ x0 = some r) (hT : TS g σ)  : CT l g yX9_isBounded cX9_isBounded 1 (some .boolean) 0 0 [.int x0] (r = 0 ∨ r = 1) σ σ (Qxi g r σ) := by
  refine yc_met (by decide) (Nat.le_of_ble_eq_true rfl) ?_
  refine yc_lv (show lv_args 0 [.int x0] = [(0, .int x0)] from rfl) ?_
  show ZY l g _ _ _ _ _ _ _ _ _ _ _ _ _ _ σ 0 [(0, .int x0)] []
  unfold f_X9_isBounded at h
  refine ym 1 (fun B k => z_iload_n B dX9_isBounded_0 rfl 0 rfl k) ?_
  refine ym 2 (fun B k => z_iconst (v := 1) B dX9_isBounded_1 (by decide) k) ?_
  by_cases c1 : x0 = 1
  · replace h := ite_p c1 h
    refine ym 45 (fun B k => z_icmp_eq (tgt := 45) B dX9_isBounded_2 (by decide) (fun _ => k) (fun q => absurd c1 q)) ?_
    refine ym 46 (fun B k => z_iconst (v := 1) B dX9_isBounded_45 (by decide) k) ?_
    refine ym 50 (fun B k => z_goto (tgt := 50) B dX9_isBounded_46 (by decide) k) ?_
    obtain rfl := Option.some.inj h
    exact yr_z hT (Or.inr rfl) rfl (Or.inr rfl) dX9_isBounded_50
  · replace h := ite_n c1 h
    refine ym 5 (fun B k => z_icmp_eq (tgt := 45) B dX9_isBounded_2 (by decide) (fun q => absurd q c1) (fun _ => k)) ?_
    refine ym 6 (fun B k => z_iload_n B dX9_isBounded_5 rfl 0 rfl k) ?_
    refine ym 7 (fun B k => z_iconst (v := 2) B dX9_isBounded_6 (by decide) k) ?_
    by_cases c2 : x0 = 2
    · replace h := ite_p c2 h
      refine ym 45 (fun B k => z_icmp_eq (tgt := 45) B dX9_isBounded_7 (by decide) (fun _ => k) (fun q => absurd c2 q)) ?_
      refine ym 46 (fun B k => z_iconst (v := 1) B dX9_isBounded_45 (by decide) k) ?_
      refine ym 50 (fun B k => z_goto (tgt := 50) B dX9_isBounded_46 (by decide) k) ?_
      obtain rfl := Option.some.inj h
      exact yr_z hT (Or.inr rfl) rfl (Or.inr rfl) dX9_isBounded_50
    · replace h := ite_n c2 h
      refine ym 10 (fun B k => z_icmp_eq (tgt := 45) B dX9_isBounded_7 (by decide) (fun q => absurd q c2) (fun _ => k)) ?_
      refine ym 11 (fun B k => z_iload_n B dX9_isBounded_10 rfl 0 rfl k) ?_
      refine ym 12 (fun B k => z_iconst (v := 4) B dX9_isBounded_11 (by decide) k) ?_
      by_cases c3 : x0 = 4
      · replace h := ite_p c3 h
        refine ym 45 (fun B k => z_icmp_eq (tgt := 45) B dX9_isBounded_12 (by decide) (fun _ => k) (fun q => absurd c3 q)) ?_
        refine ym 46 (fun B k => z_iconst (v := 1) B dX9_isBounded_45 (by decide) k) ?_
        refine ym 50 (fun B k => z_goto (tgt := 50) B dX9_isBounded_46 (by decide) k) ?_
        obtain rfl := Option.some.inj h
        exact yr_z hT (Or.inr rfl) rfl (Or.inr rfl) dX9_isBounded_50
      · replace h := ite_n c3 h
        refine ym 15 (fun B k => z_icmp_eq (tgt := 45) B dX9_isBounded_12 (by decide) (fun q => absurd q c3) (fun _ => k)) ?_
        refine ym 16 (fun B k => z_iload_n B dX9_isBounded_15 rfl 0 rfl k) ?_
        refine ym 18 (fun B k => z_bipush (v := 9) B dX9_isBounded_16 (by decide) k) ?_
        by_cases c4 : x0 = 9
        · replace h := ite_p c4 h
          refine ym 45 (fun B k => z_icmp_eq (tgt := 45) B dX9_isBounded_18 (by decide) (fun _ => k) (fun q => absurd c4 q)) ?_
          refine ym 46 (fun B k => z_iconst (v := 1) B dX9_isBounded_45 (by decide) k) ?_
          refine ym 50 (fun B k => z_goto (tgt := 50) B dX9_isBounded_46 (by decide) k) ?_
          obtain rfl := Option.some.inj h
          exact yr_z hT (Or.inr rfl) rfl (Or.inr rfl) dX9_isBounded_50
        · replace h := ite_n c4 h
          refine ym 21 (fun B k => z_icmp_eq (tgt := 45) B dX9_isBounded_18 (by decide) (fun q => absurd q c4) (fun _ => k)) ?_
          refine ym 22 (fun B k => z_iload_n B dX9_isBounded_21 rfl 0 rfl k) ?_
          refine ym 24 (fun B k => z_bipush (v := 10) B dX9_isBounded_22 (by decide) k) ?_
          by_cases c5 : x0 = 10
          · replace h := ite_p c5 h
            refine ym 45 (fun B k => z_icmp_eq (tgt := 45) B dX9_isBounded_24 (by decide) (fun _ => k) (fun q => absurd c5 q)) ?_
            refine ym 46 (fun B k => z_iconst (v := 1) B dX9_isBounded_45 (by decide) k) ?_
            refine ym 50 (fun B k => z_goto (tgt := 50) B dX9_isBounded_46 (by decide) k) ?_
            obtain rfl := Option.some.inj h
            exact yr_z hT (Or.inr rfl) rfl (Or.inr rfl) dX9_isBounded_50
          · replace h := ite_n c5 h
            refine ym 27 (fun B k => z_icmp_eq (tgt := 45) B dX9_isBounded_24 (by decide) (fun q => absurd q c5) (fun _ => k)) ?_
            refine ym 28 (fun B k => z_iload_n B dX9_isBounded_27 rfl 0 rfl k) ?_
            refine ym 30 (fun B k => z_bipush (v := 11) B dX9_isBounded_28 (by decide) k) ?_
            by_cases c6 : x0 = 11
            · replace h := ite_p c6 h
              refine ym 45 (fun B k => z_icmp_eq (tgt := 45) B dX9_isBounded_30 (by decide) (fun _ => k) (fun q => absurd c6 q)) ?_
              refine ym 46 (fun B k => z_iconst (v := 1) B dX9_isBounded_45 (by decide) k) ?_
              refine ym 50 (fun B k => z_goto (tgt := 50) B dX9_isBounded_46 (by decide) k) ?_
              obtain rfl := Option.some.inj h
              exact yr_z hT (Or.inr rfl) rfl (Or.inr rfl) dX9_isBounded_50
            · replace h := ite_n c6 h
              refine ym 33 (fun B k => z_icmp_eq (tgt := 45) B dX9_isBounded_30 (by decide) (fun q => absurd q c6) (fun _ => k)) ?_
              refine ym 34 (fun B k => z_iload_n B dX9_isBounded_33 rfl 0 rfl k) ?_
              refine ym 36 (fun B k => z_bipush (v := 14) B dX9_isBounded_34 (by decide) k) ?_
              by_cases c7 : x0 = 14
              · replace h := ite_p c7 h
                refine ym 45 (fun B k => z_icmp_eq (tgt := 45) B dX9_isBounded_36 (by decide) (fun _ => k) (fun q => absurd c7 q)) ?_
                refine ym 46 (fun B k => z_iconst (v := 1) B dX9_isBounded_45 (by decide) k) ?_
                refine ym 50 (fun B k => z_goto (tgt := 50) B dX9_isBounded_46 (by decide) k) ?_
                obtain rfl := Option.some.inj h
                exact yr_z hT (Or.inr rfl) rfl (Or.inr rfl) dX9_isBounded_50
              · replace h := ite_n c7 h
                refine ym 39 (fun B k => z_icmp_eq (tgt := 45) B dX9_isBounded_36 (by decide) (fun q => absurd q c7) (fun _ => k)) ?_
                refine ym 40 (fun B k => z_iload_n B dX9_isBounded_39 rfl 0 rfl k) ?_
                refine ym 42 (fun B k => z_bipush (v := 17) B dX9_isBounded_40 (by decide) k) ?_
                by_cases c8 : x0 = 17
                · replace h := ite_p c8 h
                  refine ym 45 (fun B k => z_icmp_ne (tgt := 49) B dX9_isBounded_42 (by decide) (fun q => absurd c8 q) (fun _ => k)) ?_
                  refine ym 46 (fun B k => z_iconst (v := 1) B dX9_isBounded_45 (by decide) k) ?_
                  refine ym 50 (fun B k => z_goto (tgt := 50) B dX9_isBounded_46 (by decide) k) ?_
                  obtain rfl := Option.some.inj h
                  exact yr_z hT (Or.inr rfl) rfl (Or.inr rfl) dX9_isBounded_50
                · replace h := ite_n c8 h
                  refine ym 49 (fun B k => z_icmp_ne (tgt := 49) B dX9_isBounded_42 (by decide) (fun _ => k) (fun q => absurd q c8)) ?_
                  refine ym 50 (fun B k => z_iconst (v := 0) B dX9_isBounded_49 (by decide) k) ?_
                  obtain rfl := Option.some.inj h
                  exact yr_z hT (Or.inl rfl) rfl (Or.inl rfl) dX9_isBounded_50
set_option maxRecDepth 100000 in
set_option maxHeartbeats 4000000 in
theorem ct_X9_latestNumber (l : Launch) {g : gx_T} {σ : sx_T} {r : Int64}  {t : Nat} {x1 : Int32} (h : f_X9_latestNumber σ t x1 = some r) (hT : TS g σ) (hk_t : sx_K σ t = 11) : CT l g yX9_latestNumber cX9_latestNumber 2 (some .long) 0 0 [.ref t, .int x1] (True) σ σ (Qxl g r σ) := by
  refine yc_met (by decide) (Nat.le_of_ble_eq_true rfl) ?_
  refine yc_lv (show lv_args 0 [.ref t, .int x1] = [(0, .ref t), (1, .int x1)] from rfl) ?_
  show ZY l g _ _ _ _ _ _ _ _ _ _ _ _ _ _ σ 0 [(0, .ref t), (1, .int x1)] []
  unfold f_X9_latestNumber at h
  refine ym 1 (fun B k => z_aload_n B dX9_latestNumber_0 rfl 0 rfl k) ?_
  replace h := qv_e h
  obtain ⟨w1, e_w1, h⟩ := h
  have hq_w1 : rk σ w1 14 := rk_T hT hk_t rfl (by decide) e_w1
  refine ym 4 (fun B k => gf_X9_47 (x := w1) B hk_t e_w1 dX9_latestNumber_1 k) ?_
  refine ym 7 (fun B k => z_sipush (v := 160) B dX9_latestNumber_4 (by decide) k) ?_
  refine ym 8 (fun B k => z_iload_n B dX9_latestNumber_7 rfl 1 rfl k) ?_
  refine ym 9 (fun B k => z_imul B dX9_latestNumber_8 k) ?_
  refine ym 10 (fun B k => z_aload_n B dX9_latestNumber_9 rfl 0 rfl k) ?_
  refine ym 13 (fun B k => gf_X9_107 (x := (sx_I σ t 27)) B hk_t rfl dX9_latestNumber_10 k) ?_
  refine ym 14 (fun B k => z_iadd B dX9_latestNumber_13 k) ?_
  refine ym 15 (fun B k => z_iconst (v := 1) B dX9_latestNumber_14 (by decide) k) ?_
  refine ym 16 (fun B k => z_isub B dX9_latestNumber_15 k) ?_
  replace h := bq_e h
  obtain ⟨a2, rfl, h⟩ := h
  have hk_a2 := hq_w1 a2 rfl
  replace h := ck_e h
  obtain ⟨hi_3, h⟩ := h
  refine ym 17 (fun B k => z_lald (j := (ti (((160 * x1) + (sx_I σ t 27)) - 1))) (x := (sx_J σ a2 (ti (((160 * x1) + (sx_I σ t 27)) - 1)))) B hk_a2 rfl hi_3 rfl dX9_latestNumber_16 k) ?_
  obtain rfl := Option.some.inj h
  exact yr_l hT trivial rfl dX9_latestNumber_17
set_option maxRecDepth 100000 in
set_option maxHeartbeats 4000000 in
theorem tb_X9_begets_62 {l : Launch} {g : gx_T} {σ : sx_T} {u : sx_T} {r : Int32} {As : Array Value}  {t : Nat} {x2 : Int32} {x5 : Int32} {y0 : Int32} {y1 : Int32} {w2_ : Option Nat} (h : fb_X9_begets_62 σ t x2 x5 y0 y1 w2_ = some (r, u)) (hT : TS g σ) (hk_t : sx_K σ t = 11) (hq_w2_ : rk σ w2_ 13) : ZY l g cX9_begets RX9 "begets" (some .int) 6 1 24 0 0 false As (QM g As (Qxi g r u)) (True) u σ 62 [(0, .ref t), (2, .int x2), (5, .int x5)] [.int y0, .int y1, va_rf w2_] := by
  unfold fb_X9_begets_62 at h
  replace h := bq_e h
  obtain ⟨a1, rfl, h⟩ := h
  have hk_a1 := hq_w2_ a1 rfl
  replace h := ck_e h
  obtain ⟨hi_2, h⟩ := h
  have j3 := hk_a1
  refine ymw (σ' := (wx_I σ a1 (ti y1) y0)) 63 e_I (fun B _ k => z_iast (j := (ti y1)) B hk_a1 rfl hi_2 rfl dX9_begets_62 k) ?_
  have hT := TS_I (k := (ti y1)) (x := y0) hT hk_a1 (Or.inl rfl)
  have hk_t := kk_I (σ := σ) (a := a1) (k := (ti y1)) (x := y0) hk_t
  refine ym 64 (fun B k => z_aload_n B dX9_begets_63 rfl 0 rfl k) ?_
  replace h := qv_e h
  obtain ⟨w4, e_w4, h⟩ := h
  have hq_w4 : rk (wx_I σ a1 (ti y1) y0) w4 13 := rk_T hT hk_t rfl (by decide) ((rR_I rfl).trans e_w4)
  refine ym 67 (fun B k => gf_X9_41 (x := w4) B hk_t ((rR_I rfl).trans e_w4) dX9_begets_64 k) ?_
  refine ym 69 (fun B k => z_iload B dX9_begets_67 2 rfl k) ?_
  refine ym 70 (fun B k => z_iconst (v := (-1)) B dX9_begets_69 (by decide) k) ?_
  replace h := bq_e h
  obtain ⟨a5, rfl, h⟩ := h
  have hk_a5 := hq_w4 a5 rfl
  replace h := ck_e h
  obtain ⟨hi_6, h⟩ := h
  have j7 := hk_a5
  refine ymw (σ' := (wx_I (wx_I σ a1 (ti y1) y0) a5 (ti x5) (-1))) 71 e_I (fun B _ k => z_iast (j := (ti x5)) B hk_a5 rfl hi_6 rfl dX9_begets_70 k) ?_
  have hT := TS_I (k := (ti x5)) (x := (-1)) hT hk_a5 (Or.inl rfl)
  have hk_t := kk_I (σ := (wx_I σ a1 (ti y1) y0)) (a := a5) (k := (ti x5)) (x := (-1)) hk_t
  refine ym 72 (fun B k => z_aload_n B dX9_begets_71 rfl 0 rfl k) ?_
  refine ym 74 (fun B k => z_iload B dX9_begets_72 2 rfl k) ?_
  refine ym 75 (fun B k => z_iconst (v := 0) B dX9_begets_74 (by decide) k) ?_
  refine ym 76 (fun B k => z_iload_n B dX9_begets_75 rfl 1 rfl k) ?_
  refine ym 77 (fun B k => z_i2l (v := x2.toInt64) B dX9_begets_76 rfl k) ?_
  replace h := br_e h
  obtain ⟨u9, h8, h⟩ := h
  have m10 := ct_X9_adds l (g := g) h8 hT hk_t
  refine yc_Vv (Al := [.int x5, .int 0, .long x2.toInt64]) (rest := []) 80 rfl cw_X9_143 cx_10 dX9_begets_77 m10 hk_t rfl (by decide) rfl (Nat.le_of_ble_eq_true rfl) ?_
  have hk_t := k_G m10.1.1 (by decide) hk_t
  have hT := m10.1.1.2.2.2
  refine ym 82 (fun B k => z_iload B dX9_begets_80 2 rfl k) ?_
  obtain ⟨rfl, rfl⟩ := Prod.mk.inj (Option.some.inj h)
  exact yr_i hT trivial rfl dX9_begets_82
set_option maxRecDepth 100000 in
set_option maxHeartbeats 4000000 in
theorem ct_X9_begets (l : Launch) {g : gx_T} {σ : sx_T} {u : sx_T} {r : Int32}  {t : Nat} {x1 : Int32} {x2 : Int32} {x3 : Int32} {x4 : Int32} (h : f_X9_begets σ t x1 x2 x3 x4 = some (r, u)) (hT : TS g σ) (hk_t : sx_K σ t = 11) : CT l g yX9_begets cX9_begets 6 (some .int) 1 24 [.ref t, .int x1, .int x2, .int x3, .int x4] (True) u σ (Qxi g r u) := by
  refine yc_met (by decide) (Nat.le_of_ble_eq_true rfl) ?_
  refine yc_lv (show lv_args 0 [.ref t, .int x1, .int x2, .int x3, .int x4] = [(0, .ref t), (1, .int x1), (2, .int x2), (3, .int x3), (4, .int x4)] from rfl) ?_
  show ZY l g _ _ _ _ _ _ _ _ _ _ _ _ _ _ σ 0 [(0, .ref t), (1, .int x1), (2, .int x2), (3, .int x3), (4, .int x4)] []
  unfold f_X9_begets at h
  refine ym 1 (fun B k => z_aload_n B dX9_begets_0 rfl 0 rfl k) ?_
  refine ym 4 (fun B k => gf_X9_93 (x := (sx_I σ t 6)) B hk_t rfl dX9_begets_1 k) ?_
  refine ym 6 (fun B k => z_bipush (v := 40) B dX9_begets_4 (by decide) k) ?_
  by_cases c1 : (sx_I σ t 6) = 40
  · replace h := ite_p c1 h
    refine ym 9 (fun B k => z_icmp_ne (tgt := 11) B dX9_begets_6 (by decide) (fun q => absurd c1 q) (fun _ => k)) ?_
    refine ym 10 (fun B k => z_iconst (v := (-1)) B dX9_begets_9 (by decide) k) ?_
    obtain ⟨rfl, rfl⟩ := Prod.mk.inj (Option.some.inj h)
    exact yr_i hT trivial rfl dX9_begets_10
  · replace h := ite_n c1 h
    refine ym 11 (fun B k => z_icmp_ne (tgt := 11) B dX9_begets_6 (by decide) (fun _ => k) (fun q => absurd q c1)) ?_
    refine ym 12 (fun B k => z_aload_n B dX9_begets_11 rfl 0 rfl k) ?_
    refine ym 15 (fun B k => gf_X9_93 (x := (sx_I σ t 6)) B hk_t rfl dX9_begets_12 k) ?_
    refine ym 17 (fun B k => z_istore (lv' := [(5, .int (sx_I σ t 6)), (0, .ref t), (1, .int x1), (2, .int x2), (3, .int x3), (4, .int x4)]) B dX9_begets_15 (by decide) rfl k) ?_
    refine ym 18 (fun B k => z_aload_n B dX9_begets_17 rfl 1 rfl k) ?_
    refine ym 19 (fun B k => z_dup B dX9_begets_18 rfl k) ?_
    refine ym 22 (fun B k => gf_X9_93 (x := (sx_I σ t 6)) B hk_t rfl dX9_begets_19 k) ?_
    refine ym 23 (fun B k => z_iconst (v := 1) B dX9_begets_22 (by decide) k) ?_
    refine ym 24 (fun B k => z_iadd B dX9_begets_23 k) ?_
    have j2 := hk_t
    refine ymw (σ' := (wx_I σ t 6 ((sx_I σ t 6) + 1))) 27 e_I (fun B hin k => pf_X9_93 (x := ((sx_I σ t 6) + 1)) B hk_t rfl dX9_begets_24 k) ?_
    have hT := TS_I (k := 6) (x := ((sx_I σ t 6) + 1)) hT hk_t (Or.inl rfl)
    have hk_t := kk_I (σ := σ) (a := t) (k := 6) (x := ((sx_I σ t 6) + 1)) hk_t
    refine ym 28 (fun B k => z_aload_n B dX9_begets_27 rfl 1 rfl k) ?_
    replace h := qv_e h
    obtain ⟨w3, e_w3, h⟩ := h
    have hq_w3 : rk (wx_I σ t 6 ((sx_I σ t 6) + 1)) w3 13 := rk_T hT hk_t rfl (by decide) ((rR_I rfl).trans e_w3)
    refine ym 31 (fun B k => gf_X9_23 (x := w3) B hk_t ((rR_I rfl).trans e_w3) dX9_begets_28 k) ?_
    refine ym 33 (fun B k => z_iload B dX9_begets_31 0 rfl k) ?_
    refine ym 34 (fun B k => z_iload_n B dX9_begets_33 rfl 2 rfl k) ?_
    replace h := bq_e h
    obtain ⟨a4, rfl, h⟩ := h
    have hk_a4 := hq_w3 a4 rfl
    replace h := ck_e h
    obtain ⟨hi_5, h⟩ := h
    have j6 := hk_a4
    refine ymw (σ' := (wx_I (wx_I σ t 6 ((sx_I σ t 6) + 1)) a4 (ti (sx_I σ t 6)) x1)) 35 e_I (fun B _ k => z_iast (j := (ti (sx_I σ t 6))) B hk_a4 rfl hi_5 rfl dX9_begets_34 k) ?_
    have hT := TS_I (k := (ti (sx_I σ t 6))) (x := x1) hT hk_a4 (Or.inl rfl)
    have hk_t := kk_I (σ := (wx_I σ t 6 ((sx_I σ t 6) + 1))) (a := a4) (k := (ti (sx_I σ t 6))) (x := x1) hk_t
    refine ym 36 (fun B k => z_aload_n B dX9_begets_35 rfl 1 rfl k) ?_
    replace h := qv_e h
    obtain ⟨w7, e_w7, h⟩ := h
    have hq_w7 : rk (wx_I (wx_I σ t 6 ((sx_I σ t 6) + 1)) a4 (ti (sx_I σ t 6)) x1) w7 13 := rk_T hT hk_t rfl (by decide) ((rR_I (rR_I rfl)).trans e_w7)
    refine ym 39 (fun B k => gf_X9_26 (x := w7) B hk_t ((rR_I (rR_I rfl)).trans e_w7) dX9_begets_36 k) ?_
    refine ym 41 (fun B k => z_iload B dX9_begets_39 0 rfl k) ?_
    refine ym 42 (fun B k => z_iload_n B dX9_begets_41 rfl 4 rfl k) ?_
    replace h := bq_e h
    obtain ⟨a8, rfl, h⟩ := h
    have hk_a8 := hq_w7 a8 rfl
    replace h := ck_e h
    obtain ⟨hi_9, h⟩ := h
    have j10 := hk_a8
    refine ymw (σ' := (wx_I (wx_I (wx_I σ t 6 ((sx_I σ t 6) + 1)) a4 (ti (sx_I σ t 6)) x1) a8 (ti (sx_I σ t 6)) x3)) 43 e_I (fun B _ k => z_iast (j := (ti (sx_I σ t 6))) B hk_a8 rfl hi_9 rfl dX9_begets_42 k) ?_
    have hT := TS_I (k := (ti (sx_I σ t 6))) (x := x3) hT hk_a8 (Or.inl rfl)
    have hk_t := kk_I (σ := (wx_I (wx_I σ t 6 ((sx_I σ t 6) + 1)) a4 (ti (sx_I σ t 6)) x1)) (a := a8) (k := (ti (sx_I σ t 6))) (x := x3) hk_t
    refine ym 44 (fun B k => z_aload_n B dX9_begets_43 rfl 1 rfl k) ?_
    replace h := qv_e h
    obtain ⟨w11, e_w11, h⟩ := h
    have hq_w11 : rk (wx_I (wx_I (wx_I σ t 6 ((sx_I σ t 6) + 1)) a4 (ti (sx_I σ t 6)) x1) a8 (ti (sx_I σ t 6)) x3) w11 13 := rk_T hT hk_t rfl (by decide) ((rR_I (rR_I (rR_I rfl))).trans e_w11)
    refine ym 47 (fun B k => gf_X9_29 (x := w11) B hk_t ((rR_I (rR_I (rR_I rfl))).trans e_w11) dX9_begets_44 k) ?_
    refine ym 49 (fun B k => z_iload B dX9_begets_47 0 rfl k) ?_
    refine ym 51 (fun B k => z_iload B dX9_begets_49 5 rfl k) ?_
    refine ym 52 (fun B k => z_iconst (v := (-1)) B dX9_begets_51 (by decide) k) ?_
    by_cases c12 : x4 = (-1)
    · replace h := ite_p c12 h
      refine ym 55 (fun B k => z_icmp_ne (tgt := 60) B dX9_begets_52 (by decide) (fun q => absurd c12 q) (fun _ => k)) ?_
      refine ym 57 (fun B k => z_iload B dX9_begets_55 0 rfl k) ?_
      refine ym 62 (fun B k => z_goto (tgt := 62) B dX9_begets_57 (by decide) k) ?_
      refine y_sub [(0, .ref t), (2, .int x2), (5, .int (sx_I σ t 6))] [1, 3, 0] rfl ?_
      exact tb_X9_begets_62 h hT hk_t hq_w11
    · replace h := ite_n c12 h
      refine ym 60 (fun B k => z_icmp_ne (tgt := 60) B dX9_begets_52 (by decide) (fun _ => k) (fun q => absurd q c12)) ?_
      refine ym 62 (fun B k => z_iload B dX9_begets_60 5 rfl k) ?_
      refine y_sub [(0, .ref t), (2, .int x2), (5, .int (sx_I σ t 6))] [1, 3, 0] rfl ?_
      exact tb_X9_begets_62 h hT hk_t hq_w11
set_option maxRecDepth 100000 in
set_option maxHeartbeats 4000000 in
theorem ct_X9_starts (l : Launch) {g : gx_T} {σ : sx_T} {u : sx_T} {r : Int32}  {t : Nat} {x1 : Int32} {x2 : Int32} {x3 : Int32} {x4 : Int32} {x5 : Int32} {x6 : Int32} {x7 : Int32} (h : f_X9_starts σ t x1 x2 x3 x4 x5 x6 x7 = some (r, u)) (hT : TS g σ) (hk_t : sx_K σ t = 11) (hz_x3 : x3 = 0 ∨ x3 = 1) : CT l g yX9_starts cX9_starts 8 (some .boolean) 2 51 [.ref t, .int x1, .int x2, .int x3, .int x4, .int x5, .int x6, .int x7] (r = 0 ∨ r = 1) u σ (Qxi g r u) := by
  refine yc_met (by decide) (Nat.le_of_ble_eq_true rfl) ?_
  refine yc_lv (show lv_args 0 [.ref t, .int x1, .int x2, .int x3, .int x4, .int x5, .int x6, .int x7] = [(0, .ref t), (1, .int x1), (2, .int x2), (3, .int x3), (4, .int x4), (5, .int x5), (6, .int x6), (7, .int x7)] from rfl) ?_
  show ZY l g _ _ _ _ _ _ _ _ _ _ _ _ _ _ σ 0 [(0, .ref t), (1, .int x1), (2, .int x2), (3, .int x3), (4, .int x4), (5, .int x5), (6, .int x6), (7, .int x7)] []
  unfold f_X9_starts at h
  refine ym 1 (fun B k => z_aload_n B dX9_starts_0 rfl 0 rfl k) ?_
  refine ym 4 (fun B k => gf_X9_107 (x := (sx_I σ t 27)) B hk_t rfl dX9_starts_1 k) ?_
  refine ym 5 (fun B k => z_iload_n B dX9_starts_4 rfl 2 rfl k) ?_
  by_cases c1 : x2 ≤ (sx_I σ t 27)
  · replace h := ite_p c1 h
    refine ym 20 (fun B k => z_icmp_ge (tgt := 20) B dX9_starts_5 (by decide) (fun _ => k) (fun q => absurd c1 q)) ?_
    refine ym 21 (fun B k => z_iload_n B dX9_starts_20 rfl 3 rfl k) ?_
    by_cases c2 : x3 = 0
    · replace h := ite_p c2 h
      refine ym 64 (fun B k => z_if_eq (tgt := 64) B dX9_starts_21 (by decide) (fun _ => k) (fun q => absurd c2 q)) ?_
      refine ym 65 (fun B k => z_iload_n B dX9_starts_64 rfl 3 rfl k) ?_
      obtain ⟨rfl, rfl⟩ := Prod.mk.inj (Option.some.inj h)
      exact yr_z hT hz_x3 rfl hz_x3 dX9_starts_65
    · replace h := ite_n c2 h
      refine ym 24 (fun B k => z_if_eq (tgt := 64) B dX9_starts_21 (by decide) (fun q => absurd q c2) (fun _ => k)) ?_
      refine ym 25 (fun B k => z_aload_n B dX9_starts_24 rfl 0 rfl k) ?_
      refine ym 26 (fun B k => z_aload_n B dX9_starts_25 rfl 0 rfl k) ?_
      refine ym 28 (fun B k => z_iload B dX9_starts_26 5 rfl k) ?_
      refine ym 29 (fun B k => z_aload_n B dX9_starts_28 rfl 0 rfl k) ?_
      refine ym 32 (fun B k => gf_X9_113 (x := (sx_I σ t 29)) B hk_t rfl dX9_starts_29 k) ?_
      refine ym 34 (fun B k => z_iload B dX9_starts_32 6 rfl k) ?_
      refine ym 36 (fun B k => z_iload B dX9_starts_34 7 rfl k) ?_
      replace h := bd_e h
      obtain ⟨r4, u5, h3, h⟩ := h
      have m6 := ct_X9_begets l (g := g) h3 hT hk_t
      refine yc_Vi (Al := [.int x5, .int (sx_I σ t 29), .int x6, .int x7]) (rest := [.ref t]) 39 rfl cw_X9_168 cx_10 dX9_starts_36 m6 hk_t rfl (by decide) rfl (Nat.le_of_ble_eq_true rfl) ?_
      have hk_t := k_G m6.1.1 (by decide) hk_t
      have hT := m6.1.1.2.2.2
      have j7 := hk_t
      refine ymw (σ' := (wx_I u5 t 48 r4)) 42 e_I (fun B hin k => pf_X9_172 (x := r4) B hk_t rfl dX9_starts_39 k) ?_
      have hT := TS_I (k := 48) (x := r4) hT hk_t (Or.inl rfl)
      have hk_t := kk_I (σ := u5) (a := t) (k := 48) (x := r4) hk_t
      refine ym 43 (fun B k => z_aload_n B dX9_starts_42 rfl 0 rfl k) ?_
      refine ym 44 (fun B k => z_iload_n B dX9_starts_43 rfl 1 rfl k) ?_
      refine ym 46 (fun B k => z_iload B dX9_starts_44 4 rfl k) ?_
      refine ym 47 (fun B k => z_aload_n B dX9_starts_46 rfl 0 rfl k) ?_
      refine ym 50 (fun B k => gf_X9_172 (x := r4) B hk_t rI_s dX9_starts_47 k) ?_
      refine ym 51 (fun B k => z_i2l (v := r4.toInt64) B dX9_starts_50 rfl k) ?_
      replace h := br_e h
      obtain ⟨u9, h8, h⟩ := h
      have m10 := ct_X9_adds l (g := g) h8 hT hk_t
      refine yc_Vv (Al := [.int x1, .int x4, .long r4.toInt64]) (rest := []) 54 rfl cw_X9_143 cx_10 dX9_starts_51 m10 hk_t rfl (by decide) rfl (Nat.le_of_ble_eq_true rfl) ?_
      have hk_t := k_G m10.1.1 (by decide) hk_t
      have hT := m10.1.1.2.2.2
      refine ym 55 (fun B k => z_aload_n B dX9_starts_54 rfl 0 rfl k) ?_
      refine ym 56 (fun B k => z_dup B dX9_starts_55 rfl k) ?_
      refine ym 59 (fun B k => gf_X9_107 (x := (sx_I u9 t 27)) B hk_t rfl dX9_starts_56 k) ?_
      refine ym 60 (fun B k => z_iconst (v := 1) B dX9_starts_59 (by decide) k) ?_
      refine ym 61 (fun B k => z_iadd B dX9_starts_60 k) ?_
      have j11 := hk_t
      refine ymw (σ' := (wx_I u9 t 27 ((sx_I u9 t 27) + 1))) 64 e_I (fun B hin k => pf_X9_107 (x := ((sx_I u9 t 27) + 1)) B hk_t rfl dX9_starts_61 k) ?_
      have hT := TS_I (k := 27) (x := ((sx_I u9 t 27) + 1)) hT hk_t (Or.inl rfl)
      have hk_t := kk_I (σ := u9) (a := t) (k := 27) (x := ((sx_I u9 t 27) + 1)) hk_t
      refine ym 65 (fun B k => z_iload_n B dX9_starts_64 rfl 3 rfl k) ?_
      obtain ⟨rfl, rfl⟩ := Prod.mk.inj (Option.some.inj h)
      exact yr_z hT hz_x3 rfl hz_x3 dX9_starts_65
  · replace h := ite_n c1 h
    refine ym 8 (fun B k => z_icmp_ge (tgt := 20) B dX9_starts_5 (by decide) (fun q => absurd q c1) (fun _ => k)) ?_
    refine ym 9 (fun B k => z_aload_n B dX9_starts_8 rfl 0 rfl k) ?_
    refine ym 10 (fun B k => z_iload_n B dX9_starts_9 rfl 1 rfl k) ?_
    refine ym 11 (fun B k => z_iload_n B dX9_starts_10 rfl 2 rfl k) ?_
    refine ym 12 (fun B k => z_iload_n B dX9_starts_11 rfl 3 rfl k) ?_
    refine ym 14 (fun B k => z_iload B dX9_starts_12 4 rfl k) ?_
    refine ym 15 (fun B k => z_lconst (v := 0) B dX9_starts_14 (by decide) k) ?_
    refine ym 16 (fun B k => z_iconst (v := 1) B dX9_starts_15 (by decide) k) ?_
    replace h := bd_e h
    obtain ⟨r13, u14, h12, h⟩ := h
    have m15 := ct_X9_meets l (g := g) h12 hT hk_t hz_x3 (Or.inr rfl)
    refine yc_Vi (Al := [.int x1, .int x2, .int x3, .int x4, .long 0, .int 1]) (rest := []) 19 rfl cw_X9_164 cx_10 dX9_starts_16 m15 hk_t rfl (by decide) rfl (Nat.le_of_ble_eq_true rfl) ?_
    have hk_t := k_G m15.1.1 (by decide) hk_t
    have hT := m15.1.1.2.2.2
    have hz_r13 := m15.1.2
    obtain ⟨rfl, rfl⟩ := Prod.mk.inj (Option.some.inj h)
    exact yr_z hT hz_r13 rfl hz_r13 dX9_starts_19
set_option maxRecDepth 100000 in
set_option maxHeartbeats 4000000 in
theorem tb_X9_draws_70 {l : Launch} {g : gx_T} {σ : sx_T} {u : sx_T} {r : Int32} {As : Array Value}  {x5 : Int32} {y0 : Int32} {t : Nat} (h : fb_X9_draws_70 σ x5 y0 t = some (r, u)) (hT : TS g σ) (hz_x5 : x5 = 0 ∨ x5 = 1) (hk_t : sx_K σ t = 11) : ZY l g cX9_draws RX9 "draws" (some .boolean) 6 2 51 0 0 false As (QM g As (Qxi g r u)) (r = 0 ∨ r = 1) u σ 70 [(5, .int x5)] [.int y0, .ref t] := by
  unfold fb_X9_draws_70 at h
  have j1 := hk_t
  refine ymw (σ' := (wx_I σ t 29 y0)) 73 e_I (fun B hin k => pf_X9_113 (x := y0) B hk_t rfl dX9_draws_70 k) ?_
  have hT := TS_I (k := 29) (x := y0) hT hk_t (Or.inl rfl)
  refine ym 75 (fun B k => z_iload B dX9_draws_73 0 rfl k) ?_
  obtain ⟨rfl, rfl⟩ := Prod.mk.inj (Option.some.inj h)
  exact yr_z hT hz_x5 rfl hz_x5 dX9_draws_75
set_option maxRecDepth 100000 in
set_option maxHeartbeats 4000000 in
theorem tb_X9_draws_29 {l : Launch} {g : gx_T} {σ : sx_T} {u : sx_T} {r : Int32} {As : Array Value}  {t : Nat} {x1 : Int32} {x2 : Int32} {x3 : Int32} {x4 : Int32} (h : fb_X9_draws_29 σ t x1 x2 x3 x4 = some (r, u)) (hT : TS g σ) (hk_t : sx_K σ t = 11) (hz_x3 : x3 = 0 ∨ x3 = 1) : ZY l g cX9_draws RX9 "draws" (some .boolean) 6 2 51 0 0 false As (QM g As (Qxi g r u)) (r = 0 ∨ r = 1) u σ 29 [(0, .ref t), (1, .int x1), (2, .int x2), (3, .int x3), (4, .int x4)] [] := by
  unfold fb_X9_draws_29 at h
  refine ym 30 (fun B k => z_aload_n B dX9_draws_29 rfl 0 rfl k) ?_
  refine ym 31 (fun B k => z_iload_n B dX9_draws_30 rfl 1 rfl k) ?_
  refine ym 32 (fun B k => z_iload_n B dX9_draws_31 rfl 2 rfl k) ?_
  refine ym 33 (fun B k => z_iload_n B dX9_draws_32 rfl 3 rfl k) ?_
  refine ym 35 (fun B k => z_bipush (v := 9) B dX9_draws_33 (by decide) k) ?_
  refine ym 36 (fun B k => z_aload_n B dX9_draws_35 rfl 0 rfl k) ?_
  refine ym 39 (fun B k => gf_X9_7 (x := (sx_I σ t 2)) B hk_t rfl dX9_draws_36 k) ?_
  refine ym 41 (fun B k => z_iload B dX9_draws_39 4 rfl k) ?_
  refine ym 42 (fun B k => z_iconst (v := 1) B dX9_draws_41 (by decide) k) ?_
  refine ym 43 (fun B k => z_iadd B dX9_draws_42 k) ?_
  replace h := nz_e h
  obtain ⟨h0_1, h⟩ := h
  refine ym 44 (fun B k => z_irem B dX9_draws_43 h0_1 k) ?_
  refine ym 45 (fun B k => z_i2l (v := (jrem (sx_I σ t 2) (x4 + 1)).toInt64) B dX9_draws_44 rfl k) ?_
  refine ym 46 (fun B k => z_iconst (v := 1) B dX9_draws_45 (by decide) k) ?_
  replace h := bd_e h
  obtain ⟨r3, u4, h2, h⟩ := h
  have m5 := ct_X9_meets l (g := g) h2 hT hk_t hz_x3 (Or.inr rfl)
  refine yc_Vi (Al := [.int x1, .int x2, .int x3, .int 9, .long ((jrem (sx_I σ t 2) (x4 + 1)).toInt64), .int 1]) (rest := []) 49 rfl cw_X9_164 cx_10 dX9_draws_46 m5 hk_t rfl (by decide) rfl (Nat.le_of_ble_eq_true rfl) ?_
  have hk_t := k_G m5.1.1 (by decide) hk_t
  have hT := m5.1.1.2.2.2
  have hz_r3 := m5.1.2
  refine ym 51 (fun B k => z_istore (lv' := [(5, .int r3), (0, .ref t), (1, .int x1), (2, .int x2), (3, .int x3), (4, .int x4)]) B dX9_draws_49 (by decide) rfl k) ?_
  refine ym 52 (fun B k => z_aload_n B dX9_draws_51 rfl 1 rfl k) ?_
  refine ym 54 (fun B k => z_iload B dX9_draws_52 0 rfl k) ?_
  by_cases c6 : r3 = 0
  · replace h := ite_p c6 h
    refine ym 66 (fun B k => z_if_eq (tgt := 66) B dX9_draws_54 (by decide) (fun _ => k) (fun q => absurd c6 q)) ?_
    refine ym 67 (fun B k => z_aload_n B dX9_draws_66 rfl 1 rfl k) ?_
    refine ym 70 (fun B k => gf_X9_113 (x := (sx_I u4 t 29)) B hk_t rfl dX9_draws_67 k) ?_
    refine y_sub [(5, .int r3)] [0] rfl ?_
    exact tb_X9_draws_70 h hT hz_r3 hk_t
  · replace h := ite_n c6 h
    refine ym 57 (fun B k => z_if_eq (tgt := 66) B dX9_draws_54 (by decide) (fun q => absurd q c6) (fun _ => k)) ?_
    refine ym 58 (fun B k => z_aload_n B dX9_draws_57 rfl 1 rfl k) ?_
    refine ym 59 (fun B k => z_iload_n B dX9_draws_58 rfl 2 rfl k) ?_
    replace h := br_e h
    obtain ⟨r8, h7, h⟩ := h
    have m9 := ct_X9_latestNumber l (g := g) h7 hT hk_t
    refine yc_Vl (Al := [.int x1]) (rest := [.ref t]) 62 rfl cw_X9_200 cx_10 dX9_draws_59 m9 hk_t rfl (by decide) rfl (Nat.le_of_ble_eq_true rfl) ?_
    refine ym 63 (fun B k => z_l2i (v := r8.toInt32) B dX9_draws_62 rfl k) ?_
    refine ym 70 (fun B k => z_goto (tgt := 70) B dX9_draws_63 (by decide) k) ?_
    refine y_sub [(5, .int r3)] [0] rfl ?_
    exact tb_X9_draws_70 h hT hz_r3 hk_t
set_option maxRecDepth 100000 in
set_option maxHeartbeats 4000000 in
theorem ct_X9_draws (l : Launch) {g : gx_T} {σ : sx_T} {u : sx_T} {r : Int32}  {t : Nat} {x1 : Int32} {x2 : Int32} {x3 : Int32} {x4 : Int32} (h : f_X9_draws σ t x1 x2 x3 x4 = some (r, u)) (hT : TS g σ) (hk_t : sx_K σ t = 11) (hz_x3 : x3 = 0 ∨ x3 = 1) : CT l g yX9_draws cX9_draws 6 (some .boolean) 2 51 [.ref t, .int x1, .int x2, .int x3, .int x4] (r = 0 ∨ r = 1) u σ (Qxi g r u) := by
  refine yc_met (by decide) (Nat.le_of_ble_eq_true rfl) ?_
  refine yc_lv (show lv_args 0 [.ref t, .int x1, .int x2, .int x3, .int x4] = [(0, .ref t), (1, .int x1), (2, .int x2), (3, .int x3), (4, .int x4)] from rfl) ?_
  show ZY l g _ _ _ _ _ _ _ _ _ _ _ _ _ _ σ 0 [(0, .ref t), (1, .int x1), (2, .int x2), (3, .int x3), (4, .int x4)] []
  unfold f_X9_draws at h
  refine ym 1 (fun B k => z_aload_n B dX9_draws_0 rfl 0 rfl k) ?_
  refine ym 4 (fun B k => gf_X9_107 (x := (sx_I σ t 27)) B hk_t rfl dX9_draws_1 k) ?_
  refine ym 5 (fun B k => z_iload_n B dX9_draws_4 rfl 2 rfl k) ?_
  by_cases c1 : (sx_I σ t 27) < x2
  · replace h := ite_p c1 h
    refine ym 29 (fun B k => z_icmp_lt (tgt := 29) B dX9_draws_5 (by decide) (fun _ => k) (fun q => absurd c1 q)) ?_
    refine y_sub [(0, .ref t), (1, .int x1), (2, .int x2), (3, .int x3), (4, .int x4)] [0, 1, 2, 3, 4] rfl ?_
    exact tb_X9_draws_29 h hT hk_t hz_x3
  · replace h := ite_n c1 h
    refine ym 8 (fun B k => z_icmp_lt (tgt := 29) B dX9_draws_5 (by decide) (fun q => absurd q c1) (fun _ => k)) ?_
    refine ym 9 (fun B k => z_iload_n B dX9_draws_8 rfl 3 rfl k) ?_
    by_cases c2 : x3 = 0
    · replace h := ite_p c2 h
      refine ym 29 (fun B k => z_if_eq (tgt := 29) B dX9_draws_9 (by decide) (fun _ => k) (fun q => absurd c2 q)) ?_
      refine y_sub [(0, .ref t), (1, .int x1), (2, .int x2), (3, .int x3), (4, .int x4)] [0, 1, 2, 3, 4] rfl ?_
      exact tb_X9_draws_29 h hT hk_t hz_x3
    · replace h := ite_n c2 h
      refine ym 12 (fun B k => z_if_eq (tgt := 29) B dX9_draws_9 (by decide) (fun q => absurd q c2) (fun _ => k)) ?_
      refine ym 13 (fun B k => z_aload_n B dX9_draws_12 rfl 0 rfl k) ?_
      refine ym 15 (fun B k => z_bipush (v := 75) B dX9_draws_13 (by decide) k) ?_
      refine ym 16 (fun B k => z_aload_n B dX9_draws_15 rfl 0 rfl k) ?_
      refine ym 19 (fun B k => gf_X9_7 (x := (sx_I σ t 2)) B hk_t rfl dX9_draws_16 k) ?_
      refine ym 20 (fun B k => z_imul B dX9_draws_19 k) ?_
      refine ym 22 (fun B k => z_bipush (v := 74) B dX9_draws_20 (by decide) k) ?_
      refine ym 23 (fun B k => z_iadd B dX9_draws_22 k) ?_
      refine ym 25 (fun B k => z_ldc (v := 65537) B dX9_draws_23 wg_1287 k) ?_
      refine ym 26 (fun B k => z_irem B dX9_draws_25 (by decide) k) ?_
      have j3 := hk_t
      refine ymw (σ' := (wx_I σ t 2 (jrem ((75 * (sx_I σ t 2)) + 74) 65537))) 29 e_I (fun B hin k => pf_X9_7 (x := (jrem ((75 * (sx_I σ t 2)) + 74) 65537)) B hk_t rfl dX9_draws_26 k) ?_
      have hT := TS_I (k := 2) (x := (jrem ((75 * (sx_I σ t 2)) + 74) 65537)) hT hk_t (Or.inl rfl)
      have hk_t := kk_I (σ := σ) (a := t) (k := 2) (x := (jrem ((75 * (sx_I σ t 2)) + 74) 65537)) hk_t
      refine y_sub [(0, .ref t), (1, .int x1), (2, .int x2), (3, .int x3), (4, .int x4)] [0, 1, 2, 3, 4] rfl ?_
      exact tb_X9_draws_29 h hT hk_t hz_x3
