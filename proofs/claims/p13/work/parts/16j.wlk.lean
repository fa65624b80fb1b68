set_option maxRecDepth 100000 in
set_option maxHeartbeats 4000000 in
theorem tl_X9_reset_117 {l : Launch} {g : gx_T} {u : sx_T} {r : Int32} {As : Array Value} {n0 : Nat} : ∀ {n : Nat} {σ : sx_T} {t : Nat} {x1 : Int32} {x5 : Int32} {x6 : Int32}, fl_X9_reset_117 n0 n σ t x1 x5 x6 = some (r, u) → TS g σ → sx_K σ t = 11 → ZY l g cX9_reset RX9 "reset" (some .int) 7 9 230 0 0 false As (QM g As (Qxi g r u)) (True) u σ 117 [(0, .ref t), (1, .int x1), (5, .int x5), (6, .int x6)] [] := by
  intro n
  induction n with
  | zero =>
    intro σ t x1 x5 x6 h
    exact nomatch h
  | succ n ih_ =>
    have ih := @ih_
    intro σ t x1 x5 x6 h hT hk_t
    unfold fl_X9_reset_117 at h
    refine ym 119 (fun B k => z_iload B dX9_reset_117 3 rfl k) ?_
    refine ym 120 (fun B k => z_aload_n B dX9_reset_119 rfl 0 rfl k) ?_
    replace h := qv_e h
    obtain ⟨w1, e_w1, h⟩ := h
    have hq_w1 : rk σ w1 13 := rk_T hT hk_t rfl (by decide) e_w1
    refine ym 123 (fun B k => gf_X9_35 (x := w1) B hk_t e_w1 dX9_reset_120 k) ?_
    refine ym 124 (fun B k => z_iload_n B dX9_reset_123 rfl 1 rfl k) ?_
    replace h := bq_e h
    obtain ⟨a2, rfl, h⟩ := h
    have hk_a2 := hq_w1 a2 rfl
    replace h := ck_e h
    obtain ⟨hi_3, h⟩ := h
    refine ym 125 (fun B k => z_iald (j := (ti x1)) (x := (sx_I σ a2 (ti x1))) B hk_a2 rfl hi_3 rfl dX9_reset_124 k) ?_
    by_cases c4 : (sx_I σ a2 (ti x1)) ≤ x6
    · replace h := ite_p c4 h
      refine ym 174 (fun B k => z_icmp_ge (tgt := 174) B dX9_reset_125 (by decide) (fun _ => k) (fun q => absurd c4 q)) ?_
      refine ym 176 (fun B k => z_iload B dX9_reset_174 2 rfl k) ?_
      obtain ⟨rfl, rfl⟩ := Prod.mk.inj (Option.some.inj h)
      exact yr_i hT trivial rfl dX9_reset_176
    · replace h := ite_n c4 h
      refine ym 128 (fun B k => z_icmp_ge (tgt := 174) B dX9_reset_125 (by decide) (fun q => absurd q c4) (fun _ => k)) ?_
      refine ym 129 (fun B k => z_aload_n B dX9_reset_128 rfl 0 rfl k) ?_
      replace h := qv_e h
      obtain ⟨w5, e_w5, h⟩ := h
      have hq_w5 : rk σ w5 13 := rk_T hT hk_t rfl (by decide) e_w5
      refine ym 132 (fun B k => gf_X9_44 (x := w5) B hk_t e_w5 dX9_reset_129 k) ?_
      refine ym 135 (fun B k => z_sipush (v := 160) B dX9_reset_132 (by decide) k) ?_
      refine ym 136 (fun B k => z_iload_n B dX9_reset_135 rfl 1 rfl k) ?_
      refine ym 137 (fun B k => z_imul B dX9_reset_136 k) ?_
      refine ym 139 (fun B k => z_iload B dX9_reset_137 3 rfl k) ?_
      refine ym 140 (fun B k => z_iadd B dX9_reset_139 k) ?_
      replace h := bq_e h
      obtain ⟨a6, rfl, h⟩ := h
      have hk_a6 := hq_w5 a6 rfl
      replace h := ck_e h
      obtain ⟨hi_7, h⟩ := h
      refine ym 141 (fun B k => z_iald (j := (ti ((160 * x1) + x6))) (x := (sx_I σ a6 (ti ((160 * x1) + x6)))) B hk_a6 rfl hi_7 rfl dX9_reset_140 k) ?_
      refine ym 143 (fun B k => z_bipush (v := 6) B dX9_reset_141 (by decide) k) ?_
      by_cases c8 : (sx_I σ a6 (ti ((160 * x1) + x6))) = 6
      · replace h := ite_p c8 h
        refine ym 146 (fun B k => z_icmp_ne (tgt := 168) B dX9_reset_143 (by decide) (fun q => absurd c8 q) (fun _ => k)) ?_
        refine ym 147 (fun B k => z_aload_n B dX9_reset_146 rfl 0 rfl k) ?_
        refine ym 149 (fun B k => z_iload B dX9_reset_147 2 rfl k) ?_
        refine ym 151 (fun B k => z_bipush (v := 6) B dX9_reset_149 (by decide) k) ?_
        refine ym 152 (fun B k => z_aload_n B dX9_reset_151 rfl 0 rfl k) ?_
        replace h := qv_e h
        obtain ⟨w9, e_w9, h⟩ := h
        have hq_w9 : rk σ w9 14 := rk_T hT hk_t rfl (by decide) e_w9
        refine ym 155 (fun B k => gf_X9_47 (x := w9) B hk_t e_w9 dX9_reset_152 k) ?_
        refine ym 158 (fun B k => z_sipush (v := 160) B dX9_reset_155 (by decide) k) ?_
        refine ym 159 (fun B k => z_iload_n B dX9_reset_158 rfl 1 rfl k) ?_
        refine ym 160 (fun B k => z_imul B dX9_reset_159 k) ?_
        refine ym 162 (fun B k => z_iload B dX9_reset_160 3 rfl k) ?_
        refine ym 163 (fun B k => z_iadd B dX9_reset_162 k) ?_
        replace h := bq_e h
        obtain ⟨a10, rfl, h⟩ := h
        have hk_a10 := hq_w9 a10 rfl
        replace h := ck_e h
        obtain ⟨hi_11, h⟩ := h
        refine ym 164 (fun B k => z_lald (j := (ti ((160 * x1) + x6))) (x := (sx_J σ a10 (ti ((160 * x1) + x6)))) B hk_a10 rfl hi_11 rfl dX9_reset_163 k) ?_
        replace h := bd_e h
        obtain ⟨r13, u14, h12, h⟩ := h
        have m15 := ct_X9_tells l (g := g) h12 hT hk_t
        refine yc_Vi (Al := [.int x5, .int 6, .long (sx_J σ a10 (ti ((160 * x1) + x6)))]) (rest := []) 167 rfl cw_X9_265 cx_10 dX9_reset_164 m15 hk_t rfl (by decide) rfl (Nat.le_of_ble_eq_true rfl) ?_
        have hk_t := k_G m15.1.1 (by decide) hk_t
        have hT := m15.1.1.2.2.2
        have hz_r13 := m15.1.2
        refine ym 168 (fun B k => z_pop B dX9_reset_167 rfl k) ?_
        refine ym 171 (fun B k => z_iinc (v := x6 + 1) (lv' := [(6, .int (x6 + 1)), (0, .ref t), (1, .int x1), (5, .int x5)]) B dX9_reset_168 3 rfl rfl (by decide) rfl k) ?_
        refine ym 117 (fun B k => z_goto (tgt := 117) B dX9_reset_171 (by decide) k) ?_
        refine y_sub [(0, .ref t), (1, .int x1), (5, .int x5), (6, .int (x6 + 1))] [1, 2, 3, 0] rfl ?_
        exact ih h hT hk_t
      · replace h := ite_n c8 h
        refine ym 168 (fun B k => z_icmp_ne (tgt := 168) B dX9_reset_143 (by decide) (fun _ => k) (fun q => absurd q c8)) ?_
        refine ym 171 (fun B k => z_iinc (v := x6 + 1) (lv' := [(6, .int (x6 + 1)), (0, .ref t), (1, .int x1), (5, .int x5)]) B dX9_reset_168 3 rfl rfl (by decide) rfl k) ?_
        refine ym 117 (fun B k => z_goto (tgt := 117) B dX9_reset_171 (by decide) k) ?_
        refine y_sub [(0, .ref t), (1, .int x1), (5, .int x5), (6, .int (x6 + 1))] [1, 2, 3, 0] rfl ?_
        exact ih h hT hk_t
set_option maxRecDepth 100000 in
set_option maxHeartbeats 4000000 in
theorem tb_X9_reset_69 {l : Launch} {g : gx_T} {σ : sx_T} {u : sx_T} {r : Int32} {As : Array Value} {n0 : Nat} {t : Nat} {x1 : Int32} {x2 : Int32} {y0 : Int32} {y1 : Int32} {y2 : Int32} (h : fb_X9_reset_69 n0 σ t x1 x2 y0 y1 y2 = some (r, u)) (hT : TS g σ) (hk_t : sx_K σ t = 11) (hz_y0 : y0 = 0 ∨ y0 = 1) (hz_y1 : y1 = 0 ∨ y1 = 1) (hz_y2 : y2 = 0 ∨ y2 = 1) : ZY l g cX9_reset RX9 "reset" (some .int) 7 9 230 0 0 false As (QM g As (Qxi g r u)) (True) u σ 69 [(0, .ref t), (1, .int x1), (2, .int x2)] [.int y0, .int y1, .int y2, .ref t] := by
  unfold fb_X9_reset_69 at h
  replace h := bd_e h
  obtain ⟨r2, u3, h1, h⟩ := h
  have m4 := ct_X9_needs__ l (g := g) h1 hT hk_t hz_y2 hz_y1 hz_y0
  refine yc_Vi (Al := [.int y2, .int y1, .int y0]) (rest := []) 72 rfl cw_X9_259 cx_10 dX9_reset_69 m4 hk_t rfl (by decide) rfl (Nat.le_of_ble_eq_true rfl) ?_
  have hk_t := k_G m4.1.1 (by decide) hk_t
  have hT := m4.1.1.2.2.2
  have hz_r2 := m4.1.2
  by_cases c5 : r2 = 0
  · replace h := ite_p c5 h
    refine ym 75 (fun B k => z_if_ne (tgt := 77) B dX9_reset_72 (by decide) (fun q => absurd c5 q) (fun _ => k)) ?_
    refine ym 76 (fun B k => z_iconst (v := 0) B dX9_reset_75 (by decide) k) ?_
    obtain ⟨rfl, rfl⟩ := Prod.mk.inj (Option.some.inj h)
    exact yr_i hT trivial rfl dX9_reset_76
  · replace h := ite_n c5 h
    refine ym 77 (fun B k => z_if_ne (tgt := 77) B dX9_reset_72 (by decide) (fun _ => k) (fun q => absurd q c5)) ?_
    refine ym 78 (fun B k => z_aload_n B dX9_reset_77 rfl 0 rfl k) ?_
    refine ym 79 (fun B k => z_aload_n B dX9_reset_78 rfl 0 rfl k) ?_
    replace h := qv_e h
    obtain ⟨w6, e_w6, h⟩ := h
    have hq_w6 : rk u3 w6 13 := rk_T hT hk_t rfl (by decide) e_w6
    refine ym 82 (fun B k => gf_X9_23 (x := w6) B hk_t e_w6 dX9_reset_79 k) ?_
    refine ym 83 (fun B k => z_iload_n B dX9_reset_82 rfl 1 rfl k) ?_
    replace h := bq_e h
    obtain ⟨a7, rfl, h⟩ := h
    have hk_a7 := hq_w6 a7 rfl
    replace h := ck_e h
    obtain ⟨hi_8, h⟩ := h
    refine ym 84 (fun B k => z_iald (j := (ti x1)) (x := (sx_I u3 a7 (ti x1))) B hk_a7 rfl hi_8 rfl dX9_reset_83 k) ?_
    refine ym 85 (fun B k => z_iconst (v := 0) B dX9_reset_84 (by decide) k) ?_
    refine ym 86 (fun B k => z_iconst (v := (-1)) B dX9_reset_85 (by decide) k) ?_
    refine ym 87 (fun B k => z_iconst (v := (-1)) B dX9_reset_86 (by decide) k) ?_
    replace h := bd_e h
    obtain ⟨r10, u11, h9, h⟩ := h
    have m12 := ct_X9_begets l (g := g) h9 hT hk_t
    refine yc_Vi (Al := [.int (sx_I u3 a7 (ti x1)), .int 0, .int (-1), .int (-1)]) (rest := []) 90 rfl cw_X9_168 cx_10 dX9_reset_87 m12 hk_t rfl (by decide) rfl (Nat.le_of_ble_eq_true rfl) ?_
    have hk_t := k_G m12.1.1 (by decide) hk_t
    have hT := m12.1.1.2.2.2
    refine ym 92 (fun B k => z_istore (lv' := [(5, .int r10), (0, .ref t), (1, .int x1), (2, .int x2)]) B dX9_reset_90 (by decide) rfl k) ?_
    refine ym 93 (fun B k => z_aload_n B dX9_reset_92 rfl 1 rfl k) ?_
    refine ym 94 (fun B k => z_iload_n B dX9_reset_93 rfl 2 rfl k) ?_
    refine ym 96 (fun B k => z_iload B dX9_reset_94 0 rfl k) ?_
    refine ym 97 (fun B k => z_iload_n B dX9_reset_96 rfl 3 rfl k) ?_
    replace h := br_e h
    obtain ⟨u14, h13, h⟩ := h
    have m15 := ct_X9_copies l (g := g) h13 hT hk_t
    refine yc_Vv (Al := [.int x1, .int r10, .int x2]) (rest := []) 100 rfl cw_X9_275 cx_10 dX9_reset_97 m15 hk_t rfl (by decide) rfl (Nat.le_of_ble_eq_true rfl) ?_
    have hk_t := k_G m15.1.1 (by decide) hk_t
    have hT := m15.1.1.2.2.2
    refine ym 101 (fun B k => z_aload_n B dX9_reset_100 rfl 1 rfl k) ?_
    replace h := qv_e h
    obtain ⟨w16, e_w16, h⟩ := h
    have hq_w16 : rk u14 w16 13 := rk_T hT hk_t rfl (by decide) e_w16
    refine ym 104 (fun B k => gf_X9_38 (x := w16) B hk_t e_w16 dX9_reset_101 k) ?_
    refine ym 106 (fun B k => z_iload B dX9_reset_104 0 rfl k) ?_
    refine ym 107 (fun B k => z_iload_n B dX9_reset_106 rfl 3 rfl k) ?_
    replace h := bq_e h
    obtain ⟨a17, rfl, h⟩ := h
    have hk_a17 := hq_w16 a17 rfl
    replace h := ck_e h
    obtain ⟨hi_18, h⟩ := h
    have j19 := hk_a17
    refine ymw (σ' := (wx_I u14 a17 (ti r10) x2)) 108 e_I (fun B _ k => z_iast (j := (ti r10)) B hk_a17 rfl hi_18 rfl dX9_reset_107 k) ?_
    have hT := TS_I (k := (ti r10)) (x := x2) hT hk_a17 (Or.inl rfl)
    have hk_t := kk_I (σ := u14) (a := a17) (k := (ti r10)) (x := x2) hk_t
    refine ym 109 (fun B k => z_aload_n B dX9_reset_108 rfl 1 rfl k) ?_
    refine ym 111 (fun B k => z_iload B dX9_reset_109 0 rfl k) ?_
    replace h := br_e h
    obtain ⟨u21, h20, h⟩ := h
    have m22 := ct_X9_runs l (g := g) h20 hT hk_t
    refine yc_Vv (Al := [.int r10]) (rest := []) 114 rfl cw_X9_253 cx_10 dX9_reset_111 m22 hk_t rfl (by decide) rfl (Nat.le_of_ble_eq_true rfl) ?_
    have hk_t := k_G m22.1.1 (by decide) hk_t
    have hT := m22.1.1.2.2.2
    refine ym 115 (fun B k => z_iload_n B dX9_reset_114 rfl 3 rfl k) ?_
    refine ym 117 (fun B k => z_istore (lv' := [(6, .int x2), (5, .int r10), (0, .ref t), (1, .int x1), (2, .int x2)]) B dX9_reset_115 (by decide) rfl k) ?_
    refine y_sub [(0, .ref t), (1, .int x1), (5, .int r10), (6, .int x2)] [2, 3, 1, 0] rfl ?_
    exact tl_X9_reset_117 h hT hk_t
set_option maxRecDepth 100000 in
set_option maxHeartbeats 4000000 in
theorem tb_X9_reset_68 {l : Launch} {g : gx_T} {σ : sx_T} {u : sx_T} {r : Int32} {As : Array Value} {n0 : Nat} {t : Nat} {x1 : Int32} {x2 : Int32} {y0 : Int32} {y1 : Int32} (h : fb_X9_reset_68 n0 σ t x1 x2 y0 y1 = some (r, u)) (hT : TS g σ) (hk_t : sx_K σ t = 11) (hz_y0 : y0 = 0 ∨ y0 = 1) (hz_y1 : y1 = 0 ∨ y1 = 1) : ZY l g cX9_reset RX9 "reset" (some .int) 7 9 230 0 0 false As (QM g As (Qxi g r u)) (True) u σ 68 [(0, .ref t), (1, .int x1), (2, .int x2)] [.int y0, .int y1, .ref t] := by
  unfold fb_X9_reset_68 at h
  refine ym 69 (fun B k => z_iconst (v := 0) B dX9_reset_68 (by decide) k) ?_
  refine y_sub [(0, .ref t), (1, .int x1), (2, .int x2)] [0, 1, 2] rfl ?_
  exact tb_X9_reset_69 h hT hk_t (Or.inl rfl) hz_y0 hz_y1
set_option maxRecDepth 100000 in
set_option maxHeartbeats 4000000 in
theorem tb_X9_reset_55 {l : Launch} {g : gx_T} {σ : sx_T} {u : sx_T} {r : Int32} {As : Array Value} {n0 : Nat} {t : Nat} {x1 : Int32} {x2 : Int32} {y0 : Int32} {y1 : Int32} (h : fb_X9_reset_55 n0 σ t x1 x2 y0 y1 = some (r, u)) (hT : TS g σ) (hk_t : sx_K σ t = 11) (hz_y0 : y0 = 0 ∨ y0 = 1) (hz_y1 : y1 = 0 ∨ y1 = 1) : ZY l g cX9_reset RX9 "reset" (some .int) 7 9 230 0 0 false As (QM g As (Qxi g r u)) (True) u σ 55 [(0, .ref t), (1, .int x1), (2, .int x2)] [.int y0, .int y1, .ref t] := by
  unfold fb_X9_reset_55 at h
  refine ym 56 (fun B k => z_aload_n B dX9_reset_55 rfl 0 rfl k) ?_
  refine ym 57 (fun B k => z_iload_n B dX9_reset_56 rfl 1 rfl k) ?_
  refine ym 58 (fun B k => z_iload_n B dX9_reset_57 rfl 2 rfl k) ?_
  replace h := bd_e h
  obtain ⟨r2, u3, h1, h⟩ := h
  have m4 := ct_X9_canReset l (g := g) h1 hT hk_t
  refine yc_Vi (Al := [.int x1, .int x2]) (rest := [.int y0, .int y1, .ref t]) 61 rfl cw_X9_272 cx_10 dX9_reset_58 m4 hk_t rfl (by decide) rfl (Nat.le_of_ble_eq_true rfl) ?_
  have hk_t := k_G m4.1.1 (by decide) hk_t
  have hT := m4.1.1.2.2.2
  have hz_r2 := m4.1.2
  by_cases c5 : r2 = 0
  · replace h := ite_p c5 h
    refine ym 68 (fun B k => z_if_eq (tgt := 68) B dX9_reset_61 (by decide) (fun _ => k) (fun q => absurd c5 q)) ?_
    refine y_sub [(0, .ref t), (1, .int x1), (2, .int x2)] [0, 1, 2] rfl ?_
    exact tb_X9_reset_68 h hT hk_t hz_y0 hz_y1
  · replace h := ite_n c5 h
    refine ym 64 (fun B k => z_if_eq (tgt := 68) B dX9_reset_61 (by decide) (fun q => absurd q c5) (fun _ => k)) ?_
    refine ym 65 (fun B k => z_iconst (v := 1) B dX9_reset_64 (by decide) k) ?_
    refine ym 69 (fun B k => z_goto (tgt := 69) B dX9_reset_65 (by decide) k) ?_
    refine y_sub [(0, .ref t), (1, .int x1), (2, .int x2)] [0, 1, 2] rfl ?_
    exact tb_X9_reset_69 h hT hk_t (Or.inr rfl) hz_y0 hz_y1
set_option maxRecDepth 100000 in
set_option maxHeartbeats 4000000 in
theorem tb_X9_reset_32 {l : Launch} {g : gx_T} {σ : sx_T} {u : sx_T} {r : Int32} {As : Array Value} {n0 : Nat} {t : Nat} {x1 : Int32} {x2 : Int32} {x3 : Int32} {y0 : Int32} {y1 : Int32} {y2 : Int32} {y3 : Int32} (h : fb_X9_reset_32 n0 σ t x1 x2 x3 y0 y1 y2 y3 = some (r, u)) (hT : TS g σ) (hk_t : sx_K σ t = 11) (hz_x3 : x3 = 0 ∨ x3 = 1) (hz_y0 : y0 = 0 ∨ y0 = 1) (hz_y2 : y2 = 0 ∨ y2 = 1) : ZY l g cX9_reset RX9 "reset" (some .int) 7 9 230 0 0 false As (QM g As (Qxi g r u)) (True) u σ 32 [(0, .ref t), (1, .int x1), (2, .int x2), (3, .int x3)] [.int y0, .int y1, .int y2, .int y3] := by
  unfold fb_X9_reset_32 at h
  refine ym 33 (fun B k => z_isub B dX9_reset_32 k) ?_
  replace h := br_e h
  obtain ⟨r2, h1, h⟩ := h
  have m3 := ct_X9_in l (g := g) h1 hT
  refine yc_Si (Al := [.int y3, .int y2, .int (y1 - y0)]) (rest := []) 36 rfl cw_X9_96 dX9_reset_33 m3 rfl (by decide) rfl (Nat.le_of_ble_eq_true rfl) ?_
  have hz_r2 := m3.1.2
  by_cases c4 : r2 = 0
  · replace h := ite_p c4 h
    refine ym 43 (fun B k => z_if_eq (tgt := 43) B dX9_reset_36 (by decide) (fun _ => k) (fun q => absurd c4 q)) ?_
    refine ym 44 (fun B k => z_iconst (v := 0) B dX9_reset_43 (by decide) k) ?_
    refine ym 46 (fun B k => z_istore (lv' := [(4, .int 0), (0, .ref t), (1, .int x1), (2, .int x2), (3, .int x3)]) B dX9_reset_44 (by decide) rfl k) ?_
    refine ym 47 (fun B k => z_aload_n B dX9_reset_46 rfl 1 rfl k) ?_
    refine ym 48 (fun B k => z_iload_n B dX9_reset_47 rfl 4 rfl k) ?_
    refine ym 50 (fun B k => z_iload B dX9_reset_48 0 rfl k) ?_
    refine ym 52 (fun B k => z_iload B dX9_reset_50 0 rfl k) ?_
    refine ym 68 (fun B k => z_if_eq (tgt := 68) B dX9_reset_52 (by decide) (fun _ => k) (fun q => absurd (by decide) q)) ?_
    refine y_sub [(0, .ref t), (1, .int x1), (2, .int x2)] [1, 2, 3] rfl ?_
    exact tb_X9_reset_68 h hT hk_t (Or.inl rfl) hz_x3
  · replace h := ite_n c4 h
    refine ym 39 (fun B k => z_if_eq (tgt := 43) B dX9_reset_36 (by decide) (fun q => absurd q c4) (fun _ => k)) ?_
    refine ym 40 (fun B k => z_iconst (v := 1) B dX9_reset_39 (by decide) k) ?_
    refine ym 44 (fun B k => z_goto (tgt := 44) B dX9_reset_40 (by decide) k) ?_
    refine ym 46 (fun B k => z_istore (lv' := [(4, .int 1), (0, .ref t), (1, .int x1), (2, .int x2), (3, .int x3)]) B dX9_reset_44 (by decide) rfl k) ?_
    refine ym 47 (fun B k => z_aload_n B dX9_reset_46 rfl 1 rfl k) ?_
    refine ym 48 (fun B k => z_iload_n B dX9_reset_47 rfl 4 rfl k) ?_
    refine ym 50 (fun B k => z_iload B dX9_reset_48 0 rfl k) ?_
    refine ym 52 (fun B k => z_iload B dX9_reset_50 0 rfl k) ?_
    refine ym 55 (fun B k => z_if_eq (tgt := 68) B dX9_reset_52 (by decide) (fun q => absurd q (by decide)) (fun _ => k)) ?_
    refine y_sub [(0, .ref t), (1, .int x1), (2, .int x2)] [1, 2, 3] rfl ?_
    exact tb_X9_reset_55 h hT hk_t (Or.inr rfl) hz_x3
set_option maxRecDepth 100000 in
set_option maxHeartbeats 4000000 in
theorem ct_X9_reset (l : Launch) {g : gx_T} {σ : sx_T} {u : sx_T} {r : Int32} {n0 : Nat} {t : Nat} {x1 : Int32} {x2 : Int32} (h : f_X9_reset n0 σ t x1 x2 = some (r, u)) (hT : TS g σ) (hk_t : sx_K σ t = 11) : CT l g yX9_reset cX9_reset 7 (some .int) 9 230 [.ref t, .int x1, .int x2] (True) u σ (Qxi g r u) := by
  refine yc_met (by decide) (Nat.le_of_ble_eq_true rfl) ?_
  refine yc_lv (show lv_args 0 [.ref t, .int x1, .int x2] = [(0, .ref t), (1, .int x1), (2, .int x2)] from rfl) ?_
  show ZY l g _ _ _ _ _ _ _ _ _ _ _ _ _ _ σ 0 [(0, .ref t), (1, .int x1), (2, .int x2)] []
  unfold f_X9_reset at h
  refine ym 1 (fun B k => z_aload_n B dX9_reset_0 rfl 0 rfl k) ?_
  refine ym 2 (fun B k => z_iload_n B dX9_reset_1 rfl 1 rfl k) ?_
  replace h := br_e h
  obtain ⟨r2, h1, h⟩ := h
  have m3 := ct_X9_isWorkflow l (g := g) h1 hT hk_t
  refine yc_Vi (Al := [.int x1]) (rest := []) 5 rfl cw_X9_262 cx_10 dX9_reset_2 m3 hk_t rfl (by decide) rfl (Nat.le_of_ble_eq_true rfl) ?_
  have hz_r2 := m3.1.2
  refine ym 6 (fun B k => z_istore_n (lv' := [(3, .int r2), (0, .ref t), (1, .int x1), (2, .int x2)]) B dX9_reset_5 rfl (by decide) rfl k) ?_
  refine ym 7 (fun B k => z_iload_n B dX9_reset_6 rfl 0 rfl k) ?_
  by_cases c4 : r2 = 0
  · replace h := ite_p c4 h
    refine ym 43 (fun B k => z_if_eq (tgt := 43) B dX9_reset_7 (by decide) (fun _ => k) (fun q => absurd c4 q)) ?_
    refine ym 44 (fun B k => z_iconst (v := 0) B dX9_reset_43 (by decide) k) ?_
    refine ym 46 (fun B k => z_istore (lv' := [(4, .int 0), (3, .int r2), (0, .ref t), (1, .int x1), (2, .int x2)]) B dX9_reset_44 (by decide) rfl k) ?_
    refine ym 47 (fun B k => z_aload_n B dX9_reset_46 rfl 2 rfl k) ?_
    refine ym 48 (fun B k => z_iload_n B dX9_reset_47 rfl 1 rfl k) ?_
    refine ym 50 (fun B k => z_iload B dX9_reset_48 0 rfl k) ?_
    refine ym 52 (fun B k => z_iload B dX9_reset_50 0 rfl k) ?_
    refine ym 68 (fun B k => z_if_eq (tgt := 68) B dX9_reset_52 (by decide) (fun _ => k) (fun q => absurd (by decide) q)) ?_
    refine y_sub [(0, .ref t), (1, .int x1), (2, .int x2)] [2, 3, 4] rfl ?_
    exact tb_X9_reset_68 h hT hk_t (Or.inl rfl) hz_r2
  · replace h := ite_n c4 h
    refine ym 10 (fun B k => z_if_eq (tgt := 43) B dX9_reset_7 (by decide) (fun q => absurd q c4) (fun _ => k)) ?_
    refine ym 11 (fun B k => z_iload_n B dX9_reset_10 rfl 3 rfl k) ?_
    refine ym 12 (fun B k => z_iconst (v := 1) B dX9_reset_11 (by decide) k) ?_
    refine ym 13 (fun B k => z_aload_n B dX9_reset_12 rfl 1 rfl k) ?_
    replace h := qv_e h
    obtain ⟨w5, e_w5, h⟩ := h
    have hq_w5 : rk σ w5 13 := rk_T hT hk_t rfl (by decide) e_w5
    refine ym 16 (fun B k => gf_X9_35 (x := w5) B hk_t e_w5 dX9_reset_13 k) ?_
    refine ym 17 (fun B k => z_iload_n B dX9_reset_16 rfl 2 rfl k) ?_
    replace h := bq_e h
    obtain ⟨a6, rfl, h⟩ := h
    have hk_a6 := hq_w5 a6 rfl
    replace h := ck_e h
    obtain ⟨hi_7, h⟩ := h
    refine ym 18 (fun B k => z_iald (j := (ti x1)) (x := (sx_I σ a6 (ti x1))) B hk_a6 rfl hi_7 rfl dX9_reset_17 k) ?_
    refine ym 19 (fun B k => z_aload_n B dX9_reset_18 rfl 1 rfl k) ?_
    replace h := qv_e h
    obtain ⟨w8, e_w8, h⟩ := h
    have hq_w8 : rk σ w8 13 := rk_T hT hk_t rfl (by decide) e_w8
    refine ym 22 (fun B k => gf_X9_32 (x := w8) B hk_t e_w8 dX9_reset_19 k) ?_
    refine ym 23 (fun B k => z_iload_n B dX9_reset_22 rfl 2 rfl k) ?_
    replace h := bq_e h
    obtain ⟨a9, rfl, h⟩ := h
    have hk_a9 := hq_w8 a9 rfl
    replace h := ck_e h
    obtain ⟨hi_10, h⟩ := h
    refine ym 24 (fun B k => z_iald (j := (ti x1)) (x := (sx_I σ a9 (ti x1))) B hk_a9 rfl hi_10 rfl dX9_reset_23 k) ?_
    by_cases c11 : (sx_I σ a9 (ti x1)) ≤ 0
    · replace h := ite_p c11 h
      refine ym 31 (fun B k => z_if_le (tgt := 31) B dX9_reset_24 (by decide) (fun _ => k) (fun q => absurd c11 q)) ?_
      refine ym 32 (fun B k => z_iconst (v := 0) B dX9_reset_31 (by decide) k) ?_
      refine y_sub [(0, .ref t), (1, .int x1), (2, .int x2), (3, .int r2)] [1, 2, 3, 0] rfl ?_
      exact tb_X9_reset_32 h hT hk_t hz_r2 (Or.inl rfl) (Or.inr rfl)
    · replace h := ite_n c11 h
      refine ym 27 (fun B k => z_if_le (tgt := 31) B dX9_reset_24 (by decide) (fun q => absurd q c11) (fun _ => k)) ?_
      refine ym 28 (fun B k => z_iconst (v := 1) B dX9_reset_27 (by decide) k) ?_
      refine ym 32 (fun B k => z_goto (tgt := 32) B dX9_reset_28 (by decide) k) ?_
      refine y_sub [(0, .ref t), (1, .int x1), (2, .int x2), (3, .int r2)] [1, 2, 3, 0] rfl ?_
      exact tb_X9_reset_32 h hT hk_t hz_r2 (Or.inr rfl) (Or.inr rfl)
set_option maxRecDepth 100000 in
set_option maxHeartbeats 4000000 in
theorem tl_X9_crash_9 {l : Launch} {g : gx_T} {u : sx_T} {r : Int32} {As : Array Value} {n0 : Nat} : ∀ {n : Nat} {σ : sx_T} {t : Nat} {x1 : Int32} {x2 : Int32}, fl_X9_crash_9 n0 n σ t x1 x2 = some (r, u) → TS g σ → sx_K σ t = 11 → ZY l g cX9_crash RX9 "crash" (some .int) 3 0 0 0 0 false As (QM g As (Qxi g r u)) (True) u σ 9 [(0, .ref t), (1, .int x1), (2, .int x2)] [] := by
  intro n
  induction n with
  | zero =>
    intro σ t x1 x2 h
    exact nomatch h
  | succ n ih_ =>
    have ih := @ih_
    intro σ t x1 x2 h hT hk_t
    unfold fl_X9_crash_9 at h
    refine ym 10 (fun B k => z_iload_n B dX9_crash_9 rfl 2 rfl k) ?_
    refine ym 11 (fun B k => z_aload_n B dX9_crash_10 rfl 0 rfl k) ?_
    refine ym 14 (fun B k => gf_X9_93 (x := (sx_I σ t 6)) B hk_t rfl dX9_crash_11 k) ?_
    by_cases c1 : (sx_I σ t 6) ≤ x2
    · replace h := ite_p c1 h
      refine ym 40 (fun B k => z_icmp_ge (tgt := 40) B dX9_crash_14 (by decide) (fun _ => k) (fun q => absurd c1 q)) ?_
      refine ym 41 (fun B k => z_iload_n B dX9_crash_40 rfl 1 rfl k) ?_
      obtain ⟨rfl, rfl⟩ := Prod.mk.inj (Option.some.inj h)
      exact yr_i hT trivial rfl dX9_crash_41
    · replace h := ite_n c1 h
      refine ym 17 (fun B k => z_icmp_ge (tgt := 40) B dX9_crash_14 (by decide) (fun q => absurd q c1) (fun _ => k)) ?_
      refine ym 18 (fun B k => z_iload_n B dX9_crash_17 rfl 1 rfl k) ?_
      refine ym 19 (fun B k => z_aload_n B dX9_crash_18 rfl 0 rfl k) ?_
      replace h := qv_e h
      obtain ⟨w2, e_w2, h⟩ := h
      have hq_w2 : rk σ w2 13 := rk_T hT hk_t rfl (by decide) e_w2
      refine ym 22 (fun B k => gf_X9_32 (x := w2) B hk_t e_w2 dX9_crash_19 k) ?_
      refine ym 23 (fun B k => z_iload_n B dX9_crash_22 rfl 2 rfl k) ?_
      replace h := bq_e h
      obtain ⟨a3, rfl, h⟩ := h
      have hk_a3 := hq_w2 a3 rfl
      replace h := ck_e h
      obtain ⟨hi_4, h⟩ := h
      refine ym 24 (fun B k => z_iald (j := (ti x2)) (x := (sx_I σ a3 (ti x2))) B hk_a3 rfl hi_4 rfl dX9_crash_23 k) ?_
      by_cases c5 : (sx_I σ a3 (ti x2)) = 0
      · replace h := ite_p c5 h
        refine ym 27 (fun B k => z_if_ne (tgt := 31) B dX9_crash_24 (by decide) (fun q => absurd c5 q) (fun _ => k)) ?_
        refine ym 28 (fun B k => z_iconst (v := 1) B dX9_crash_27 (by decide) k) ?_
        refine ym 32 (fun B k => z_goto (tgt := 32) B dX9_crash_28 (by decide) k) ?_
        refine ym 33 (fun B k => z_iadd B dX9_crash_32 k) ?_
        refine ym 34 (fun B k => z_istore_n (lv' := [(1, .int (x1 + 1)), (0, .ref t), (2, .int x2)]) B dX9_crash_33 rfl (by decide) rfl k) ?_
        refine ym 37 (fun B k => z_iinc (v := x2 + 1) (lv' := [(2, .int (x2 + 1)), (1, .int (x1 + 1)), (0, .ref t)]) B dX9_crash_34 2 rfl rfl (by decide) rfl k) ?_
        refine ym 9 (fun B k => z_goto (tgt := 9) B dX9_crash_37 (by decide) k) ?_
        refine y_sub [(0, .ref t), (1, .int (x1 + 1)), (2, .int (x2 + 1))] [2, 1, 0] rfl ?_
        exact ih h hT hk_t
      · replace h := ite_n c5 h
        refine ym 31 (fun B k => z_if_ne (tgt := 31) B dX9_crash_24 (by decide) (fun _ => k) (fun q => absurd q c5)) ?_
        refine ym 32 (fun B k => z_iconst (v := 0) B dX9_crash_31 (by decide) k) ?_
        refine ym 33 (fun B k => z_iadd B dX9_crash_32 k) ?_
        refine ym 34 (fun B k => z_istore_n (lv' := [(1, .int (x1 + 0)), (0, .ref t), (2, .int x2)]) B dX9_crash_33 rfl (by decide) rfl k) ?_
        refine ym 37 (fun B k => z_iinc (v := x2 + 1) (lv' := [(2, .int (x2 + 1)), (1, .int (x1 + 0)), (0, .ref t)]) B dX9_crash_34 2 rfl rfl (by decide) rfl k) ?_
        refine ym 9 (fun B k => z_goto (tgt := 9) B dX9_crash_37 (by decide) k) ?_
        refine y_sub [(0, .ref t), (1, .int (x1 + 0)), (2, .int (x2 + 1))] [2, 1, 0] rfl ?_
        exact ih h hT hk_t
set_option maxRecDepth 100000 in
set_option maxHeartbeats 4000000 in
theorem ct_X9_crash (l : Launch) {g : gx_T} {σ : sx_T} {u : sx_T} {r : Int32} {n0 : Nat} {t : Nat} (h : f_X9_crash n0 σ t = some (r, u)) (hT : TS g σ) (hk_t : sx_K σ t = 11) : CT l g yX9_crash cX9_crash 3 (some .int) 0 0 [.ref t] (True) u σ (Qxi g r u) := by
  refine yc_met (by decide) (Nat.le_of_ble_eq_true rfl) ?_
  refine yc_lv (show lv_args 0 [.ref t] = [(0, .ref t)] from rfl) ?_
  show ZY l g _ _ _ _ _ _ _ _ _ _ _ _ _ _ σ 0 [(0, .ref t)] []
  unfold f_X9_crash at h
  refine ym 1 (fun B k => z_aload_n B dX9_crash_0 rfl 0 rfl k) ?_
  refine ym 2 (fun B k => z_iconst (v := 0) B dX9_crash_1 (by decide) k) ?_
  have j1 := hk_t
  refine ymw (σ' := (wx_I σ t 0 0)) 5 e_I (fun B hin k => pf_X9_90 (x := 0) B hk_t rfl dX9_crash_2 k) ?_
  have hT := TS_I (k := 0) (x := 0) hT hk_t (Or.inl rfl)
  have hk_t := kk_I (σ := σ) (a := t) (k := 0) (x := 0) hk_t
  refine ym 6 (fun B k => z_iconst (v := 0) B dX9_crash_5 (by decide) k) ?_
  refine ym 7 (fun B k => z_istore_n (lv' := [(1, .int 0), (0, .ref t)]) B dX9_crash_6 rfl (by decide) rfl k) ?_
  refine ym 8 (fun B k => z_iconst (v := 0) B dX9_crash_7 (by decide) k) ?_
  refine ym 9 (fun B k => z_istore_n (lv' := [(2, .int 0), (1, .int 0), (0, .ref t)]) B dX9_crash_8 rfl (by decide) rfl k) ?_
  refine y_sub [(0, .ref t), (1, .int 0), (2, .int 0)] [2, 1, 0] rfl ?_
  exact tl_X9_crash_9 h hT hk_t
set_option maxRecDepth 100000 in
set_option maxHeartbeats 4000000 in
theorem tb_X9_poll_132 {l : Launch} {g : gx_T} {σ : sx_T} {u : sx_T} {r : Int32} {As : Array Value} {n0 : Nat} {kl9 : sx_T → Nat → Int32 → Int32 → Option (Int32 × sx_T)} (hkl9 : ∀ (σ : sx_T) (t : Nat) (x1 : Int32) (x2 : Int32), kl9 σ t x1 x2 = some (r, u) → TS g σ → sx_K σ t = 11 → ZY l g cX9_poll RX9 "poll" (some .int) 6 6 154 0 0 false As (QM g As (Qxi g r u)) (True) u σ 9 [(0, .ref t), (1, .int x1), (2, .int x2)] []) {t : Nat} {x1 : Int32} {x2 : Int32} (h : fb_X9_poll_132 n0 kl9 σ t x1 x2 = some (r, u)) (hT : TS g σ) (hk_t : sx_K σ t = 11) : ZY l g cX9_poll RX9 "poll" (some .int) 6 6 154 0 0 false As (QM g As (Qxi g r u)) (True) u σ 132 [(0, .ref t), (1, .int x1), (2, .int x2)] [] := by
  unfold fb_X9_poll_132 at h
  refine ym 133 (fun B k => z_iload_n B dX9_poll_132 rfl 1 rfl k) ?_
  refine ym 134 (fun B k => z_istore_n (lv' := [(1, .int x1), (0, .ref t), (2, .int x2)]) B dX9_poll_133 rfl (by decide) rfl k) ?_
  refine ym 137 (fun B k => z_iinc (v := x2 + 1) (lv' := [(2, .int (x2 + 1)), (1, .int x1), (0, .ref t)]) B dX9_poll_134 2 rfl rfl (by decide) rfl k) ?_
  refine ym 9 (fun B k => z_goto (tgt := 9) B dX9_poll_137 (by decide) k) ?_
  refine y_sub [(0, .ref t), (1, .int x1), (2, .int (x2 + 1))] [2, 1, 0] rfl ?_
  exact hkl9 _ _ _ _ h hT hk_t
set_option maxRecDepth 100000 in
set_option maxHeartbeats 4000000 in
theorem tb_X9_poll_128 {l : Launch} {g : gx_T} {σ : sx_T} {u : sx_T} {r : Int32} {As : Array Value} {n0 : Nat} {kl9 : sx_T → Nat → Int32 → Int32 → Option (Int32 × sx_T)} (hkl9 : ∀ (σ : sx_T) (t : Nat) (x1 : Int32) (x2 : Int32), kl9 σ t x1 x2 = some (r, u) → TS g σ → sx_K σ t = 11 → ZY l g cX9_poll RX9 "poll" (some .int) 6 6 154 0 0 false As (QM g As (Qxi g r u)) (True) u σ 9 [(0, .ref t), (1, .int x1), (2, .int x2)] []) {t : Nat} {x2 : Int32} (h : fb_X9_poll_128 n0 kl9 σ t x2 = some (r, u)) (hT : TS g σ) (hk_t : sx_K σ t = 11) : ZY l g cX9_poll RX9 "poll" (some .int) 6 6 154 0 0 false As (QM g As (Qxi g r u)) (True) u σ 128 [(0, .ref t), (2, .int x2)] [] := by
  unfold fb_X9_poll_128 at h
  refine ym 129 (fun B k => z_iload_n B dX9_poll_128 rfl 1 rfl k) ?_
  refine ym 133 (fun B k => z_goto (tgt := 133) B dX9_poll_129 (by decide) k) ?_
  refine ym 134 (fun B k => z_istore_n (lv' := [(1, .int x2), (0, .ref t), (2, .int x2)]) B dX9_poll_133 rfl (by decide) rfl k) ?_
  refine ym 137 (fun B k => z_iinc (v := x2 + 1) (lv' := [(2, .int (x2 + 1)), (1, .int x2), (0, .ref t)]) B dX9_poll_134 2 rfl rfl (by decide) rfl k) ?_
  refine ym 9 (fun B k => z_goto (tgt := 9) B dX9_poll_137 (by decide) k) ?_
  refine y_sub [(0, .ref t), (1, .int x2), (2, .int (x2 + 1))] [2, 1, 0] rfl ?_
  exact hkl9 _ _ _ _ h hT hk_t
set_option maxRecDepth 100000 in
set_option maxHeartbeats 4000000 in
theorem tb_X9_poll_71 {l : Launch} {g : gx_T} {σ : sx_T} {u : sx_T} {r : Int32} {As : Array Value} {n0 : Nat} {kl9 : sx_T → Nat → Int32 → Int32 → Option (Int32 × sx_T)} (hkl9 : ∀ (σ : sx_T) (t : Nat) (x1 : Int32) (x2 : Int32), kl9 σ t x1 x2 = some (r, u) → TS g σ → sx_K σ t = 11 → ZY l g cX9_poll RX9 "poll" (some .int) 6 6 154 0 0 false As (QM g As (Qxi g r u)) (True) u σ 9 [(0, .ref t), (1, .int x1), (2, .int x2)] []) {t : Nat} {x1 : Int32} {x2 : Int32} {x3 : Int32} {y0 : Int32} (h : fb_X9_poll_71 n0 kl9 σ t x1 x2 x3 y0 = some (r, u)) (hT : TS g σ) (hk_t : sx_K σ t = 11) : ZY l g cX9_poll RX9 "poll" (some .int) 6 6 154 0 0 false As (QM g As (Qxi g r u)) (True) u σ 71 [(0, .ref t), (1, .int x1), (2, .int x2), (3, .int x3)] [.int y0] := by
  unfold fb_X9_poll_71 at h
  refine ym 73 (fun B k => z_istore (lv' := [(4, .int y0), (0, .ref t), (1, .int x1), (2, .int x2), (3, .int x3)]) B dX9_poll_71 (by decide) rfl k) ?_
  refine ym 74 (fun B k => z_iload_n B dX9_poll_73 rfl 2 rfl k) ?_
  refine ym 75 (fun B k => z_iconst (v := (-1)) B dX9_poll_74 (by decide) k) ?_
  by_cases c1 : x1 = (-1)
  · replace h := ite_p c1 h
    refine ym 116 (fun B k => z_icmp_eq (tgt := 116) B dX9_poll_75 (by decide) (fun _ => k) (fun q => absurd c1 q)) ?_
    refine ym 117 (fun B k => z_iconst (v := 1) B dX9_poll_116 (by decide) k) ?_
    refine ym 121 (fun B k => z_goto (tgt := 121) B dX9_poll_117 (by decide) k) ?_
    refine ym 123 (fun B k => z_istore (lv' := [(5, .int 1), (4, .int y0), (0, .ref t), (1, .int x1), (2, .int x2), (3, .int x3)]) B dX9_poll_121 (by decide) rfl k) ?_
    refine ym 125 (fun B k => z_iload B dX9_poll_123 0 rfl k) ?_
    refine ym 128 (fun B k => z_if_eq (tgt := 132) B dX9_poll_125 (by decide) (fun q => absurd q (by decide)) (fun _ => k)) ?_
    refine y_sub [(0, .ref t), (2, .int x2)] [2, 4] rfl ?_
    exact tb_X9_poll_128 hkl9 h hT hk_t
  · replace h := ite_n c1 h
    refine ym 78 (fun B k => z_icmp_eq (tgt := 116) B dX9_poll_75 (by decide) (fun q => absurd q c1) (fun _ => k)) ?_
    refine ym 79 (fun B k => z_aload_n B dX9_poll_78 rfl 1 rfl k) ?_
    replace h := qv_e h
    obtain ⟨w2, e_w2, h⟩ := h
    have hq_w2 : rk σ w2 13 := rk_T hT hk_t rfl (by decide) e_w2
    refine ym 82 (fun B k => gf_X9_69 (x := w2) B hk_t e_w2 dX9_poll_79 k) ?_
    refine ym 83 (fun B k => z_iload_n B dX9_poll_82 rfl 4 rfl k) ?_
    replace h := bq_e h
    obtain ⟨a3, rfl, h⟩ := h
    have hk_a3 := hq_w2 a3 rfl
    replace h := ck_e h
    obtain ⟨hi_4, h⟩ := h
    refine ym 84 (fun B k => z_iald (j := (ti x3)) (x := (sx_I σ a3 (ti x3))) B hk_a3 rfl hi_4 rfl dX9_poll_83 k) ?_
    refine ym 85 (fun B k => z_aload_n B dX9_poll_84 rfl 1 rfl k) ?_
    replace h := qv_e h
    obtain ⟨w5, e_w5, h⟩ := h
    have hq_w5 : rk σ w5 13 := rk_T hT hk_t rfl (by decide) e_w5
    refine ym 88 (fun B k => gf_X9_69 (x := w5) B hk_t e_w5 dX9_poll_85 k) ?_
    refine ym 90 (fun B k => z_iload B dX9_poll_88 0 rfl k) ?_
    replace h := bq_e h
    obtain ⟨a6, rfl, h⟩ := h
    have hk_a6 := hq_w5 a6 rfl
    replace h := ck_e h
    obtain ⟨hi_7, h⟩ := h
    refine ym 91 (fun B k => z_iald (j := (ti y0)) (x := (sx_I σ a6 (ti y0))) B hk_a6 rfl hi_7 rfl dX9_poll_90 k) ?_
    by_cases c8 : (sx_I σ a3 (ti x3)) < (sx_I σ a6 (ti y0))
    · replace h := ite_p c8 h
      refine ym 116 (fun B k => z_icmp_lt (tgt := 116) B dX9_poll_91 (by decide) (fun _ => k) (fun q => absurd c8 q)) ?_
      refine ym 117 (fun B k => z_iconst (v := 1) B dX9_poll_116 (by decide) k) ?_
      refine ym 121 (fun B k => z_goto (tgt := 121) B dX9_poll_117 (by decide) k) ?_
      refine ym 123 (fun B k => z_istore (lv' := [(5, .int 1), (4, .int y0), (0, .ref t), (1, .int x1), (2, .int x2), (3, .int x3)]) B dX9_poll_121 (by decide) rfl k) ?_
      refine ym 125 (fun B k => z_iload B dX9_poll_123 0 rfl k) ?_
      refine ym 128 (fun B k => z_if_eq (tgt := 132) B dX9_poll_125 (by decide) (fun q => absurd q (by decide)) (fun _ => k)) ?_
      refine y_sub [(0, .ref t), (2, .int x2)] [2, 4] rfl ?_
      exact tb_X9_poll_128 hkl9 h hT hk_t
    · replace h := ite_n c8 h
      refine ym 94 (fun B k => z_icmp_lt (tgt := 116) B dX9_poll_91 (by decide) (fun q => absurd q c8) (fun _ => k)) ?_
      refine ym 95 (fun B k => z_aload_n B dX9_poll_94 rfl 1 rfl k) ?_
      replace h := qv_e h
      obtain ⟨w9, e_w9, h⟩ := h
      have hq_w9 : rk σ w9 13 := rk_T hT hk_t rfl (by decide) e_w9
      refine ym 98 (fun B k => gf_X9_69 (x := w9) B hk_t e_w9 dX9_poll_95 k) ?_
      refine ym 99 (fun B k => z_iload_n B dX9_poll_98 rfl 4 rfl k) ?_
      replace h := bq_e h
      obtain ⟨a10, rfl, h⟩ := h
      have hk_a10 := hq_w9 a10 rfl
      replace h := ck_e h
      obtain ⟨hi_11, h⟩ := h
      refine ym 100 (fun B k => z_iald (j := (ti x3)) (x := (sx_I σ a10 (ti x3))) B hk_a10 rfl hi_11 rfl dX9_poll_99 k) ?_
      refine ym 101 (fun B k => z_aload_n B dX9_poll_100 rfl 1 rfl k) ?_
      replace h := qv_e h
      obtain ⟨w12, e_w12, h⟩ := h
      have hq_w12 : rk σ w12 13 := rk_T hT hk_t rfl (by decide) e_w12
      refine ym 104 (fun B k => gf_X9_69 (x := w12) B hk_t e_w12 dX9_poll_101 k) ?_
      refine ym 106 (fun B k => z_iload B dX9_poll_104 0 rfl k) ?_
      replace h := bq_e h
      obtain ⟨a13, rfl, h⟩ := h
      have hk_a13 := hq_w12 a13 rfl
      replace h := ck_e h
      obtain ⟨hi_14, h⟩ := h
      refine ym 107 (fun B k => z_iald (j := (ti y0)) (x := (sx_I σ a13 (ti y0))) B hk_a13 rfl hi_14 rfl dX9_poll_106 k) ?_
      by_cases c15 : (sx_I σ a10 (ti x3)) = (sx_I σ a13 (ti y0))
      · replace h := ite_p c15 h
        refine ym 110 (fun B k => z_icmp_ne (tgt := 120) B dX9_poll_107 (by decide) (fun q => absurd c15 q) (fun _ => k)) ?_
        refine ym 111 (fun B k => z_iload_n B dX9_poll_110 rfl 4 rfl k) ?_
        refine ym 113 (fun B k => z_iload B dX9_poll_111 0 rfl k) ?_
        by_cases c16 : y0 ≤ x3
        · replace h := ite_p c16 h
          refine ym 120 (fun B k => z_icmp_ge (tgt := 120) B dX9_poll_113 (by decide) (fun _ => k) (fun q => absurd c16 q)) ?_
          refine ym 121 (fun B k => z_iconst (v := 0) B dX9_poll_120 (by decide) k) ?_
          refine ym 123 (fun B k => z_istore (lv' := [(5, .int 0), (4, .int y0), (0, .ref t), (1, .int x1), (2, .int x2), (3, .int x3)]) B dX9_poll_121 (by decide) rfl k) ?_
          refine ym 125 (fun B k => z_iload B dX9_poll_123 0 rfl k) ?_
          refine ym 132 (fun B k => z_if_eq (tgt := 132) B dX9_poll_125 (by decide) (fun _ => k) (fun q => absurd (by decide) q)) ?_
          refine y_sub [(0, .ref t), (1, .int x1), (2, .int x2)] [2, 3, 4] rfl ?_
          exact tb_X9_poll_132 hkl9 h hT hk_t
        · replace h := ite_n c16 h
          refine ym 116 (fun B k => z_icmp_ge (tgt := 120) B dX9_poll_113 (by decide) (fun q => absurd q c16) (fun _ => k)) ?_
          refine ym 117 (fun B k => z_iconst (v := 1) B dX9_poll_116 (by decide) k) ?_
          refine ym 121 (fun B k => z_goto (tgt := 121) B dX9_poll_117 (by decide) k) ?_
          refine ym 123 (fun B k => z_istore (lv' := [(5, .int 1), (4, .int y0), (0, .ref t), (1, .int x1), (2, .int x2), (3, .int x3)]) B dX9_poll_121 (by decide) rfl k) ?_
          refine ym 125 (fun B k => z_iload B dX9_poll_123 0 rfl k) ?_
          refine ym 128 (fun B k => z_if_eq (tgt := 132) B dX9_poll_125 (by decide) (fun q => absurd q (by decide)) (fun _ => k)) ?_
          refine y_sub [(0, .ref t), (2, .int x2)] [2, 4] rfl ?_
          exact tb_X9_poll_128 hkl9 h hT hk_t
      · replace h := ite_n c15 h
        refine ym 120 (fun B k => z_icmp_ne (tgt := 120) B dX9_poll_107 (by decide) (fun _ => k) (fun q => absurd q c15)) ?_
        refine ym 121 (fun B k => z_iconst (v := 0) B dX9_poll_120 (by decide) k) ?_
        refine ym 123 (fun B k => z_istore (lv' := [(5, .int 0), (4, .int y0), (0, .ref t), (1, .int x1), (2, .int x2), (3, .int x3)]) B dX9_poll_121 (by decide) rfl k) ?_
        refine ym 125 (fun B k => z_iload B dX9_poll_123 0 rfl k) ?_
        refine ym 132 (fun B k => z_if_eq (tgt := 132) B dX9_poll_125 (by decide) (fun _ => k) (fun q => absurd (by decide) q)) ?_
        refine y_sub [(0, .ref t), (1, .int x1), (2, .int x2)] [2, 3, 4] rfl ?_
        exact tb_X9_poll_132 hkl9 h hT hk_t
set_option maxRecDepth 100000 in
set_option maxHeartbeats 4000000 in
theorem tl_X9_poll_9 {l : Launch} {g : gx_T} {u : sx_T} {r : Int32} {As : Array Value} {n0 : Nat} : ∀ {n : Nat} {σ : sx_T} {t : Nat} {x1 : Int32} {x2 : Int32}, fl_X9_poll_9 n0 n σ t x1 x2 = some (r, u) → TS g σ → sx_K σ t = 11 → ZY l g cX9_poll RX9 "poll" (some .int) 6 6 154 0 0 false As (QM g As (Qxi g r u)) (True) u σ 9 [(0, .ref t), (1, .int x1), (2, .int x2)] [] := by
  intro n
  induction n with
  | zero =>
    intro σ t x1 x2 h
    exact nomatch h
  | succ n ih_ =>
    have ih := @ih_
    intro σ t x1 x2 h hT hk_t
    unfold fl_X9_poll_9 at h
    refine ym 10 (fun B k => z_iload_n B dX9_poll_9 rfl 2 rfl k) ?_
    refine ym 11 (fun B k => z_aload_n B dX9_poll_10 rfl 0 rfl k) ?_
    refine ym 14 (fun B k => gf_X9_100 (x := (sx_I σ t 16)) B hk_t rfl dX9_poll_11 k) ?_
    by_cases c1 : (sx_I σ t 16) ≤ x2
    · replace h := ite_p c1 h
      refine ym 140 (fun B k => z_icmp_ge (tgt := 140) B dX9_poll_14 (by decide) (fun _ => k) (fun q => absurd c1 q)) ?_
      refine ym 141 (fun B k => z_iload_n B dX9_poll_140 rfl 1 rfl k) ?_
      refine ym 142 (fun B k => z_iconst (v := (-1)) B dX9_poll_141 (by decide) k) ?_
      by_cases c2 : x1 = (-1)
      · replace h := ite_p c2 h
        refine ym 145 (fun B k => z_icmp_ne (tgt := 147) B dX9_poll_142 (by decide) (fun q => absurd c2 q) (fun _ => k)) ?_
        refine ym 146 (fun B k => z_iconst (v := (-1)) B dX9_poll_145 (by decide) k) ?_
        obtain ⟨rfl, rfl⟩ := Prod.mk.inj (Option.some.inj h)
        exact yr_i hT trivial rfl dX9_poll_146
      · replace h := ite_n c2 h
        refine ym 147 (fun B k => z_icmp_ne (tgt := 147) B dX9_poll_142 (by decide) (fun _ => k) (fun q => absurd q c2)) ?_
        refine ym 148 (fun B k => z_aload_n B dX9_poll_147 rfl 0 rfl k) ?_
        refine ym 149 (fun B k => z_dup B dX9_poll_148 rfl k) ?_
        refine ym 152 (fun B k => gf_X9_279 (x := (sx_I σ t 24)) B hk_t rfl dX9_poll_149 k) ?_
        refine ym 153 (fun B k => z_iconst (v := 1) B dX9_poll_152 (by decide) k) ?_
        refine ym 154 (fun B k => z_iadd B dX9_poll_153 k) ?_
        have j3 := hk_t
        refine ymw (σ' := (wx_I σ t 24 ((sx_I σ t 24) + 1))) 157 e_I (fun B hin k => pf_X9_279 (x := ((sx_I σ t 24) + 1)) B hk_t rfl dX9_poll_154 k) ?_
        have hT := TS_I (k := 24) (x := ((sx_I σ t 24) + 1)) hT hk_t (Or.inl rfl)
        have hk_t := kk_I (σ := σ) (a := t) (k := 24) (x := ((sx_I σ t 24) + 1)) hk_t
        refine ym 158 (fun B k => z_aload_n B dX9_poll_157 rfl 0 rfl k) ?_
        replace h := qv_e h
        obtain ⟨w4, e_w4, h⟩ := h
        have hq_w4 : rk (wx_I σ t 24 ((sx_I σ t 24) + 1)) w4 13 := rk_T hT hk_t rfl (by decide) ((rR_I rfl).trans e_w4)
        refine ym 161 (fun B k => gf_X9_69 (x := w4) B hk_t ((rR_I rfl).trans e_w4) dX9_poll_158 k) ?_
        refine ym 162 (fun B k => z_aload_n B dX9_poll_161 rfl 0 rfl k) ?_
        replace h := qv_e h
        obtain ⟨w5, e_w5, h⟩ := h
        have hq_w5 : rk (wx_I σ t 24 ((sx_I σ t 24) + 1)) w5 13 := rk_T hT hk_t rfl (by decide) ((rR_I rfl).trans e_w5)
        refine ym 165 (fun B k => gf_X9_23 (x := w5) B hk_t ((rR_I rfl).trans e_w5) dX9_poll_162 k) ?_
        refine ym 166 (fun B k => z_aload_n B dX9_poll_165 rfl 0 rfl k) ?_
        replace h := qv_e h
        obtain ⟨w6, e_w6, h⟩ := h
        have hq_w6 : rk (wx_I σ t 24 ((sx_I σ t 24) + 1)) w6 13 := rk_T hT hk_t rfl (by decide) ((rR_I rfl).trans e_w6)
        refine ym 169 (fun B k => gf_X9_51 (x := w6) B hk_t ((rR_I rfl).trans e_w6) dX9_poll_166 k) ?_
        refine ym 170 (fun B k => z_iload_n B dX9_poll_169 rfl 1 rfl k) ?_
        replace h := bq_e h
        obtain ⟨a7, rfl, h⟩ := h
        have hk_a7 := hq_w6 a7 rfl
        replace h := ck_e h
        obtain ⟨hi_8, h⟩ := h
        refine ym 171 (fun B k => z_iald (j := (ti x1)) (x := (sx_I σ a7 (ti x1))) B hk_a7 rfl hi_8 (rI_k (by decide) j3 (kd_I hk_a7) rfl) dX9_poll_170 k) ?_
        replace h := bq_e h
        obtain ⟨a9, rfl, h⟩ := h
        have hk_a9 := hq_w5 a9 rfl
        replace h := ck_e h
        obtain ⟨hi_10, h⟩ := h
        refine ym 172 (fun B k => z_iald (j := (ti (sx_I σ a7 (ti x1)))) (x := (sx_I σ a9 (ti (sx_I σ a7 (ti x1))))) B hk_a9 rfl hi_10 (rI_k (by decide) j3 (kd_I hk_a9) rfl) dX9_poll_171 k) ?_
        refine ym 173 (fun B k => z_aload_n B dX9_poll_172 rfl 0 rfl k) ?_
        refine ym 176 (fun B k => gf_X9_279 (x := ((sx_I σ t 24) + 1)) B hk_t rI_s dX9_poll_173 k) ?_
        replace h := bq_e h
        obtain ⟨a11, rfl, h⟩ := h
        have hk_a11 := hq_w4 a11 rfl
        replace h := ck_e h
        obtain ⟨hi_12, h⟩ := h
        have j13 := hk_a11
        refine ymw (σ' := (wx_I (wx_I σ t 24 ((sx_I σ t 24) + 1)) a11 (ti (sx_I σ a9 (ti (sx_I σ a7 (ti x1))))) ((sx_I σ t 24) + 1))) 177 e_I (fun B _ k => z_iast (j := (ti (sx_I σ a9 (ti (sx_I σ a7 (ti x1)))))) B hk_a11 rfl hi_12 rfl dX9_poll_176 k) ?_
        have hT := TS_I (k := (ti (sx_I σ a9 (ti (sx_I σ a7 (ti x1)))))) (x := ((sx_I σ t 24) + 1)) hT hk_a11 (Or.inl rfl)
        have hk_t := kk_I (σ := (wx_I σ t 24 ((sx_I σ t 24) + 1))) (a := a11) (k := (ti (sx_I σ a9 (ti (sx_I σ a7 (ti x1)))))) (x := ((sx_I σ t 24) + 1)) hk_t
        refine ym 178 (fun B k => z_aload_n B dX9_poll_177 rfl 0 rfl k) ?_
        refine ym 179 (fun B k => z_dup B dX9_poll_178 rfl k) ?_
        refine ym 182 (fun B k => gf_X9_282 (x := (sx_I σ t 23)) B hk_t (rI_k (by decide) j13 (kd_I hk_t) (rI_n (by decide) rfl)) dX9_poll_179 k) ?_
        refine ym 183 (fun B k => z_iconst (v := 1) B dX9_poll_182 (by decide) k) ?_
        refine ym 184 (fun B k => z_iadd B dX9_poll_183 k) ?_
        have j14 := hk_t
        refine ymw (σ' := (wx_I (wx_I (wx_I σ t 24 ((sx_I σ t 24) + 1)) a11 (ti (sx_I σ a9 (ti (sx_I σ a7 (ti x1))))) ((sx_I σ t 24) + 1)) t 23 ((sx_I σ t 23) + 1))) 187 e_I (fun B hin k => pf_X9_282 (x := ((sx_I σ t 23) + 1)) B hk_t rfl dX9_poll_184 k) ?_
        have hT := TS_I (k := 23) (x := ((sx_I σ t 23) + 1)) hT hk_t (Or.inl rfl)
        have hk_t := kk_I (σ := (wx_I (wx_I σ t 24 ((sx_I σ t 24) + 1)) a11 (ti (sx_I σ a9 (ti (sx_I σ a7 (ti x1))))) ((sx_I σ t 24) + 1))) (a := t) (k := 23) (x := ((sx_I σ t 23) + 1)) hk_t
        refine ym 188 (fun B k => z_aload_n B dX9_poll_187 rfl 0 rfl k) ?_
        replace h := qv_e h
        obtain ⟨w15, e_w15, h⟩ := h
        have hq_w15 : rk (wx_I (wx_I (wx_I σ t 24 ((sx_I σ t 24) + 1)) a11 (ti (sx_I σ a9 (ti (sx_I σ a7 (ti x1))))) ((sx_I σ t 24) + 1)) t 23 ((sx_I σ t 23) + 1)) w15 13 := rk_T hT hk_t rfl (by decide) ((rR_I (rR_I (rR_I rfl))).trans e_w15)
        refine ym 191 (fun B k => gf_X9_57 (x := w15) B hk_t ((rR_I (rR_I (rR_I rfl))).trans e_w15) dX9_poll_188 k) ?_
        refine ym 192 (fun B k => z_iload_n B dX9_poll_191 rfl 1 rfl k) ?_
        refine ym 193 (fun B k => z_iconst (v := 1) B dX9_poll_192 (by decide) k) ?_
        replace h := bq_e h
        obtain ⟨a16, rfl, h⟩ := h
        have hk_a16 := hq_w15 a16 rfl
        replace h := ck_e h
        obtain ⟨hi_17, h⟩ := h
        have j18 := hk_a16
        refine ymw (σ' := (wx_I (wx_I (wx_I (wx_I σ t 24 ((sx_I σ t 24) + 1)) a11 (ti (sx_I σ a9 (ti (sx_I σ a7 (ti x1))))) ((sx_I σ t 24) + 1)) t 23 ((sx_I σ t 23) + 1)) a16 (ti x1) 1)) 194 e_I (fun B _ k => z_iast (j := (ti x1)) B hk_a16 rfl hi_17 rfl dX9_poll_193 k) ?_
        have hT := TS_I (k := (ti x1)) (x := 1) hT hk_a16 (Or.inl rfl)
        have hk_t := kk_I (σ := (wx_I (wx_I (wx_I σ t 24 ((sx_I σ t 24) + 1)) a11 (ti (sx_I σ a9 (ti (sx_I σ a7 (ti x1))))) ((sx_I σ t 24) + 1)) t 23 ((sx_I σ t 23) + 1))) (a := a16) (k := (ti x1)) (x := 1) hk_t
        refine ym 195 (fun B k => z_aload_n B dX9_poll_194 rfl 0 rfl k) ?_
        replace h := qv_e h
        obtain ⟨w19, e_w19, h⟩ := h
        have hq_w19 : rk (wx_I (wx_I (wx_I (wx_I σ t 24 ((sx_I σ t 24) + 1)) a11 (ti (sx_I σ a9 (ti (sx_I σ a7 (ti x1))))) ((sx_I σ t 24) + 1)) t 23 ((sx_I σ t 23) + 1)) a16 (ti x1) 1) w19 13 := rk_T hT hk_t rfl (by decide) ((rR_I (rR_I (rR_I (rR_I rfl)))).trans e_w19)
        refine ym 198 (fun B k => gf_X9_63 (x := w19) B hk_t ((rR_I (rR_I (rR_I (rR_I rfl)))).trans e_w19) dX9_poll_195 k) ?_
        refine ym 199 (fun B k => z_iload_n B dX9_poll_198 rfl 1 rfl k) ?_
        refine ym 200 (fun B k => z_aload_n B dX9_poll_199 rfl 0 rfl k) ?_
        refine ym 203 (fun B k => gf_X9_282 (x := ((sx_I σ t 23) + 1)) B hk_t (rI_k (by decide) j18 (kd_I hk_t) rI_s) dX9_poll_200 k) ?_
        replace h := bq_e h
        obtain ⟨a20, rfl, h⟩ := h
        have hk_a20 := hq_w19 a20 rfl
        replace h := ck_e h
        obtain ⟨hi_21, h⟩ := h
        have j22 := hk_a20
        refine ymw (σ' := (wx_I (wx_I (wx_I (wx_I (wx_I σ t 24 ((sx_I σ t 24) + 1)) a11 (ti (sx_I σ a9 (ti (sx_I σ a7 (ti x1))))) ((sx_I σ t 24) + 1)) t 23 ((sx_I σ t 23) + 1)) a16 (ti x1) 1) a20 (ti x1) ((sx_I σ t 23) + 1))) 204 e_I (fun B _ k => z_iast (j := (ti x1)) B hk_a20 rfl hi_21 rfl dX9_poll_203 k) ?_
        have hT := TS_I (k := (ti x1)) (x := ((sx_I σ t 23) + 1)) hT hk_a20 (Or.inl rfl)
        have hk_t := kk_I (σ := (wx_I (wx_I (wx_I (wx_I σ t 24 ((sx_I σ t 24) + 1)) a11 (ti (sx_I σ a9 (ti (sx_I σ a7 (ti x1))))) ((sx_I σ t 24) + 1)) t 23 ((sx_I σ t 23) + 1)) a16 (ti x1) 1)) (a := a20) (k := (ti x1)) (x := ((sx_I σ t 23) + 1)) hk_t
        refine ym 205 (fun B k => z_aload_n B dX9_poll_204 rfl 0 rfl k) ?_
        replace h := qv_e h
        obtain ⟨w23, e_w23, h⟩ := h
        have hq_w23 : rk (wx_I (wx_I (wx_I (wx_I (wx_I σ t 24 ((sx_I σ t 24) + 1)) a11 (ti (sx_I σ a9 (ti (sx_I σ a7 (ti x1))))) ((sx_I σ t 24) + 1)) t 23 ((sx_I σ t 23) + 1)) a16 (ti x1) 1) a20 (ti x1) ((sx_I σ t 23) + 1)) w23 13 := rk_T hT hk_t rfl (by decide) ((rR_I (rR_I (rR_I (rR_I (rR_I rfl))))).trans e_w23)
        refine ym 208 (fun B k => gf_X9_66 (x := w23) B hk_t ((rR_I (rR_I (rR_I (rR_I (rR_I rfl))))).trans e_w23) dX9_poll_205 k) ?_
        refine ym 209 (fun B k => z_iload_n B dX9_poll_208 rfl 1 rfl k) ?_
        refine ym 210 (fun B k => z_aload_n B dX9_poll_209 rfl 0 rfl k) ?_
        refine ym 213 (fun B k => gf_X9_197 (x := (sx_I σ t 1)) B hk_t (rI_k (by decide) j22 (kd_I hk_t) (rI_k (by decide) j18 (kd_I (kd_I hk_t)) (rI_n (by decide) (rI_k (by decide) j13 (kd_I (kd_I (kd_I (kd_I hk_t)))) (rI_n (by decide) rfl))))) dX9_poll_210 k) ?_
        refine ym 215 (fun B k => z_bipush (v := 6) B dX9_poll_213 (by decide) k) ?_
        refine ym 216 (fun B k => z_iadd B dX9_poll_215 k) ?_
        replace h := bq_e h
        obtain ⟨a24, rfl, h⟩ := h
        have hk_a24 := hq_w23 a24 rfl
        replace h := ck_e h
        obtain ⟨hi_25, h⟩ := h
        have j26 := hk_a24
        refine ymw (σ' := (wx_I (wx_I (wx_I (wx_I (wx_I (wx_I σ t 24 ((sx_I σ t 24) + 1)) a11 (ti (sx_I σ a9 (ti (sx_I σ a7 (ti x1))))) ((sx_I σ t 24) + 1)) t 23 ((sx_I σ t 23) + 1)) a16 (ti x1) 1) a20 (ti x1) ((sx_I σ t 23) + 1)) a24 (ti x1) ((sx_I σ t 1) + 6))) 217 e_I (fun B _ k => z_iast (j := (ti x1)) B hk_a24 rfl hi_25 rfl dX9_poll_216 k) ?_
        have hT := TS_I (k := (ti x1)) (x := ((sx_I σ t 1) + 6)) hT hk_a24 (Or.inl rfl)
        have hk_t := kk_I (σ := (wx_I (wx_I (wx_I (wx_I (wx_I σ t 24 ((sx_I σ t 24) + 1)) a11 (ti (sx_I σ a9 (ti (sx_I σ a7 (ti x1))))) ((sx_I σ t 24) + 1)) t 23 ((sx_I σ t 23) + 1)) a16 (ti x1) 1) a20 (ti x1) ((sx_I σ t 23) + 1))) (a := a24) (k := (ti x1)) (x := ((sx_I σ t 1) + 6)) hk_t
        refine ym 218 (fun B k => z_aload_n B dX9_poll_217 rfl 0 rfl k) ?_
        refine ym 221 (fun B k => gf_X9_282 (x := ((sx_I σ t 23) + 1)) B hk_t (rI_k (by decide) j26 (kd_I hk_t) (rI_k (by decide) j22 (kd_I (kd_I hk_t)) (rI_k (by decide) j18 (kd_I (kd_I (kd_I hk_t))) rI_s))) dX9_poll_218 k) ?_
        obtain ⟨rfl, rfl⟩ := Prod.mk.inj (Option.some.inj h)
        exact yr_i hT trivial rfl dX9_poll_221
    · replace h := ite_n c1 h
      refine ym 17 (fun B k => z_icmp_ge (tgt := 140) B dX9_poll_14 (by decide) (fun q => absurd q c1) (fun _ => k)) ?_
      refine ym 18 (fun B k => z_aload_n B dX9_poll_17 rfl 0 rfl k) ?_
      replace h := qv_e h
      obtain ⟨w27, e_w27, h⟩ := h
      have hq_w27 : rk σ w27 13 := rk_T hT hk_t rfl (by decide) e_w27
      refine ym 21 (fun B k => gf_X9_57 (x := w27) B hk_t e_w27 dX9_poll_18 k) ?_
      refine ym 22 (fun B k => z_iload_n B dX9_poll_21 rfl 2 rfl k) ?_
      replace h := bq_e h
      obtain ⟨a28, rfl, h⟩ := h
      have hk_a28 := hq_w27 a28 rfl
      replace h := ck_e h
      obtain ⟨hi_29, h⟩ := h
      refine ym 23 (fun B k => z_iald (j := (ti x2)) (x := (sx_I σ a28 (ti x2))) B hk_a28 rfl hi_29 rfl dX9_poll_22 k) ?_
      by_cases c30 : (sx_I σ a28 (ti x2)) = 0
      · replace h := ite_p c30 h
        refine ym 26 (fun B k => z_if_ne (tgt := 134) B dX9_poll_23 (by decide) (fun q => absurd c30 q) (fun _ => k)) ?_
        refine ym 27 (fun B k => z_aload_n B dX9_poll_26 rfl 0 rfl k) ?_
        refine ym 28 (fun B k => z_aload_n B dX9_poll_27 rfl 0 rfl k) ?_
        replace h := qv_e h
        obtain ⟨w31, e_w31, h⟩ := h
        have hq_w31 : rk σ w31 13 := rk_T hT hk_t rfl (by decide) e_w31
        refine ym 31 (fun B k => gf_X9_51 (x := w31) B hk_t e_w31 dX9_poll_28 k) ?_
        refine ym 32 (fun B k => z_iload_n B dX9_poll_31 rfl 2 rfl k) ?_
        replace h := bq_e h
        obtain ⟨a32, rfl, h⟩ := h
        have hk_a32 := hq_w31 a32 rfl
        replace h := ck_e h
        obtain ⟨hi_33, h⟩ := h
        refine ym 33 (fun B k => z_iald (j := (ti x2)) (x := (sx_I σ a32 (ti x2))) B hk_a32 rfl hi_33 rfl dX9_poll_32 k) ?_
        replace h := bd_e h
        obtain ⟨r35, u36, h34, h⟩ := h
        have m37 := ct_X9_isFit l (g := g) h34 hT hk_t
        refine yc_Vi (Al := [.int (sx_I σ a32 (ti x2))]) (rest := []) 36 rfl cw_X9_235 cx_10 dX9_poll_33 m37 hk_t rfl (by decide) rfl (Nat.le_of_ble_eq_true rfl) ?_
        have hk_t := k_G m37.1.1 (by decide) hk_t
        have hT := m37.1.1.2.2.2
        have hz_r35 := m37.1.2
        by_cases c38 : r35 = 0
        · replace h := ite_p c38 h
          refine ym 134 (fun B k => z_if_eq (tgt := 134) B dX9_poll_36 (by decide) (fun _ => k) (fun q => absurd c38 q)) ?_
          refine ym 137 (fun B k => z_iinc (v := x2 + 1) (lv' := [(2, .int (x2 + 1)), (0, .ref t), (1, .int x1)]) B dX9_poll_134 2 rfl rfl (by decide) rfl k) ?_
          refine ym 9 (fun B k => z_goto (tgt := 9) B dX9_poll_137 (by decide) k) ?_
          refine y_sub [(0, .ref t), (1, .int x1), (2, .int (x2 + 1))] [1, 2, 0] rfl ?_
          exact ih h hT hk_t
        · replace h := ite_n c38 h
          refine ym 39 (fun B k => z_if_eq (tgt := 134) B dX9_poll_36 (by decide) (fun q => absurd q c38) (fun _ => k)) ?_
          refine ym 40 (fun B k => z_aload_n B dX9_poll_39 rfl 0 rfl k) ?_
          replace h := qv_e h
          obtain ⟨w39, e_w39, h⟩ := h
          have hq_w39 : rk u36 w39 13 := rk_T hT hk_t rfl (by decide) e_w39
          refine ym 43 (fun B k => gf_X9_23 (x := w39) B hk_t e_w39 dX9_poll_40 k) ?_
          refine ym 44 (fun B k => z_aload_n B dX9_poll_43 rfl 0 rfl k) ?_
          replace h := qv_e h
          obtain ⟨w40, e_w40, h⟩ := h
          have hq_w40 : rk u36 w40 13 := rk_T hT hk_t rfl (by decide) e_w40
          refine ym 47 (fun B k => gf_X9_51 (x := w40) B hk_t e_w40 dX9_poll_44 k) ?_
          refine ym 48 (fun B k => z_iload_n B dX9_poll_47 rfl 2 rfl k) ?_
          replace h := bq_e h
          obtain ⟨a41, rfl, h⟩ := h
          have hk_a41 := hq_w40 a41 rfl
          replace h := ck_e h
          obtain ⟨hi_42, h⟩ := h
          refine ym 49 (fun B k => z_iald (j := (ti x2)) (x := (sx_I u36 a41 (ti x2))) B hk_a41 rfl hi_42 rfl dX9_poll_48 k) ?_
          replace h := bq_e h
          obtain ⟨a43, rfl, h⟩ := h
          have hk_a43 := hq_w39 a43 rfl
          replace h := ck_e h
          obtain ⟨hi_44, h⟩ := h
          refine ym 50 (fun B k => z_iald (j := (ti (sx_I u36 a41 (ti x2)))) (x := (sx_I u36 a43 (ti (sx_I u36 a41 (ti x2))))) B hk_a43 rfl hi_44 rfl dX9_poll_49 k) ?_
          refine ym 51 (fun B k => z_istore_n (lv' := [(3, .int (sx_I u36 a43 (ti (sx_I u36 a41 (ti x2))))), (0, .ref t), (1, .int x1), (2, .int x2)]) B dX9_poll_50 rfl (by decide) rfl k) ?_
          refine ym 52 (fun B k => z_iload_n B dX9_poll_51 rfl 2 rfl k) ?_
          refine ym 53 (fun B k => z_iconst (v := (-1)) B dX9_poll_52 (by decide) k) ?_
          by_cases c45 : x1 = (-1)
          · replace h := ite_p c45 h
            refine ym 56 (fun B k => z_icmp_ne (tgt := 60) B dX9_poll_53 (by decide) (fun q => absurd c45 q) (fun _ => k)) ?_
            refine ym 57 (fun B k => z_iconst (v := 0) B dX9_poll_56 (by decide) k) ?_
            refine ym 71 (fun B k => z_goto (tgt := 71) B dX9_poll_57 (by decide) k) ?_
            refine y_sub [(0, .ref t), (1, .int x1), (2, .int x2), (3, .int (sx_I u36 a43 (ti (sx_I u36 a41 (ti x2)))))] [1, 2, 3, 0] rfl ?_
            exact tb_X9_poll_71 (fun _ _ _ _ => ih) h hT hk_t
          · replace h := ite_n c45 h
            refine ym 60 (fun B k => z_icmp_ne (tgt := 60) B dX9_poll_53 (by decide) (fun _ => k) (fun q => absurd q c45)) ?_
            refine ym 61 (fun B k => z_aload_n B dX9_poll_60 rfl 1 rfl k) ?_
            replace h := qv_e h
            obtain ⟨w46, e_w46, h⟩ := h
            have hq_w46 : rk u36 w46 13 := rk_T hT hk_t rfl (by decide) e_w46
            refine ym 64 (fun B k => gf_X9_23 (x := w46) B hk_t e_w46 dX9_poll_61 k) ?_
            refine ym 65 (fun B k => z_aload_n B dX9_poll_64 rfl 1 rfl k) ?_
            replace h := qv_e h
            obtain ⟨w47, e_w47, h⟩ := h
            have hq_w47 : rk u36 w47 13 := rk_T hT hk_t rfl (by decide) e_w47
            refine ym 68 (fun B k => gf_X9_51 (x := w47) B hk_t e_w47 dX9_poll_65 k) ?_
            refine ym 69 (fun B k => z_iload_n B dX9_poll_68 rfl 2 rfl k) ?_
            replace h := bq_e h
            obtain ⟨a48, rfl, h⟩ := h
            have hk_a48 := hq_w47 a48 rfl
            replace h := ck_e h
            obtain ⟨hi_49, h⟩ := h
            refine ym 70 (fun B k => z_iald (j := (ti x1)) (x := (sx_I u36 a48 (ti x1))) B hk_a48 rfl hi_49 rfl dX9_poll_69 k) ?_
            replace h := bq_e h
            obtain ⟨a50, rfl, h⟩ := h
            have hk_a50 := hq_w46 a50 rfl
            replace h := ck_e h
            obtain ⟨hi_51, h⟩ := h
            refine ym 71 (fun B k => z_iald (j := (ti (sx_I u36 a48 (ti x1)))) (x := (sx_I u36 a50 (ti (sx_I u36 a48 (ti x1))))) B hk_a50 rfl hi_51 rfl dX9_poll_70 k) ?_
            refine y_sub [(0, .ref t), (1, .int x1), (2, .int x2), (3, .int (sx_I u36 a43 (ti (sx_I u36 a41 (ti x2)))))] [1, 2, 3, 0] rfl ?_
            exact tb_X9_poll_71 (fun _ _ _ _ => ih) h hT hk_t
      · replace h := ite_n c30 h
        refine ym 134 (fun B k => z_if_ne (tgt := 134) B dX9_poll_23 (by decide) (fun _ => k) (fun q => absurd q c30)) ?_
        refine ym 137 (fun B k => z_iinc (v := x2 + 1) (lv' := [(2, .int (x2 + 1)), (0, .ref t), (1, .int x1)]) B dX9_poll_134 2 rfl rfl (by decide) rfl k) ?_
        refine ym 9 (fun B k => z_goto (tgt := 9) B dX9_poll_137 (by decide) k) ?_
        refine y_sub [(0, .ref t), (1, .int x1), (2, .int (x2 + 1))] [1, 2, 0] rfl ?_
        exact ih h hT hk_t
set_option maxRecDepth 100000 in
set_option maxHeartbeats 4000000 in
theorem ct_X9_poll (l : Launch) {g : gx_T} {σ : sx_T} {u : sx_T} {r : Int32} {n0 : Nat} {t : Nat} (h : f_X9_poll n0 σ t = some (r, u)) (hT : TS g σ) (hk_t : sx_K σ t = 11) : CT l g yX9_poll cX9_poll 6 (some .int) 6 154 [.ref t] (True) u σ (Qxi g r u) := by
  refine yc_met (by decide) (Nat.le_of_ble_eq_true rfl) ?_
  refine yc_lv (show lv_args 0 [.ref t] = [(0, .ref t)] from rfl) ?_
  show ZY l g _ _ _ _ _ _ _ _ _ _ _ _ _ _ σ 0 [(0, .ref t)] []
  unfold f_X9_poll at h
  refine ym 1 (fun B k => z_aload_n B dX9_poll_0 rfl 0 rfl k) ?_
  refine ym 2 (fun B k => z_iconst (v := 0) B dX9_poll_1 (by decide) k) ?_
  have j1 := hk_t
  refine ymw (σ' := (wx_I σ t 0 0)) 5 e_I (fun B hin k => pf_X9_90 (x := 0) B hk_t rfl dX9_poll_2 k) ?_
  have hT := TS_I (k := 0) (x := 0) hT hk_t (Or.inl rfl)
  have hk_t := kk_I (σ := σ) (a := t) (k := 0) (x := 0) hk_t
  refine ym 6 (fun B k => z_iconst (v := (-1)) B dX9_poll_5 (by decide) k) ?_
  refine ym 7 (fun B k => z_istore_n (lv' := [(1, .int (-1)), (0, .ref t)]) B dX9_poll_6 rfl (by decide) rfl k) ?_
  refine ym 8 (fun B k => z_iconst (v := 0) B dX9_poll_7 (by decide) k) ?_
  refine ym 9 (fun B k => z_istore_n (lv' := [(2, .int 0), (1, .int (-1)), (0, .ref t)]) B dX9_poll_8 rfl (by decide) rfl k) ?_
  refine y_sub [(0, .ref t), (1, .int (-1)), (2, .int 0)] [2, 1, 0] rfl ?_
  exact tl_X9_poll_9 h hT hk_t
set_option maxRecDepth 100000 in
set_option maxHeartbeats 4000000 in
theorem tl_X9_taskOf_2 {l : Launch} {g : gx_T} {u : sx_T} {r : Int32} {As : Array Value} {n0 : Nat} : ∀ {n : Nat} {σ : sx_T} {t : Nat} {x1 : Int32} {x2 : Int32}, fl_X9_taskOf_2 n0 n σ t x1 x2 = some (r, u) → TS g σ → sx_K σ t = 11 → ZY l g cX9_taskOf RX9 "taskOf" (some .int) 3 6 154 0 0 false As (QM g As (Qxi g r u)) (True) u σ 2 [(0, .ref t), (1, .int x1), (2, .int x2)] [] := by
  intro n
  induction n with
  | zero =>
    intro σ t x1 x2 h
    exact nomatch h
  | succ n ih_ =>
    have ih := @ih_
    intro σ t x1 x2 h hT hk_t
    unfold fl_X9_taskOf_2 at h
    refine ym 3 (fun B k => z_iload_n B dX9_taskOf_2 rfl 2 rfl k) ?_
    refine ym 4 (fun B k => z_aload_n B dX9_taskOf_3 rfl 0 rfl k) ?_
    refine ym 7 (fun B k => gf_X9_100 (x := (sx_I σ t 16)) B hk_t rfl dX9_taskOf_4 k) ?_
    by_cases c1 : (sx_I σ t 16) ≤ x2
    · replace h := ite_p c1 h
      refine ym 55 (fun B k => z_icmp_ge (tgt := 55) B dX9_taskOf_7 (by decide) (fun _ => k) (fun q => absurd c1 q)) ?_
      refine ym 56 (fun B k => z_iconst (v := (-1)) B dX9_taskOf_55 (by decide) k) ?_
      obtain ⟨rfl, rfl⟩ := Prod.mk.inj (Option.some.inj h)
      exact yr_i hT trivial rfl dX9_taskOf_56
    · replace h := ite_n c1 h
      refine ym 10 (fun B k => z_icmp_ge (tgt := 55) B dX9_taskOf_7 (by decide) (fun q => absurd q c1) (fun _ => k)) ?_
      refine ym 11 (fun B k => z_aload_n B dX9_taskOf_10 rfl 0 rfl k) ?_
      replace h := qv_e h
      obtain ⟨w2, e_w2, h⟩ := h
      have hq_w2 : rk σ w2 13 := rk_T hT hk_t rfl (by decide) e_w2
      refine ym 14 (fun B k => gf_X9_57 (x := w2) B hk_t e_w2 dX9_taskOf_11 k) ?_
      refine ym 15 (fun B k => z_iload_n B dX9_taskOf_14 rfl 2 rfl k) ?_
      replace h := bq_e h
      obtain ⟨a3, rfl, h⟩ := h
      have hk_a3 := hq_w2 a3 rfl
      replace h := ck_e h
      obtain ⟨hi_4, h⟩ := h
      refine ym 16 (fun B k => z_iald (j := (ti x2)) (x := (sx_I σ a3 (ti x2))) B hk_a3 rfl hi_4 rfl dX9_taskOf_15 k) ?_
      refine ym 17 (fun B k => z_iconst (v := 1) B dX9_taskOf_16 (by decide) k) ?_
      by_cases c5 : (sx_I σ a3 (ti x2)) = 1
      · replace h := ite_p c5 h
        refine ym 20 (fun B k => z_icmp_ne (tgt := 49) B dX9_taskOf_17 (by decide) (fun q => absurd c5 q) (fun _ => k)) ?_
        refine ym 21 (fun B k => z_aload_n B dX9_taskOf_20 rfl 0 rfl k) ?_
        replace h := qv_e h
        obtain ⟨w6, e_w6, h⟩ := h
        have hq_w6 : rk σ w6 13 := rk_T hT hk_t rfl (by decide) e_w6
        refine ym 24 (fun B k => gf_X9_63 (x := w6) B hk_t e_w6 dX9_taskOf_21 k) ?_
        refine ym 25 (fun B k => z_iload_n B dX9_taskOf_24 rfl 2 rfl k) ?_
        replace h := bq_e h
        obtain ⟨a7, rfl, h⟩ := h
        have hk_a7 := hq_w6 a7 rfl
        replace h := ck_e h
        obtain ⟨hi_8, h⟩ := h
        refine ym 26 (fun B k => z_iald (j := (ti x2)) (x := (sx_I σ a7 (ti x2))) B hk_a7 rfl hi_8 rfl dX9_taskOf_25 k) ?_
        refine ym 27 (fun B k => z_iload_n B dX9_taskOf_26 rfl 1 rfl k) ?_
        by_cases c9 : (sx_I σ a7 (ti x2)) = x1
        · replace h := ite_p c9 h
          refine ym 30 (fun B k => z_icmp_ne (tgt := 49) B dX9_taskOf_27 (by decide) (fun q => absurd c9 q) (fun _ => k)) ?_
          refine ym 31 (fun B k => z_aload_n B dX9_taskOf_30 rfl 0 rfl k) ?_
          refine ym 32 (fun B k => z_aload_n B dX9_taskOf_31 rfl 0 rfl k) ?_
          replace h := qv_e h
          obtain ⟨w10, e_w10, h⟩ := h
          have hq_w10 : rk σ w10 13 := rk_T hT hk_t rfl (by decide) e_w10
          refine ym 35 (fun B k => gf_X9_51 (x := w10) B hk_t e_w10 dX9_taskOf_32 k) ?_
          refine ym 36 (fun B k => z_iload_n B dX9_taskOf_35 rfl 2 rfl k) ?_
          replace h := bq_e h
          obtain ⟨a11, rfl, h⟩ := h
          have hk_a11 := hq_w10 a11 rfl
          replace h := ck_e h
          obtain ⟨hi_12, h⟩ := h
          refine ym 37 (fun B k => z_iald (j := (ti x2)) (x := (sx_I σ a11 (ti x2))) B hk_a11 rfl hi_12 rfl dX9_taskOf_36 k) ?_
          replace h := bd_e h
          obtain ⟨r14, u15, h13, h⟩ := h
          have m16 := ct_X9_isFit l (g := g) h13 hT hk_t
          refine yc_Vi (Al := [.int (sx_I σ a11 (ti x2))]) (rest := []) 40 rfl cw_X9_235 cx_10 dX9_taskOf_37 m16 hk_t rfl (by decide) rfl (Nat.le_of_ble_eq_true rfl) ?_
          have hk_t := k_G m16.1.1 (by decide) hk_t
          have hT := m16.1.1.2.2.2
          have hz_r14 := m16.1.2
          by_cases c17 : r14 = 0
          · replace h := ite_p c17 h
            refine ym 47 (fun B k => z_if_eq (tgt := 47) B dX9_taskOf_40 (by decide) (fun _ => k) (fun q => absurd c17 q)) ?_
            refine ym 48 (fun B k => z_iconst (v := (-1)) B dX9_taskOf_47 (by decide) k) ?_
            obtain ⟨rfl, rfl⟩ := Prod.mk.inj (Option.some.inj h)
            exact yr_i hT trivial rfl dX9_taskOf_48
          · replace h := ite_n c17 h
            refine ym 43 (fun B k => z_if_eq (tgt := 47) B dX9_taskOf_40 (by decide) (fun q => absurd q c17) (fun _ => k)) ?_
            refine ym 44 (fun B k => z_iload_n B dX9_taskOf_43 rfl 2 rfl k) ?_
            refine ym 48 (fun B k => z_goto (tgt := 48) B dX9_taskOf_44 (by decide) k) ?_
            obtain ⟨rfl, rfl⟩ := Prod.mk.inj (Option.some.inj h)
            exact yr_i hT trivial rfl dX9_taskOf_48
        · replace h := ite_n c9 h
          refine ym 49 (fun B k => z_icmp_ne (tgt := 49) B dX9_taskOf_27 (by decide) (fun _ => k) (fun q => absurd q c9)) ?_
          refine ym 52 (fun B k => z_iinc (v := x2 + 1) (lv' := [(2, .int (x2 + 1)), (0, .ref t), (1, .int x1)]) B dX9_taskOf_49 2 rfl rfl (by decide) rfl k) ?_
          refine ym 2 (fun B k => z_goto (tgt := 2) B dX9_taskOf_52 (by decide) k) ?_
          refine y_sub [(0, .ref t), (1, .int x1), (2, .int (x2 + 1))] [1, 2, 0] rfl ?_
          exact ih h hT hk_t
      · replace h := ite_n c5 h
        refine ym 49 (fun B k => z_icmp_ne (tgt := 49) B dX9_taskOf_17 (by decide) (fun _ => k) (fun q => absurd q c5)) ?_
        refine ym 52 (fun B k => z_iinc (v := x2 + 1) (lv' := [(2, .int (x2 + 1)), (0, .ref t), (1, .int x1)]) B dX9_taskOf_49 2 rfl rfl (by decide) rfl k) ?_
        refine ym 2 (fun B k => z_goto (tgt := 2) B dX9_taskOf_52 (by decide) k) ?_
        refine y_sub [(0, .ref t), (1, .int x1), (2, .int (x2 + 1))] [1, 2, 0] rfl ?_
        exact ih h hT hk_t
set_option maxRecDepth 100000 in
set_option maxHeartbeats 4000000 in
theorem ct_X9_taskOf (l : Launch) {g : gx_T} {σ : sx_T} {u : sx_T} {r : Int32} {n0 : Nat} {t : Nat} {x1 : Int32} (h : f_X9_taskOf n0 σ t x1 = some (r, u)) (hT : TS g σ) (hk_t : sx_K σ t = 11) : CT l g yX9_taskOf cX9_taskOf 3 (some .int) 6 154 [.ref t, .int x1] (True) u σ (Qxi g r u) := by
  refine yc_met (by decide) (Nat.le_of_ble_eq_true rfl) ?_
  refine yc_lv (show lv_args 0 [.ref t, .int x1] = [(0, .ref t), (1, .int x1)] from rfl) ?_
  show ZY l g _ _ _ _ _ _ _ _ _ _ _ _ _ _ σ 0 [(0, .ref t), (1, .int x1)] []
  unfold f_X9_taskOf at h
  refine ym 1 (fun B k => z_iconst (v := 0) B dX9_taskOf_0 (by decide) k) ?_
  refine ym 2 (fun B k => z_istore_n (lv' := [(2, .int 0), (0, .ref t), (1, .int x1)]) B dX9_taskOf_1 rfl (by decide) rfl k) ?_
  refine y_sub [(0, .ref t), (1, .int x1), (2, .int 0)] [1, 2, 0] rfl ?_
  exact tl_X9_taskOf_2 h hT hk_t
set_option maxRecDepth 100000 in
set_option maxHeartbeats 4000000 in
theorem ct_X9_gets (l : Launch) {g : gx_T} {σ : sx_T} {u : sx_T} {n0 : Nat} {t : Nat} {x1 : Int32} {x2 : Int32} {x3 : Int64} (h : f_X9_gets n0 σ t x1 x2 x3 = some u) (hT : TS g σ) (hk_t : sx_K σ t = 11) : CT l g yX9_gets cX9_gets 5 none 8 206 [.ref t, .int x1, .int x2, .long x3] (True) u σ (Qxv g u) := by
  refine yc_met (by decide) (Nat.le_of_ble_eq_true rfl) ?_
  refine yc_lv (show lv_args 0 [.ref t, .int x1, .int x2, .long x3] = [(0, .ref t), (1, .int x1), (2, .int x2), (3, .long x3)] from rfl) ?_
  show ZY l g _ _ _ _ _ _ _ _ _ _ _ _ _ _ σ 0 [(0, .ref t), (1, .int x1), (2, .int x2), (3, .long x3)] []
  unfold f_X9_gets at h
  refine ym 1 (fun B k => z_aload_n B dX9_gets_0 rfl 0 rfl k) ?_
  refine ym 2 (fun B k => z_iload_n B dX9_gets_1 rfl 1 rfl k) ?_
  replace h := br_e h
  obtain ⟨u2, h1, h⟩ := h
  have m3 := ct_X9_closes l (g := g) h1 hT hk_t
  refine yc_Vv (Al := [.int x1]) (rest := []) 5 rfl cw_X9_223 cx_10 dX9_gets_2 m3 hk_t rfl (by decide) rfl (Nat.le_of_ble_eq_true rfl) ?_
  have hk_t := k_G m3.1.1 (by decide) hk_t
  have hT := m3.1.1.2.2.2
  refine ym 6 (fun B k => z_aload_n B dX9_gets_5 rfl 0 rfl k) ?_
  refine ym 7 (fun B k => z_aload_n B dX9_gets_6 rfl 0 rfl k) ?_
  replace h := qv_e h
  obtain ⟨w4, e_w4, h⟩ := h
  have hq_w4 : rk u2 w4 13 := rk_T hT hk_t rfl (by decide) e_w4
  refine ym 10 (fun B k => gf_X9_51 (x := w4) B hk_t e_w4 dX9_gets_7 k) ?_
  refine ym 11 (fun B k => z_iload_n B dX9_gets_10 rfl 1 rfl k) ?_
  replace h := bq_e h
  obtain ⟨a5, rfl, h⟩ := h
  have hk_a5 := hq_w4 a5 rfl
  replace h := ck_e h
  obtain ⟨hi_6, h⟩ := h
  refine ym 12 (fun B k => z_iald (j := (ti x1)) (x := (sx_I u2 a5 (ti x1))) B hk_a5 rfl hi_6 rfl dX9_gets_11 k) ?_
  refine ym 13 (fun B k => z_iload_n B dX9_gets_12 rfl 2 rfl k) ?_
  refine ym 14 (fun B k => z_lload_n B dX9_gets_13 rfl 3 rfl k) ?_
  replace h := br_e h
  obtain ⟨u8, h7, h⟩ := h
  have m9 := ct_X9_adds l (g := g) h7 hT hk_t
  refine yc_Vv (Al := [.int (sx_I u2 a5 (ti x1)), .int x2, .long x3]) (rest := []) 17 rfl cw_X9_143 cx_10 dX9_gets_14 m9 hk_t rfl (by decide) rfl (Nat.le_of_ble_eq_true rfl) ?_
  have hk_t := k_G m9.1.1 (by decide) hk_t
  have hT := m9.1.1.2.2.2
  refine ym 18 (fun B k => z_aload_n B dX9_gets_17 rfl 0 rfl k) ?_
  refine ym 19 (fun B k => z_aload_n B dX9_gets_18 rfl 0 rfl k) ?_
  replace h := qv_e h
  obtain ⟨w10, e_w10, h⟩ := h
  have hq_w10 : rk u8 w10 13 := rk_T hT hk_t rfl (by decide) e_w10
  refine ym 22 (fun B k => gf_X9_51 (x := w10) B hk_t e_w10 dX9_gets_19 k) ?_
  refine ym 23 (fun B k => z_iload_n B dX9_gets_22 rfl 1 rfl k) ?_
  replace h := bq_e h
  obtain ⟨a11, rfl, h⟩ := h
  have hk_a11 := hq_w10 a11 rfl
  replace h := ck_e h
  obtain ⟨hi_12, h⟩ := h
  refine ym 24 (fun B k => z_iald (j := (ti x1)) (x := (sx_I u8 a11 (ti x1))) B hk_a11 rfl hi_12 rfl dX9_gets_23 k) ?_
  replace h := br_e h
  obtain ⟨u14, h13, h⟩ := h
  have m15 := ct_X9_runs l (g := g) h13 hT hk_t
  refine yc_Vv (Al := [.int (sx_I u8 a11 (ti x1))]) (rest := []) 27 rfl cw_X9_253 cx_10 dX9_gets_24 m15 hk_t rfl (by decide) rfl (Nat.le_of_ble_eq_true rfl) ?_
  have hk_t := k_G m15.1.1 (by decide) hk_t
  have hT := m15.1.1.2.2.2
  obtain rfl := Option.some.inj h
  exact yr_v hT trivial rfl dX9_gets_27
set_option maxRecDepth 100000 in
set_option maxHeartbeats 4000000 in
theorem tb_X9_complete_38 {l : Launch} {g : gx_T} {σ : sx_T} {u : sx_T} {r : Int32} {As : Array Value} {n0 : Nat} {x3 : Int32} (h : fb_X9_complete_38 n0 σ x3 = some (r, u)) (hT : TS g σ)  : ZY l g cX9_complete RX9 "complete" (some .boolean) 4 9 230 0 0 false As (QM g As (Qxi g r u)) (r = 0 ∨ r = 1) u σ 38 [(3, .int x3)] [] := by
  unfold fb_X9_complete_38 at h
  refine ym 39 (fun B k => z_iload_n B dX9_complete_38 rfl 0 rfl k) ?_
  refine ym 40 (fun B k => z_iconst (v := (-1)) B dX9_complete_39 (by decide) k) ?_
  by_cases c1 : x3 = (-1)
  · replace h := ite_p c1 h
    refine ym 47 (fun B k => z_icmp_eq (tgt := 47) B dX9_complete_40 (by decide) (fun _ => k) (fun q => absurd c1 q)) ?_
    refine ym 48 (fun B k => z_iconst (v := 0) B dX9_complete_47 (by decide) k) ?_
    obtain ⟨rfl, rfl⟩ := Prod.mk.inj (Option.some.inj h)
    exact yr_z hT (Or.inl rfl) rfl (Or.inl rfl) dX9_complete_48
  · replace h := ite_n c1 h
    refine ym 43 (fun B k => z_icmp_eq (tgt := 47) B dX9_complete_40 (by decide) (fun q => absurd q c1) (fun _ => k)) ?_
    refine ym 44 (fun B k => z_iconst (v := 1) B dX9_complete_43 (by decide) k) ?_
    refine ym 48 (fun B k => z_goto (tgt := 48) B dX9_complete_44 (by decide) k) ?_
    obtain ⟨rfl, rfl⟩ := Prod.mk.inj (Option.some.inj h)
    exact yr_z hT (Or.inr rfl) rfl (Or.inr rfl) dX9_complete_48
set_option maxRecDepth 100000 in
set_option maxHeartbeats 4000000 in
theorem ct_X9_complete (l : Launch) {g : gx_T} {σ : sx_T} {u : sx_T} {r : Int32} {n0 : Nat} {t : Nat} {x1 : Int32} {x2 : Int32} (h : f_X9_complete n0 σ t x1 x2 = some (r, u)) (hT : TS g σ) (hk_t : sx_K σ t = 11) : CT l g yX9_complete cX9_complete 4 (some .boolean) 9 230 [.ref t, .int x1, .int x2] (r = 0 ∨ r = 1) u σ (Qxi g r u) := by
  refine yc_met (by decide) (Nat.le_of_ble_eq_true rfl) ?_
  refine yc_lv (show lv_args 0 [.ref t, .int x1, .int x2] = [(0, .ref t), (1, .int x1), (2, .int x2)] from rfl) ?_
  show ZY l g _ _ _ _ _ _ _ _ _ _ _ _ _ _ σ 0 [(0, .ref t), (1, .int x1), (2, .int x2)] []
  unfold f_X9_complete at h
  refine ym 1 (fun B k => z_aload_n B dX9_complete_0 rfl 0 rfl k) ?_
  refine ym 2 (fun B k => z_iload_n B dX9_complete_1 rfl 2 rfl k) ?_
  refine ym 5 (fun B k => z_sipush (v := (-999)) B dX9_complete_2 (by decide) k) ?_
  refine ym 8 (fun B k => z_sipush (v := 999) B dX9_complete_5 (by decide) k) ?_
  replace h := br_e h
  obtain ⟨r2, h1, h⟩ := h
  have m3 := ct_X9_in l (g := g) h1 hT
  refine yc_Si (Al := [.int x2, .int (-999), .int 999]) (rest := [.ref t]) 11 rfl cw_X9_96 dX9_complete_8 m3 rfl (by decide) rfl (Nat.le_of_ble_eq_true rfl) ?_
  have hz_r2 := m3.1.2
  replace h := bd_e h
  obtain ⟨r5, u6, h4, h⟩ := h
  have m7 := ct_X9_needs l (g := g) h4 hT hk_t hz_r2
  refine yc_Vi (Al := [.int r2]) (rest := []) 14 rfl cw_X9_269 cx_10 dX9_complete_11 m7 hk_t rfl (by decide) rfl (Nat.le_of_ble_eq_true rfl) ?_
  have hk_t := k_G m7.1.1 (by decide) hk_t
  have hT := m7.1.1.2.2.2
  have hz_r5 := m7.1.2
  by_cases c8 : r5 = 0
  · replace h := ite_p c8 h
    refine ym 17 (fun B k => z_if_ne (tgt := 19) B dX9_complete_14 (by decide) (fun q => absurd c8 q) (fun _ => k)) ?_
    refine ym 18 (fun B k => z_iconst (v := 0) B dX9_complete_17 (by decide) k) ?_
    obtain ⟨rfl, rfl⟩ := Prod.mk.inj (Option.some.inj h)
    exact yr_z hT (Or.inl rfl) rfl (Or.inl rfl) dX9_complete_18
  · replace h := ite_n c8 h
    refine ym 19 (fun B k => z_if_ne (tgt := 19) B dX9_complete_14 (by decide) (fun _ => k) (fun q => absurd q c8)) ?_
    refine ym 20 (fun B k => z_aload_n B dX9_complete_19 rfl 0 rfl k) ?_
    refine ym 21 (fun B k => z_iload_n B dX9_complete_20 rfl 1 rfl k) ?_
    replace h := bd_e h
    obtain ⟨r10, u11, h9, h⟩ := h
    have m12 := ct_X9_taskOf l (g := g) h9 hT hk_t
    refine yc_Vi (Al := [.int x1]) (rest := []) 24 rfl cw_X9_285 cx_10 dX9_complete_21 m12 hk_t rfl (by decide) rfl (Nat.le_of_ble_eq_true rfl) ?_
    have hk_t := k_G m12.1.1 (by decide) hk_t
    have hT := m12.1.1.2.2.2
    refine ym 25 (fun B k => z_istore_n (lv' := [(3, .int r10), (0, .ref t), (1, .int x1), (2, .int x2)]) B dX9_complete_24 rfl (by decide) rfl k) ?_
    refine ym 26 (fun B k => z_iload_n B dX9_complete_25 rfl 0 rfl k) ?_
    refine ym 27 (fun B k => z_iconst (v := (-1)) B dX9_complete_26 (by decide) k) ?_
    by_cases c13 : r10 = (-1)
    · replace h := ite_p c13 h
      refine ym 38 (fun B k => z_icmp_eq (tgt := 38) B dX9_complete_27 (by decide) (fun _ => k) (fun q => absurd c13 q)) ?_
      refine y_sub [(3, .int r10)] [0] rfl ?_
      exact tb_X9_complete_38 h hT 
    · replace h := ite_n c13 h
      refine ym 30 (fun B k => z_icmp_eq (tgt := 38) B dX9_complete_27 (by decide) (fun q => absurd q c13) (fun _ => k)) ?_
      refine ym 31 (fun B k => z_aload_n B dX9_complete_30 rfl 1 rfl k) ?_
      refine ym 32 (fun B k => z_iload_n B dX9_complete_31 rfl 0 rfl k) ?_
      refine ym 33 (fun B k => z_iconst (v := 2) B dX9_complete_32 (by decide) k) ?_
      refine ym 34 (fun B k => z_iload_n B dX9_complete_33 rfl 3 rfl k) ?_
      refine ym 35 (fun B k => z_i2l (v := x2.toInt64) B dX9_complete_34 rfl k) ?_
      replace h := br_e h
      obtain ⟨u15, h14, h⟩ := h
      have m16 := ct_X9_gets l (g := g) h14 hT hk_t
      refine yc_Vv (Al := [.int r10, .int 2, .long x2.toInt64]) (rest := []) 38 rfl cw_X9_288 cx_10 dX9_complete_35 m16 hk_t rfl (by decide) rfl (Nat.le_of_ble_eq_true rfl) ?_
      have hk_t := k_G m16.1.1 (by decide) hk_t
      have hT := m16.1.1.2.2.2
      refine y_sub [(3, .int r10)] [0] rfl ?_
      exact tb_X9_complete_38 h hT 
set_option maxRecDepth 100000 in
set_option maxHeartbeats 4000000 in
theorem ct_X9_failed (l : Launch) {g : gx_T} {σ : sx_T} {u : sx_T} {n0 : Nat} {t : Nat} {x1 : Int32} (h : f_X9_failed n0 σ t x1 = some u) (hT : TS g σ) (hk_t : sx_K σ t = 11) : CT l g yX9_failed cX9_failed 2 none 9 230 [.ref t, .int x1] (True) u σ (Qxv g u) := by
  refine yc_met (by decide) (Nat.le_of_ble_eq_true rfl) ?_
  refine yc_lv (show lv_args 0 [.ref t, .int x1] = [(0, .ref t), (1, .int x1)] from rfl) ?_
  show ZY l g _ _ _ _ _ _ _ _ _ _ _ _ _ _ σ 0 [(0, .ref t), (1, .int x1)] []
  unfold f_X9_failed at h
  refine ym 1 (fun B k => z_aload_n B dX9_failed_0 rfl 0 rfl k) ?_
  replace h := qv_e h
  obtain ⟨w1, e_w1, h⟩ := h
  have hq_w1 : rk σ w1 13 := rk_T hT hk_t rfl (by decide) e_w1
  refine ym 4 (fun B k => gf_X9_60 (x := w1) B hk_t e_w1 dX9_failed_1 k) ?_
  refine ym 5 (fun B k => z_iload_n B dX9_failed_4 rfl 1 rfl k) ?_
  refine ym 6 (fun B k => z_dup2 B dX9_failed_5 rfl (by cases w1 <;> rfl) k) ?_
  replace h := bq_e h
  obtain ⟨a2, rfl, h⟩ := h
  have hk_a2 := hq_w1 a2 rfl
  replace h := ck_e h
  obtain ⟨hi_3, h⟩ := h
  refine ym 7 (fun B k => z_iald (j := (ti x1)) (x := (sx_I σ a2 (ti x1))) B hk_a2 rfl hi_3 rfl dX9_failed_6 k) ?_
  refine ym 8 (fun B k => z_iconst (v := 1) B dX9_failed_7 (by decide) k) ?_
  refine ym 9 (fun B k => z_iadd B dX9_failed_8 k) ?_
  replace h := ck_e h
  obtain ⟨hi_4, h⟩ := h
  have j5 := hk_a2
  refine ymw (σ' := (wx_I σ a2 (ti x1) ((sx_I σ a2 (ti x1)) + 1))) 10 e_I (fun B _ k => z_iast (j := (ti x1)) B hk_a2 rfl hi_4 rfl dX9_failed_9 k) ?_
  have hT := TS_I (k := (ti x1)) (x := ((sx_I σ a2 (ti x1)) + 1)) hT hk_a2 (Or.inl rfl)
  have hk_t := kk_I (σ := σ) (a := a2) (k := (ti x1)) (x := ((sx_I σ a2 (ti x1)) + 1)) hk_t
  refine ym 11 (fun B k => z_aload_n B dX9_failed_10 rfl 0 rfl k) ?_
  replace h := qv_e h
  obtain ⟨w6, e_w6, h⟩ := h
  have hq_w6 : rk (wx_I σ a2 (ti x1) ((sx_I σ a2 (ti x1)) + 1)) w6 13 := rk_T hT hk_t rfl (by decide) ((rR_I rfl).trans e_w6)
  refine ym 14 (fun B k => gf_X9_60 (x := w6) B hk_t ((rR_I rfl).trans e_w6) dX9_failed_11 k) ?_
  refine ym 15 (fun B k => z_iload_n B dX9_failed_14 rfl 1 rfl k) ?_
  replace h := bq_e h
  obtain ⟨a7, rfl, h⟩ := h
  have hk_a7 := hq_w6 a7 rfl
  replace h := ck_e h
  obtain ⟨hi_8, h⟩ := h
  refine ym 16 (fun B k => z_iald (j := (ti x1)) (x := (sx_I (wx_I σ a2 (ti x1) ((sx_I σ a2 (ti x1)) + 1)) a7 (ti x1))) B hk_a7 rfl hi_8 rfl dX9_failed_15 k) ?_
  refine ym 17 (fun B k => z_iconst (v := 3) B dX9_failed_16 (by decide) k) ?_
  by_cases c9 : (sx_I (wx_I σ a2 (ti x1) ((sx_I σ a2 (ti x1)) + 1)) a7 (ti x1)) = 3
  · replace h := ite_p c9 h
    refine ym 20 (fun B k => z_icmp_ne (tgt := 30) B dX9_failed_17 (by decide) (fun q => absurd c9 q) (fun _ => k)) ?_
    refine ym 21 (fun B k => z_aload_n B dX9_failed_20 rfl 0 rfl k) ?_
    refine ym 22 (fun B k => z_iload_n B dX9_failed_21 rfl 1 rfl k) ?_
    refine ym 23 (fun B k => z_iconst (v := 3) B dX9_failed_22 (by decide) k) ?_
    refine ym 24 (fun B k => z_lconst (v := 0) B dX9_failed_23 (by decide) k) ?_
    replace h := br_e h
    obtain ⟨u11, h10, h⟩ := h
    have m12 := ct_X9_gets l (g := g) h10 hT hk_t
    refine yc_Vv (Al := [.int x1, .int 3, .long 0]) (rest := []) 27 rfl cw_X9_288 cx_10 dX9_failed_24 m12 hk_t rfl (by decide) rfl (Nat.le_of_ble_eq_true rfl) ?_
    have hk_t := k_G m12.1.1 (by decide) hk_t
    have hT := m12.1.1.2.2.2
    refine ym 56 (fun B k => z_goto (tgt := 56) B dX9_failed_27 (by decide) k) ?_
    obtain rfl := Option.some.inj h
    exact yr_v hT trivial rfl dX9_failed_56
  · replace h := ite_n c9 h
    refine ym 30 (fun B k => z_icmp_ne (tgt := 30) B dX9_failed_17 (by decide) (fun _ => k) (fun q => absurd q c9)) ?_
    refine ym 31 (fun B k => z_aload_n B dX9_failed_30 rfl 0 rfl k) ?_
    replace h := qv_e h
    obtain ⟨w13, e_w13, h⟩ := h
    have hq_w13 : rk (wx_I σ a2 (ti x1) ((sx_I σ a2 (ti x1)) + 1)) w13 13 := rk_T hT hk_t rfl (by decide) ((rR_I rfl).trans e_w13)
    refine ym 34 (fun B k => gf_X9_57 (x := w13) B hk_t ((rR_I rfl).trans e_w13) dX9_failed_31 k) ?_
    refine ym 35 (fun B k => z_iload_n B dX9_failed_34 rfl 1 rfl k) ?_
    refine ym 36 (fun B k => z_iconst (v := 2) B dX9_failed_35 (by decide) k) ?_
    replace h := bq_e h
    obtain ⟨a14, rfl, h⟩ := h
    have hk_a14 := hq_w13 a14 rfl
    replace h := ck_e h
    obtain ⟨hi_15, h⟩ := h
    have j16 := hk_a14
    refine ymw (σ' := (wx_I (wx_I σ a2 (ti x1) ((sx_I σ a2 (ti x1)) + 1)) a14 (ti x1) 2)) 37 e_I (fun B _ k => z_iast (j := (ti x1)) B hk_a14 rfl hi_15 rfl dX9_failed_36 k) ?_
    have hT := TS_I (k := (ti x1)) (x := 2) hT hk_a14 (Or.inl rfl)
    have hk_t := kk_I (σ := (wx_I σ a2 (ti x1) ((sx_I σ a2 (ti x1)) + 1))) (a := a14) (k := (ti x1)) (x := 2) hk_t
    refine ym 38 (fun B k => z_aload_n B dX9_failed_37 rfl 0 rfl k) ?_
    replace h := qv_e h
    obtain ⟨w17, e_w17, h⟩ := h
    have hq_w17 : rk (wx_I (wx_I σ a2 (ti x1) ((sx_I σ a2 (ti x1)) + 1)) a14 (ti x1) 2) w17 13 := rk_T hT hk_t rfl (by decide) ((rR_I (rR_I rfl)).trans e_w17)
    refine ym 41 (fun B k => gf_X9_66 (x := w17) B hk_t ((rR_I (rR_I rfl)).trans e_w17) dX9_failed_38 k) ?_
    refine ym 42 (fun B k => z_iload_n B dX9_failed_41 rfl 1 rfl k) ?_
    refine ym 43 (fun B k => z_aload_n B dX9_failed_42 rfl 0 rfl k) ?_
    refine ym 46 (fun B k => gf_X9_197 (x := (sx_I σ t 1)) B hk_t (rI_k (by decide) j16 (kd_I hk_t) (rI_k (by decide) j5 (kd_I (kd_I hk_t)) rfl)) dX9_failed_43 k) ?_
    refine ym 47 (fun B k => z_iconst (v := 1) B dX9_failed_46 (by decide) k) ?_
    refine ym 48 (fun B k => z_aload_n B dX9_failed_47 rfl 0 rfl k) ?_
    replace h := qv_e h
    obtain ⟨w18, e_w18, h⟩ := h
    have hq_w18 : rk (wx_I (wx_I σ a2 (ti x1) ((sx_I σ a2 (ti x1)) + 1)) a14 (ti x1) 2) w18 13 := rk_T hT hk_t rfl (by decide) ((rR_I (rR_I rfl)).trans e_w18)
    refine ym 51 (fun B k => gf_X9_60 (x := w18) B hk_t ((rR_I (rR_I rfl)).trans e_w18) dX9_failed_48 k) ?_
    refine ym 52 (fun B k => z_iload_n B dX9_failed_51 rfl 1 rfl k) ?_
    replace h := bq_e h
    obtain ⟨a19, rfl, h⟩ := h
    have hk_a19 := hq_w18 a19 rfl
    replace h := ck_e h
    obtain ⟨hi_20, h⟩ := h
    refine ym 53 (fun B k => z_iald (j := (ti x1)) (x := (sx_I (wx_I (wx_I σ a2 (ti x1) ((sx_I σ a2 (ti x1)) + 1)) a14 (ti x1) 2) a19 (ti x1))) B hk_a19 rfl hi_20 rfl dX9_failed_52 k) ?_
    refine ym 54 (fun B k => z_ishl B dX9_failed_53 k) ?_
    refine ym 55 (fun B k => z_iadd B dX9_failed_54 k) ?_
    replace h := bq_e h
    obtain ⟨a21, rfl, h⟩ := h
    have hk_a21 := hq_w17 a21 rfl
    replace h := ck_e h
    obtain ⟨hi_22, h⟩ := h
    have j23 := hk_a21
    refine ymw (σ' := (wx_I (wx_I (wx_I σ a2 (ti x1) ((sx_I σ a2 (ti x1)) + 1)) a14 (ti x1) 2) a21 (ti x1) ((sx_I σ t 1) + (1 <<< ((sx_I (wx_I (wx_I σ a2 (ti x1) ((sx_I σ a2 (ti x1)) + 1)) a14 (ti x1) 2) a19 (ti x1)) &&& 31))))) 56 e_I (fun B _ k => z_iast (j := (ti x1)) B hk_a21 rfl hi_22 rfl dX9_failed_55 k) ?_
    have hT := TS_I (k := (ti x1)) (x := ((sx_I σ t 1) + (1 <<< ((sx_I (wx_I (wx_I σ a2 (ti x1) ((sx_I σ a2 (ti x1)) + 1)) a14 (ti x1) 2) a19 (ti x1)) &&& 31)))) hT hk_a21 (Or.inl rfl)
    have hk_t := kk_I (σ := (wx_I (wx_I σ a2 (ti x1) ((sx_I σ a2 (ti x1)) + 1)) a14 (ti x1) 2)) (a := a21) (k := (ti x1)) (x := ((sx_I σ t 1) + (1 <<< ((sx_I (wx_I (wx_I σ a2 (ti x1) ((sx_I σ a2 (ti x1)) + 1)) a14 (ti x1) 2) a19 (ti x1)) &&& 31)))) hk_t
    obtain rfl := Option.some.inj h
    exact yr_v hT trivial rfl dX9_failed_56
set_option maxRecDepth 100000 in
set_option maxHeartbeats 4000000 in
theorem tb_X9_fail_21 {l : Launch} {g : gx_T} {σ : sx_T} {u : sx_T} {r : Int32} {As : Array Value} {n0 : Nat} {x2 : Int32} (h : fb_X9_fail_21 n0 σ x2 = some (r, u)) (hT : TS g σ)  : ZY l g cX9_fail RX9 "fail" (some .boolean) 3 10 251 0 0 false As (QM g As (Qxi g r u)) (r = 0 ∨ r = 1) u σ 21 [(2, .int x2)] [] := by
  unfold fb_X9_fail_21 at h
  refine ym 22 (fun B k => z_iload_n B dX9_fail_21 rfl 0 rfl k) ?_
  refine ym 23 (fun B k => z_iconst (v := (-1)) B dX9_fail_22 (by decide) k) ?_
  by_cases c1 : x2 = (-1)
  · replace h := ite_p c1 h
    refine ym 30 (fun B k => z_icmp_eq (tgt := 30) B dX9_fail_23 (by decide) (fun _ => k) (fun q => absurd c1 q)) ?_
    refine ym 31 (fun B k => z_iconst (v := 0) B dX9_fail_30 (by decide) k) ?_
    obtain ⟨rfl, rfl⟩ := Prod.mk.inj (Option.some.inj h)
    exact yr_z hT (Or.inl rfl) rfl (Or.inl rfl) dX9_fail_31
  · replace h := ite_n c1 h
    refine ym 26 (fun B k => z_icmp_eq (tgt := 30) B dX9_fail_23 (by decide) (fun q => absurd q c1) (fun _ => k)) ?_
    refine ym 27 (fun B k => z_iconst (v := 1) B dX9_fail_26 (by decide) k) ?_
    refine ym 31 (fun B k => z_goto (tgt := 31) B dX9_fail_27 (by decide) k) ?_
    obtain ⟨rfl, rfl⟩ := Prod.mk.inj (Option.some.inj h)
    exact yr_z hT (Or.inr rfl) rfl (Or.inr rfl) dX9_fail_31
set_option maxRecDepth 100000 in
set_option maxHeartbeats 4000000 in
theorem ct_X9_fail (l : Launch) {g : gx_T} {σ : sx_T} {u : sx_T} {r : Int32} {n0 : Nat} {t : Nat} {x1 : Int32} (h : f_X9_fail n0 σ t x1 = some (r, u)) (hT : TS g σ) (hk_t : sx_K σ t = 11) : CT l g yX9_fail cX9_fail 3 (some .boolean) 10 251 [.ref t, .int x1] (r = 0 ∨ r = 1) u σ (Qxi g r u) := by
  refine yc_met (by decide) (Nat.le_of_ble_eq_true rfl) ?_
  refine yc_lv (show lv_args 0 [.ref t, .int x1] = [(0, .ref t), (1, .int x1)] from rfl) ?_
  show ZY l g _ _ _ _ _ _ _ _ _ _ _ _ _ _ σ 0 [(0, .ref t), (1, .int x1)] []
  unfold f_X9_fail at h
  refine ym 1 (fun B k => z_aload_n B dX9_fail_0 rfl 0 rfl k) ?_
  refine ym 2 (fun B k => z_iconst (v := 0) B dX9_fail_1 (by decide) k) ?_
  have j1 := hk_t
  refine ymw (σ' := (wx_I σ t 0 0)) 5 e_I (fun B hin k => pf_X9_90 (x := 0) B hk_t rfl dX9_fail_2 k) ?_
  have hT := TS_I (k := 0) (x := 0) hT hk_t (Or.inl rfl)
  have hk_t := kk_I (σ := σ) (a := t) (k := 0) (x := 0) hk_t
  refine ym 6 (fun B k => z_aload_n B dX9_fail_5 rfl 0 rfl k) ?_
  refine ym 7 (fun B k => z_iload_n B dX9_fail_6 rfl 1 rfl k) ?_
  replace h := bd_e h
  obtain ⟨r3, u4, h2, h⟩ := h
  have m5 := ct_X9_taskOf l (g := g) h2 hT hk_t
  refine yc_Vi (Al := [.int x1]) (rest := []) 10 rfl cw_X9_285 cx_10 dX9_fail_7 m5 hk_t rfl (by decide) rfl (Nat.le_of_ble_eq_true rfl) ?_
  have hk_t := k_G m5.1.1 (by decide) hk_t
  have hT := m5.1.1.2.2.2
  refine ym 11 (fun B k => z_istore_n (lv' := [(2, .int r3), (0, .ref t), (1, .int x1)]) B dX9_fail_10 rfl (by decide) rfl k) ?_
  refine ym 12 (fun B k => z_iload_n B dX9_fail_11 rfl 0 rfl k) ?_
  refine ym 13 (fun B k => z_iconst (v := (-1)) B dX9_fail_12 (by decide) k) ?_
  by_cases c6 : r3 = (-1)
  · replace h := ite_p c6 h
    refine ym 21 (fun B k => z_icmp_eq (tgt := 21) B dX9_fail_13 (by decide) (fun _ => k) (fun q => absurd c6 q)) ?_
    refine y_sub [(2, .int r3)] [0] rfl ?_
    exact tb_X9_fail_21 h hT 
  · replace h := ite_n c6 h
    refine ym 16 (fun B k => z_icmp_eq (tgt := 21) B dX9_fail_13 (by decide) (fun q => absurd q c6) (fun _ => k)) ?_
    refine ym 17 (fun B k => z_aload_n B dX9_fail_16 rfl 1 rfl k) ?_
    refine ym 18 (fun B k => z_iload_n B dX9_fail_17 rfl 0 rfl k) ?_
    replace h := br_e h
    obtain ⟨u8, h7, h⟩ := h
    have m9 := ct_X9_failed l (g := g) h7 hT hk_t
    refine yc_Vv (Al := [.int r3]) (rest := []) 21 rfl cw_X9_291 cx_10 dX9_fail_18 m9 hk_t rfl (by decide) rfl (Nat.le_of_ble_eq_true rfl) ?_
    have hk_t := k_G m9.1.1 (by decide) hk_t
    have hT := m9.1.1.2.2.2
    refine y_sub [(2, .int r3)] [0] rfl ?_
    exact tb_X9_fail_21 h hT 
set_option maxRecDepth 100000 in
set_option maxHeartbeats 4000000 in
theorem tb_X9_beat_29 {l : Launch} {g : gx_T} {σ : sx_T} {u : sx_T} {r : Int32} {As : Array Value} {n0 : Nat} {x2 : Int32} (h : fb_X9_beat_29 n0 σ x2 = some (r, u)) (hT : TS g σ)  : ZY l g cX9_beat RX9 "beat" (some .boolean) 3 7 176 0 0 false As (QM g As (Qxi g r u)) (r = 0 ∨ r = 1) u σ 29 [(2, .int x2)] [] := by
  unfold fb_X9_beat_29 at h
  refine ym 30 (fun B k => z_iload_n B dX9_beat_29 rfl 0 rfl k) ?_
  refine ym 31 (fun B k => z_iconst (v := (-1)) B dX9_beat_30 (by decide) k) ?_
  by_cases c1 : x2 = (-1)
  · replace h := ite_p c1 h
    refine ym 38 (fun B k => z_icmp_eq (tgt := 38) B dX9_beat_31 (by decide) (fun _ => k) (fun q => absurd c1 q)) ?_
    refine ym 39 (fun B k => z_iconst (v := 0) B dX9_beat_38 (by decide) k) ?_
    obtain ⟨rfl, rfl⟩ := Prod.mk.inj (Option.some.inj h)
    exact yr_z hT (Or.inl rfl) rfl (Or.inl rfl) dX9_beat_39
  · replace h := ite_n c1 h
    refine ym 34 (fun B k => z_icmp_eq (tgt := 38) B dX9_beat_31 (by decide) (fun q => absurd q c1) (fun _ => k)) ?_
    refine ym 35 (fun B k => z_iconst (v := 1) B dX9_beat_34 (by decide) k) ?_
    refine ym 39 (fun B k => z_goto (tgt := 39) B dX9_beat_35 (by decide) k) ?_
    obtain ⟨rfl, rfl⟩ := Prod.mk.inj (Option.some.inj h)
    exact yr_z hT (Or.inr rfl) rfl (Or.inr rfl) dX9_beat_39
set_option maxRecDepth 100000 in
set_option maxHeartbeats 4000000 in
theorem ct_X9_beat (l : Launch) {g : gx_T} {σ : sx_T} {u : sx_T} {r : Int32} {n0 : Nat} {t : Nat} {x1 : Int32} (h : f_X9_beat n0 σ t x1 = some (r, u)) (hT : TS g σ) (hk_t : sx_K σ t = 11) : CT l g yX9_beat cX9_beat 3 (some .boolean) 7 176 [.ref t, .int x1] (r = 0 ∨ r = 1) u σ (Qxi g r u) := by
  refine yc_met (by decide) (Nat.le_of_ble_eq_true rfl) ?_
  refine yc_lv (show lv_args 0 [.ref t, .int x1] = [(0, .ref t), (1, .int x1)] from rfl) ?_
  show ZY l g _ _ _ _ _ _ _ _ _ _ _ _ _ _ σ 0 [(0, .ref t), (1, .int x1)] []
  unfold f_X9_beat at h
  refine ym 1 (fun B k => z_aload_n B dX9_beat_0 rfl 0 rfl k) ?_
  refine ym 2 (fun B k => z_iconst (v := 0) B dX9_beat_1 (by decide) k) ?_
  have j1 := hk_t
  refine ymw (σ' := (wx_I σ t 0 0)) 5 e_I (fun B hin k => pf_X9_90 (x := 0) B hk_t rfl dX9_beat_2 k) ?_
  have hT := TS_I (k := 0) (x := 0) hT hk_t (Or.inl rfl)
  have hk_t := kk_I (σ := σ) (a := t) (k := 0) (x := 0) hk_t
  refine ym 6 (fun B k => z_aload_n B dX9_beat_5 rfl 0 rfl k) ?_
  refine ym 7 (fun B k => z_iload_n B dX9_beat_6 rfl 1 rfl k) ?_
  replace h := bd_e h
  obtain ⟨r3, u4, h2, h⟩ := h
  have m5 := ct_X9_taskOf l (g := g) h2 hT hk_t
  refine yc_Vi (Al := [.int x1]) (rest := []) 10 rfl cw_X9_285 cx_10 dX9_beat_7 m5 hk_t rfl (by decide) rfl (Nat.le_of_ble_eq_true rfl) ?_
  have hk_t := k_G m5.1.1 (by decide) hk_t
  have hT := m5.1.1.2.2.2
  refine ym 11 (fun B k => z_istore_n (lv' := [(2, .int r3), (0, .ref t), (1, .int x1)]) B dX9_beat_10 rfl (by decide) rfl k) ?_
  refine ym 12 (fun B k => z_iload_n B dX9_beat_11 rfl 0 rfl k) ?_
  refine ym 13 (fun B k => z_iconst (v := (-1)) B dX9_beat_12 (by decide) k) ?_
  by_cases c6 : r3 = (-1)
  · replace h := ite_p c6 h
    refine ym 29 (fun B k => z_icmp_eq (tgt := 29) B dX9_beat_13 (by decide) (fun _ => k) (fun q => absurd c6 q)) ?_
    refine y_sub [(2, .int r3)] [0] rfl ?_
    exact tb_X9_beat_29 h hT 
  · replace h := ite_n c6 h
    refine ym 16 (fun B k => z_icmp_eq (tgt := 29) B dX9_beat_13 (by decide) (fun q => absurd q c6) (fun _ => k)) ?_
    refine ym 17 (fun B k => z_aload_n B dX9_beat_16 rfl 1 rfl k) ?_
    replace h := qv_e h
    obtain ⟨w7, e_w7, h⟩ := h
    have hq_w7 : rk u4 w7 13 := rk_T hT hk_t rfl (by decide) e_w7
    refine ym 20 (fun B k => gf_X9_66 (x := w7) B hk_t e_w7 dX9_beat_17 k) ?_
    refine ym 21 (fun B k => z_iload_n B dX9_beat_20 rfl 0 rfl k) ?_
    refine ym 22 (fun B k => z_aload_n B dX9_beat_21 rfl 1 rfl k) ?_
    refine ym 25 (fun B k => gf_X9_197 (x := (sx_I u4 t 1)) B hk_t rfl dX9_beat_22 k) ?_
    refine ym 27 (fun B k => z_bipush (v := 6) B dX9_beat_25 (by decide) k) ?_
    refine ym 28 (fun B k => z_iadd B dX9_beat_27 k) ?_
    replace h := bq_e h
    obtain ⟨a8, rfl, h⟩ := h
    have hk_a8 := hq_w7 a8 rfl
    replace h := ck_e h
    obtain ⟨hi_9, h⟩ := h
    have j10 := hk_a8
    refine ymw (σ' := (wx_I u4 a8 (ti r3) ((sx_I u4 t 1) + 6))) 29 e_I (fun B _ k => z_iast (j := (ti r3)) B hk_a8 rfl hi_9 rfl dX9_beat_28 k) ?_
    have hT := TS_I (k := (ti r3)) (x := ((sx_I u4 t 1) + 6)) hT hk_a8 (Or.inl rfl)
    have hk_t := kk_I (σ := u4) (a := a8) (k := (ti r3)) (x := ((sx_I u4 t 1) + 6)) hk_t
    refine y_sub [(2, .int r3)] [0] rfl ?_
    exact tb_X9_beat_29 h hT 
set_option maxRecDepth 100000 in
set_option maxHeartbeats 4000000 in
theorem tb_X9_ticks_147 {l : Launch} {g : gx_T} {σ : sx_T} {u : sx_T} {As : Array Value} {n0 : Nat} {kl106 : sx_T → Nat → Int32 → Option sx_T} (hkl106 : ∀ (σ : sx_T) (t : Nat) (x1 : Int32), kl106 σ t x1 = some u → TS g σ → sx_K σ t = 11 → ZY l g cX9_ticks RX9 "ticks" none 2 10 251 0 0 false As (QM g As (Qxv g u)) (True) u σ 106 [(0, .ref t), (1, .int x1)] []) {t : Nat} {x1 : Int32} (h : fb_X9_ticks_147 n0 kl106 σ t x1 = some u) (hT : TS g σ) (hk_t : sx_K σ t = 11) : ZY l g cX9_ticks RX9 "ticks" none 2 10 251 0 0 false As (QM g As (Qxv g u)) (True) u σ 147 [(0, .ref t), (1, .int x1)] [] := by
  unfold fb_X9_ticks_147 at h
  refine ym 148 (fun B k => z_aload_n B dX9_ticks_147 rfl 0 rfl k) ?_
  refine ym 151 (fun B k => gf_X9_204 (x := (sx_I σ t 49)) B hk_t rfl dX9_ticks_148 k) ?_
  refine ym 152 (fun B k => z_aload_n B dX9_ticks_151 rfl 0 rfl k) ?_
  refine ym 155 (fun B k => gf_X9_197 (x := (sx_I σ t 1)) B hk_t rfl dX9_ticks_152 k) ?_
  by_cases c1 : (sx_I σ t 1) < (sx_I σ t 49)
  · replace h := ite_p c1 h
    refine ym 170 (fun B k => z_icmp_gt (tgt := 170) B dX9_ticks_155 (by decide) (fun _ => k) (fun q => absurd c1 q)) ?_
    refine ym 173 (fun B k => z_iinc (v := x1 + 1) (lv' := [(1, .int (x1 + 1)), (0, .ref t)]) B dX9_ticks_170 1 rfl rfl (by decide) rfl k) ?_
    refine ym 106 (fun B k => z_goto (tgt := 106) B dX9_ticks_173 (by decide) k) ?_
    refine y_sub [(0, .ref t), (1, .int (x1 + 1))] [1, 0] rfl ?_
    exact hkl106 _ _ _ h hT hk_t
  · replace h := ite_n c1 h
    refine ym 158 (fun B k => z_icmp_gt (tgt := 170) B dX9_ticks_155 (by decide) (fun q => absurd q c1) (fun _ => k)) ?_
    refine ym 159 (fun B k => z_aload_n B dX9_ticks_158 rfl 0 rfl k) ?_
    refine ym 160 (fun B k => z_iload_n B dX9_ticks_159 rfl 1 rfl k) ?_
    refine ym 161 (fun B k => z_iconst (v := 5) B dX9_ticks_160 (by decide) k) ?_
    refine ym 162 (fun B k => z_lconst (v := 0) B dX9_ticks_161 (by decide) k) ?_
    replace h := br_e h
    obtain ⟨u3, h2, h⟩ := h
    have m4 := ct_X9_adds l (g := g) h2 hT hk_t
    refine yc_Vv (Al := [.int x1, .int 5, .long 0]) (rest := []) 165 rfl cw_X9_143 cx_10 dX9_ticks_162 m4 hk_t rfl (by decide) rfl (Nat.le_of_ble_eq_true rfl) ?_
    have hk_t := k_G m4.1.1 (by decide) hk_t
    have hT := m4.1.1.2.2.2
    refine ym 166 (fun B k => z_aload_n B dX9_ticks_165 rfl 0 rfl k) ?_
    refine ym 167 (fun B k => z_iload_n B dX9_ticks_166 rfl 1 rfl k) ?_
    replace h := br_e h
    obtain ⟨u6, h5, h⟩ := h
    have m7 := ct_X9_runs l (g := g) h5 hT hk_t
    refine yc_Vv (Al := [.int x1]) (rest := []) 170 rfl cw_X9_253 cx_10 dX9_ticks_167 m7 hk_t rfl (by decide) rfl (Nat.le_of_ble_eq_true rfl) ?_
    have hk_t := k_G m7.1.1 (by decide) hk_t
    have hT := m7.1.1.2.2.2
    refine ym 173 (fun B k => z_iinc (v := x1 + 1) (lv' := [(1, .int (x1 + 1)), (0, .ref t)]) B dX9_ticks_170 1 rfl rfl (by decide) rfl k) ?_
    refine ym 106 (fun B k => z_goto (tgt := 106) B dX9_ticks_173 (by decide) k) ?_
    refine y_sub [(0, .ref t), (1, .int (x1 + 1))] [1, 0] rfl ?_
    exact hkl106 _ _ _ h hT hk_t
set_option maxRecDepth 100000 in
set_option maxHeartbeats 4000000 in
theorem tl_X9_ticks_106 {l : Launch} {g : gx_T} {u : sx_T} {As : Array Value} {n0 : Nat} : ∀ {n : Nat} {σ : sx_T} {t : Nat} {x1 : Int32}, fl_X9_ticks_106 n0 n σ t x1 = some u → TS g σ → sx_K σ t = 11 → ZY l g cX9_ticks RX9 "ticks" none 2 10 251 0 0 false As (QM g As (Qxv g u)) (True) u σ 106 [(0, .ref t), (1, .int x1)] [] := by
  intro n
  induction n with
  | zero =>
    intro σ t x1 h
    exact nomatch h
  | succ n ih_ =>
    have ih := @ih_
    intro σ t x1 h hT hk_t
    unfold fl_X9_ticks_106 at h
    refine ym 107 (fun B k => z_iload_n B dX9_ticks_106 rfl 1 rfl k) ?_
    refine ym 108 (fun B k => z_aload_n B dX9_ticks_107 rfl 0 rfl k) ?_
    refine ym 111 (fun B k => gf_X9_93 (x := (sx_I σ t 6)) B hk_t rfl dX9_ticks_108 k) ?_
    by_cases c1 : (sx_I σ t 6) ≤ x1
    · replace h := ite_p c1 h
      refine ym 176 (fun B k => z_icmp_ge (tgt := 176) B dX9_ticks_111 (by decide) (fun _ => k) (fun q => absurd c1 q)) ?_
      obtain rfl := Option.some.inj h
      exact yr_v hT trivial rfl dX9_ticks_176
    · replace h := ite_n c1 h
      refine ym 114 (fun B k => z_icmp_ge (tgt := 176) B dX9_ticks_111 (by decide) (fun q => absurd q c1) (fun _ => k)) ?_
      refine ym 115 (fun B k => z_aload_n B dX9_ticks_114 rfl 0 rfl k) ?_
      replace h := qv_e h
      obtain ⟨w2, e_w2, h⟩ := h
      have hq_w2 : rk σ w2 13 := rk_T hT hk_t rfl (by decide) e_w2
      refine ym 118 (fun B k => gf_X9_32 (x := w2) B hk_t e_w2 dX9_ticks_115 k) ?_
      refine ym 119 (fun B k => z_iload_n B dX9_ticks_118 rfl 1 rfl k) ?_
      replace h := bq_e h
      obtain ⟨a3, rfl, h⟩ := h
      have hk_a3 := hq_w2 a3 rfl
      replace h := ck_e h
      obtain ⟨hi_4, h⟩ := h
      refine ym 120 (fun B k => z_iald (j := (ti x1)) (x := (sx_I σ a3 (ti x1))) B hk_a3 rfl hi_4 rfl dX9_ticks_119 k) ?_
      by_cases c5 : (sx_I σ a3 (ti x1)) = 0
      · replace h := ite_p c5 h
        refine ym 123 (fun B k => z_if_ne (tgt := 170) B dX9_ticks_120 (by decide) (fun q => absurd c5 q) (fun _ => k)) ?_
        refine ym 124 (fun B k => z_aload_n B dX9_ticks_123 rfl 0 rfl k) ?_
        refine ym 125 (fun B k => z_iload_n B dX9_ticks_124 rfl 1 rfl k) ?_
        replace h := bd_e h
        obtain ⟨r7, u8, h6, h⟩ := h
        have m9 := ct_X9_isFit l (g := g) h6 hT hk_t
        refine yc_Vi (Al := [.int x1]) (rest := []) 128 rfl cw_X9_235 cx_10 dX9_ticks_125 m9 hk_t rfl (by decide) rfl (Nat.le_of_ble_eq_true rfl) ?_
        have hk_t := k_G m9.1.1 (by decide) hk_t
        have hT := m9.1.1.2.2.2
        have hz_r7 := m9.1.2
        by_cases c10 : r7 = 0
        · replace h := ite_p c10 h
          refine ym 170 (fun B k => z_if_eq (tgt := 170) B dX9_ticks_128 (by decide) (fun _ => k) (fun q => absurd c10 q)) ?_
          refine ym 173 (fun B k => z_iinc (v := x1 + 1) (lv' := [(1, .int (x1 + 1)), (0, .ref t)]) B dX9_ticks_170 1 rfl rfl (by decide) rfl k) ?_
          refine ym 106 (fun B k => z_goto (tgt := 106) B dX9_ticks_173 (by decide) k) ?_
          refine y_sub [(0, .ref t), (1, .int (x1 + 1))] [1, 0] rfl ?_
          exact ih h hT hk_t
        · replace h := ite_n c10 h
          refine ym 131 (fun B k => z_if_eq (tgt := 170) B dX9_ticks_128 (by decide) (fun q => absurd q c10) (fun _ => k)) ?_
          refine ym 132 (fun B k => z_aload_n B dX9_ticks_131 rfl 0 rfl k) ?_
          refine ym 135 (fun B k => gf_X9_116 (x := (sx_I u8 t 30)) B hk_t rfl dX9_ticks_132 k) ?_
          refine ym 136 (fun B k => z_iconst (v := 2) B dX9_ticks_135 (by decide) k) ?_
          by_cases c11 : (sx_I u8 t 30) = 2
          · replace h := ite_p c11 h
            refine ym 147 (fun B k => z_icmp_eq (tgt := 147) B dX9_ticks_136 (by decide) (fun _ => k) (fun q => absurd c11 q)) ?_
            refine y_sub [(0, .ref t), (1, .int x1)] [0, 1] rfl ?_
            exact tb_X9_ticks_147 (fun _ _ _ => ih) h hT hk_t
          · replace h := ite_n c11 h
            refine ym 139 (fun B k => z_icmp_eq (tgt := 147) B dX9_ticks_136 (by decide) (fun q => absurd q c11) (fun _ => k)) ?_
            refine ym 140 (fun B k => z_aload_n B dX9_ticks_139 rfl 0 rfl k) ?_
            refine ym 143 (fun B k => gf_X9_116 (x := (sx_I u8 t 30)) B hk_t rfl dX9_ticks_140 k) ?_
            refine ym 144 (fun B k => z_iconst (v := 4) B dX9_ticks_143 (by decide) k) ?_
            by_cases c12 : (sx_I u8 t 30) = 4
            · replace h := ite_p c12 h
              refine ym 147 (fun B k => z_icmp_ne (tgt := 170) B dX9_ticks_144 (by decide) (fun q => absurd c12 q) (fun _ => k)) ?_
              refine y_sub [(0, .ref t), (1, .int x1)] [0, 1] rfl ?_
              exact tb_X9_ticks_147 (fun _ _ _ => ih) h hT hk_t
            · replace h := ite_n c12 h
              refine ym 170 (fun B k => z_icmp_ne (tgt := 170) B dX9_ticks_144 (by decide) (fun _ => k) (fun q => absurd q c12)) ?_
              refine ym 173 (fun B k => z_iinc (v := x1 + 1) (lv' := [(1, .int (x1 + 1)), (0, .ref t)]) B dX9_ticks_170 1 rfl rfl (by decide) rfl k) ?_
              refine ym 106 (fun B k => z_goto (tgt := 106) B dX9_ticks_173 (by decide) k) ?_
              refine y_sub [(0, .ref t), (1, .int (x1 + 1))] [1, 0] rfl ?_
              exact ih h hT hk_t
      · replace h := ite_n c5 h
        refine ym 170 (fun B k => z_if_ne (tgt := 170) B dX9_ticks_120 (by decide) (fun _ => k) (fun q => absurd q c5)) ?_
        refine ym 173 (fun B k => z_iinc (v := x1 + 1) (lv' := [(1, .int (x1 + 1)), (0, .ref t)]) B dX9_ticks_170 1 rfl rfl (by decide) rfl k) ?_
        refine ym 106 (fun B k => z_goto (tgt := 106) B dX9_ticks_173 (by decide) k) ?_
        refine y_sub [(0, .ref t), (1, .int (x1 + 1))] [1, 0] rfl ?_
        exact ih h hT hk_t
set_option maxRecDepth 100000 in
set_option maxHeartbeats 4000000 in
theorem tb_X9_ticks_40 {l : Launch} {g : gx_T} {σ : sx_T} {u : sx_T} {As : Array Value} {n0 : Nat} {kl12 : sx_T → Nat → Int32 → Option sx_T} (hkl12 : ∀ (σ : sx_T) (t : Nat) (x1 : Int32), kl12 σ t x1 = some u → TS g σ → sx_K σ t = 11 → ZY l g cX9_ticks RX9 "ticks" none 2 10 251 0 0 false As (QM g As (Qxv g u)) (True) u σ 12 [(0, .ref t), (1, .int x1)] []) {t : Nat} {x1 : Int32} (h : fb_X9_ticks_40 n0 kl12 σ t x1 = some u) (hT : TS g σ) (hk_t : sx_K σ t = 11) : ZY l g cX9_ticks RX9 "ticks" none 2 10 251 0 0 false As (QM g As (Qxv g u)) (True) u σ 40 [(0, .ref t), (1, .int x1)] [] := by
  unfold fb_X9_ticks_40 at h
  refine ym 41 (fun B k => z_aload_n B dX9_ticks_40 rfl 0 rfl k) ?_
  replace h := qv_e h
  obtain ⟨w1, e_w1, h⟩ := h
  have hq_w1 : rk σ w1 13 := rk_T hT hk_t rfl (by decide) e_w1
  refine ym 44 (fun B k => gf_X9_66 (x := w1) B hk_t e_w1 dX9_ticks_41 k) ?_
  refine ym 45 (fun B k => z_iload_n B dX9_ticks_44 rfl 1 rfl k) ?_
  replace h := bq_e h
  obtain ⟨a2, rfl, h⟩ := h
  have hk_a2 := hq_w1 a2 rfl
  replace h := ck_e h
  obtain ⟨hi_3, h⟩ := h
  refine ym 46 (fun B k => z_iald (j := (ti x1)) (x := (sx_I σ a2 (ti x1))) B hk_a2 rfl hi_3 rfl dX9_ticks_45 k) ?_
  refine ym 47 (fun B k => z_aload_n B dX9_ticks_46 rfl 0 rfl k) ?_
  refine ym 50 (fun B k => gf_X9_197 (x := (sx_I σ t 1)) B hk_t rfl dX9_ticks_47 k) ?_
  by_cases c4 : (sx_I σ t 1) < (sx_I σ a2 (ti x1))
  · replace h := ite_p c4 h
    refine ym 98 (fun B k => z_icmp_gt (tgt := 98) B dX9_ticks_50 (by decide) (fun _ => k) (fun q => absurd c4 q)) ?_
    refine ym 101 (fun B k => z_iinc (v := x1 + 1) (lv' := [(1, .int (x1 + 1)), (0, .ref t)]) B dX9_ticks_98 1 rfl rfl (by decide) rfl k) ?_
    refine ym 12 (fun B k => z_goto (tgt := 12) B dX9_ticks_101 (by decide) k) ?_
    refine y_sub [(0, .ref t), (1, .int (x1 + 1))] [1, 0] rfl ?_
    exact hkl12 _ _ _ h hT hk_t
  · replace h := ite_n c4 h
    refine ym 53 (fun B k => z_icmp_gt (tgt := 98) B dX9_ticks_50 (by decide) (fun q => absurd q c4) (fun _ => k)) ?_
    refine ym 54 (fun B k => z_aload_n B dX9_ticks_53 rfl 0 rfl k) ?_
    refine ym 55 (fun B k => z_aload_n B dX9_ticks_54 rfl 0 rfl k) ?_
    replace h := qv_e h
    obtain ⟨w5, e_w5, h⟩ := h
    have hq_w5 : rk σ w5 13 := rk_T hT hk_t rfl (by decide) e_w5
    refine ym 58 (fun B k => gf_X9_51 (x := w5) B hk_t e_w5 dX9_ticks_55 k) ?_
    refine ym 59 (fun B k => z_iload_n B dX9_ticks_58 rfl 1 rfl k) ?_
    replace h := bq_e h
    obtain ⟨a6, rfl, h⟩ := h
    have hk_a6 := hq_w5 a6 rfl
    replace h := ck_e h
    obtain ⟨hi_7, h⟩ := h
    refine ym 60 (fun B k => z_iald (j := (ti x1)) (x := (sx_I σ a6 (ti x1))) B hk_a6 rfl hi_7 rfl dX9_ticks_59 k) ?_
    replace h := bd_e h
    obtain ⟨r9, u10, h8, h⟩ := h
    have m11 := ct_X9_isFit l (g := g) h8 hT hk_t
    refine yc_Vi (Al := [.int (sx_I σ a6 (ti x1))]) (rest := []) 63 rfl cw_X9_235 cx_10 dX9_ticks_60 m11 hk_t rfl (by decide) rfl (Nat.le_of_ble_eq_true rfl) ?_
    have hk_t := k_G m11.1.1 (by decide) hk_t
    have hT := m11.1.1.2.2.2
    have hz_r9 := m11.1.2
    by_cases c12 : r9 = 0
    · replace h := ite_p c12 h
      refine ym 98 (fun B k => z_if_eq (tgt := 98) B dX9_ticks_63 (by decide) (fun _ => k) (fun q => absurd c12 q)) ?_
      refine ym 101 (fun B k => z_iinc (v := x1 + 1) (lv' := [(1, .int (x1 + 1)), (0, .ref t)]) B dX9_ticks_98 1 rfl rfl (by decide) rfl k) ?_
      refine ym 12 (fun B k => z_goto (tgt := 12) B dX9_ticks_101 (by decide) k) ?_
      refine y_sub [(0, .ref t), (1, .int (x1 + 1))] [1, 0] rfl ?_
      exact hkl12 _ _ _ h hT hk_t
    · replace h := ite_n c12 h
      refine ym 66 (fun B k => z_if_eq (tgt := 98) B dX9_ticks_63 (by decide) (fun q => absurd q c12) (fun _ => k)) ?_
      refine ym 67 (fun B k => z_aload_n B dX9_ticks_66 rfl 0 rfl k) ?_
      replace h := qv_e h
      obtain ⟨w13, e_w13, h⟩ := h
      have hq_w13 : rk u10 w13 13 := rk_T hT hk_t rfl (by decide) e_w13
      refine ym 70 (fun B k => gf_X9_57 (x := w13) B hk_t e_w13 dX9_ticks_67 k) ?_
      refine ym 71 (fun B k => z_iload_n B dX9_ticks_70 rfl 1 rfl k) ?_
      replace h := bq_e h
      obtain ⟨a14, rfl, h⟩ := h
      have hk_a14 := hq_w13 a14 rfl
      replace h := ck_e h
      obtain ⟨hi_15, h⟩ := h
      refine ym 72 (fun B k => z_iald (j := (ti x1)) (x := (sx_I u10 a14 (ti x1))) B hk_a14 rfl hi_15 rfl dX9_ticks_71 k) ?_
      refine ym 73 (fun B k => z_iconst (v := 1) B dX9_ticks_72 (by decide) k) ?_
      by_cases c16 : (sx_I u10 a14 (ti x1)) = 1
      · replace h := ite_p c16 h
        refine ym 76 (fun B k => z_icmp_ne (tgt := 84) B dX9_ticks_73 (by decide) (fun q => absurd c16 q) (fun _ => k)) ?_
        refine ym 77 (fun B k => z_aload_n B dX9_ticks_76 rfl 0 rfl k) ?_
        refine ym 78 (fun B k => z_iload_n B dX9_ticks_77 rfl 1 rfl k) ?_
        replace h := br_e h
        obtain ⟨u18, h17, h⟩ := h
        have m19 := ct_X9_failed l (g := g) h17 hT hk_t
        refine yc_Vv (Al := [.int x1]) (rest := []) 81 rfl cw_X9_291 cx_10 dX9_ticks_78 m19 hk_t rfl (by decide) rfl (Nat.le_of_ble_eq_true rfl) ?_
        have hk_t := k_G m19.1.1 (by decide) hk_t
        have hT := m19.1.1.2.2.2
        refine ym 98 (fun B k => z_goto (tgt := 98) B dX9_ticks_81 (by decide) k) ?_
        refine ym 101 (fun B k => z_iinc (v := x1 + 1) (lv' := [(1, .int (x1 + 1)), (0, .ref t)]) B dX9_ticks_98 1 rfl rfl (by decide) rfl k) ?_
        refine ym 12 (fun B k => z_goto (tgt := 12) B dX9_ticks_101 (by decide) k) ?_
        refine y_sub [(0, .ref t), (1, .int (x1 + 1))] [1, 0] rfl ?_
        exact hkl12 _ _ _ h hT hk_t
      · replace h := ite_n c16 h
        refine ym 84 (fun B k => z_icmp_ne (tgt := 84) B dX9_ticks_73 (by decide) (fun _ => k) (fun q => absurd q c16)) ?_
        refine ym 85 (fun B k => z_aload_n B dX9_ticks_84 rfl 0 rfl k) ?_
        replace h := qv_e h
        obtain ⟨w20, e_w20, h⟩ := h
        have hq_w20 : rk u10 w20 13 := rk_T hT hk_t rfl (by decide) e_w20
        refine ym 88 (fun B k => gf_X9_57 (x := w20) B hk_t e_w20 dX9_ticks_85 k) ?_
        refine ym 89 (fun B k => z_iload_n B dX9_ticks_88 rfl 1 rfl k) ?_
        refine ym 90 (fun B k => z_iconst (v := 0) B dX9_ticks_89 (by decide) k) ?_
        replace h := bq_e h
        obtain ⟨a21, rfl, h⟩ := h
        have hk_a21 := hq_w20 a21 rfl
        replace h := ck_e h
        obtain ⟨hi_22, h⟩ := h
        have j23 := hk_a21
        refine ymw (σ' := (wx_I u10 a21 (ti x1) 0)) 91 e_I (fun B _ k => z_iast (j := (ti x1)) B hk_a21 rfl hi_22 rfl dX9_ticks_90 k) ?_
        have hT := TS_I (k := (ti x1)) (x := 0) hT hk_a21 (Or.inl rfl)
        have hk_t := kk_I (σ := u10) (a := a21) (k := (ti x1)) (x := 0) hk_t
        refine ym 92 (fun B k => z_aload_n B dX9_ticks_91 rfl 0 rfl k) ?_
        replace h := qv_e h
        obtain ⟨w24, e_w24, h⟩ := h
        have hq_w24 : rk (wx_I u10 a21 (ti x1) 0) w24 13 := rk_T hT hk_t rfl (by decide) ((rR_I rfl).trans e_w24)
        refine ym 95 (fun B k => gf_X9_66 (x := w24) B hk_t ((rR_I rfl).trans e_w24) dX9_ticks_92 k) ?_
        refine ym 96 (fun B k => z_iload_n B dX9_ticks_95 rfl 1 rfl k) ?_
        refine ym 97 (fun B k => z_iconst (v := 0) B dX9_ticks_96 (by decide) k) ?_
        replace h := bq_e h
        obtain ⟨a25, rfl, h⟩ := h
        have hk_a25 := hq_w24 a25 rfl
        replace h := ck_e h
        obtain ⟨hi_26, h⟩ := h
        have j27 := hk_a25
        refine ymw (σ' := (wx_I (wx_I u10 a21 (ti x1) 0) a25 (ti x1) 0)) 98 e_I (fun B _ k => z_iast (j := (ti x1)) B hk_a25 rfl hi_26 rfl dX9_ticks_97 k) ?_
        have hT := TS_I (k := (ti x1)) (x := 0) hT hk_a25 (Or.inl rfl)
        have hk_t := kk_I (σ := (wx_I u10 a21 (ti x1) 0)) (a := a25) (k := (ti x1)) (x := 0) hk_t
        refine ym 101 (fun B k => z_iinc (v := x1 + 1) (lv' := [(1, .int (x1 + 1)), (0, .ref t)]) B dX9_ticks_98 1 rfl rfl (by decide) rfl k) ?_
        refine ym 12 (fun B k => z_goto (tgt := 12) B dX9_ticks_101 (by decide) k) ?_
        refine y_sub [(0, .ref t), (1, .int (x1 + 1))] [1, 0] rfl ?_
        exact hkl12 _ _ _ h hT hk_t
set_option maxRecDepth 100000 in
set_option maxHeartbeats 4000000 in
theorem tl_X9_ticks_12 {l : Launch} {g : gx_T} {u : sx_T} {As : Array Value} {n0 : Nat} : ∀ {n : Nat} {σ : sx_T} {t : Nat} {x1 : Int32}, fl_X9_ticks_12 n0 n σ t x1 = some u → TS g σ → sx_K σ t = 11 → ZY l g cX9_ticks RX9 "ticks" none 2 10 251 0 0 false As (QM g As (Qxv g u)) (True) u σ 12 [(0, .ref t), (1, .int x1)] [] := by
  intro n
  induction n with
  | zero =>
    intro σ t x1 h
    exact nomatch h
  | succ n ih_ =>
    have ih := @ih_
    intro σ t x1 h hT hk_t
    unfold fl_X9_ticks_12 at h
    refine ym 13 (fun B k => z_iload_n B dX9_ticks_12 rfl 1 rfl k) ?_
    refine ym 14 (fun B k => z_aload_n B dX9_ticks_13 rfl 0 rfl k) ?_
    refine ym 17 (fun B k => gf_X9_100 (x := (sx_I σ t 16)) B hk_t rfl dX9_ticks_14 k) ?_
    by_cases c1 : (sx_I σ t 16) ≤ x1
    · replace h := ite_p c1 h
      refine ym 104 (fun B k => z_icmp_ge (tgt := 104) B dX9_ticks_17 (by decide) (fun _ => k) (fun q => absurd c1 q)) ?_
      refine ym 105 (fun B k => z_iconst (v := 0) B dX9_ticks_104 (by decide) k) ?_
      refine ym 106 (fun B k => z_istore_n (lv' := [(1, .int 0), (0, .ref t)]) B dX9_ticks_105 rfl (by decide) rfl k) ?_
      refine y_sub [(0, .ref t), (1, .int 0)] [1, 0] rfl ?_
      exact tl_X9_ticks_106 h hT hk_t
    · replace h := ite_n c1 h
      refine ym 20 (fun B k => z_icmp_ge (tgt := 104) B dX9_ticks_17 (by decide) (fun q => absurd q c1) (fun _ => k)) ?_
      refine ym 21 (fun B k => z_aload_n B dX9_ticks_20 rfl 0 rfl k) ?_
      replace h := qv_e h
      obtain ⟨w2, e_w2, h⟩ := h
      have hq_w2 : rk σ w2 13 := rk_T hT hk_t rfl (by decide) e_w2
      refine ym 24 (fun B k => gf_X9_57 (x := w2) B hk_t e_w2 dX9_ticks_21 k) ?_
      refine ym 25 (fun B k => z_iload_n B dX9_ticks_24 rfl 1 rfl k) ?_
      replace h := bq_e h
      obtain ⟨a3, rfl, h⟩ := h
      have hk_a3 := hq_w2 a3 rfl
      replace h := ck_e h
      obtain ⟨hi_4, h⟩ := h
      refine ym 26 (fun B k => z_iald (j := (ti x1)) (x := (sx_I σ a3 (ti x1))) B hk_a3 rfl hi_4 rfl dX9_ticks_25 k) ?_
      refine ym 27 (fun B k => z_iconst (v := 1) B dX9_ticks_26 (by decide) k) ?_
      by_cases c5 : (sx_I σ a3 (ti x1)) = 1
      · replace h := ite_p c5 h
        refine ym 40 (fun B k => z_icmp_eq (tgt := 40) B dX9_ticks_27 (by decide) (fun _ => k) (fun q => absurd c5 q)) ?_
        refine y_sub [(0, .ref t), (1, .int x1)] [0, 1] rfl ?_
        exact tb_X9_ticks_40 (fun _ _ _ => ih) h hT hk_t
      · replace h := ite_n c5 h
        refine ym 30 (fun B k => z_icmp_eq (tgt := 40) B dX9_ticks_27 (by decide) (fun q => absurd q c5) (fun _ => k)) ?_
        refine ym 31 (fun B k => z_aload_n B dX9_ticks_30 rfl 0 rfl k) ?_
        replace h := qv_e h
        obtain ⟨w6, e_w6, h⟩ := h
        have hq_w6 : rk σ w6 13 := rk_T hT hk_t rfl (by decide) e_w6
        refine ym 34 (fun B k => gf_X9_57 (x := w6) B hk_t e_w6 dX9_ticks_31 k) ?_
        refine ym 35 (fun B k => z_iload_n B dX9_ticks_34 rfl 1 rfl k) ?_
        replace h := bq_e h
        obtain ⟨a7, rfl, h⟩ := h
        have hk_a7 := hq_w6 a7 rfl
        replace h := ck_e h
        obtain ⟨hi_8, h⟩ := h
        refine ym 36 (fun B k => z_iald (j := (ti x1)) (x := (sx_I σ a7 (ti x1))) B hk_a7 rfl hi_8 rfl dX9_ticks_35 k) ?_
        refine ym 37 (fun B k => z_iconst (v := 2) B dX9_ticks_36 (by decide) k) ?_
        by_cases c9 : (sx_I σ a7 (ti x1)) = 2
        · replace h := ite_p c9 h
          refine ym 40 (fun B k => z_icmp_ne (tgt := 98) B dX9_ticks_37 (by decide) (fun q => absurd c9 q) (fun _ => k)) ?_
          refine y_sub [(0, .ref t), (1, .int x1)] [0, 1] rfl ?_
          exact tb_X9_ticks_40 (fun _ _ _ => ih) h hT hk_t
        · replace h := ite_n c9 h
          refine ym 98 (fun B k => z_icmp_ne (tgt := 98) B dX9_ticks_37 (by decide) (fun _ => k) (fun q => absurd q c9)) ?_
          refine ym 101 (fun B k => z_iinc (v := x1 + 1) (lv' := [(1, .int (x1 + 1)), (0, .ref t)]) B dX9_ticks_98 1 rfl rfl (by decide) rfl k) ?_
          refine ym 12 (fun B k => z_goto (tgt := 12) B dX9_ticks_101 (by decide) k) ?_
          refine y_sub [(0, .ref t), (1, .int (x1 + 1))] [1, 0] rfl ?_
          exact ih h hT hk_t
set_option maxRecDepth 100000 in
set_option maxHeartbeats 4000000 in
theorem ct_X9_ticks (l : Launch) {g : gx_T} {σ : sx_T} {u : sx_T} {n0 : Nat} {t : Nat} (h : f_X9_ticks n0 σ t = some u) (hT : TS g σ) (hk_t : sx_K σ t = 11) : CT l g yX9_ticks cX9_ticks 2 none 10 251 [.ref t] (True) u σ (Qxv g u) := by
  refine yc_met (by decide) (Nat.le_of_ble_eq_true rfl) ?_
  refine yc_lv (show lv_args 0 [.ref t] = [(0, .ref t)] from rfl) ?_
  show ZY l g _ _ _ _ _ _ _ _ _ _ _ _ _ _ σ 0 [(0, .ref t)] []
  unfold f_X9_ticks at h
  refine ym 1 (fun B k => z_aload_n B dX9_ticks_0 rfl 0 rfl k) ?_
  refine ym 2 (fun B k => z_dup B dX9_ticks_1 rfl k) ?_
  refine ym 5 (fun B k => gf_X9_197 (x := (sx_I σ t 1)) B hk_t rfl dX9_ticks_2 k) ?_
  refine ym 6 (fun B k => z_iconst (v := 1) B dX9_ticks_5 (by decide) k) ?_
  refine ym 7 (fun B k => z_iadd B dX9_ticks_6 k) ?_
  have j1 := hk_t
  refine ymw (σ' := (wx_I σ t 1 ((sx_I σ t 1) + 1))) 10 e_I (fun B hin k => pf_X9_197 (x := ((sx_I σ t 1) + 1)) B hk_t rfl dX9_ticks_7 k) ?_
  have hT := TS_I (k := 1) (x := ((sx_I σ t 1) + 1)) hT hk_t (Or.inl rfl)
  have hk_t := kk_I (σ := σ) (a := t) (k := 1) (x := ((sx_I σ t 1) + 1)) hk_t
  refine ym 11 (fun B k => z_iconst (v := 0) B dX9_ticks_10 (by decide) k) ?_
  refine ym 12 (fun B k => z_istore_n (lv' := [(1, .int 0), (0, .ref t)]) B dX9_ticks_11 rfl (by decide) rfl k) ?_
  refine y_sub [(0, .ref t), (1, .int 0)] [1, 0] rfl ?_
  exact tl_X9_ticks_12 h hT hk_t
set_option maxRecDepth 100000 in
set_option maxHeartbeats 4000000 in
theorem tl_X9_tick_18 {l : Launch} {g : gx_T} {u : sx_T} {r : Int32} {As : Array Value} {n0 : Nat} : ∀ {n : Nat} {σ : sx_T} {t : Nat} {x1 : Int32} {x2 : Int32}, fl_X9_tick_18 n0 n σ t x1 x2 = some (r, u) → TS g σ → sx_K σ t = 11 → ZY l g cX9_tick RX9 "tick" (some .int) 3 11 272 0 0 false As (QM g As (Qxi g r u)) (True) u σ 18 [(0, .ref t), (1, .int x1), (2, .int x2)] [] := by
  intro n
  induction n with
  | zero =>
    intro σ t x1 x2 h
    exact nomatch h
  | succ n ih_ =>
    have ih := @ih_
    intro σ t x1 x2 h hT hk_t
    unfold fl_X9_tick_18 at h
    refine ym 19 (fun B k => z_iload_n B dX9_tick_18 rfl 2 rfl k) ?_
    refine ym 20 (fun B k => z_iload_n B dX9_tick_19 rfl 1 rfl k) ?_
    by_cases c1 : x1 ≤ x2
    · replace h := ite_p c1 h
      refine ym 33 (fun B k => z_icmp_ge (tgt := 33) B dX9_tick_20 (by decide) (fun _ => k) (fun q => absurd c1 q)) ?_
      refine ym 34 (fun B k => z_aload_n B dX9_tick_33 rfl 0 rfl k) ?_
      refine ym 37 (fun B k => gf_X9_197 (x := (sx_I σ t 1)) B hk_t rfl dX9_tick_34 k) ?_
      obtain ⟨rfl, rfl⟩ := Prod.mk.inj (Option.some.inj h)
      exact yr_i hT trivial rfl dX9_tick_37
    · replace h := ite_n c1 h
      refine ym 23 (fun B k => z_icmp_ge (tgt := 33) B dX9_tick_20 (by decide) (fun q => absurd q c1) (fun _ => k)) ?_
      refine ym 24 (fun B k => z_aload_n B dX9_tick_23 rfl 0 rfl k) ?_
      replace h := br_e h
      obtain ⟨u3, h2, h⟩ := h
      have m4 := ct_X9_ticks l (g := g) h2 hT hk_t
      refine yc_Vv (Al := []) (rest := []) 27 rfl cw_X9_294 cx_10 dX9_tick_24 m4 hk_t rfl (by decide) rfl (Nat.le_of_ble_eq_true rfl) ?_
      have hk_t := k_G m4.1.1 (by decide) hk_t
      have hT := m4.1.1.2.2.2
      refine ym 30 (fun B k => z_iinc (v := x2 + 1) (lv' := [(2, .int (x2 + 1)), (0, .ref t), (1, .int x1)]) B dX9_tick_27 2 rfl rfl (by decide) rfl k) ?_
      refine ym 18 (fun B k => z_goto (tgt := 18) B dX9_tick_30 (by decide) k) ?_
      refine y_sub [(0, .ref t), (1, .int x1), (2, .int (x2 + 1))] [1, 2, 0] rfl ?_
      exact ih h hT hk_t
set_option maxRecDepth 100000 in
set_option maxHeartbeats 4000000 in
theorem ct_X9_tick (l : Launch) {g : gx_T} {σ : sx_T} {u : sx_T} {r : Int32} {n0 : Nat} {t : Nat} {x1 : Int32} (h : f_X9_tick n0 σ t x1 = some (r, u)) (hT : TS g σ) (hk_t : sx_K σ t = 11) : CT l g yX9_tick cX9_tick 3 (some .int) 11 272 [.ref t, .int x1] (True) u σ (Qxi g r u) := by
  refine yc_met (by decide) (Nat.le_of_ble_eq_true rfl) ?_
  refine yc_lv (show lv_args 0 [.ref t, .int x1] = [(0, .ref t), (1, .int x1)] from rfl) ?_
  show ZY l g _ _ _ _ _ _ _ _ _ _ _ _ _ _ σ 0 [(0, .ref t), (1, .int x1)] []
  unfold f_X9_tick at h
  refine ym 1 (fun B k => z_aload_n B dX9_tick_0 rfl 0 rfl k) ?_
  refine ym 2 (fun B k => z_iload_n B dX9_tick_1 rfl 1 rfl k) ?_
  refine ym 3 (fun B k => z_iconst (v := 1) B dX9_tick_2 (by decide) k) ?_
  refine ym 5 (fun B k => z_bipush (v := 50) B dX9_tick_3 (by decide) k) ?_
  replace h := br_e h
  obtain ⟨r2, h1, h⟩ := h
  have m3 := ct_X9_in l (g := g) h1 hT
  refine yc_Si (Al := [.int x1, .int 1, .int 50]) (rest := [.ref t]) 8 rfl cw_X9_96 dX9_tick_5 m3 rfl (by decide) rfl (Nat.le_of_ble_eq_true rfl) ?_
  have hz_r2 := m3.1.2
  replace h := bd_e h
  obtain ⟨r5, u6, h4, h⟩ := h
  have m7 := ct_X9_needs l (g := g) h4 hT hk_t hz_r2
  refine yc_Vi (Al := [.int r2]) (rest := []) 11 rfl cw_X9_269 cx_10 dX9_tick_8 m7 hk_t rfl (by decide) rfl (Nat.le_of_ble_eq_true rfl) ?_
  have hk_t := k_G m7.1.1 (by decide) hk_t
  have hT := m7.1.1.2.2.2
  have hz_r5 := m7.1.2
  by_cases c8 : r5 = 0
  · replace h := ite_p c8 h
    refine ym 14 (fun B k => z_if_ne (tgt := 16) B dX9_tick_11 (by decide) (fun q => absurd c8 q) (fun _ => k)) ?_
    refine ym 15 (fun B k => z_iconst (v := 0) B dX9_tick_14 (by decide) k) ?_
    obtain ⟨rfl, rfl⟩ := Prod.mk.inj (Option.some.inj h)
    exact yr_i hT trivial rfl dX9_tick_15
  · replace h := ite_n c8 h
    refine ym 16 (fun B k => z_if_ne (tgt := 16) B dX9_tick_11 (by decide) (fun _ => k) (fun q => absurd q c8)) ?_
    refine ym 17 (fun B k => z_iconst (v := 0) B dX9_tick_16 (by decide) k) ?_
    refine ym 18 (fun B k => z_istore_n (lv' := [(2, .int 0), (0, .ref t), (1, .int x1)]) B dX9_tick_17 rfl (by decide) rfl k) ?_
    refine y_sub [(0, .ref t), (1, .int x1), (2, .int 0)] [1, 2, 0] rfl ?_
    exact tl_X9_tick_18 h hT hk_t
set_option maxRecDepth 100000 in
set_option maxHeartbeats 4000000 in
theorem ct_X9_workflows (l : Launch) {g : gx_T} {σ : sx_T} {u : sx_T} {r : Int32}  {t : Nat} (h : f_X9_workflows σ t = some (r, u)) (hT : TS g σ) (hk_t : sx_K σ t = 11) : CT l g yX9_workflows cX9_workflows 1 (some .int) 0 0 [.ref t] (True) u σ (Qxi g r u) := by
  refine yc_met (by decide) (Nat.le_of_ble_eq_true rfl) ?_
  refine yc_lv (show lv_args 0 [.ref t] = [(0, .ref t)] from rfl) ?_
  show ZY l g _ _ _ _ _ _ _ _ _ _ _ _ _ _ σ 0 [(0, .ref t)] []
  unfold f_X9_workflows at h
  refine ym 1 (fun B k => z_aload_n B dX9_workflows_0 rfl 0 rfl k) ?_
  refine ym 2 (fun B k => z_iconst (v := 0) B dX9_workflows_1 (by decide) k) ?_
  have j1 := hk_t
  refine ymw (σ' := (wx_I σ t 0 0)) 5 e_I (fun B hin k => pf_X9_90 (x := 0) B hk_t rfl dX9_workflows_2 k) ?_
  have hT := TS_I (k := 0) (x := 0) hT hk_t (Or.inl rfl)
  have hk_t := kk_I (σ := σ) (a := t) (k := 0) (x := 0) hk_t
  refine ym 6 (fun B k => z_aload_n B dX9_workflows_5 rfl 0 rfl k) ?_
  refine ym 9 (fun B k => gf_X9_93 (x := (sx_I σ t 6)) B hk_t (rI_n (by decide) rfl) dX9_workflows_6 k) ?_
  obtain ⟨rfl, rfl⟩ := Prod.mk.inj (Option.some.inj h)
  exact yr_i hT trivial rfl dX9_workflows_9
set_option maxRecDepth 100000 in
set_option maxHeartbeats 4000000 in
theorem ct_X9_state (l : Launch) {g : gx_T} {σ : sx_T} {u : sx_T} {r : Int32} {n0 : Nat} {t : Nat} {x1 : Int32} (h : f_X9_state n0 σ t x1 = some (r, u)) (hT : TS g σ) (hk_t : sx_K σ t = 11) : CT l g yX9_state cX9_state 2 (some .int) 6 154 [.ref t, .int x1] (True) u σ (Qxi g r u) := by
  refine yc_met (by decide) (Nat.le_of_ble_eq_true rfl) ?_
  refine yc_lv (show lv_args 0 [.ref t, .int x1] = [(0, .ref t), (1, .int x1)] from rfl) ?_
  show ZY l g _ _ _ _ _ _ _ _ _ _ _ _ _ _ σ 0 [(0, .ref t), (1, .int x1)] []
  unfold f_X9_state at h
  refine ym 1 (fun B k => z_aload_n B dX9_state_0 rfl 0 rfl k) ?_
  refine ym 2 (fun B k => z_aload_n B dX9_state_1 rfl 0 rfl k) ?_
  refine ym 3 (fun B k => z_iload_n B dX9_state_2 rfl 1 rfl k) ?_
  replace h := br_e h
  obtain ⟨r2, h1, h⟩ := h
  have m3 := ct_X9_isWorkflow l (g := g) h1 hT hk_t
  refine yc_Vi (Al := [.int x1]) (rest := [.ref t]) 6 rfl cw_X9_262 cx_10 dX9_state_3 m3 hk_t rfl (by decide) rfl (Nat.le_of_ble_eq_true rfl) ?_
  have hz_r2 := m3.1.2
  replace h := bd_e h
  obtain ⟨r5, u6, h4, h⟩ := h
  have m7 := ct_X9_needs l (g := g) h4 hT hk_t hz_r2
  refine yc_Vi (Al := [.int r2]) (rest := []) 9 rfl cw_X9_269 cx_10 dX9_state_6 m7 hk_t rfl (by decide) rfl (Nat.le_of_ble_eq_true rfl) ?_
  have hk_t := k_G m7.1.1 (by decide) hk_t
  have hT := m7.1.1.2.2.2
  have hz_r5 := m7.1.2
  by_cases c8 : r5 = 0
  · replace h := ite_p c8 h
    refine ym 12 (fun B k => z_if_ne (tgt := 14) B dX9_state_9 (by decide) (fun q => absurd c8 q) (fun _ => k)) ?_
    refine ym 13 (fun B k => z_iconst (v := 0) B dX9_state_12 (by decide) k) ?_
    obtain ⟨rfl, rfl⟩ := Prod.mk.inj (Option.some.inj h)
    exact yr_i hT trivial rfl dX9_state_13
  · replace h := ite_n c8 h
    refine ym 14 (fun B k => z_if_ne (tgt := 14) B dX9_state_9 (by decide) (fun _ => k) (fun q => absurd q c8)) ?_
    refine ym 15 (fun B k => z_aload_n B dX9_state_14 rfl 0 rfl k) ?_
    replace h := qv_e h
    obtain ⟨w9, e_w9, h⟩ := h
    have hq_w9 : rk u6 w9 13 := rk_T hT hk_t rfl (by decide) e_w9
    refine ym 18 (fun B k => gf_X9_32 (x := w9) B hk_t e_w9 dX9_state_15 k) ?_
    refine ym 19 (fun B k => z_iload_n B dX9_state_18 rfl 1 rfl k) ?_
    replace h := bq_e h
    obtain ⟨a10, rfl, h⟩ := h
    have hk_a10 := hq_w9 a10 rfl
    replace h := ck_e h
    obtain ⟨hi_11, h⟩ := h
    refine ym 20 (fun B k => z_iald (j := (ti x1)) (x := (sx_I u6 a10 (ti x1))) B hk_a10 rfl hi_11 rfl dX9_state_19 k) ?_
    by_cases c12 : (sx_I u6 a10 (ti x1)) ≤ 0
    · replace h := ite_p c12 h
      refine ym 32 (fun B k => z_if_le (tgt := 32) B dX9_state_20 (by decide) (fun _ => k) (fun q => absurd c12 q)) ?_
      refine ym 33 (fun B k => z_aload_n B dX9_state_32 rfl 0 rfl k) ?_
      refine ym 34 (fun B k => z_iload_n B dX9_state_33 rfl 1 rfl k) ?_
      replace h := bd_e h
      obtain ⟨r14, u15, h13, h⟩ := h
      have m16 := ct_X9_isFit l (g := g) h13 hT hk_t
      refine yc_Vi (Al := [.int x1]) (rest := []) 37 rfl cw_X9_235 cx_10 dX9_state_34 m16 hk_t rfl (by decide) rfl (Nat.le_of_ble_eq_true rfl) ?_
      have hk_t := k_G m16.1.1 (by decide) hk_t
      have hT := m16.1.1.2.2.2
      have hz_r14 := m16.1.2
      by_cases c17 : r14 = 0
      · replace h := ite_p c17 h
        refine ym 44 (fun B k => z_if_eq (tgt := 44) B dX9_state_37 (by decide) (fun _ => k) (fun q => absurd c17 q)) ?_
        refine ym 45 (fun B k => z_iconst (v := 5) B dX9_state_44 (by decide) k) ?_
        obtain ⟨rfl, rfl⟩ := Prod.mk.inj (Option.some.inj h)
        exact yr_i hT trivial rfl dX9_state_45
      · replace h := ite_n c17 h
        refine ym 40 (fun B k => z_if_eq (tgt := 44) B dX9_state_37 (by decide) (fun q => absurd q c17) (fun _ => k)) ?_
        refine ym 41 (fun B k => z_iconst (v := 0) B dX9_state_40 (by decide) k) ?_
        refine ym 45 (fun B k => z_goto (tgt := 45) B dX9_state_41 (by decide) k) ?_
        obtain ⟨rfl, rfl⟩ := Prod.mk.inj (Option.some.inj h)
        exact yr_i hT trivial rfl dX9_state_45
    · replace h := ite_n c12 h
      refine ym 23 (fun B k => z_if_le (tgt := 32) B dX9_state_20 (by decide) (fun q => absurd q c12) (fun _ => k)) ?_
      refine ym 24 (fun B k => z_aload_n B dX9_state_23 rfl 0 rfl k) ?_
      replace h := qv_e h
      obtain ⟨w18, e_w18, h⟩ := h
      have hq_w18 : rk u6 w18 13 := rk_T hT hk_t rfl (by decide) e_w18
      refine ym 27 (fun B k => gf_X9_32 (x := w18) B hk_t e_w18 dX9_state_24 k) ?_
      refine ym 28 (fun B k => z_iload_n B dX9_state_27 rfl 1 rfl k) ?_
      replace h := bq_e h
      obtain ⟨a19, rfl, h⟩ := h
      have hk_a19 := hq_w18 a19 rfl
      replace h := ck_e h
      obtain ⟨hi_20, h⟩ := h
      refine ym 29 (fun B k => z_iald (j := (ti x1)) (x := (sx_I u6 a19 (ti x1))) B hk_a19 rfl hi_20 rfl dX9_state_28 k) ?_
      refine ym 45 (fun B k => z_goto (tgt := 45) B dX9_state_29 (by decide) k) ?_
      obtain ⟨rfl, rfl⟩ := Prod.mk.inj (Option.some.inj h)
      exact yr_i hT trivial rfl dX9_state_45
set_option maxRecDepth 100000 in
set_option maxHeartbeats 4000000 in
theorem tb_X9_told_41 {l : Launch} {g : gx_T} {σ : sx_T} {u : sx_T} {r : Int32} {As : Array Value} {n0 : Nat} {t : Nat} {x1 : Int32} {x2 : Int32} {y0 : Int32} {y1 : Int32} {y2 : Int32} (h : fb_X9_told_41 n0 σ t x1 x2 y0 y1 y2 = some (r, u)) (hT : TS g σ) (hk_t : sx_K σ t = 11) (hz_y0 : y0 = 0 ∨ y0 = 1) (hz_y1 : y1 = 0 ∨ y1 = 1) (hz_y2 : y2 = 0 ∨ y2 = 1) : ZY l g cX9_told RX9 "told" (some .int) 5 6 154 0 0 false As (QM g As (Qxi g r u)) (True) u σ 41 [(0, .ref t), (1, .int x1), (2, .int x2)] [.int y0, .int y1, .int y2, .ref t] := by
  unfold fb_X9_told_41 at h
  replace h := bd_e h
  obtain ⟨r2, u3, h1, h⟩ := h
  have m4 := ct_X9_needs__ l (g := g) h1 hT hk_t hz_y2 hz_y1 hz_y0
  refine yc_Vi (Al := [.int y2, .int y1, .int y0]) (rest := []) 44 rfl cw_X9_259 cx_10 dX9_told_41 m4 hk_t rfl (by decide) rfl (Nat.le_of_ble_eq_true rfl) ?_
  have hk_t := k_G m4.1.1 (by decide) hk_t
  have hT := m4.1.1.2.2.2
  have hz_r2 := m4.1.2
  by_cases c5 : r2 = 0
  · replace h := ite_p c5 h
    refine ym 47 (fun B k => z_if_ne (tgt := 49) B dX9_told_44 (by decide) (fun q => absurd c5 q) (fun _ => k)) ?_
    refine ym 48 (fun B k => z_iconst (v := 0) B dX9_told_47 (by decide) k) ?_
    obtain ⟨rfl, rfl⟩ := Prod.mk.inj (Option.some.inj h)
    exact yr_i hT trivial rfl dX9_told_48
  · replace h := ite_n c5 h
    refine ym 49 (fun B k => z_if_ne (tgt := 49) B dX9_told_44 (by decide) (fun _ => k) (fun q => absurd q c5)) ?_
    refine ym 50 (fun B k => z_iload_n B dX9_told_49 rfl 2 rfl k) ?_
    by_cases c6 : x2 = 0
    · replace h := ite_p c6 h
      refine ym 96 (fun B k => z_tableIn (tgt := 96) B dX9_told_50 (by rw [c6]; decide) (by rw [c6]; decide) (show _ = some (46 : Int) by rw [c6]; decide) (by decide) k) ?_
      refine ym 97 (fun B k => z_aload_n B dX9_told_96 rfl 0 rfl k) ?_
      replace h := qv_e h
      obtain ⟨w7, e_w7, h⟩ := h
      have hq_w7 : rk u3 w7 13 := rk_T hT hk_t rfl (by decide) e_w7
      refine ym 100 (fun B k => gf_X9_23 (x := w7) B hk_t e_w7 dX9_told_97 k) ?_
      refine ym 101 (fun B k => z_iload_n B dX9_told_100 rfl 1 rfl k) ?_
      replace h := bq_e h
      obtain ⟨a8, rfl, h⟩ := h
      have hk_a8 := hq_w7 a8 rfl
      replace h := ck_e h
      obtain ⟨hi_9, h⟩ := h
      refine ym 102 (fun B k => z_iald (j := (ti x1)) (x := (sx_I u3 a8 (ti x1))) B hk_a8 rfl hi_9 rfl dX9_told_101 k) ?_
      obtain ⟨rfl, rfl⟩ := Prod.mk.inj (Option.some.inj h)
      exact yr_i hT trivial rfl dX9_told_102
    replace h := ite_n c6 h
    by_cases c10 : x2 = 1
    · replace h := ite_p c10 h
      refine ym 103 (fun B k => z_tableIn (tgt := 103) B dX9_told_50 (by rw [c10]; decide) (by rw [c10]; decide) (show _ = some (53 : Int) by rw [c10]; decide) (by decide) k) ?_
      refine ym 104 (fun B k => z_aload_n B dX9_told_103 rfl 0 rfl k) ?_
      refine ym 107 (fun B k => gf_X9_110 (x := (sx_I u3 t 28)) B hk_t rfl dX9_told_104 k) ?_
      obtain ⟨rfl, rfl⟩ := Prod.mk.inj (Option.some.inj h)
      exact yr_i hT trivial rfl dX9_told_107
    replace h := ite_n c10 h
    by_cases c11 : x2 = 2
    · replace h := ite_p c11 h
      refine ym 108 (fun B k => z_tableIn (tgt := 108) B dX9_told_50 (by rw [c11]; decide) (by rw [c11]; decide) (show _ = some (58 : Int) by rw [c11]; decide) (by decide) k) ?_
      refine ym 109 (fun B k => z_aload_n B dX9_told_108 rfl 0 rfl k) ?_
      refine ym 112 (fun B k => gf_X9_113 (x := (sx_I u3 t 29)) B hk_t rfl dX9_told_109 k) ?_
      obtain ⟨rfl, rfl⟩ := Prod.mk.inj (Option.some.inj h)
      exact yr_i hT trivial rfl dX9_told_112
    replace h := ite_n c11 h
    by_cases c12 : x2 = 3
    · replace h := ite_p c12 h
      refine ym 113 (fun B k => z_tableIn (tgt := 113) B dX9_told_50 (by rw [c12]; decide) (by rw [c12]; decide) (show _ = some (63 : Int) by rw [c12]; decide) (by decide) k) ?_
      refine ym 114 (fun B k => z_aload_n B dX9_told_113 rfl 0 rfl k) ?_
      refine ym 117 (fun B k => gf_X9_116 (x := (sx_I u3 t 30)) B hk_t rfl dX9_told_114 k) ?_
      obtain ⟨rfl, rfl⟩ := Prod.mk.inj (Option.some.inj h)
      exact yr_i hT trivial rfl dX9_told_117
    replace h := ite_n c12 h
    by_cases c13 : x2 = 4
    · replace h := ite_p c13 h
      refine ym 118 (fun B k => z_tableIn (tgt := 118) B dX9_told_50 (by rw [c13]; decide) (by rw [c13]; decide) (show _ = some (68 : Int) by rw [c13]; decide) (by decide) k) ?_
      refine ym 119 (fun B k => z_aload_n B dX9_told_118 rfl 0 rfl k) ?_
      refine ym 122 (fun B k => gf_X9_116 (x := (sx_I u3 t 30)) B hk_t rfl dX9_told_119 k) ?_
      refine ym 123 (fun B k => z_iconst (v := 1) B dX9_told_122 (by decide) k) ?_
      by_cases c14 : (sx_I u3 t 30) = 1
      · replace h := ite_p c14 h
        refine ym 135 (fun B k => z_icmp_eq (tgt := 135) B dX9_told_123 (by decide) (fun _ => k) (fun q => absurd c14 q)) ?_
        refine ym 136 (fun B k => z_aload_n B dX9_told_135 rfl 0 rfl k) ?_
        replace h := qv_e h
        obtain ⟨w15, e_w15, h⟩ := h
        have hq_w15 : rk u3 w15 13 := rk_T hT hk_t rfl (by decide) e_w15
        refine ym 139 (fun B k => gf_X9_41 (x := w15) B hk_t e_w15 dX9_told_136 k) ?_
        refine ym 140 (fun B k => z_iload_n B dX9_told_139 rfl 1 rfl k) ?_
        replace h := bq_e h
        obtain ⟨a16, rfl, h⟩ := h
        have hk_a16 := hq_w15 a16 rfl
        replace h := ck_e h
        obtain ⟨hi_17, h⟩ := h
        refine ym 141 (fun B k => z_iald (j := (ti x1)) (x := (sx_I u3 a16 (ti x1))) B hk_a16 rfl hi_17 rfl dX9_told_140 k) ?_
        refine ym 159 (fun B k => z_goto (tgt := 159) B dX9_told_141 (by decide) k) ?_
        obtain ⟨rfl, rfl⟩ := Prod.mk.inj (Option.some.inj h)
        exact yr_i hT trivial rfl dX9_told_159
      · replace h := ite_n c14 h
        refine ym 126 (fun B k => z_icmp_eq (tgt := 135) B dX9_told_123 (by decide) (fun q => absurd q c14) (fun _ => k)) ?_
        refine ym 127 (fun B k => z_aload_n B dX9_told_126 rfl 0 rfl k) ?_
        refine ym 130 (fun B k => gf_X9_116 (x := (sx_I u3 t 30)) B hk_t rfl dX9_told_127 k) ?_
        refine ym 132 (fun B k => z_bipush (v := 6) B dX9_told_130 (by decide) k) ?_
        by_cases c18 : (sx_I u3 t 30) = 6
        · replace h := ite_p c18 h
          refine ym 135 (fun B k => z_icmp_ne (tgt := 144) B dX9_told_132 (by decide) (fun q => absurd c18 q) (fun _ => k)) ?_
          refine ym 136 (fun B k => z_aload_n B dX9_told_135 rfl 0 rfl k) ?_
          replace h := qv_e h
          obtain ⟨w19, e_w19, h⟩ := h
          have hq_w19 : rk u3 w19 13 := rk_T hT hk_t rfl (by decide) e_w19
          refine ym 139 (fun B k => gf_X9_41 (x := w19) B hk_t e_w19 dX9_told_136 k) ?_
          refine ym 140 (fun B k => z_iload_n B dX9_told_139 rfl 1 rfl k) ?_
          replace h := bq_e h
          obtain ⟨a20, rfl, h⟩ := h
          have hk_a20 := hq_w19 a20 rfl
          replace h := ck_e h
          obtain ⟨hi_21, h⟩ := h
          refine ym 141 (fun B k => z_iald (j := (ti x1)) (x := (sx_I u3 a20 (ti x1))) B hk_a20 rfl hi_21 rfl dX9_told_140 k) ?_
          refine ym 159 (fun B k => z_goto (tgt := 159) B dX9_told_141 (by decide) k) ?_
          obtain ⟨rfl, rfl⟩ := Prod.mk.inj (Option.some.inj h)
          exact yr_i hT trivial rfl dX9_told_159
        · replace h := ite_n c18 h
          refine ym 144 (fun B k => z_icmp_ne (tgt := 144) B dX9_told_132 (by decide) (fun _ => k) (fun q => absurd q c18)) ?_
          refine ym 145 (fun B k => z_aload_n B dX9_told_144 rfl 0 rfl k) ?_
          refine ym 148 (fun B k => gf_X9_116 (x := (sx_I u3 t 30)) B hk_t rfl dX9_told_145 k) ?_
          by_cases c22 : (sx_I u3 t 30) = 0
          · replace h := ite_p c22 h
            refine ym 151 (fun B k => z_if_ne (tgt := 155) B dX9_told_148 (by decide) (fun q => absurd c22 q) (fun _ => k)) ?_
            refine ym 152 (fun B k => z_iconst (v := 0) B dX9_told_151 (by decide) k) ?_
            refine ym 159 (fun B k => z_goto (tgt := 159) B dX9_told_152 (by decide) k) ?_
            obtain ⟨rfl, rfl⟩ := Prod.mk.inj (Option.some.inj h)
            exact yr_i hT trivial rfl dX9_told_159
          · replace h := ite_n c22 h
            refine ym 155 (fun B k => z_if_ne (tgt := 155) B dX9_told_148 (by decide) (fun _ => k) (fun q => absurd q c22)) ?_
            refine ym 156 (fun B k => z_aload_n B dX9_told_155 rfl 0 rfl k) ?_
            refine ym 159 (fun B k => gf_X9_119 (x := (sx_I u3 t 31)) B hk_t rfl dX9_told_156 k) ?_
            obtain ⟨rfl, rfl⟩ := Prod.mk.inj (Option.some.inj h)
            exact yr_i hT trivial rfl dX9_told_159
    replace h := ite_n c13 h
    by_cases c23 : x2 = 5
    · replace h := ite_p c23 h
      refine ym 160 (fun B k => z_tableIn (tgt := 160) B dX9_told_50 (by rw [c23]; decide) (by rw [c23]; decide) (show _ = some (110 : Int) by rw [c23]; decide) (by decide) k) ?_
      refine ym 161 (fun B k => z_aload_n B dX9_told_160 rfl 0 rfl k) ?_
      refine ym 164 (fun B k => gf_X9_122 (x := (sx_I u3 t 32)) B hk_t rfl dX9_told_161 k) ?_
      obtain ⟨rfl, rfl⟩ := Prod.mk.inj (Option.some.inj h)
      exact yr_i hT trivial rfl dX9_told_164
    replace h := ite_n c23 h
    by_cases c24 : x2 = 6
    · replace h := ite_p c24 h
      refine ym 165 (fun B k => z_tableIn (tgt := 165) B dX9_told_50 (by rw [c24]; decide) (by rw [c24]; decide) (show _ = some (115 : Int) by rw [c24]; decide) (by decide) k) ?_
      refine ym 166 (fun B k => z_aload_n B dX9_told_165 rfl 0 rfl k) ?_
      refine ym 169 (fun B k => gf_X9_125 (x := (sx_I u3 t 34)) B hk_t rfl dX9_told_166 k) ?_
      by_cases c25 : (sx_I u3 t 34) = 0
      · replace h := ite_p c25 h
        refine ym 176 (fun B k => z_if_eq (tgt := 176) B dX9_told_169 (by decide) (fun _ => k) (fun q => absurd c25 q)) ?_
        refine ym 177 (fun B k => z_iconst (v := 0) B dX9_told_176 (by decide) k) ?_
        obtain ⟨rfl, rfl⟩ := Prod.mk.inj (Option.some.inj h)
        exact yr_i hT trivial rfl dX9_told_177
      · replace h := ite_n c25 h
        refine ym 172 (fun B k => z_if_eq (tgt := 176) B dX9_told_169 (by decide) (fun q => absurd q c25) (fun _ => k)) ?_
        refine ym 173 (fun B k => z_iconst (v := 1) B dX9_told_172 (by decide) k) ?_
        refine ym 177 (fun B k => z_goto (tgt := 177) B dX9_told_173 (by decide) k) ?_
        obtain ⟨rfl, rfl⟩ := Prod.mk.inj (Option.some.inj h)
        exact yr_i hT trivial rfl dX9_told_177
    replace h := ite_n c24 h
    by_cases c26 : x2 = 7
    · replace h := ite_p c26 h
      refine ym 178 (fun B k => z_tableIn (tgt := 178) B dX9_told_50 (by rw [c26]; decide) (by rw [c26]; decide) (show _ = some (128 : Int) by rw [c26]; decide) (by decide) k) ?_
      refine ym 179 (fun B k => z_aload_n B dX9_told_178 rfl 0 rfl k) ?_
      refine ym 182 (fun B k => gf_X9_134 (x := (sx_I u3 t 37)) B hk_t rfl dX9_told_179 k) ?_
      by_cases c27 : (sx_I u3 t 37) ≤ 0
      · replace h := ite_p c27 h
        refine ym 189 (fun B k => z_if_le (tgt := 189) B dX9_told_182 (by decide) (fun _ => k) (fun q => absurd c27 q)) ?_
        refine ym 190 (fun B k => z_aload_n B dX9_told_189 rfl 0 rfl k) ?_
        refine ym 193 (fun B k => gf_X9_131 (x := (sx_I u3 t 36)) B hk_t rfl dX9_told_190 k) ?_
        obtain ⟨rfl, rfl⟩ := Prod.mk.inj (Option.some.inj h)
        exact yr_i hT trivial rfl dX9_told_193
      · replace h := ite_n c27 h
        refine ym 185 (fun B k => z_if_le (tgt := 189) B dX9_told_182 (by decide) (fun q => absurd q c27) (fun _ => k)) ?_
        refine ym 186 (fun B k => z_iconst (v := 0) B dX9_told_185 (by decide) k) ?_
        refine ym 193 (fun B k => z_goto (tgt := 193) B dX9_told_186 (by decide) k) ?_
        obtain ⟨rfl, rfl⟩ := Prod.mk.inj (Option.some.inj h)
        exact yr_i hT trivial rfl dX9_told_193
    replace h := ite_n c26 h
    refine ym 194 (fun B k => z_tabDf (tgt := 194) (vs := [0, 1, 2, 3, 4, 5, 6, 7]) B dX9_told_50 (by decide) (by decide) (by decide) (by intro v hv; simp only [List.mem_cons, List.not_mem_nil, or_false] at hv; rcases hv with rfl | rfl | rfl | rfl | rfl | rfl | rfl | rfl; all_goals assumption) k) ?_
    refine ym 195 (fun B k => z_aload_n B dX9_told_194 rfl 0 rfl k) ?_
    refine ym 198 (fun B k => gf_X9_140 (x := (sx_I u3 t 39)) B hk_t rfl dX9_told_195 k) ?_
    obtain ⟨rfl, rfl⟩ := Prod.mk.inj (Option.some.inj h)
    exact yr_i hT trivial rfl dX9_told_198
set_option maxRecDepth 100000 in
set_option maxHeartbeats 4000000 in
theorem tb_X9_told_40 {l : Launch} {g : gx_T} {σ : sx_T} {u : sx_T} {r : Int32} {As : Array Value} {n0 : Nat} {t : Nat} {x1 : Int32} {x2 : Int32} {y0 : Int32} {y1 : Int32} (h : fb_X9_told_40 n0 σ t x1 x2 y0 y1 = some (r, u)) (hT : TS g σ) (hk_t : sx_K σ t = 11) (hz_y0 : y0 = 0 ∨ y0 = 1) (hz_y1 : y1 = 0 ∨ y1 = 1) : ZY l g cX9_told RX9 "told" (some .int) 5 6 154 0 0 false As (QM g As (Qxi g r u)) (True) u σ 40 [(0, .ref t), (1, .int x1), (2, .int x2)] [.int y0, .int y1, .ref t] := by
  unfold fb_X9_told_40 at h
  refine ym 41 (fun B k => z_iconst (v := 0) B dX9_told_40 (by decide) k) ?_
  refine y_sub [(0, .ref t), (1, .int x1), (2, .int x2)] [0, 1, 2] rfl ?_
  exact tb_X9_told_41 h hT hk_t (Or.inl rfl) hz_y0 hz_y1
set_option maxRecDepth 100000 in
set_option maxHeartbeats 4000000 in
theorem ct_X9_told (l : Launch) {g : gx_T} {σ : sx_T} {u : sx_T} {r : Int32} {n0 : Nat} {t : Nat} {x1 : Int32} {x2 : Int32} (h : f_X9_told n0 σ t x1 x2 = some (r, u)) (hT : TS g σ) (hk_t : sx_K σ t = 11) : CT l g yX9_told cX9_told 5 (some .int) 6 154 [.ref t, .int x1, .int x2] (True) u σ (Qxi g r u) := by
  refine yc_met (by decide) (Nat.le_of_ble_eq_true rfl) ?_
  refine yc_lv (show lv_args 0 [.ref t, .int x1, .int x2] = [(0, .ref t), (1, .int x1), (2, .int x2)] from rfl) ?_
  show ZY l g _ _ _ _ _ _ _ _ _ _ _ _ _ _ σ 0 [(0, .ref t), (1, .int x1), (2, .int x2)] []
  unfold f_X9_told at h
  refine ym 1 (fun B k => z_aload_n B dX9_told_0 rfl 0 rfl k) ?_
  refine ym 2 (fun B k => z_iload_n B dX9_told_1 rfl 1 rfl k) ?_
  replace h := br_e h
  obtain ⟨r2, h1, h⟩ := h
  have m3 := ct_X9_isWorkflow l (g := g) h1 hT hk_t
  refine yc_Vi (Al := [.int x1]) (rest := []) 5 rfl cw_X9_262 cx_10 dX9_told_2 m3 hk_t rfl (by decide) rfl (Nat.le_of_ble_eq_true rfl) ?_
  have hz_r2 := m3.1.2
  refine ym 6 (fun B k => z_istore_n (lv' := [(3, .int r2), (0, .ref t), (1, .int x1), (2, .int x2)]) B dX9_told_5 rfl (by decide) rfl k) ?_
  refine ym 7 (fun B k => z_iload_n B dX9_told_6 rfl 3 rfl k) ?_
  refine ym 8 (fun B k => z_iconst (v := 0) B dX9_told_7 (by decide) k) ?_
  refine ym 10 (fun B k => z_bipush (v := 8) B dX9_told_8 (by decide) k) ?_
  replace h := br_e h
  obtain ⟨r5, h4, h⟩ := h
  have m6 := ct_X9_in l (g := g) h4 hT
  refine yc_Si (Al := [.int x2, .int 0, .int 8]) (rest := []) 13 rfl cw_X9_96 dX9_told_10 m6 rfl (by decide) rfl (Nat.le_of_ble_eq_true rfl) ?_
  have hz_r5 := m6.1.2
  refine ym 15 (fun B k => z_istore (lv' := [(4, .int r5), (3, .int r2), (0, .ref t), (1, .int x1), (2, .int x2)]) B dX9_told_13 (by decide) rfl k) ?_
  refine ym 16 (fun B k => z_aload_n B dX9_told_15 rfl 2 rfl k) ?_
  refine ym 17 (fun B k => z_iload_n B dX9_told_16 rfl 1 rfl k) ?_
  refine ym 19 (fun B k => z_iload B dX9_told_17 0 rfl k) ?_
  refine ym 20 (fun B k => z_iload_n B dX9_told_19 rfl 1 rfl k) ?_
  by_cases c7 : r2 = 0
  · replace h := ite_p c7 h
    refine ym 40 (fun B k => z_if_eq (tgt := 40) B dX9_told_20 (by decide) (fun _ => k) (fun q => absurd c7 q)) ?_
    refine y_sub [(0, .ref t), (1, .int x1), (2, .int x2)] [2, 3, 4] rfl ?_
    exact tb_X9_told_40 h hT hk_t hz_r5 hz_r2
  · replace h := ite_n c7 h
    refine ym 23 (fun B k => z_if_eq (tgt := 40) B dX9_told_20 (by decide) (fun q => absurd q c7) (fun _ => k)) ?_
    refine ym 25 (fun B k => z_iload B dX9_told_23 0 rfl k) ?_
    by_cases c8 : r5 = 0
    · replace h := ite_p c8 h
      refine ym 40 (fun B k => z_if_eq (tgt := 40) B dX9_told_25 (by decide) (fun _ => k) (fun q => absurd c8 q)) ?_
      refine y_sub [(0, .ref t), (1, .int x1), (2, .int x2)] [2, 3, 4] rfl ?_
      exact tb_X9_told_40 h hT hk_t hz_r5 hz_r2
    · replace h := ite_n c8 h
      refine ym 28 (fun B k => z_if_eq (tgt := 40) B dX9_told_25 (by decide) (fun q => absurd q c8) (fun _ => k)) ?_
      refine ym 29 (fun B k => z_aload_n B dX9_told_28 rfl 2 rfl k) ?_
      refine ym 30 (fun B k => z_iload_n B dX9_told_29 rfl 3 rfl k) ?_
      replace h := bd_e h
      obtain ⟨r10, u11, h9, h⟩ := h
      have m12 := ct_X9_isFit l (g := g) h9 hT hk_t
      refine yc_Vi (Al := [.int x1]) (rest := [.int r5, .int r2, .ref t]) 33 rfl cw_X9_235 cx_10 dX9_told_30 m12 hk_t rfl (by decide) rfl (Nat.le_of_ble_eq_true rfl) ?_
      have hk_t := k_G m12.1.1 (by decide) hk_t
      have hT := m12.1.1.2.2.2
      have hz_r10 := m12.1.2
      by_cases c13 : r10 = 0
      · replace h := ite_p c13 h
        refine ym 40 (fun B k => z_if_eq (tgt := 40) B dX9_told_33 (by decide) (fun _ => k) (fun q => absurd c13 q)) ?_
        refine y_sub [(0, .ref t), (1, .int x1), (2, .int x2)] [2, 3, 4] rfl ?_
        exact tb_X9_told_40 h hT hk_t hz_r5 hz_r2
      · replace h := ite_n c13 h
        refine ym 36 (fun B k => z_if_eq (tgt := 40) B dX9_told_33 (by decide) (fun q => absurd q c13) (fun _ => k)) ?_
        refine ym 37 (fun B k => z_iconst (v := 1) B dX9_told_36 (by decide) k) ?_
        refine ym 41 (fun B k => z_goto (tgt := 41) B dX9_told_37 (by decide) k) ?_
        refine y_sub [(0, .ref t), (1, .int x1), (2, .int x2)] [2, 3, 4] rfl ?_
        exact tb_X9_told_41 h hT hk_t (Or.inr rfl) hz_r5 hz_r2
set_option maxRecDepth 100000 in
set_option maxHeartbeats 4000000 in
theorem ct_X9_about (l : Launch) {g : gx_T} {σ : sx_T} {u : sx_T} {r : Int32} {n0 : Nat} {t : Nat} {x1 : Int32} {x2 : Int32} (h : f_X9_about n0 σ t x1 x2 = some (r, u)) (hT : TS g σ) (hk_t : sx_K σ t = 11) : CT l g yX9_about cX9_about 3 (some .int) 7 178 [.ref t, .int x1, .int x2] (True) u σ (Qxi g r u) := by
  refine yc_met (by decide) (Nat.le_of_ble_eq_true rfl) ?_
  refine yc_lv (show lv_args 0 [.ref t, .int x1, .int x2] = [(0, .ref t), (1, .int x1), (2, .int x2)] from rfl) ?_
  show ZY l g _ _ _ _ _ _ _ _ _ _ _ _ _ _ σ 0 [(0, .ref t), (1, .int x1), (2, .int x2)] []
  unfold f_X9_about at h
  refine ym 1 (fun B k => z_aload_n B dX9_about_0 rfl 0 rfl k) ?_
  refine ym 2 (fun B k => z_iload_n B dX9_about_1 rfl 1 rfl k) ?_
  refine ym 3 (fun B k => z_iload_n B dX9_about_2 rfl 2 rfl k) ?_
  replace h := bd_e h
  obtain ⟨r2, u3, h1, h⟩ := h
  have m4 := ct_X9_told l (g := g) h1 hT hk_t
  refine yc_Vi (Al := [.int x1, .int x2]) (rest := []) 6 rfl cw_X9_297 cx_10 dX9_about_3 m4 hk_t rfl (by decide) rfl (Nat.le_of_ble_eq_true rfl) ?_
  have hk_t := k_G m4.1.1 (by decide) hk_t
  have hT := m4.1.1.2.2.2
  obtain ⟨rfl, rfl⟩ := Prod.mk.inj (Option.some.inj h)
  exact yr_i hT trivial rfl dX9_about_6
set_option maxRecDepth 100000 in
set_option maxHeartbeats 4000000 in
theorem ct_X9_aboutAnew (l : Launch) {g : gx_T} {σ : sx_T} {u : sx_T} {r : Int32} {n0 : Nat} {t : Nat} {x1 : Int32} {x2 : Int32} (h : f_X9_aboutAnew n0 σ t x1 x2 = some (r, u)) (hT : TS g σ) (hk_t : sx_K σ t = 11) : CT l g yX9_aboutAnew cX9_aboutAnew 3 (some .int) 7 178 [.ref t, .int x1, .int x2] (True) u σ (Qxi g r u) := by
  refine yc_met (by decide) (Nat.le_of_ble_eq_true rfl) ?_
  refine yc_lv (show lv_args 0 [.ref t, .int x1, .int x2] = [(0, .ref t), (1, .int x1), (2, .int x2)] from rfl) ?_
  show ZY l g _ _ _ _ _ _ _ _ _ _ _ _ _ _ σ 0 [(0, .ref t), (1, .int x1), (2, .int x2)] []
  unfold f_X9_aboutAnew at h
  refine ym 1 (fun B k => z_aload_n B dX9_aboutAnew_0 rfl 0 rfl k) ?_
  refine ym 2 (fun B k => z_iload_n B dX9_aboutAnew_1 rfl 1 rfl k) ?_
  refine ym 3 (fun B k => z_iload_n B dX9_aboutAnew_2 rfl 2 rfl k) ?_
  replace h := bd_e h
  obtain ⟨r2, u3, h1, h⟩ := h
  have m4 := ct_X9_told l (g := g) h1 hT hk_t
  refine yc_Vi (Al := [.int x1, .int x2]) (rest := []) 6 rfl cw_X9_297 cx_10 dX9_aboutAnew_3 m4 hk_t rfl (by decide) rfl (Nat.le_of_ble_eq_true rfl) ?_
  have hk_t := k_G m4.1.1 (by decide) hk_t
  have hT := m4.1.1.2.2.2
  obtain ⟨rfl, rfl⟩ := Prod.mk.inj (Option.some.inj h)
  exact yr_i hT trivial rfl dX9_aboutAnew_6
set_option maxRecDepth 100000 in
set_option maxHeartbeats 4000000 in
theorem ct_X9_parent (l : Launch) {g : gx_T} {σ : sx_T} {u : sx_T} {r : Int32}  {t : Nat} {x1 : Int32} (h : f_X9_parent σ t x1 = some (r, u)) (hT : TS g σ) (hk_t : sx_K σ t = 11) : CT l g yX9_parent cX9_parent 2 (some .int) 2 43 [.ref t, .int x1] (True) u σ (Qxi g r u) := by
  refine yc_met (by decide) (Nat.le_of_ble_eq_true rfl) ?_
  refine yc_lv (show lv_args 0 [.ref t, .int x1] = [(0, .ref t), (1, .int x1)] from rfl) ?_
  show ZY l g _ _ _ _ _ _ _ _ _ _ _ _ _ _ σ 0 [(0, .ref t), (1, .int x1)] []
  unfold f_X9_parent at h
  refine ym 1 (fun B k => z_aload_n B dX9_parent_0 rfl 0 rfl k) ?_
  refine ym 2 (fun B k => z_aload_n B dX9_parent_1 rfl 0 rfl k) ?_
  refine ym 3 (fun B k => z_iload_n B dX9_parent_2 rfl 1 rfl k) ?_
  replace h := br_e h
  obtain ⟨r2, h1, h⟩ := h
  have m3 := ct_X9_isWorkflow l (g := g) h1 hT hk_t
  refine yc_Vi (Al := [.int x1]) (rest := [.ref t]) 6 rfl cw_X9_262 cx_10 dX9_parent_3 m3 hk_t rfl (by decide) rfl (Nat.le_of_ble_eq_true rfl) ?_
  have hz_r2 := m3.1.2
  replace h := bd_e h
  obtain ⟨r5, u6, h4, h⟩ := h
  have m7 := ct_X9_needs l (g := g) h4 hT hk_t hz_r2
  refine yc_Vi (Al := [.int r2]) (rest := []) 9 rfl cw_X9_269 cx_10 dX9_parent_6 m7 hk_t rfl (by decide) rfl (Nat.le_of_ble_eq_true rfl) ?_
  have hk_t := k_G m7.1.1 (by decide) hk_t
  have hT := m7.1.1.2.2.2
  have hz_r5 := m7.1.2
  by_cases c8 : r5 = 0
  · replace h := ite_p c8 h
    refine ym 21 (fun B k => z_if_eq (tgt := 21) B dX9_parent_9 (by decide) (fun _ => k) (fun q => absurd c8 q)) ?_
    refine ym 22 (fun B k => z_iconst (v := 0) B dX9_parent_21 (by decide) k) ?_
    obtain ⟨rfl, rfl⟩ := Prod.mk.inj (Option.some.inj h)
    exact yr_i hT trivial rfl dX9_parent_22
  · replace h := ite_n c8 h
    refine ym 12 (fun B k => z_if_eq (tgt := 21) B dX9_parent_9 (by decide) (fun q => absurd q c8) (fun _ => k)) ?_
    refine ym 13 (fun B k => z_aload_n B dX9_parent_12 rfl 0 rfl k) ?_
    replace h := qv_e h
    obtain ⟨w9, e_w9, h⟩ := h
    have hq_w9 : rk u6 w9 13 := rk_T hT hk_t rfl (by decide) e_w9
    refine ym 16 (fun B k => gf_X9_26 (x := w9) B hk_t e_w9 dX9_parent_13 k) ?_
    refine ym 17 (fun B k => z_iload_n B dX9_parent_16 rfl 1 rfl k) ?_
    replace h := bq_e h
    obtain ⟨a10, rfl, h⟩ := h
    have hk_a10 := hq_w9 a10 rfl
    replace h := ck_e h
    obtain ⟨hi_11, h⟩ := h
    refine ym 18 (fun B k => z_iald (j := (ti x1)) (x := (sx_I u6 a10 (ti x1))) B hk_a10 rfl hi_11 rfl dX9_parent_17 k) ?_
    refine ym 22 (fun B k => z_goto (tgt := 22) B dX9_parent_18 (by decide) k) ?_
    obtain ⟨rfl, rfl⟩ := Prod.mk.inj (Option.some.inj h)
    exact yr_i hT trivial rfl dX9_parent_22
set_option maxRecDepth 100000 in
set_option maxHeartbeats 4000000 in
theorem ct_X9_events (l : Launch) {g : gx_T} {σ : sx_T} {u : sx_T} {r : Int32}  {t : Nat} {x1 : Int32} (h : f_X9_events σ t x1 = some (r, u)) (hT : TS g σ) (hk_t : sx_K σ t = 11) : CT l g yX9_events cX9_events 2 (some .int) 2 43 [.ref t, .int x1] (True) u σ (Qxi g r u) := by
  refine yc_met (by decide) (Nat.le_of_ble_eq_true rfl) ?_
  refine yc_lv (show lv_args 0 [.ref t, .int x1] = [(0, .ref t), (1, .int x1)] from rfl) ?_
  show ZY l g _ _ _ _ _ _ _ _ _ _ _ _ _ _ σ 0 [(0, .ref t), (1, .int x1)] []
  unfold f_X9_events at h
  refine ym 1 (fun B k => z_aload_n B dX9_events_0 rfl 0 rfl k) ?_
  refine ym 2 (fun B k => z_aload_n B dX9_events_1 rfl 0 rfl k) ?_
  refine ym 3 (fun B k => z_iload_n B dX9_events_2 rfl 1 rfl k) ?_
  replace h := br_e h
  obtain ⟨r2, h1, h⟩ := h
  have m3 := ct_X9_isWorkflow l (g := g) h1 hT hk_t
  refine yc_Vi (Al := [.int x1]) (rest := [.ref t]) 6 rfl cw_X9_262 cx_10 dX9_events_3 m3 hk_t rfl (by decide) rfl (Nat.le_of_ble_eq_true rfl) ?_
  have hz_r2 := m3.1.2
  replace h := bd_e h
  obtain ⟨r5, u6, h4, h⟩ := h
  have m7 := ct_X9_needs l (g := g) h4 hT hk_t hz_r2
  refine yc_Vi (Al := [.int r2]) (rest := []) 9 rfl cw_X9_269 cx_10 dX9_events_6 m7 hk_t rfl (by decide) rfl (Nat.le_of_ble_eq_true rfl) ?_
  have hk_t := k_G m7.1.1 (by decide) hk_t
  have hT := m7.1.1.2.2.2
  have hz_r5 := m7.1.2
  by_cases c8 : r5 = 0
  · replace h := ite_p c8 h
    refine ym 21 (fun B k => z_if_eq (tgt := 21) B dX9_events_9 (by decide) (fun _ => k) (fun q => absurd c8 q)) ?_
    refine ym 22 (fun B k => z_iconst (v := 0) B dX9_events_21 (by decide) k) ?_
    obtain ⟨rfl, rfl⟩ := Prod.mk.inj (Option.some.inj h)
    exact yr_i hT trivial rfl dX9_events_22
  · replace h := ite_n c8 h
    refine ym 12 (fun B k => z_if_eq (tgt := 21) B dX9_events_9 (by decide) (fun q => absurd q c8) (fun _ => k)) ?_
    refine ym 13 (fun B k => z_aload_n B dX9_events_12 rfl 0 rfl k) ?_
    replace h := qv_e h
    obtain ⟨w9, e_w9, h⟩ := h
    have hq_w9 : rk u6 w9 13 := rk_T hT hk_t rfl (by decide) e_w9
    refine ym 16 (fun B k => gf_X9_35 (x := w9) B hk_t e_w9 dX9_events_13 k) ?_
    refine ym 17 (fun B k => z_iload_n B dX9_events_16 rfl 1 rfl k) ?_
    replace h := bq_e h
    obtain ⟨a10, rfl, h⟩ := h
    have hk_a10 := hq_w9 a10 rfl
    replace h := ck_e h
    obtain ⟨hi_11, h⟩ := h
    refine ym 18 (fun B k => z_iald (j := (ti x1)) (x := (sx_I u6 a10 (ti x1))) B hk_a10 rfl hi_11 rfl dX9_events_17 k) ?_
    refine ym 22 (fun B k => z_goto (tgt := 22) B dX9_events_18 (by decide) k) ?_
    obtain ⟨rfl, rfl⟩ := Prod.mk.inj (Option.some.inj h)
    exact yr_i hT trivial rfl dX9_events_22
