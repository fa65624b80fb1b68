set_option maxRecDepth 100000 in
set_option maxHeartbeats 4000000 in
theorem tb_X9_rests_102 {l : Launch} {g : gx_T} {σ : sx_T} {u : sx_T} {As : Array Value} {n0 : Nat} {t : Nat} {x1 : Int32} (h : fb_X9_rests_102 n0 σ t x1 = some u) (hT : TS g σ) (hk_t : sx_K σ t = 11) : ZY l g cX9_rests RX9 "rests" none 6 5 133 0 0 false As (QM g As (Qxv g u)) (True) u σ 102 [(0, .ref t), (1, .int x1)] [] := by
  unfold fb_X9_rests_102 at h
  refine ym 103 (fun B k => z_aload_n B dX9_rests_102 rfl 0 rfl k) ?_
  refine ym 106 (fun B k => gf_X9_134 (x := (sx_I σ t 37)) B hk_t rfl dX9_rests_103 k) ?_
  by_cases c1 : (sx_I σ t 37) ≤ 0
  · replace h := ite_p c1 h
    refine ym 240 (fun B k => z_if_le (tgt := 240) B dX9_rests_106 (by decide) (fun _ => k) (fun q => absurd c1 q)) ?_
    obtain rfl := Option.some.inj h
    exact yr_v hT trivial rfl dX9_rests_240
  · replace h := ite_n c1 h
    refine ym 109 (fun B k => z_if_le (tgt := 240) B dX9_rests_106 (by decide) (fun q => absurd q c1) (fun _ => k)) ?_
    refine ym 110 (fun B k => z_aload_n B dX9_rests_109 rfl 0 rfl k) ?_
    replace h := qv_e h
    obtain ⟨w2, e_w2, h⟩ := h
    have hq_w2 : rk σ w2 13 := rk_T hT hk_t rfl (by decide) e_w2
    refine ym 113 (fun B k => gf_X9_32 (x := w2) B hk_t e_w2 dX9_rests_110 k) ?_
    refine ym 114 (fun B k => z_iload_n B dX9_rests_113 rfl 1 rfl k) ?_
    refine ym 115 (fun B k => z_aload_n B dX9_rests_114 rfl 0 rfl k) ?_
    refine ym 118 (fun B k => gf_X9_134 (x := (sx_I σ t 37)) B hk_t rfl dX9_rests_115 k) ?_
    replace h := bq_e h
    obtain ⟨a3, rfl, h⟩ := h
    have hk_a3 := hq_w2 a3 rfl
    replace h := ck_e h
    obtain ⟨hi_4, h⟩ := h
    have j5 := hk_a3
    refine ymw (σ' := (wx_I σ a3 (ti x1) (sx_I σ t 37))) 119 e_I (fun B _ k => z_iast (j := (ti x1)) B hk_a3 rfl hi_4 rfl dX9_rests_118 k) ?_
    have hT := TS_I (k := (ti x1)) (x := (sx_I σ t 37)) hT hk_a3 (Or.inl rfl)
    have hk_t := kk_I (σ := σ) (a := a3) (k := (ti x1)) (x := (sx_I σ t 37)) hk_t
    refine ym 122 (fun B k => z_ldc2 (v := 10) B dX9_rests_119 wg_1247 k) ?_
    refine ym 123 (fun B k => z_aload_n B dX9_rests_122 rfl 0 rfl k) ?_
    refine ym 126 (fun B k => gf_X9_113 (x := (sx_I σ t 29)) B hk_t (rI_k (by decide) j5 (kd_I hk_t) rfl) dX9_rests_123 k) ?_
    refine ym 127 (fun B k => z_i2l (v := (sx_I σ t 29).toInt64) B dX9_rests_126 rfl k) ?_
    refine ym 128 (fun B k => z_lmul B dX9_rests_127 k) ?_
    refine ym 129 (fun B k => z_aload_n B dX9_rests_128 rfl 0 rfl k) ?_
    refine ym 132 (fun B k => gf_X9_134 (x := (sx_I σ t 37)) B hk_t (rI_k (by decide) j5 (kd_I hk_t) rfl) dX9_rests_129 k) ?_
    refine ym 133 (fun B k => z_i2l (v := (sx_I σ t 37).toInt64) B dX9_rests_132 rfl k) ?_
    refine ym 134 (fun B k => z_ladd B dX9_rests_133 k) ?_
    refine ym 135 (fun B k => z_lstore_n (lv' := [(3, .long ((10 * ((sx_I σ t 29).toInt64)) + ((sx_I σ t 37).toInt64))), (0, .ref t), (1, .int x1)]) B dX9_rests_134 rfl (by decide) rfl k) ?_
    refine ym 136 (fun B k => z_aload_n B dX9_rests_135 rfl 1 rfl k) ?_
    replace h := qv_e h
    obtain ⟨w6, e_w6, h⟩ := h
    have hq_w6 : rk (wx_I σ a3 (ti x1) (sx_I σ t 37)) w6 13 := rk_T hT hk_t rfl (by decide) ((rR_I rfl).trans e_w6)
    refine ym 139 (fun B k => gf_X9_26 (x := w6) B hk_t ((rR_I rfl).trans e_w6) dX9_rests_136 k) ?_
    refine ym 140 (fun B k => z_iload_n B dX9_rests_139 rfl 2 rfl k) ?_
    replace h := bq_e h
    obtain ⟨a7, rfl, h⟩ := h
    have hk_a7 := hq_w6 a7 rfl
    replace h := ck_e h
    obtain ⟨hi_8, h⟩ := h
    refine ym 141 (fun B k => z_iald (j := (ti x1)) (x := (sx_I (wx_I σ a3 (ti x1) (sx_I σ t 37)) a7 (ti x1))) B hk_a7 rfl hi_8 rfl dX9_rests_140 k) ?_
    refine ym 143 (fun B k => z_istore (lv' := [(5, .int (sx_I (wx_I σ a3 (ti x1) (sx_I σ t 37)) a7 (ti x1))), (3, .long ((10 * ((sx_I σ t 29).toInt64)) + ((sx_I σ t 37).toInt64))), (0, .ref t), (1, .int x1)]) B dX9_rests_141 (by decide) rfl k) ?_
    refine ym 144 (fun B k => z_aload_n B dX9_rests_143 rfl 2 rfl k) ?_
    refine ym 147 (fun B k => gf_X9_134 (x := (sx_I σ t 37)) B hk_t (rI_k (by decide) j5 (kd_I hk_t) rfl) dX9_rests_144 k) ?_
    refine ym 148 (fun B k => z_iconst (v := 4) B dX9_rests_147 (by decide) k) ?_
    by_cases c9 : (sx_I σ t 37) = 4
    · replace h := ite_p c9 h
      refine ym 240 (fun B k => z_icmp_eq (tgt := 240) B dX9_rests_148 (by decide) (fun _ => k) (fun q => absurd c9 q)) ?_
      obtain rfl := Option.some.inj h
      exact yr_v hT trivial rfl dX9_rests_240
    · replace h := ite_n c9 h
      refine ym 151 (fun B k => z_icmp_eq (tgt := 240) B dX9_rests_148 (by decide) (fun q => absurd q c9) (fun _ => k)) ?_
      refine ym 153 (fun B k => z_iload B dX9_rests_151 0 rfl k) ?_
      refine ym 154 (fun B k => z_iconst (v := (-1)) B dX9_rests_153 (by decide) k) ?_
      by_cases c10 : (sx_I (wx_I σ a3 (ti x1) (sx_I σ t 37)) a7 (ti x1)) = (-1)
      · replace h := ite_p c10 h
        refine ym 240 (fun B k => z_icmp_eq (tgt := 240) B dX9_rests_154 (by decide) (fun _ => k) (fun q => absurd c10 q)) ?_
        obtain rfl := Option.some.inj h
        exact yr_v hT trivial rfl dX9_rests_240
      · replace h := ite_n c10 h
        refine ym 157 (fun B k => z_icmp_eq (tgt := 240) B dX9_rests_154 (by decide) (fun q => absurd q c10) (fun _ => k)) ?_
        refine ym 158 (fun B k => z_aload_n B dX9_rests_157 rfl 2 rfl k) ?_
        replace h := qv_e h
        obtain ⟨w11, e_w11, h⟩ := h
        have hq_w11 : rk (wx_I σ a3 (ti x1) (sx_I σ t 37)) w11 13 := rk_T hT hk_t rfl (by decide) ((rR_I rfl).trans e_w11)
        refine ym 161 (fun B k => gf_X9_32 (x := w11) B hk_t ((rR_I rfl).trans e_w11) dX9_rests_158 k) ?_
        refine ym 163 (fun B k => z_iload B dX9_rests_161 0 rfl k) ?_
        replace h := bq_e h
        obtain ⟨a12, rfl, h⟩ := h
        have hk_a12 := hq_w11 a12 rfl
        replace h := ck_e h
        obtain ⟨hi_13, h⟩ := h
        refine ym 164 (fun B k => z_iald (j := (ti (sx_I (wx_I σ a3 (ti x1) (sx_I σ t 37)) a7 (ti x1)))) (x := (sx_I (wx_I σ a3 (ti x1) (sx_I σ t 37)) a12 (ti (sx_I (wx_I σ a3 (ti x1) (sx_I σ t 37)) a7 (ti x1))))) B hk_a12 rfl hi_13 rfl dX9_rests_163 k) ?_
        by_cases c14 : (sx_I (wx_I σ a3 (ti x1) (sx_I σ t 37)) a12 (ti (sx_I (wx_I σ a3 (ti x1) (sx_I σ t 37)) a7 (ti x1)))) = 0
        · replace h := ite_p c14 h
          refine ym 167 (fun B k => z_if_ne (tgt := 240) B dX9_rests_164 (by decide) (fun q => absurd c14 q) (fun _ => k)) ?_
          refine ym 168 (fun B k => z_aload_n B dX9_rests_167 rfl 2 rfl k) ?_
          refine ym 170 (fun B k => z_iload B dX9_rests_168 0 rfl k) ?_
          refine ym 171 (fun B k => z_aload_n B dX9_rests_170 rfl 2 rfl k) ?_
          replace h := qv_e h
          obtain ⟨w15, e_w15, h⟩ := h
          have hq_w15 : rk (wx_I σ a3 (ti x1) (sx_I σ t 37)) w15 13 := rk_T hT hk_t rfl (by decide) ((rR_I rfl).trans e_w15)
          refine ym 174 (fun B k => gf_X9_35 (x := w15) B hk_t ((rR_I rfl).trans e_w15) dX9_rests_171 k) ?_
          refine ym 176 (fun B k => z_iload B dX9_rests_174 0 rfl k) ?_
          replace h := bq_e h
          obtain ⟨a16, rfl, h⟩ := h
          have hk_a16 := hq_w15 a16 rfl
          replace h := ck_e h
          obtain ⟨hi_17, h⟩ := h
          refine ym 177 (fun B k => z_iald (j := (ti (sx_I (wx_I σ a3 (ti x1) (sx_I σ t 37)) a7 (ti x1)))) (x := (sx_I (wx_I σ a3 (ti x1) (sx_I σ t 37)) a16 (ti (sx_I (wx_I σ a3 (ti x1) (sx_I σ t 37)) a7 (ti x1))))) B hk_a16 rfl hi_17 rfl dX9_rests_176 k) ?_
          refine ym 178 (fun B k => z_iconst (v := 0) B dX9_rests_177 (by decide) k) ?_
          replace h := bd_e h
          obtain ⟨r19, u20, h18, h⟩ := h
          have m21 := ct_X9_replays l (g := g) h18 hT hk_t (Or.inl rfl)
          refine yc_Vi (Al := [.int (sx_I (wx_I σ a3 (ti x1) (sx_I σ t 37)) a7 (ti x1)), .int (sx_I (wx_I σ a3 (ti x1) (sx_I σ t 37)) a16 (ti (sx_I (wx_I σ a3 (ti x1) (sx_I σ t 37)) a7 (ti x1)))), .int 0]) (rest := []) 181 rfl cw_X9_216 cx_10 dX9_rests_178 m21 hk_t rfl (by decide) rfl (Nat.le_of_ble_eq_true rfl) ?_
          have hk_t := k_G m21.1.1 (by decide) hk_t
          have hT := m21.1.1.2.2.2
          refine ym 182 (fun B k => z_pop B dX9_rests_181 rfl k) ?_
          refine ym 183 (fun B k => z_aload_n B dX9_rests_182 rfl 2 rfl k) ?_
          refine ym 186 (fun B k => gf_X9_103 (x := (sx_I u20 t 26)) B hk_t rfl dX9_rests_183 k) ?_
          by_cases c22 : (sx_I u20 t 26) = 0
          · replace h := ite_p c22 h
            refine ym 240 (fun B k => z_if_eq (tgt := 240) B dX9_rests_186 (by decide) (fun _ => k) (fun q => absurd c22 q)) ?_
            obtain rfl := Option.some.inj h
            exact yr_v hT trivial rfl dX9_rests_240
          · replace h := ite_n c22 h
            refine ym 189 (fun B k => z_if_eq (tgt := 240) B dX9_rests_186 (by decide) (fun q => absurd q c22) (fun _ => k)) ?_
            refine ym 190 (fun B k => z_aload_n B dX9_rests_189 rfl 2 rfl k) ?_
            refine ym 193 (fun B k => gf_X9_116 (x := (sx_I u20 t 30)) B hk_t rfl dX9_rests_190 k) ?_
            refine ym 194 (fun B k => z_iconst (v := 5) B dX9_rests_193 (by decide) k) ?_
            by_cases c23 : (sx_I u20 t 30) = 5
            · replace h := ite_p c23 h
              refine ym 197 (fun B k => z_icmp_ne (tgt := 240) B dX9_rests_194 (by decide) (fun q => absurd c23 q) (fun _ => k)) ?_
              refine ym 198 (fun B k => z_aload_n B dX9_rests_197 rfl 2 rfl k) ?_
              refine ym 201 (fun B k => gf_X9_119 (x := (sx_I u20 t 31)) B hk_t rfl dX9_rests_198 k) ?_
              refine ym 202 (fun B k => z_aload_n B dX9_rests_201 rfl 2 rfl k) ?_
              replace h := qv_e h
              obtain ⟨w24, e_w24, h⟩ := h
              have hq_w24 : rk u20 w24 13 := rk_T hT hk_t rfl (by decide) e_w24
              refine ym 205 (fun B k => gf_X9_29 (x := w24) B hk_t e_w24 dX9_rests_202 k) ?_
              refine ym 206 (fun B k => z_iload_n B dX9_rests_205 rfl 3 rfl k) ?_
              replace h := bq_e h
              obtain ⟨a25, rfl, h⟩ := h
              have hk_a25 := hq_w24 a25 rfl
              replace h := ck_e h
              obtain ⟨hi_26, h⟩ := h
              refine ym 207 (fun B k => z_iald (j := (ti x1)) (x := (sx_I u20 a25 (ti x1))) B hk_a25 rfl hi_26 rfl dX9_rests_206 k) ?_
              by_cases c27 : (sx_I u20 t 31) = (sx_I u20 a25 (ti x1))
              · replace h := ite_p c27 h
                refine ym 210 (fun B k => z_icmp_ne (tgt := 240) B dX9_rests_207 (by decide) (fun q => absurd c27 q) (fun _ => k)) ?_
                refine ym 211 (fun B k => z_aload_n B dX9_rests_210 rfl 2 rfl k) ?_
                refine ym 213 (fun B k => z_iload B dX9_rests_211 0 rfl k) ?_
                refine ym 215 (fun B k => z_bipush (v := 8) B dX9_rests_213 (by decide) k) ?_
                refine ym 216 (fun B k => z_lload_n B dX9_rests_215 rfl 1 rfl k) ?_
                replace h := br_e h
                obtain ⟨u29, h28, h⟩ := h
                have m30 := ct_X9_adds l (g := g) h28 hT hk_t
                refine yc_Vv (Al := [.int (sx_I (wx_I σ a3 (ti x1) (sx_I σ t 37)) a7 (ti x1)), .int 8, .long ((10 * ((sx_I σ t 29).toInt64)) + ((sx_I σ t 37).toInt64))]) (rest := []) 219 rfl cw_X9_143 cx_10 dX9_rests_216 m30 hk_t rfl (by decide) rfl (Nat.le_of_ble_eq_true rfl) ?_
                have hk_t := k_G m30.1.1 (by decide) hk_t
                have hT := m30.1.1.2.2.2
                refine ym 220 (fun B k => z_aload_n B dX9_rests_219 rfl 2 rfl k) ?_
                replace h := qv_e h
                obtain ⟨w31, e_w31, h⟩ := h
                have hq_w31 : rk u29 w31 13 := rk_T hT hk_t rfl (by decide) e_w31
                refine ym 223 (fun B k => gf_X9_84 (x := w31) B hk_t e_w31 dX9_rests_220 k) ?_
                refine ym 224 (fun B k => z_aload_n B dX9_rests_223 rfl 2 rfl k) ?_
                refine ym 227 (fun B k => gf_X9_226 (x := (sx_I u29 t 43)) B hk_t rfl dX9_rests_224 k) ?_
                refine ym 229 (fun B k => z_iload B dX9_rests_227 0 rfl k) ?_
                replace h := bq_e h
                obtain ⟨a32, rfl, h⟩ := h
                have hk_a32 := hq_w31 a32 rfl
                replace h := ck_e h
                obtain ⟨hi_33, h⟩ := h
                have j34 := hk_a32
                refine ymw (σ' := (wx_I u29 a32 (ti (sx_I u29 t 43)) (sx_I (wx_I σ a3 (ti x1) (sx_I σ t 37)) a7 (ti x1)))) 230 e_I (fun B _ k => z_iast (j := (ti (sx_I u29 t 43))) B hk_a32 rfl hi_33 rfl dX9_rests_229 k) ?_
                have hT := TS_I (k := (ti (sx_I u29 t 43))) (x := (sx_I (wx_I σ a3 (ti x1) (sx_I σ t 37)) a7 (ti x1))) hT hk_a32 (Or.inl rfl)
                have hk_t := kk_I (σ := u29) (a := a32) (k := (ti (sx_I u29 t 43))) (x := (sx_I (wx_I σ a3 (ti x1) (sx_I σ t 37)) a7 (ti x1))) hk_t
                refine ym 231 (fun B k => z_aload_n B dX9_rests_230 rfl 2 rfl k) ?_
                refine ym 232 (fun B k => z_dup B dX9_rests_231 rfl k) ?_
                refine ym 235 (fun B k => gf_X9_226 (x := (sx_I u29 t 43)) B hk_t (rI_k (by decide) j34 (kd_I hk_t) rfl) dX9_rests_232 k) ?_
                refine ym 236 (fun B k => z_iconst (v := 1) B dX9_rests_235 (by decide) k) ?_
                refine ym 237 (fun B k => z_iadd B dX9_rests_236 k) ?_
                have j35 := hk_t
                refine ymw (σ' := (wx_I (wx_I u29 a32 (ti (sx_I u29 t 43)) (sx_I (wx_I σ a3 (ti x1) (sx_I σ t 37)) a7 (ti x1))) t 43 ((sx_I u29 t 43) + 1))) 240 e_I (fun B hin k => pf_X9_226 (x := ((sx_I u29 t 43) + 1)) B hk_t rfl dX9_rests_237 k) ?_
                have hT := TS_I (k := 43) (x := ((sx_I u29 t 43) + 1)) hT hk_t (Or.inl rfl)
                have hk_t := kk_I (σ := (wx_I u29 a32 (ti (sx_I u29 t 43)) (sx_I (wx_I σ a3 (ti x1) (sx_I σ t 37)) a7 (ti x1)))) (a := t) (k := 43) (x := ((sx_I u29 t 43) + 1)) hk_t
                obtain rfl := Option.some.inj h
                exact yr_v hT trivial rfl dX9_rests_240
              · replace h := ite_n c27 h
                refine ym 240 (fun B k => z_icmp_ne (tgt := 240) B dX9_rests_207 (by decide) (fun _ => k) (fun q => absurd q c27)) ?_
                obtain rfl := Option.some.inj h
                exact yr_v hT trivial rfl dX9_rests_240
            · replace h := ite_n c23 h
              refine ym 240 (fun B k => z_icmp_ne (tgt := 240) B dX9_rests_194 (by decide) (fun _ => k) (fun q => absurd q c23)) ?_
              obtain rfl := Option.some.inj h
              exact yr_v hT trivial rfl dX9_rests_240
        · replace h := ite_n c14 h
          refine ym 240 (fun B k => z_if_ne (tgt := 240) B dX9_rests_164 (by decide) (fun _ => k) (fun q => absurd q c14)) ?_
          obtain rfl := Option.some.inj h
          exact yr_v hT trivial rfl dX9_rests_240
set_option maxRecDepth 100000 in
set_option maxHeartbeats 4000000 in
theorem tb_X9_rests_67 {l : Launch} {g : gx_T} {σ : sx_T} {u : sx_T} {As : Array Value} {n0 : Nat} {kl25 : sx_T → Nat → Int32 → Int32 → Int32 → Option sx_T} (hkl25 : ∀ (σ : sx_T) (t : Nat) (x1 : Int32) (x2 : Int32) (x3 : Int32), kl25 σ t x1 x2 x3 = some u → TS g σ → sx_K σ t = 11 → x2 = 0 ∨ x2 = 1 → ZY l g cX9_rests RX9 "rests" none 6 5 133 0 0 false As (QM g As (Qxv g u)) (True) u σ 25 [(0, .ref t), (1, .int x1), (2, .int x2), (3, .int x3)] []) {t : Nat} {x1 : Int32} {x2 : Int32} {x3 : Int32} (h : fb_X9_rests_67 n0 kl25 σ t x1 x2 x3 = some u) (hT : TS g σ) (hk_t : sx_K σ t = 11) (hz_x2 : x2 = 0 ∨ x2 = 1) : ZY l g cX9_rests RX9 "rests" none 6 5 133 0 0 false As (QM g As (Qxv g u)) (True) u σ 67 [(0, .ref t), (1, .int x1), (2, .int x2), (3, .int x3)] [] := by
  unfold fb_X9_rests_67 at h
  refine ym 68 (fun B k => z_aload_n B dX9_rests_67 rfl 0 rfl k) ?_
  refine ym 69 (fun B k => z_iload_n B dX9_rests_68 rfl 3 rfl k) ?_
  replace h := br_e h
  obtain ⟨u2, h1, h⟩ := h
  have m3 := ct_X9_closes l (g := g) h1 hT hk_t
  refine yc_Vv (Al := [.int x3]) (rest := []) 72 rfl cw_X9_223 cx_10 dX9_rests_69 m3 hk_t rfl (by decide) rfl (Nat.le_of_ble_eq_true rfl) ?_
  have hk_t := k_G m3.1.1 (by decide) hk_t
  have hT := m3.1.1.2.2.2
  refine ym 75 (fun B k => z_iinc (v := x3 + 1) (lv' := [(3, .int (x3 + 1)), (0, .ref t), (1, .int x1), (2, .int x2)]) B dX9_rests_72 3 rfl rfl (by decide) rfl k) ?_
  refine ym 25 (fun B k => z_goto (tgt := 25) B dX9_rests_75 (by decide) k) ?_
  refine y_sub [(0, .ref t), (1, .int x1), (2, .int x2), (3, .int (x3 + 1))] [1, 2, 3, 0] rfl ?_
  exact hkl25 _ _ _ _ _ h hT hk_t hz_x2
set_option maxRecDepth 100000 in
set_option maxHeartbeats 4000000 in
theorem tl_X9_rests_25 {l : Launch} {g : gx_T} {u : sx_T} {As : Array Value} {n0 : Nat} : ∀ {n : Nat} {σ : sx_T} {t : Nat} {x1 : Int32} {x2 : Int32} {x3 : Int32}, fl_X9_rests_25 n0 n σ t x1 x2 x3 = some u → TS g σ → sx_K σ t = 11 → x2 = 0 ∨ x2 = 1 → ZY l g cX9_rests RX9 "rests" none 6 5 133 0 0 false As (QM g As (Qxv g u)) (True) u σ 25 [(0, .ref t), (1, .int x1), (2, .int x2), (3, .int x3)] [] := by
  intro n
  induction n with
  | zero =>
    intro σ t x1 x2 x3 h
    exact nomatch h
  | succ n ih_ =>
    have ih := @ih_
    intro σ t x1 x2 x3 h hT hk_t hz_x2
    unfold fl_X9_rests_25 at h
    refine ym 26 (fun B k => z_iload_n B dX9_rests_25 rfl 3 rfl k) ?_
    refine ym 27 (fun B k => z_aload_n B dX9_rests_26 rfl 0 rfl k) ?_
    refine ym 30 (fun B k => gf_X9_100 (x := (sx_I σ t 16)) B hk_t rfl dX9_rests_27 k) ?_
    by_cases c1 : (sx_I σ t 16) ≤ x3
    · replace h := ite_p c1 h
      refine ym 78 (fun B k => z_icmp_ge (tgt := 78) B dX9_rests_30 (by decide) (fun _ => k) (fun q => absurd c1 q)) ?_
      refine ym 79 (fun B k => z_iload_n B dX9_rests_78 rfl 2 rfl k) ?_
      by_cases c2 : x2 = 0
      · replace h := ite_p c2 h
        refine ym 102 (fun B k => z_if_eq (tgt := 102) B dX9_rests_79 (by decide) (fun _ => k) (fun q => absurd c2 q)) ?_
        refine y_sub [(0, .ref t), (1, .int x1)] [0, 1] rfl ?_
        exact tb_X9_rests_102 h hT hk_t
      · replace h := ite_n c2 h
        refine ym 82 (fun B k => z_if_eq (tgt := 102) B dX9_rests_79 (by decide) (fun q => absurd q c2) (fun _ => k)) ?_
        refine ym 83 (fun B k => z_aload_n B dX9_rests_82 rfl 0 rfl k) ?_
        replace h := qv_e h
        obtain ⟨w3, e_w3, h⟩ := h
        have hq_w3 : rk σ w3 13 := rk_T hT hk_t rfl (by decide) e_w3
        refine ym 86 (fun B k => gf_X9_41 (x := w3) B hk_t e_w3 dX9_rests_83 k) ?_
        refine ym 87 (fun B k => z_iload_n B dX9_rests_86 rfl 1 rfl k) ?_
        replace h := bq_e h
        obtain ⟨a4, rfl, h⟩ := h
        have hk_a4 := hq_w3 a4 rfl
        replace h := ck_e h
        obtain ⟨hi_5, h⟩ := h
        refine ym 88 (fun B k => z_iald (j := (ti x1)) (x := (sx_I σ a4 (ti x1))) B hk_a4 rfl hi_5 rfl dX9_rests_87 k) ?_
        refine ym 89 (fun B k => z_iconst (v := (-1)) B dX9_rests_88 (by decide) k) ?_
        by_cases c6 : (sx_I σ a4 (ti x1)) = (-1)
        · replace h := ite_p c6 h
          refine ym 92 (fun B k => z_icmp_ne (tgt := 102) B dX9_rests_89 (by decide) (fun q => absurd c6 q) (fun _ => k)) ?_
          refine ym 93 (fun B k => z_aload_n B dX9_rests_92 rfl 0 rfl k) ?_
          refine ym 94 (fun B k => z_iload_n B dX9_rests_93 rfl 1 rfl k) ?_
          refine ym 95 (fun B k => z_aload_n B dX9_rests_94 rfl 0 rfl k) ?_
          refine ym 98 (fun B k => gf_X9_119 (x := (sx_I σ t 31)) B hk_t rfl dX9_rests_95 k) ?_
          replace h := bd_e h
          obtain ⟨r8, u9, h7, h⟩ := h
          have m10 := ct_X9_makesTask l (g := g) h7 hT hk_t
          refine yc_Vi (Al := [.int x1, .int (sx_I σ t 31)]) (rest := []) 101 rfl cw_X9_189 cx_10 dX9_rests_98 m10 hk_t rfl (by decide) rfl (Nat.le_of_ble_eq_true rfl) ?_
          have hk_t := k_G m10.1.1 (by decide) hk_t
          have hT := m10.1.1.2.2.2
          refine ym 102 (fun B k => z_pop B dX9_rests_101 rfl k) ?_
          refine y_sub [(0, .ref t), (1, .int x1)] [0, 1] rfl ?_
          exact tb_X9_rests_102 h hT hk_t
        · replace h := ite_n c6 h
          refine ym 102 (fun B k => z_icmp_ne (tgt := 102) B dX9_rests_89 (by decide) (fun _ => k) (fun q => absurd q c6)) ?_
          refine y_sub [(0, .ref t), (1, .int x1)] [0, 1] rfl ?_
          exact tb_X9_rests_102 h hT hk_t
    · replace h := ite_n c1 h
      refine ym 33 (fun B k => z_icmp_ge (tgt := 78) B dX9_rests_30 (by decide) (fun q => absurd q c1) (fun _ => k)) ?_
      refine ym 34 (fun B k => z_aload_n B dX9_rests_33 rfl 0 rfl k) ?_
      replace h := qv_e h
      obtain ⟨w11, e_w11, h⟩ := h
      have hq_w11 : rk σ w11 13 := rk_T hT hk_t rfl (by decide) e_w11
      refine ym 37 (fun B k => gf_X9_51 (x := w11) B hk_t e_w11 dX9_rests_34 k) ?_
      refine ym 38 (fun B k => z_iload_n B dX9_rests_37 rfl 3 rfl k) ?_
      replace h := bq_e h
      obtain ⟨a12, rfl, h⟩ := h
      have hk_a12 := hq_w11 a12 rfl
      replace h := ck_e h
      obtain ⟨hi_13, h⟩ := h
      refine ym 39 (fun B k => z_iald (j := (ti x3)) (x := (sx_I σ a12 (ti x3))) B hk_a12 rfl hi_13 rfl dX9_rests_38 k) ?_
      refine ym 40 (fun B k => z_iload_n B dX9_rests_39 rfl 1 rfl k) ?_
      by_cases c14 : (sx_I σ a12 (ti x3)) = x1
      · replace h := ite_p c14 h
        refine ym 43 (fun B k => z_icmp_ne (tgt := 72) B dX9_rests_40 (by decide) (fun q => absurd c14 q) (fun _ => k)) ?_
        refine ym 44 (fun B k => z_aload_n B dX9_rests_43 rfl 0 rfl k) ?_
        replace h := qv_e h
        obtain ⟨w15, e_w15, h⟩ := h
        have hq_w15 : rk σ w15 13 := rk_T hT hk_t rfl (by decide) e_w15
        refine ym 47 (fun B k => gf_X9_57 (x := w15) B hk_t e_w15 dX9_rests_44 k) ?_
        refine ym 48 (fun B k => z_iload_n B dX9_rests_47 rfl 3 rfl k) ?_
        replace h := bq_e h
        obtain ⟨a16, rfl, h⟩ := h
        have hk_a16 := hq_w15 a16 rfl
        replace h := ck_e h
        obtain ⟨hi_17, h⟩ := h
        refine ym 49 (fun B k => z_iald (j := (ti x3)) (x := (sx_I σ a16 (ti x3))) B hk_a16 rfl hi_17 rfl dX9_rests_48 k) ?_
        refine ym 50 (fun B k => z_iconst (v := 3) B dX9_rests_49 (by decide) k) ?_
        by_cases c18 : (sx_I σ a16 (ti x3)) = 3
        · replace h := ite_p c18 h
          refine ym 72 (fun B k => z_icmp_eq (tgt := 72) B dX9_rests_50 (by decide) (fun _ => k) (fun q => absurd c18 q)) ?_
          refine ym 75 (fun B k => z_iinc (v := x3 + 1) (lv' := [(3, .int (x3 + 1)), (0, .ref t), (1, .int x1), (2, .int x2)]) B dX9_rests_72 3 rfl rfl (by decide) rfl k) ?_
          refine ym 25 (fun B k => z_goto (tgt := 25) B dX9_rests_75 (by decide) k) ?_
          refine y_sub [(0, .ref t), (1, .int x1), (2, .int x2), (3, .int (x3 + 1))] [1, 2, 3, 0] rfl ?_
          exact ih h hT hk_t hz_x2
        · replace h := ite_n c18 h
          refine ym 53 (fun B k => z_icmp_eq (tgt := 72) B dX9_rests_50 (by decide) (fun q => absurd q c18) (fun _ => k)) ?_
          refine ym 54 (fun B k => z_iload_n B dX9_rests_53 rfl 2 rfl k) ?_
          by_cases c19 : x2 = 0
          · replace h := ite_p c19 h
            refine ym 67 (fun B k => z_if_eq (tgt := 67) B dX9_rests_54 (by decide) (fun _ => k) (fun q => absurd c19 q)) ?_
            refine y_sub [(0, .ref t), (1, .int x1), (2, .int x2), (3, .int x3)] [0, 1, 2, 3] rfl ?_
            exact tb_X9_rests_67 (fun _ _ _ _ _ => ih) h hT hk_t hz_x2
          · replace h := ite_n c19 h
            refine ym 57 (fun B k => z_if_eq (tgt := 67) B dX9_rests_54 (by decide) (fun q => absurd q c19) (fun _ => k)) ?_
            refine ym 58 (fun B k => z_iload_n B dX9_rests_57 rfl 3 rfl k) ?_
            refine ym 59 (fun B k => z_aload_n B dX9_rests_58 rfl 0 rfl k) ?_
            replace h := qv_e h
            obtain ⟨w20, e_w20, h⟩ := h
            have hq_w20 : rk σ w20 13 := rk_T hT hk_t rfl (by decide) e_w20
            refine ym 62 (fun B k => gf_X9_41 (x := w20) B hk_t e_w20 dX9_rests_59 k) ?_
            refine ym 63 (fun B k => z_iload_n B dX9_rests_62 rfl 1 rfl k) ?_
            replace h := bq_e h
            obtain ⟨a21, rfl, h⟩ := h
            have hk_a21 := hq_w20 a21 rfl
            replace h := ck_e h
            obtain ⟨hi_22, h⟩ := h
            refine ym 64 (fun B k => z_iald (j := (ti x1)) (x := (sx_I σ a21 (ti x1))) B hk_a21 rfl hi_22 rfl dX9_rests_63 k) ?_
            by_cases c23 : x3 = (sx_I σ a21 (ti x1))
            · replace h := ite_p c23 h
              refine ym 72 (fun B k => z_icmp_eq (tgt := 72) B dX9_rests_64 (by decide) (fun _ => k) (fun q => absurd c23 q)) ?_
              refine ym 75 (fun B k => z_iinc (v := x3 + 1) (lv' := [(3, .int (x3 + 1)), (0, .ref t), (1, .int x1), (2, .int x2)]) B dX9_rests_72 3 rfl rfl (by decide) rfl k) ?_
              refine ym 25 (fun B k => z_goto (tgt := 25) B dX9_rests_75 (by decide) k) ?_
              refine y_sub [(0, .ref t), (1, .int x1), (2, .int x2), (3, .int (x3 + 1))] [1, 2, 3, 0] rfl ?_
              exact ih h hT hk_t hz_x2
            · replace h := ite_n c23 h
              refine ym 67 (fun B k => z_icmp_eq (tgt := 72) B dX9_rests_64 (by decide) (fun q => absurd q c23) (fun _ => k)) ?_
              refine y_sub [(0, .ref t), (1, .int x1), (2, .int x2), (3, .int x3)] [0, 1, 2, 3] rfl ?_
              exact tb_X9_rests_67 (fun _ _ _ _ _ => ih) h hT hk_t hz_x2
      · replace h := ite_n c14 h
        refine ym 72 (fun B k => z_icmp_ne (tgt := 72) B dX9_rests_40 (by decide) (fun _ => k) (fun q => absurd q c14)) ?_
        refine ym 75 (fun B k => z_iinc (v := x3 + 1) (lv' := [(3, .int (x3 + 1)), (0, .ref t), (1, .int x1), (2, .int x2)]) B dX9_rests_72 3 rfl rfl (by decide) rfl k) ?_
        refine ym 25 (fun B k => z_goto (tgt := 25) B dX9_rests_75 (by decide) k) ?_
        refine y_sub [(0, .ref t), (1, .int x1), (2, .int x2), (3, .int (x3 + 1))] [1, 2, 3, 0] rfl ?_
        exact ih h hT hk_t hz_x2
set_option maxRecDepth 100000 in
set_option maxHeartbeats 4000000 in
theorem ct_X9_rests (l : Launch) {g : gx_T} {σ : sx_T} {u : sx_T} {n0 : Nat} {t : Nat} {x1 : Int32} (h : f_X9_rests n0 σ t x1 = some u) (hT : TS g σ) (hk_t : sx_K σ t = 11) : CT l g yX9_rests cX9_rests 6 none 5 133 [.ref t, .int x1] (True) u σ (Qxv g u) := by
  refine yc_met (by decide) (Nat.le_of_ble_eq_true rfl) ?_
  refine yc_lv (show lv_args 0 [.ref t, .int x1] = [(0, .ref t), (1, .int x1)] from rfl) ?_
  show ZY l g _ _ _ _ _ _ _ _ _ _ _ _ _ _ σ 0 [(0, .ref t), (1, .int x1)] []
  unfold f_X9_rests at h
  refine ym 1 (fun B k => z_aload_n B dX9_rests_0 rfl 0 rfl k) ?_
  refine ym 4 (fun B k => gf_X9_116 (x := (sx_I σ t 30)) B hk_t rfl dX9_rests_1 k) ?_
  refine ym 5 (fun B k => z_iconst (v := 1) B dX9_rests_4 (by decide) k) ?_
  by_cases c1 : (sx_I σ t 30) = 1
  · replace h := ite_p c1 h
    refine ym 17 (fun B k => z_icmp_eq (tgt := 17) B dX9_rests_5 (by decide) (fun _ => k) (fun q => absurd c1 q)) ?_
    refine ym 18 (fun B k => z_iconst (v := 1) B dX9_rests_17 (by decide) k) ?_
    refine ym 22 (fun B k => z_goto (tgt := 22) B dX9_rests_18 (by decide) k) ?_
    refine ym 23 (fun B k => z_istore_n (lv' := [(2, .int 1), (0, .ref t), (1, .int x1)]) B dX9_rests_22 rfl (by decide) rfl k) ?_
    refine ym 24 (fun B k => z_iconst (v := 0) B dX9_rests_23 (by decide) k) ?_
    refine ym 25 (fun B k => z_istore_n (lv' := [(3, .int 0), (2, .int 1), (0, .ref t), (1, .int x1)]) B dX9_rests_24 rfl (by decide) rfl k) ?_
    refine y_sub [(0, .ref t), (1, .int x1), (2, .int 1), (3, .int 0)] [2, 3, 1, 0] rfl ?_
    exact tl_X9_rests_25 h hT hk_t (Or.inr rfl)
  · replace h := ite_n c1 h
    refine ym 8 (fun B k => z_icmp_eq (tgt := 17) B dX9_rests_5 (by decide) (fun q => absurd q c1) (fun _ => k)) ?_
    refine ym 9 (fun B k => z_aload_n B dX9_rests_8 rfl 0 rfl k) ?_
    refine ym 12 (fun B k => gf_X9_116 (x := (sx_I σ t 30)) B hk_t rfl dX9_rests_9 k) ?_
    refine ym 14 (fun B k => z_bipush (v := 6) B dX9_rests_12 (by decide) k) ?_
    by_cases c2 : (sx_I σ t 30) = 6
    · replace h := ite_p c2 h
      refine ym 17 (fun B k => z_icmp_ne (tgt := 21) B dX9_rests_14 (by decide) (fun q => absurd c2 q) (fun _ => k)) ?_
      refine ym 18 (fun B k => z_iconst (v := 1) B dX9_rests_17 (by decide) k) ?_
      refine ym 22 (fun B k => z_goto (tgt := 22) B dX9_rests_18 (by decide) k) ?_
      refine ym 23 (fun B k => z_istore_n (lv' := [(2, .int 1), (0, .ref t), (1, .int x1)]) B dX9_rests_22 rfl (by decide) rfl k) ?_
      refine ym 24 (fun B k => z_iconst (v := 0) B dX9_rests_23 (by decide) k) ?_
      refine ym 25 (fun B k => z_istore_n (lv' := [(3, .int 0), (2, .int 1), (0, .ref t), (1, .int x1)]) B dX9_rests_24 rfl (by decide) rfl k) ?_
      refine y_sub [(0, .ref t), (1, .int x1), (2, .int 1), (3, .int 0)] [2, 3, 1, 0] rfl ?_
      exact tl_X9_rests_25 h hT hk_t (Or.inr rfl)
    · replace h := ite_n c2 h
      refine ym 21 (fun B k => z_icmp_ne (tgt := 21) B dX9_rests_14 (by decide) (fun _ => k) (fun q => absurd q c2)) ?_
      refine ym 22 (fun B k => z_iconst (v := 0) B dX9_rests_21 (by decide) k) ?_
      refine ym 23 (fun B k => z_istore_n (lv' := [(2, .int 0), (0, .ref t), (1, .int x1)]) B dX9_rests_22 rfl (by decide) rfl k) ?_
      refine ym 24 (fun B k => z_iconst (v := 0) B dX9_rests_23 (by decide) k) ?_
      refine ym 25 (fun B k => z_istore_n (lv' := [(3, .int 0), (2, .int 0), (0, .ref t), (1, .int x1)]) B dX9_rests_24 rfl (by decide) rfl k) ?_
      refine y_sub [(0, .ref t), (1, .int x1), (2, .int 0), (3, .int 0)] [2, 3, 1, 0] rfl ?_
      exact tl_X9_rests_25 h hT hk_t (Or.inl rfl)
set_option maxRecDepth 100000 in
set_option maxHeartbeats 4000000 in
theorem tb_X9_goesOn_69 {l : Launch} {g : gx_T} {σ : sx_T} {u : sx_T} {As : Array Value} {n0 : Nat} {kl9 : sx_T → Nat → Int32 → Option sx_T} (hkl9 : ∀ (σ : sx_T) (t : Nat) (x2 : Int32), kl9 σ t x2 = some u → TS g σ → sx_K σ t = 11 → ZY l g cX9_goesOn RX9 "goesOn" none 5 6 158 0 0 false As (QM g As (Qxv g u)) (True) u σ 9 [(0, .ref t), (2, .int x2)] []) {t : Nat} {x2 : Int32} {x3 : Int32} (h : fb_X9_goesOn_69 n0 kl9 σ t x2 x3 = some u) (hT : TS g σ) (hk_t : sx_K σ t = 11) : ZY l g cX9_goesOn RX9 "goesOn" none 5 6 158 0 0 false As (QM g As (Qxv g u)) (True) u σ 69 [(0, .ref t), (2, .int x2), (3, .int x3)] [] := by
  unfold fb_X9_goesOn_69 at h
  refine ym 72 (fun B k => z_iinc (v := x2 + (-1)) (lv' := [(2, .int (x2 + (-1))), (0, .ref t), (3, .int x3)]) B dX9_goesOn_69 1 rfl rfl (by decide) rfl k) ?_
  refine ym 73 (fun B k => z_aload_n B dX9_goesOn_72 rfl 1 rfl k) ?_
  replace h := qv_e h
  obtain ⟨w1, e_w1, h⟩ := h
  have hq_w1 : rk σ w1 13 := rk_T hT hk_t rfl (by decide) e_w1
  refine ym 76 (fun B k => gf_X9_32 (x := w1) B hk_t e_w1 dX9_goesOn_73 k) ?_
  refine ym 77 (fun B k => z_iload_n B dX9_goesOn_76 rfl 2 rfl k) ?_
  replace h := bq_e h
  obtain ⟨a2, rfl, h⟩ := h
  have hk_a2 := hq_w1 a2 rfl
  replace h := ck_e h
  obtain ⟨hi_3, h⟩ := h
  refine ym 78 (fun B k => z_iald (j := (ti x3)) (x := (sx_I σ a2 (ti x3))) B hk_a2 rfl hi_3 rfl dX9_goesOn_77 k) ?_
  by_cases c4 : (sx_I σ a2 (ti x3)) = 0
  · replace h := ite_p c4 h
    refine ym 81 (fun B k => z_if_ne (tgt := 103) B dX9_goesOn_78 (by decide) (fun q => absurd c4 q) (fun _ => k)) ?_
    refine ym 82 (fun B k => z_aload_n B dX9_goesOn_81 rfl 1 rfl k) ?_
    refine ym 85 (fun B k => gf_X9_103 (x := (sx_I σ t 26)) B hk_t rfl dX9_goesOn_82 k) ?_
    by_cases c5 : (sx_I σ t 26) = 0
    · replace h := ite_p c5 h
      refine ym 103 (fun B k => z_if_eq (tgt := 103) B dX9_goesOn_85 (by decide) (fun _ => k) (fun q => absurd c5 q)) ?_
      refine ym 9 (fun B k => z_goto (tgt := 9) B dX9_goesOn_103 (by decide) k) ?_
      refine y_sub [(0, .ref t), (2, .int (x2 + (-1)))] [1, 0] rfl ?_
      exact hkl9 _ _ _ h hT hk_t
    · replace h := ite_n c5 h
      refine ym 88 (fun B k => z_if_eq (tgt := 103) B dX9_goesOn_85 (by decide) (fun q => absurd q c5) (fun _ => k)) ?_
      refine ym 89 (fun B k => z_aload_n B dX9_goesOn_88 rfl 1 rfl k) ?_
      replace h := qv_e h
      obtain ⟨w6, e_w6, h⟩ := h
      have hq_w6 : rk σ w6 13 := rk_T hT hk_t rfl (by decide) e_w6
      refine ym 92 (fun B k => gf_X9_38 (x := w6) B hk_t e_w6 dX9_goesOn_89 k) ?_
      refine ym 93 (fun B k => z_iload_n B dX9_goesOn_92 rfl 2 rfl k) ?_
      refine ym 94 (fun B k => z_aload_n B dX9_goesOn_93 rfl 1 rfl k) ?_
      refine ym 97 (fun B k => gf_X9_107 (x := (sx_I σ t 27)) B hk_t rfl dX9_goesOn_94 k) ?_
      replace h := bq_e h
      obtain ⟨a7, rfl, h⟩ := h
      have hk_a7 := hq_w6 a7 rfl
      replace h := ck_e h
      obtain ⟨hi_8, h⟩ := h
      have j9 := hk_a7
      refine ymw (σ' := (wx_I σ a7 (ti x3) (sx_I σ t 27))) 98 e_I (fun B _ k => z_iast (j := (ti x3)) B hk_a7 rfl hi_8 rfl dX9_goesOn_97 k) ?_
      have hT := TS_I (k := (ti x3)) (x := (sx_I σ t 27)) hT hk_a7 (Or.inl rfl)
      have hk_t := kk_I (σ := σ) (a := a7) (k := (ti x3)) (x := (sx_I σ t 27)) hk_t
      refine ym 99 (fun B k => z_aload_n B dX9_goesOn_98 rfl 1 rfl k) ?_
      refine ym 100 (fun B k => z_iload_n B dX9_goesOn_99 rfl 2 rfl k) ?_
      replace h := br_e h
      obtain ⟨u11, h10, h⟩ := h
      have m12 := ct_X9_rests l (g := g) h10 hT hk_t
      refine yc_Vv (Al := [.int x3]) (rest := []) 103 rfl cw_X9_220 cx_10 dX9_goesOn_100 m12 hk_t rfl (by decide) rfl (Nat.le_of_ble_eq_true rfl) ?_
      have hk_t := k_G m12.1.1 (by decide) hk_t
      have hT := m12.1.1.2.2.2
      refine ym 9 (fun B k => z_goto (tgt := 9) B dX9_goesOn_103 (by decide) k) ?_
      refine y_sub [(0, .ref t), (2, .int (x2 + (-1)))] [1, 0] rfl ?_
      exact hkl9 _ _ _ h hT hk_t
  · replace h := ite_n c4 h
    refine ym 103 (fun B k => z_if_ne (tgt := 103) B dX9_goesOn_78 (by decide) (fun _ => k) (fun q => absurd q c4)) ?_
    refine ym 9 (fun B k => z_goto (tgt := 9) B dX9_goesOn_103 (by decide) k) ?_
    refine y_sub [(0, .ref t), (2, .int (x2 + (-1)))] [1, 0] rfl ?_
    exact hkl9 _ _ _ h hT hk_t
set_option maxRecDepth 100000 in
set_option maxHeartbeats 4000000 in
theorem tb_X9_goesOn_47 {l : Launch} {g : gx_T} {σ : sx_T} {u : sx_T} {As : Array Value} {n0 : Nat} {kl9 : sx_T → Nat → Int32 → Option sx_T} (hkl9 : ∀ (σ : sx_T) (t : Nat) (x2 : Int32), kl9 σ t x2 = some u → TS g σ → sx_K σ t = 11 → ZY l g cX9_goesOn RX9 "goesOn" none 5 6 158 0 0 false As (QM g As (Qxv g u)) (True) u σ 9 [(0, .ref t), (2, .int x2)] []) {t : Nat} {x2 : Int32} {x3 : Int32} {y0 : Int32} (h : fb_X9_goesOn_47 n0 kl9 σ t x2 x3 y0 = some u) (hT : TS g σ) (hk_t : sx_K σ t = 11) : ZY l g cX9_goesOn RX9 "goesOn" none 5 6 158 0 0 false As (QM g As (Qxv g u)) (True) u σ 47 [(0, .ref t), (2, .int x2), (3, .int x3)] [.int y0] := by
  unfold fb_X9_goesOn_47 at h
  refine ym 49 (fun B k => z_istore (lv' := [(4, .int y0), (0, .ref t), (2, .int x2), (3, .int x3)]) B dX9_goesOn_47 (by decide) rfl k) ?_
  refine ym 51 (fun B k => z_iload B dX9_goesOn_49 0 rfl k) ?_
  refine ym 52 (fun B k => z_iconst (v := (-1)) B dX9_goesOn_51 (by decide) k) ?_
  by_cases c1 : y0 = (-1)
  · replace h := ite_p c1 h
    refine ym 69 (fun B k => z_icmp_eq (tgt := 69) B dX9_goesOn_52 (by decide) (fun _ => k) (fun q => absurd c1 q)) ?_
    refine y_sub [(0, .ref t), (2, .int x2), (3, .int x3)] [1, 2, 3] rfl ?_
    exact tb_X9_goesOn_69 hkl9 h hT hk_t
  · replace h := ite_n c1 h
    refine ym 55 (fun B k => z_icmp_eq (tgt := 69) B dX9_goesOn_52 (by decide) (fun q => absurd q c1) (fun _ => k)) ?_
    refine ym 56 (fun B k => z_aload_n B dX9_goesOn_55 rfl 1 rfl k) ?_
    replace h := qv_e h
    obtain ⟨w2, e_w2, h⟩ := h
    have hq_w2 : rk σ w2 13 := rk_T hT hk_t rfl (by decide) e_w2
    refine ym 59 (fun B k => gf_X9_81 (x := w2) B hk_t e_w2 dX9_goesOn_56 k) ?_
    refine ym 60 (fun B k => z_iload_n B dX9_goesOn_59 rfl 2 rfl k) ?_
    refine ym 62 (fun B k => z_iload B dX9_goesOn_60 0 rfl k) ?_
    replace h := bq_e h
    obtain ⟨a3, rfl, h⟩ := h
    have hk_a3 := hq_w2 a3 rfl
    replace h := ck_e h
    obtain ⟨hi_4, h⟩ := h
    have j5 := hk_a3
    refine ymw (σ' := (wx_I σ a3 (ti x2) y0)) 63 e_I (fun B _ k => z_iast (j := (ti x2)) B hk_a3 rfl hi_4 rfl dX9_goesOn_62 k) ?_
    have hT := TS_I (k := (ti x2)) (x := y0) hT hk_a3 (Or.inl rfl)
    have hk_t := kk_I (σ := σ) (a := a3) (k := (ti x2)) (x := y0) hk_t
    refine ym 66 (fun B k => z_iinc (v := x2 + 1) (lv' := [(2, .int (x2 + 1)), (4, .int y0), (0, .ref t), (3, .int x3)]) B dX9_goesOn_63 2 rfl rfl (by decide) rfl k) ?_
    refine ym 103 (fun B k => z_goto (tgt := 103) B dX9_goesOn_66 (by decide) k) ?_
    refine ym 9 (fun B k => z_goto (tgt := 9) B dX9_goesOn_103 (by decide) k) ?_
    refine y_sub [(0, .ref t), (2, .int (x2 + 1))] [2, 0] rfl ?_
    exact hkl9 _ _ _ h hT hk_t
set_option maxRecDepth 100000 in
set_option maxHeartbeats 4000000 in
theorem tl_X9_goesOn_9 {l : Launch} {g : gx_T} {u : sx_T} {As : Array Value} {n0 : Nat} : ∀ {n : Nat} {σ : sx_T} {t : Nat} {x2 : Int32}, fl_X9_goesOn_9 n0 n σ t x2 = some u → TS g σ → sx_K σ t = 11 → ZY l g cX9_goesOn RX9 "goesOn" none 5 6 158 0 0 false As (QM g As (Qxv g u)) (True) u σ 9 [(0, .ref t), (2, .int x2)] [] := by
  intro n
  induction n with
  | zero =>
    intro σ t x2 h
    exact nomatch h
  | succ n ih_ =>
    have ih := @ih_
    intro σ t x2 h hT hk_t
    unfold fl_X9_goesOn_9 at h
    refine ym 10 (fun B k => z_iload_n B dX9_goesOn_9 rfl 1 rfl k) ?_
    by_cases c1 : x2 ≤ 0
    · replace h := ite_p c1 h
      refine ym 106 (fun B k => z_if_le (tgt := 106) B dX9_goesOn_10 (by decide) (fun _ => k) (fun q => absurd c1 q)) ?_
      obtain rfl := Option.some.inj h
      exact yr_v hT trivial rfl dX9_goesOn_106
    · replace h := ite_n c1 h
      refine ym 13 (fun B k => z_if_le (tgt := 106) B dX9_goesOn_10 (by decide) (fun q => absurd q c1) (fun _ => k)) ?_
      refine ym 14 (fun B k => z_aload_n B dX9_goesOn_13 rfl 0 rfl k) ?_
      replace h := qv_e h
      obtain ⟨w2, e_w2, h⟩ := h
      have hq_w2 : rk σ w2 13 := rk_T hT hk_t rfl (by decide) e_w2
      refine ym 17 (fun B k => gf_X9_81 (x := w2) B hk_t e_w2 dX9_goesOn_14 k) ?_
      refine ym 18 (fun B k => z_iload_n B dX9_goesOn_17 rfl 1 rfl k) ?_
      refine ym 19 (fun B k => z_iconst (v := 1) B dX9_goesOn_18 (by decide) k) ?_
      refine ym 20 (fun B k => z_isub B dX9_goesOn_19 k) ?_
      replace h := bq_e h
      obtain ⟨a3, rfl, h⟩ := h
      have hk_a3 := hq_w2 a3 rfl
      replace h := ck_e h
      obtain ⟨hi_4, h⟩ := h
      refine ym 21 (fun B k => z_iald (j := (ti (x2 - 1))) (x := (sx_I σ a3 (ti (x2 - 1)))) B hk_a3 rfl hi_4 rfl dX9_goesOn_20 k) ?_
      refine ym 22 (fun B k => z_istore_n (lv' := [(3, .int (sx_I σ a3 (ti (x2 - 1)))), (0, .ref t), (2, .int x2)]) B dX9_goesOn_21 rfl (by decide) rfl k) ?_
      refine ym 23 (fun B k => z_aload_n B dX9_goesOn_22 rfl 1 rfl k) ?_
      replace h := qv_e h
      obtain ⟨w5, e_w5, h⟩ := h
      have hq_w5 : rk σ w5 13 := rk_T hT hk_t rfl (by decide) e_w5
      refine ym 26 (fun B k => gf_X9_32 (x := w5) B hk_t e_w5 dX9_goesOn_23 k) ?_
      refine ym 27 (fun B k => z_iload_n B dX9_goesOn_26 rfl 0 rfl k) ?_
      replace h := bq_e h
      obtain ⟨a6, rfl, h⟩ := h
      have hk_a6 := hq_w5 a6 rfl
      replace h := ck_e h
      obtain ⟨hi_7, h⟩ := h
      refine ym 28 (fun B k => z_iald (j := (ti (sx_I σ a3 (ti (x2 - 1))))) (x := (sx_I σ a6 (ti (sx_I σ a3 (ti (x2 - 1)))))) B hk_a6 rfl hi_7 rfl dX9_goesOn_27 k) ?_
      by_cases c8 : (sx_I σ a6 (ti (sx_I σ a3 (ti (x2 - 1))))) ≤ 0
      · replace h := ite_p c8 h
        refine ym 35 (fun B k => z_if_le (tgt := 35) B dX9_goesOn_28 (by decide) (fun _ => k) (fun q => absurd c8 q)) ?_
        refine ym 36 (fun B k => z_aload_n B dX9_goesOn_35 rfl 1 rfl k) ?_
        refine ym 37 (fun B k => z_iload_n B dX9_goesOn_36 rfl 0 rfl k) ?_
        refine ym 38 (fun B k => z_aload_n B dX9_goesOn_37 rfl 1 rfl k) ?_
        replace h := qv_e h
        obtain ⟨w9, e_w9, h⟩ := h
        have hq_w9 : rk σ w9 13 := rk_T hT hk_t rfl (by decide) e_w9
        refine ym 41 (fun B k => gf_X9_35 (x := w9) B hk_t e_w9 dX9_goesOn_38 k) ?_
        refine ym 42 (fun B k => z_iload_n B dX9_goesOn_41 rfl 0 rfl k) ?_
        replace h := bq_e h
        obtain ⟨a10, rfl, h⟩ := h
        have hk_a10 := hq_w9 a10 rfl
        replace h := ck_e h
        obtain ⟨hi_11, h⟩ := h
        refine ym 43 (fun B k => z_iald (j := (ti (sx_I σ a3 (ti (x2 - 1))))) (x := (sx_I σ a10 (ti (sx_I σ a3 (ti (x2 - 1)))))) B hk_a10 rfl hi_11 rfl dX9_goesOn_42 k) ?_
        refine ym 44 (fun B k => z_iconst (v := 1) B dX9_goesOn_43 (by decide) k) ?_
        replace h := bd_e h
        obtain ⟨r13, u14, h12, h⟩ := h
        have m15 := ct_X9_replays l (g := g) h12 hT hk_t (Or.inr rfl)
        refine yc_Vi (Al := [.int (sx_I σ a3 (ti (x2 - 1))), .int (sx_I σ a10 (ti (sx_I σ a3 (ti (x2 - 1))))), .int 1]) (rest := []) 47 rfl cw_X9_216 cx_10 dX9_goesOn_44 m15 hk_t rfl (by decide) rfl (Nat.le_of_ble_eq_true rfl) ?_
        have hk_t := k_G m15.1.1 (by decide) hk_t
        have hT := m15.1.1.2.2.2
        refine y_sub [(0, .ref t), (2, .int x2), (3, .int (sx_I σ a3 (ti (x2 - 1))))] [1, 2, 0] rfl ?_
        exact tb_X9_goesOn_47 (fun _ _ _ => ih) h hT hk_t
      · replace h := ite_n c8 h
        refine ym 31 (fun B k => z_if_le (tgt := 35) B dX9_goesOn_28 (by decide) (fun q => absurd q c8) (fun _ => k)) ?_
        refine ym 32 (fun B k => z_iconst (v := (-1)) B dX9_goesOn_31 (by decide) k) ?_
        refine ym 47 (fun B k => z_goto (tgt := 47) B dX9_goesOn_32 (by decide) k) ?_
        refine ym 49 (fun B k => z_istore (lv' := [(4, .int (-1)), (3, .int (sx_I σ a3 (ti (x2 - 1)))), (0, .ref t), (2, .int x2)]) B dX9_goesOn_47 (by decide) rfl k) ?_
        refine ym 51 (fun B k => z_iload B dX9_goesOn_49 0 rfl k) ?_
        refine ym 52 (fun B k => z_iconst (v := (-1)) B dX9_goesOn_51 (by decide) k) ?_
        refine ym 69 (fun B k => z_icmp_eq (tgt := 69) B dX9_goesOn_52 (by decide) (fun _ => k) (fun q => absurd (by decide) q)) ?_
        refine y_sub [(0, .ref t), (2, .int x2), (3, .int (sx_I σ a3 (ti (x2 - 1))))] [2, 3, 1] rfl ?_
        exact tb_X9_goesOn_69 (fun _ _ _ => ih) h hT hk_t
set_option maxRecDepth 100000 in
set_option maxHeartbeats 4000000 in
theorem ct_X9_goesOn (l : Launch) {g : gx_T} {σ : sx_T} {u : sx_T} {n0 : Nat} {t : Nat} {x1 : Int32} (h : f_X9_goesOn n0 σ t x1 = some u) (hT : TS g σ) (hk_t : sx_K σ t = 11) : CT l g yX9_goesOn cX9_goesOn 5 none 6 158 [.ref t, .int x1] (True) u σ (Qxv g u) := by
  refine yc_met (by decide) (Nat.le_of_ble_eq_true rfl) ?_
  refine yc_lv (show lv_args 0 [.ref t, .int x1] = [(0, .ref t), (1, .int x1)] from rfl) ?_
  show ZY l g _ _ _ _ _ _ _ _ _ _ _ _ _ _ σ 0 [(0, .ref t), (1, .int x1)] []
  unfold f_X9_goesOn at h
  refine ym 1 (fun B k => z_iconst (v := 1) B dX9_goesOn_0 (by decide) k) ?_
  refine ym 2 (fun B k => z_istore_n (lv' := [(2, .int 1), (0, .ref t), (1, .int x1)]) B dX9_goesOn_1 rfl (by decide) rfl k) ?_
  refine ym 3 (fun B k => z_aload_n B dX9_goesOn_2 rfl 1 rfl k) ?_
  replace h := qv_e h
  obtain ⟨w1, e_w1, h⟩ := h
  have hq_w1 : rk σ w1 13 := rk_T hT hk_t rfl (by decide) e_w1
  refine ym 6 (fun B k => gf_X9_81 (x := w1) B hk_t e_w1 dX9_goesOn_3 k) ?_
  refine ym 7 (fun B k => z_iconst (v := 0) B dX9_goesOn_6 (by decide) k) ?_
  refine ym 8 (fun B k => z_iload_n B dX9_goesOn_7 rfl 2 rfl k) ?_
  replace h := bq_e h
  obtain ⟨a2, rfl, h⟩ := h
  have hk_a2 := hq_w1 a2 rfl
  replace h := ck_e h
  obtain ⟨hi_3, h⟩ := h
  have j4 := hk_a2
  refine ymw (σ' := (wx_I σ a2 (ti 0) x1)) 9 e_I (fun B _ k => z_iast (j := (ti 0)) B hk_a2 rfl hi_3 rfl dX9_goesOn_8 k) ?_
  have hT := TS_I (k := (ti 0)) (x := x1) hT hk_a2 (Or.inl rfl)
  have hk_t := kk_I (σ := σ) (a := a2) (k := (ti 0)) (x := x1) hk_t
  refine y_sub [(0, .ref t), (2, .int 1)] [1, 0] rfl ?_
  exact tl_X9_goesOn_9 h hT hk_t
set_option maxRecDepth 100000 in
set_option maxHeartbeats 4000000 in
theorem tl_X9_asks_2 {l : Launch} {g : gx_T} {u : sx_T} {r : Int32} {As : Array Value} {n0 : Nat} : ∀ {n : Nat} {σ : sx_T} {t : Nat} {x1 : Int32} {x2 : Int32}, fl_X9_asks_2 n0 n σ t x1 x2 = some (r, u) → TS g σ → sx_K σ t = 11 → ZY l g cX9_asks RX9 "asks" (some .int) 3 1 24 0 0 false As (QM g As (Qxi g r u)) (True) u σ 2 [(0, .ref t), (1, .int x1), (2, .int x2)] [] := by
  intro n
  induction n with
  | zero =>
    intro σ t x1 x2 h
    exact nomatch h
  | succ n ih_ =>
    have ih := @ih_
    intro σ t x1 x2 h hT hk_t
    unfold fl_X9_asks_2 at h
    refine ym 3 (fun B k => z_iload_n B dX9_asks_2 rfl 2 rfl k) ?_
    refine ym 4 (fun B k => z_aload_n B dX9_asks_3 rfl 0 rfl k) ?_
    refine ym 7 (fun B k => gf_X9_93 (x := (sx_I σ t 6)) B hk_t rfl dX9_asks_4 k) ?_
    by_cases c1 : (sx_I σ t 6) ≤ x2
    · replace h := ite_p c1 h
      refine ym 56 (fun B k => z_icmp_ge (tgt := 56) B dX9_asks_7 (by decide) (fun _ => k) (fun q => absurd c1 q)) ?_
      refine ym 57 (fun B k => z_iconst (v := (-1)) B dX9_asks_56 (by decide) k) ?_
      obtain ⟨rfl, rfl⟩ := Prod.mk.inj (Option.some.inj h)
      exact yr_i hT trivial rfl dX9_asks_57
    · replace h := ite_n c1 h
      refine ym 10 (fun B k => z_icmp_ge (tgt := 56) B dX9_asks_7 (by decide) (fun q => absurd q c1) (fun _ => k)) ?_
      refine ym 11 (fun B k => z_aload_n B dX9_asks_10 rfl 0 rfl k) ?_
      replace h := qv_e h
      obtain ⟨w2, e_w2, h⟩ := h
      have hq_w2 : rk σ w2 13 := rk_T hT hk_t rfl (by decide) e_w2
      refine ym 14 (fun B k => gf_X9_29 (x := w2) B hk_t e_w2 dX9_asks_11 k) ?_
      refine ym 15 (fun B k => z_iload_n B dX9_asks_14 rfl 2 rfl k) ?_
      replace h := bq_e h
      obtain ⟨a3, rfl, h⟩ := h
      have hk_a3 := hq_w2 a3 rfl
      replace h := ck_e h
      obtain ⟨hi_4, h⟩ := h
      refine ym 16 (fun B k => z_iald (j := (ti x2)) (x := (sx_I σ a3 (ti x2))) B hk_a3 rfl hi_4 rfl dX9_asks_15 k) ?_
      refine ym 17 (fun B k => z_iload_n B dX9_asks_16 rfl 1 rfl k) ?_
      by_cases c5 : (sx_I σ a3 (ti x2)) = x1
      · replace h := ite_p c5 h
        refine ym 20 (fun B k => z_icmp_ne (tgt := 50) B dX9_asks_17 (by decide) (fun q => absurd c5 q) (fun _ => k)) ?_
        refine ym 21 (fun B k => z_aload_n B dX9_asks_20 rfl 0 rfl k) ?_
        replace h := qv_e h
        obtain ⟨w6, e_w6, h⟩ := h
        have hq_w6 : rk σ w6 13 := rk_T hT hk_t rfl (by decide) e_w6
        refine ym 24 (fun B k => gf_X9_32 (x := w6) B hk_t e_w6 dX9_asks_21 k) ?_
        refine ym 25 (fun B k => z_iload_n B dX9_asks_24 rfl 2 rfl k) ?_
        replace h := bq_e h
        obtain ⟨a7, rfl, h⟩ := h
        have hk_a7 := hq_w6 a7 rfl
        replace h := ck_e h
        obtain ⟨hi_8, h⟩ := h
        refine ym 26 (fun B k => z_iald (j := (ti x2)) (x := (sx_I σ a7 (ti x2))) B hk_a7 rfl hi_8 rfl dX9_asks_25 k) ?_
        by_cases c9 : (sx_I σ a7 (ti x2)) = 0
        · replace h := ite_p c9 h
          refine ym 29 (fun B k => z_if_ne (tgt := 50) B dX9_asks_26 (by decide) (fun q => absurd c9 q) (fun _ => k)) ?_
          refine ym 30 (fun B k => z_aload_n B dX9_asks_29 rfl 0 rfl k) ?_
          replace h := qv_e h
          obtain ⟨w10, e_w10, h⟩ := h
          have hq_w10 : rk σ w10 13 := rk_T hT hk_t rfl (by decide) e_w10
          refine ym 33 (fun B k => gf_X9_35 (x := w10) B hk_t e_w10 dX9_asks_30 k) ?_
          refine ym 34 (fun B k => z_iload_n B dX9_asks_33 rfl 2 rfl k) ?_
          replace h := bq_e h
          obtain ⟨a11, rfl, h⟩ := h
          have hk_a11 := hq_w10 a11 rfl
          replace h := ck_e h
          obtain ⟨hi_12, h⟩ := h
          refine ym 35 (fun B k => z_iald (j := (ti x2)) (x := (sx_I σ a11 (ti x2))) B hk_a11 rfl hi_12 rfl dX9_asks_34 k) ?_
          refine ym 37 (fun B k => z_bipush (v := 90) B dX9_asks_35 (by decide) k) ?_
          by_cases c13 : 90 ≤ (sx_I σ a11 (ti x2))
          · replace h := ite_p c13 h
            refine ym 50 (fun B k => z_icmp_ge (tgt := 50) B dX9_asks_37 (by decide) (fun _ => k) (fun q => absurd c13 q)) ?_
            refine ym 53 (fun B k => z_iinc (v := x2 + 1) (lv' := [(2, .int (x2 + 1)), (0, .ref t), (1, .int x1)]) B dX9_asks_50 2 rfl rfl (by decide) rfl k) ?_
            refine ym 2 (fun B k => z_goto (tgt := 2) B dX9_asks_53 (by decide) k) ?_
            refine y_sub [(0, .ref t), (1, .int x1), (2, .int (x2 + 1))] [1, 2, 0] rfl ?_
            exact ih h hT hk_t
          · replace h := ite_n c13 h
            refine ym 40 (fun B k => z_icmp_ge (tgt := 50) B dX9_asks_37 (by decide) (fun q => absurd q c13) (fun _ => k)) ?_
            refine ym 41 (fun B k => z_aload_n B dX9_asks_40 rfl 0 rfl k) ?_
            refine ym 42 (fun B k => z_iload_n B dX9_asks_41 rfl 2 rfl k) ?_
            refine ym 44 (fun B k => z_bipush (v := 12) B dX9_asks_42 (by decide) k) ?_
            refine ym 45 (fun B k => z_lconst (v := 0) B dX9_asks_44 (by decide) k) ?_
            replace h := br_e h
            obtain ⟨u15, h14, h⟩ := h
            have m16 := ct_X9_adds l (g := g) h14 hT hk_t
            refine yc_Vv (Al := [.int x2, .int 12, .long 0]) (rest := []) 48 rfl cw_X9_143 cx_10 dX9_asks_45 m16 hk_t rfl (by decide) rfl (Nat.le_of_ble_eq_true rfl) ?_
            have hk_t := k_G m16.1.1 (by decide) hk_t
            have hT := m16.1.1.2.2.2
            refine ym 49 (fun B k => z_iload_n B dX9_asks_48 rfl 2 rfl k) ?_
            obtain ⟨rfl, rfl⟩ := Prod.mk.inj (Option.some.inj h)
            exact yr_i hT trivial rfl dX9_asks_49
        · replace h := ite_n c9 h
          refine ym 50 (fun B k => z_if_ne (tgt := 50) B dX9_asks_26 (by decide) (fun _ => k) (fun q => absurd q c9)) ?_
          refine ym 53 (fun B k => z_iinc (v := x2 + 1) (lv' := [(2, .int (x2 + 1)), (0, .ref t), (1, .int x1)]) B dX9_asks_50 2 rfl rfl (by decide) rfl k) ?_
          refine ym 2 (fun B k => z_goto (tgt := 2) B dX9_asks_53 (by decide) k) ?_
          refine y_sub [(0, .ref t), (1, .int x1), (2, .int (x2 + 1))] [1, 2, 0] rfl ?_
          exact ih h hT hk_t
      · replace h := ite_n c5 h
        refine ym 50 (fun B k => z_icmp_ne (tgt := 50) B dX9_asks_17 (by decide) (fun _ => k) (fun q => absurd q c5)) ?_
        refine ym 53 (fun B k => z_iinc (v := x2 + 1) (lv' := [(2, .int (x2 + 1)), (0, .ref t), (1, .int x1)]) B dX9_asks_50 2 rfl rfl (by decide) rfl k) ?_
        refine ym 2 (fun B k => z_goto (tgt := 2) B dX9_asks_53 (by decide) k) ?_
        refine y_sub [(0, .ref t), (1, .int x1), (2, .int (x2 + 1))] [1, 2, 0] rfl ?_
        exact ih h hT hk_t
set_option maxRecDepth 100000 in
set_option maxHeartbeats 4000000 in
theorem ct_X9_asks (l : Launch) {g : gx_T} {σ : sx_T} {u : sx_T} {r : Int32} {n0 : Nat} {t : Nat} {x1 : Int32} (h : f_X9_asks n0 σ t x1 = some (r, u)) (hT : TS g σ) (hk_t : sx_K σ t = 11) : CT l g yX9_asks cX9_asks 3 (some .int) 1 24 [.ref t, .int x1] (True) u σ (Qxi g r u) := by
  refine yc_met (by decide) (Nat.le_of_ble_eq_true rfl) ?_
  refine yc_lv (show lv_args 0 [.ref t, .int x1] = [(0, .ref t), (1, .int x1)] from rfl) ?_
  show ZY l g _ _ _ _ _ _ _ _ _ _ _ _ _ _ σ 0 [(0, .ref t), (1, .int x1)] []
  unfold f_X9_asks at h
  refine ym 1 (fun B k => z_iconst (v := 0) B dX9_asks_0 (by decide) k) ?_
  refine ym 2 (fun B k => z_istore_n (lv' := [(2, .int 0), (0, .ref t), (1, .int x1)]) B dX9_asks_1 rfl (by decide) rfl k) ?_
  refine y_sub [(0, .ref t), (1, .int x1), (2, .int 0)] [1, 2, 0] rfl ?_
  exact tl_X9_asks_2 h hT hk_t
set_option maxRecDepth 100000 in
set_option maxHeartbeats 4000000 in
theorem tb_X9_runs_75 {l : Launch} {g : gx_T} {σ : sx_T} {u : sx_T} {As : Array Value} {n0 : Nat} {kl19 : sx_T → Nat → Int32 → Int32 → Option sx_T} (hkl19 : ∀ (σ : sx_T) (t : Nat) (x2 : Int32) (x3 : Int32), kl19 σ t x2 x3 = some u → TS g σ → sx_K σ t = 11 → ZY l g cX9_runs RX9 "runs" none 5 7 182 0 0 false As (QM g As (Qxv g u)) (True) u σ 19 [(0, .ref t), (2, .int x2), (3, .int x3)] []) {t : Nat} {x2 : Int32} {x3 : Int32} {x4 : Int32} (h : fb_X9_runs_75 n0 kl19 σ t x2 x3 x4 = some u) (hT : TS g σ) (hk_t : sx_K σ t = 11) : ZY l g cX9_runs RX9 "runs" none 5 7 182 0 0 false As (QM g As (Qxv g u)) (True) u σ 75 [(0, .ref t), (2, .int x2), (3, .int x3), (4, .int x4)] [] := by
  unfold fb_X9_runs_75 at h
  refine ym 77 (fun B k => z_iload B dX9_runs_75 3 rfl k) ?_
  refine ym 78 (fun B k => z_iconst (v := (-1)) B dX9_runs_77 (by decide) k) ?_
  by_cases c1 : x4 = (-1)
  · replace h := ite_p c1 h
    refine ym 87 (fun B k => z_icmp_eq (tgt := 87) B dX9_runs_78 (by decide) (fun _ => k) (fun q => absurd c1 q)) ?_
    refine ym 19 (fun B k => z_goto (tgt := 19) B dX9_runs_87 (by decide) k) ?_
    refine y_sub [(0, .ref t), (2, .int x2), (3, .int x3)] [0, 1, 2] rfl ?_
    exact hkl19 _ _ _ _ h hT hk_t
  · replace h := ite_n c1 h
    refine ym 81 (fun B k => z_icmp_eq (tgt := 87) B dX9_runs_78 (by decide) (fun q => absurd q c1) (fun _ => k)) ?_
    refine ym 82 (fun B k => z_aload_n B dX9_runs_81 rfl 0 rfl k) ?_
    refine ym 84 (fun B k => z_iload B dX9_runs_82 3 rfl k) ?_
    replace h := br_e h
    obtain ⟨u3, h2, h⟩ := h
    have m4 := ct_X9_goesOn l (g := g) h2 hT hk_t
    refine yc_Vv (Al := [.int x4]) (rest := []) 87 rfl cw_X9_229 cx_10 dX9_runs_84 m4 hk_t rfl (by decide) rfl (Nat.le_of_ble_eq_true rfl) ?_
    have hk_t := k_G m4.1.1 (by decide) hk_t
    have hT := m4.1.1.2.2.2
    refine ym 19 (fun B k => z_goto (tgt := 19) B dX9_runs_87 (by decide) k) ?_
    refine y_sub [(0, .ref t), (2, .int x2), (3, .int x3)] [0, 1, 2] rfl ?_
    exact hkl19 _ _ _ _ h hT hk_t
set_option maxRecDepth 100000 in
set_option maxHeartbeats 4000000 in
theorem tb_X9_runs_35 {l : Launch} {g : gx_T} {σ : sx_T} {u : sx_T} {As : Array Value} {n0 : Nat} {kl19 : sx_T → Nat → Int32 → Int32 → Option sx_T} (hkl19 : ∀ (σ : sx_T) (t : Nat) (x2 : Int32) (x3 : Int32), kl19 σ t x2 x3 = some u → TS g σ → sx_K σ t = 11 → ZY l g cX9_runs RX9 "runs" none 5 7 182 0 0 false As (QM g As (Qxv g u)) (True) u σ 19 [(0, .ref t), (2, .int x2), (3, .int x3)] []) {t : Nat} {x2 : Int32} {x3 : Int32} (h : fb_X9_runs_35 n0 kl19 σ t x2 x3 = some u) (hT : TS g σ) (hk_t : sx_K σ t = 11) : ZY l g cX9_runs RX9 "runs" none 5 7 182 0 0 false As (QM g As (Qxv g u)) (True) u σ 35 [(0, .ref t), (2, .int x2), (3, .int x3)] [] := by
  unfold fb_X9_runs_35 at h
  refine ym 36 (fun B k => z_iconst (v := (-1)) B dX9_runs_35 (by decide) k) ?_
  refine ym 38 (fun B k => z_istore (lv' := [(4, .int (-1)), (0, .ref t), (2, .int x2), (3, .int x3)]) B dX9_runs_36 (by decide) rfl k) ?_
  refine ym 39 (fun B k => z_iload_n B dX9_runs_38 rfl 2 rfl k) ?_
  refine ym 40 (fun B k => z_aload_n B dX9_runs_39 rfl 1 rfl k) ?_
  refine ym 43 (fun B k => gf_X9_226 (x := (sx_I σ t 43)) B hk_t rfl dX9_runs_40 k) ?_
  by_cases c1 : (sx_I σ t 43) ≤ x2
  · replace h := ite_p c1 h
    refine ym 60 (fun B k => z_icmp_ge (tgt := 60) B dX9_runs_43 (by decide) (fun _ => k) (fun q => absurd c1 q)) ?_
    refine ym 61 (fun B k => z_aload_n B dX9_runs_60 rfl 1 rfl k) ?_
    refine ym 62 (fun B k => z_aload_n B dX9_runs_61 rfl 1 rfl k) ?_
    replace h := qv_e h
    obtain ⟨w2, e_w2, h⟩ := h
    have hq_w2 : rk σ w2 13 := rk_T hT hk_t rfl (by decide) e_w2
    refine ym 65 (fun B k => gf_X9_87 (x := w2) B hk_t e_w2 dX9_runs_62 k) ?_
    refine ym 66 (fun B k => z_iload_n B dX9_runs_65 rfl 3 rfl k) ?_
    replace h := bq_e h
    obtain ⟨a3, rfl, h⟩ := h
    have hk_a3 := hq_w2 a3 rfl
    replace h := ck_e h
    obtain ⟨hi_4, h⟩ := h
    refine ym 67 (fun B k => z_iald (j := (ti x3)) (x := (sx_I σ a3 (ti x3))) B hk_a3 rfl hi_4 rfl dX9_runs_66 k) ?_
    replace h := bd_e h
    obtain ⟨r6, u7, h5, h⟩ := h
    have m8 := ct_X9_asks l (g := g) h5 hT hk_t
    refine yc_Vi (Al := [.int (sx_I σ a3 (ti x3))]) (rest := []) 70 rfl cw_X9_232 cx_10 dX9_runs_67 m8 hk_t rfl (by decide) rfl (Nat.le_of_ble_eq_true rfl) ?_
    have hk_t := k_G m8.1.1 (by decide) hk_t
    have hT := m8.1.1.2.2.2
    refine ym 72 (fun B k => z_istore (lv' := [(4, .int r6), (0, .ref t), (2, .int x2), (3, .int x3)]) B dX9_runs_70 (by decide) rfl k) ?_
    refine ym 75 (fun B k => z_iinc (v := x3 + 1) (lv' := [(3, .int (x3 + 1)), (4, .int r6), (0, .ref t), (2, .int x2)]) B dX9_runs_72 3 rfl rfl (by decide) rfl k) ?_
    refine y_sub [(0, .ref t), (2, .int x2), (3, .int (x3 + 1)), (4, .int r6)] [2, 3, 0, 1] rfl ?_
    exact tb_X9_runs_75 hkl19 h hT hk_t
  · replace h := ite_n c1 h
    refine ym 46 (fun B k => z_icmp_ge (tgt := 60) B dX9_runs_43 (by decide) (fun q => absurd q c1) (fun _ => k)) ?_
    refine ym 47 (fun B k => z_aload_n B dX9_runs_46 rfl 1 rfl k) ?_
    replace h := qv_e h
    obtain ⟨w9, e_w9, h⟩ := h
    have hq_w9 : rk σ w9 13 := rk_T hT hk_t rfl (by decide) e_w9
    refine ym 50 (fun B k => gf_X9_84 (x := w9) B hk_t e_w9 dX9_runs_47 k) ?_
    refine ym 51 (fun B k => z_iload_n B dX9_runs_50 rfl 2 rfl k) ?_
    replace h := bq_e h
    obtain ⟨a10, rfl, h⟩ := h
    have hk_a10 := hq_w9 a10 rfl
    replace h := ck_e h
    obtain ⟨hi_11, h⟩ := h
    refine ym 52 (fun B k => z_iald (j := (ti x2)) (x := (sx_I σ a10 (ti x2))) B hk_a10 rfl hi_11 rfl dX9_runs_51 k) ?_
    refine ym 54 (fun B k => z_istore (lv' := [(4, .int (sx_I σ a10 (ti x2))), (0, .ref t), (2, .int x2), (3, .int x3)]) B dX9_runs_52 (by decide) rfl k) ?_
    refine ym 57 (fun B k => z_iinc (v := x2 + 1) (lv' := [(2, .int (x2 + 1)), (4, .int (sx_I σ a10 (ti x2))), (0, .ref t), (3, .int x3)]) B dX9_runs_54 2 rfl rfl (by decide) rfl k) ?_
    refine ym 75 (fun B k => z_goto (tgt := 75) B dX9_runs_57 (by decide) k) ?_
    refine y_sub [(0, .ref t), (2, .int (x2 + 1)), (3, .int x3), (4, .int (sx_I σ a10 (ti x2)))] [2, 0, 3, 1] rfl ?_
    exact tb_X9_runs_75 hkl19 h hT hk_t
set_option maxRecDepth 100000 in
set_option maxHeartbeats 4000000 in
theorem tl_X9_runs_19 {l : Launch} {g : gx_T} {u : sx_T} {As : Array Value} {n0 : Nat} : ∀ {n : Nat} {σ : sx_T} {t : Nat} {x2 : Int32} {x3 : Int32}, fl_X9_runs_19 n0 n σ t x2 x3 = some u → TS g σ → sx_K σ t = 11 → ZY l g cX9_runs RX9 "runs" none 5 7 182 0 0 false As (QM g As (Qxv g u)) (True) u σ 19 [(0, .ref t), (2, .int x2), (3, .int x3)] [] := by
  intro n
  induction n with
  | zero =>
    intro σ t x2 x3 h
    exact nomatch h
  | succ n ih_ =>
    have ih := @ih_
    intro σ t x2 x3 h hT hk_t
    unfold fl_X9_runs_19 at h
    refine ym 20 (fun B k => z_iload_n B dX9_runs_19 rfl 1 rfl k) ?_
    refine ym 21 (fun B k => z_aload_n B dX9_runs_20 rfl 0 rfl k) ?_
    refine ym 24 (fun B k => gf_X9_226 (x := (sx_I σ t 43)) B hk_t rfl dX9_runs_21 k) ?_
    by_cases c1 : x2 < (sx_I σ t 43)
    · replace h := ite_p c1 h
      refine ym 35 (fun B k => z_icmp_lt (tgt := 35) B dX9_runs_24 (by decide) (fun _ => k) (fun q => absurd c1 q)) ?_
      refine y_sub [(0, .ref t), (2, .int x2), (3, .int x3)] [0, 1, 2] rfl ?_
      exact tb_X9_runs_35 (fun _ _ _ _ => ih) h hT hk_t
    · replace h := ite_n c1 h
      refine ym 27 (fun B k => z_icmp_lt (tgt := 35) B dX9_runs_24 (by decide) (fun q => absurd q c1) (fun _ => k)) ?_
      refine ym 28 (fun B k => z_iload_n B dX9_runs_27 rfl 2 rfl k) ?_
      refine ym 29 (fun B k => z_aload_n B dX9_runs_28 rfl 0 rfl k) ?_
      refine ym 32 (fun B k => gf_X9_159 (x := (sx_I σ t 45)) B hk_t rfl dX9_runs_29 k) ?_
      by_cases c2 : (sx_I σ t 45) ≤ x3
      · replace h := ite_p c2 h
        refine ym 90 (fun B k => z_icmp_ge (tgt := 90) B dX9_runs_32 (by decide) (fun _ => k) (fun q => absurd c2 q)) ?_
        obtain rfl := Option.some.inj h
        exact yr_v hT trivial rfl dX9_runs_90
      · replace h := ite_n c2 h
        refine ym 35 (fun B k => z_icmp_ge (tgt := 90) B dX9_runs_32 (by decide) (fun q => absurd q c2) (fun _ => k)) ?_
        refine y_sub [(0, .ref t), (2, .int x2), (3, .int x3)] [0, 1, 2] rfl ?_
        exact tb_X9_runs_35 (fun _ _ _ _ => ih) h hT hk_t
set_option maxRecDepth 100000 in
set_option maxHeartbeats 4000000 in
theorem ct_X9_runs (l : Launch) {g : gx_T} {σ : sx_T} {u : sx_T} {n0 : Nat} {t : Nat} {x1 : Int32} (h : f_X9_runs n0 σ t x1 = some u) (hT : TS g σ) (hk_t : sx_K σ t = 11) : CT l g yX9_runs cX9_runs 5 none 7 182 [.ref t, .int x1] (True) u σ (Qxv g u) := by
  refine yc_met (by decide) (Nat.le_of_ble_eq_true rfl) ?_
  refine yc_lv (show lv_args 0 [.ref t, .int x1] = [(0, .ref t), (1, .int x1)] from rfl) ?_
  show ZY l g _ _ _ _ _ _ _ _ _ _ _ _ _ _ σ 0 [(0, .ref t), (1, .int x1)] []
  unfold f_X9_runs at h
  refine ym 1 (fun B k => z_aload_n B dX9_runs_0 rfl 0 rfl k) ?_
  refine ym 2 (fun B k => z_iconst (v := 0) B dX9_runs_1 (by decide) k) ?_
  have j1 := hk_t
  refine ymw (σ' := (wx_I σ t 43 0)) 5 e_I (fun B hin k => pf_X9_226 (x := 0) B hk_t rfl dX9_runs_2 k) ?_
  have hT := TS_I (k := 43) (x := 0) hT hk_t (Or.inl rfl)
  have hk_t := kk_I (σ := σ) (a := t) (k := 43) (x := 0) hk_t
  refine ym 6 (fun B k => z_aload_n B dX9_runs_5 rfl 0 rfl k) ?_
  refine ym 7 (fun B k => z_iconst (v := 0) B dX9_runs_6 (by decide) k) ?_
  have j2 := hk_t
  refine ymw (σ' := (wx_I (wx_I σ t 43 0) t 45 0)) 10 e_I (fun B hin k => pf_X9_159 (x := 0) B hk_t rfl dX9_runs_7 k) ?_
  have hT := TS_I (k := 45) (x := 0) hT hk_t (Or.inl rfl)
  have hk_t := kk_I (σ := (wx_I σ t 43 0)) (a := t) (k := 45) (x := 0) hk_t
  refine ym 11 (fun B k => z_aload_n B dX9_runs_10 rfl 0 rfl k) ?_
  refine ym 12 (fun B k => z_iload_n B dX9_runs_11 rfl 1 rfl k) ?_
  replace h := br_e h
  obtain ⟨u4, h3, h⟩ := h
  have m5 := ct_X9_goesOn l (g := g) h3 hT hk_t
  refine yc_Vv (Al := [.int x1]) (rest := []) 15 rfl cw_X9_229 cx_10 dX9_runs_12 m5 hk_t rfl (by decide) rfl (Nat.le_of_ble_eq_true rfl) ?_
  have hk_t := k_G m5.1.1 (by decide) hk_t
  have hT := m5.1.1.2.2.2
  refine ym 16 (fun B k => z_iconst (v := 0) B dX9_runs_15 (by decide) k) ?_
  refine ym 17 (fun B k => z_istore_n (lv' := [(2, .int 0), (0, .ref t), (1, .int x1)]) B dX9_runs_16 rfl (by decide) rfl k) ?_
  refine ym 18 (fun B k => z_iconst (v := 0) B dX9_runs_17 (by decide) k) ?_
  refine ym 19 (fun B k => z_istore_n (lv' := [(3, .int 0), (2, .int 0), (0, .ref t), (1, .int x1)]) B dX9_runs_18 rfl (by decide) rfl k) ?_
  refine y_sub [(0, .ref t), (2, .int 0), (3, .int 0)] [2, 1, 0] rfl ?_
  exact tl_X9_runs_19 h hT hk_t
set_option maxRecDepth 100000 in
set_option maxHeartbeats 4000000 in
theorem tl_X9_unfit_4 {l : Launch} {g : gx_T} {u : sx_T} {r : Int32} {As : Array Value} {n0 : Nat} : ∀ {n : Nat} {σ : sx_T} {t : Nat} {x1 : Int32} {x2 : Int32} {x3 : Int32}, fl_X9_unfit_4 n0 n σ t x1 x2 x3 = some (r, u) → TS g σ → sx_K σ t = 11 → ZY l g cX9_unfit RX9 "unfit" (some .int) 4 6 154 0 0 false As (QM g As (Qxi g r u)) (True) u σ 4 [(0, .ref t), (1, .int x1), (2, .int x2), (3, .int x3)] [] := by
  intro n
  induction n with
  | zero =>
    intro σ t x1 x2 x3 h
    exact nomatch h
  | succ n ih_ =>
    have ih := @ih_
    intro σ t x1 x2 x3 h hT hk_t
    unfold fl_X9_unfit_4 at h
    refine ym 5 (fun B k => z_iload_n B dX9_unfit_4 rfl 3 rfl k) ?_
    refine ym 6 (fun B k => z_aload_n B dX9_unfit_5 rfl 0 rfl k) ?_
    refine ym 9 (fun B k => gf_X9_93 (x := (sx_I σ t 6)) B hk_t rfl dX9_unfit_6 k) ?_
    by_cases c1 : (sx_I σ t 6) ≤ x3
    · replace h := ite_p c1 h
      refine ym 53 (fun B k => z_icmp_ge (tgt := 53) B dX9_unfit_9 (by decide) (fun _ => k) (fun q => absurd c1 q)) ?_
      refine ym 54 (fun B k => z_iload_n B dX9_unfit_53 rfl 2 rfl k) ?_
      obtain ⟨rfl, rfl⟩ := Prod.mk.inj (Option.some.inj h)
      exact yr_i hT trivial rfl dX9_unfit_54
    · replace h := ite_n c1 h
      refine ym 12 (fun B k => z_icmp_ge (tgt := 53) B dX9_unfit_9 (by decide) (fun q => absurd q c1) (fun _ => k)) ?_
      refine ym 13 (fun B k => z_iload_n B dX9_unfit_12 rfl 2 rfl k) ?_
      refine ym 14 (fun B k => z_aload_n B dX9_unfit_13 rfl 0 rfl k) ?_
      replace h := qv_e h
      obtain ⟨w2, e_w2, h⟩ := h
      have hq_w2 : rk σ w2 13 := rk_T hT hk_t rfl (by decide) e_w2
      refine ym 17 (fun B k => gf_X9_23 (x := w2) B hk_t e_w2 dX9_unfit_14 k) ?_
      refine ym 18 (fun B k => z_iload_n B dX9_unfit_17 rfl 3 rfl k) ?_
      replace h := bq_e h
      obtain ⟨a3, rfl, h⟩ := h
      have hk_a3 := hq_w2 a3 rfl
      replace h := ck_e h
      obtain ⟨hi_4, h⟩ := h
      refine ym 19 (fun B k => z_iald (j := (ti x3)) (x := (sx_I σ a3 (ti x3))) B hk_a3 rfl hi_4 rfl dX9_unfit_18 k) ?_
      refine ym 20 (fun B k => z_iload_n B dX9_unfit_19 rfl 1 rfl k) ?_
      by_cases c5 : (sx_I σ a3 (ti x3)) = x1
      · replace h := ite_p c5 h
        refine ym 23 (fun B k => z_icmp_ne (tgt := 44) B dX9_unfit_20 (by decide) (fun q => absurd c5 q) (fun _ => k)) ?_
        refine ym 24 (fun B k => z_aload_n B dX9_unfit_23 rfl 0 rfl k) ?_
        replace h := qv_e h
        obtain ⟨w6, e_w6, h⟩ := h
        have hq_w6 : rk σ w6 13 := rk_T hT hk_t rfl (by decide) e_w6
        refine ym 27 (fun B k => gf_X9_32 (x := w6) B hk_t e_w6 dX9_unfit_24 k) ?_
        refine ym 28 (fun B k => z_iload_n B dX9_unfit_27 rfl 3 rfl k) ?_
        replace h := bq_e h
        obtain ⟨a7, rfl, h⟩ := h
        have hk_a7 := hq_w6 a7 rfl
        replace h := ck_e h
        obtain ⟨hi_8, h⟩ := h
        refine ym 29 (fun B k => z_iald (j := (ti x3)) (x := (sx_I σ a7 (ti x3))) B hk_a7 rfl hi_8 rfl dX9_unfit_28 k) ?_
        by_cases c9 : (sx_I σ a7 (ti x3)) = 0
        · replace h := ite_p c9 h
          refine ym 32 (fun B k => z_if_ne (tgt := 44) B dX9_unfit_29 (by decide) (fun q => absurd c9 q) (fun _ => k)) ?_
          refine ym 33 (fun B k => z_aload_n B dX9_unfit_32 rfl 0 rfl k) ?_
          refine ym 34 (fun B k => z_iload_n B dX9_unfit_33 rfl 3 rfl k) ?_
          replace h := bd_e h
          obtain ⟨r11, u12, h10, h⟩ := h
          have m13 := ct_X9_isFit l (g := g) h10 hT hk_t
          refine yc_Vi (Al := [.int x3]) (rest := [.int x2]) 37 rfl cw_X9_235 cx_10 dX9_unfit_34 m13 hk_t rfl (by decide) rfl (Nat.le_of_ble_eq_true rfl) ?_
          have hk_t := k_G m13.1.1 (by decide) hk_t
          have hT := m13.1.1.2.2.2
          have hz_r11 := m13.1.2
          by_cases c14 : r11 = 0
          · replace h := ite_p c14 h
            refine ym 40 (fun B k => z_if_ne (tgt := 44) B dX9_unfit_37 (by decide) (fun q => absurd c14 q) (fun _ => k)) ?_
            refine ym 41 (fun B k => z_iconst (v := 1) B dX9_unfit_40 (by decide) k) ?_
            refine ym 45 (fun B k => z_goto (tgt := 45) B dX9_unfit_41 (by decide) k) ?_
            refine ym 46 (fun B k => z_iadd B dX9_unfit_45 k) ?_
            refine ym 47 (fun B k => z_istore_n (lv' := [(2, .int (x2 + 1)), (0, .ref t), (1, .int x1), (3, .int x3)]) B dX9_unfit_46 rfl (by decide) rfl k) ?_
            refine ym 50 (fun B k => z_iinc (v := x3 + 1) (lv' := [(3, .int (x3 + 1)), (2, .int (x2 + 1)), (0, .ref t), (1, .int x1)]) B dX9_unfit_47 3 rfl rfl (by decide) rfl k) ?_
            refine ym 4 (fun B k => z_goto (tgt := 4) B dX9_unfit_50 (by decide) k) ?_
            refine y_sub [(0, .ref t), (1, .int x1), (2, .int (x2 + 1)), (3, .int (x3 + 1))] [2, 3, 1, 0] rfl ?_
            exact ih h hT hk_t
          · replace h := ite_n c14 h
            refine ym 44 (fun B k => z_if_ne (tgt := 44) B dX9_unfit_37 (by decide) (fun _ => k) (fun q => absurd q c14)) ?_
            refine ym 45 (fun B k => z_iconst (v := 0) B dX9_unfit_44 (by decide) k) ?_
            refine ym 46 (fun B k => z_iadd B dX9_unfit_45 k) ?_
            refine ym 47 (fun B k => z_istore_n (lv' := [(2, .int (x2 + 0)), (0, .ref t), (1, .int x1), (3, .int x3)]) B dX9_unfit_46 rfl (by decide) rfl k) ?_
            refine ym 50 (fun B k => z_iinc (v := x3 + 1) (lv' := [(3, .int (x3 + 1)), (2, .int (x2 + 0)), (0, .ref t), (1, .int x1)]) B dX9_unfit_47 3 rfl rfl (by decide) rfl k) ?_
            refine ym 4 (fun B k => z_goto (tgt := 4) B dX9_unfit_50 (by decide) k) ?_
            refine y_sub [(0, .ref t), (1, .int x1), (2, .int (x2 + 0)), (3, .int (x3 + 1))] [2, 3, 1, 0] rfl ?_
            exact ih h hT hk_t
        · replace h := ite_n c9 h
          refine ym 44 (fun B k => z_if_ne (tgt := 44) B dX9_unfit_29 (by decide) (fun _ => k) (fun q => absurd q c9)) ?_
          refine ym 45 (fun B k => z_iconst (v := 0) B dX9_unfit_44 (by decide) k) ?_
          refine ym 46 (fun B k => z_iadd B dX9_unfit_45 k) ?_
          refine ym 47 (fun B k => z_istore_n (lv' := [(2, .int (x2 + 0)), (0, .ref t), (1, .int x1), (3, .int x3)]) B dX9_unfit_46 rfl (by decide) rfl k) ?_
          refine ym 50 (fun B k => z_iinc (v := x3 + 1) (lv' := [(3, .int (x3 + 1)), (2, .int (x2 + 0)), (0, .ref t), (1, .int x1)]) B dX9_unfit_47 3 rfl rfl (by decide) rfl k) ?_
          refine ym 4 (fun B k => z_goto (tgt := 4) B dX9_unfit_50 (by decide) k) ?_
          refine y_sub [(0, .ref t), (1, .int x1), (2, .int (x2 + 0)), (3, .int (x3 + 1))] [2, 3, 1, 0] rfl ?_
          exact ih h hT hk_t
      · replace h := ite_n c5 h
        refine ym 44 (fun B k => z_icmp_ne (tgt := 44) B dX9_unfit_20 (by decide) (fun _ => k) (fun q => absurd q c5)) ?_
        refine ym 45 (fun B k => z_iconst (v := 0) B dX9_unfit_44 (by decide) k) ?_
        refine ym 46 (fun B k => z_iadd B dX9_unfit_45 k) ?_
        refine ym 47 (fun B k => z_istore_n (lv' := [(2, .int (x2 + 0)), (0, .ref t), (1, .int x1), (3, .int x3)]) B dX9_unfit_46 rfl (by decide) rfl k) ?_
        refine ym 50 (fun B k => z_iinc (v := x3 + 1) (lv' := [(3, .int (x3 + 1)), (2, .int (x2 + 0)), (0, .ref t), (1, .int x1)]) B dX9_unfit_47 3 rfl rfl (by decide) rfl k) ?_
        refine ym 4 (fun B k => z_goto (tgt := 4) B dX9_unfit_50 (by decide) k) ?_
        refine y_sub [(0, .ref t), (1, .int x1), (2, .int (x2 + 0)), (3, .int (x3 + 1))] [2, 3, 1, 0] rfl ?_
        exact ih h hT hk_t
set_option maxRecDepth 100000 in
set_option maxHeartbeats 4000000 in
theorem ct_X9_unfit (l : Launch) {g : gx_T} {σ : sx_T} {u : sx_T} {r : Int32} {n0 : Nat} {t : Nat} {x1 : Int32} (h : f_X9_unfit n0 σ t x1 = some (r, u)) (hT : TS g σ) (hk_t : sx_K σ t = 11) : CT l g yX9_unfit cX9_unfit 4 (some .int) 6 154 [.ref t, .int x1] (True) u σ (Qxi g r u) := by
  refine yc_met (by decide) (Nat.le_of_ble_eq_true rfl) ?_
  refine yc_lv (show lv_args 0 [.ref t, .int x1] = [(0, .ref t), (1, .int x1)] from rfl) ?_
  show ZY l g _ _ _ _ _ _ _ _ _ _ _ _ _ _ σ 0 [(0, .ref t), (1, .int x1)] []
  unfold f_X9_unfit at h
  refine ym 1 (fun B k => z_iconst (v := 0) B dX9_unfit_0 (by decide) k) ?_
  refine ym 2 (fun B k => z_istore_n (lv' := [(2, .int 0), (0, .ref t), (1, .int x1)]) B dX9_unfit_1 rfl (by decide) rfl k) ?_
  refine ym 3 (fun B k => z_iconst (v := 0) B dX9_unfit_2 (by decide) k) ?_
  refine ym 4 (fun B k => z_istore_n (lv' := [(3, .int 0), (2, .int 0), (0, .ref t), (1, .int x1)]) B dX9_unfit_3 rfl (by decide) rfl k) ?_
  refine y_sub [(0, .ref t), (1, .int x1), (2, .int 0), (3, .int 0)] [2, 3, 1, 0] rfl ?_
  exact tl_X9_unfit_4 h hT hk_t
set_option maxRecDepth 100000 in
set_option maxHeartbeats 4000000 in
theorem tl_X9_set_36 {l : Launch} {g : gx_T} {u : sx_T} {r : Int32} {As : Array Value} {n0 : Nat} : ∀ {n : Nat} {σ : sx_T} {t : Nat} {x1 : Int32} {x6 : Int32}, fl_X9_set_36 n0 n σ t x1 x6 = some (r, u) → TS g σ → sx_K σ t = 11 → ZY l g cX9_set RX9 "set" (some .int) 7 8 206 0 0 false As (QM g As (Qxi g r u)) (True) u σ 36 [(0, .ref t), (1, .int x1), (6, .int x6)] [] := by
  intro n
  induction n with
  | zero =>
    intro σ t x1 x6 h
    exact nomatch h
  | succ n ih_ =>
    have ih := @ih_
    intro σ t x1 x6 h hT hk_t
    unfold fl_X9_set_36 at h
    refine ym 38 (fun B k => z_iload B dX9_set_36 2 rfl k) ?_
    refine ym 39 (fun B k => z_aload_n B dX9_set_38 rfl 0 rfl k) ?_
    refine ym 42 (fun B k => gf_X9_93 (x := (sx_I σ t 6)) B hk_t rfl dX9_set_39 k) ?_
    by_cases c1 : (sx_I σ t 6) ≤ x6
    · replace h := ite_p c1 h
      refine ym 87 (fun B k => z_icmp_ge (tgt := 87) B dX9_set_42 (by decide) (fun _ => k) (fun q => absurd c1 q)) ?_
      refine ym 88 (fun B k => z_aload_n B dX9_set_87 rfl 0 rfl k) ?_
      refine ym 89 (fun B k => z_iload_n B dX9_set_88 rfl 1 rfl k) ?_
      replace h := bd_e h
      obtain ⟨r3, u4, h2, h⟩ := h
      have m5 := ct_X9_unfit l (g := g) h2 hT hk_t
      refine yc_Vi (Al := [.int x1]) (rest := []) 92 rfl cw_X9_256 cx_10 dX9_set_89 m5 hk_t rfl (by decide) rfl (Nat.le_of_ble_eq_true rfl) ?_
      have hk_t := k_G m5.1.1 (by decide) hk_t
      have hT := m5.1.1.2.2.2
      obtain ⟨rfl, rfl⟩ := Prod.mk.inj (Option.some.inj h)
      exact yr_i hT trivial rfl dX9_set_92
    · replace h := ite_n c1 h
      refine ym 45 (fun B k => z_icmp_ge (tgt := 87) B dX9_set_42 (by decide) (fun q => absurd q c1) (fun _ => k)) ?_
      refine ym 46 (fun B k => z_aload_n B dX9_set_45 rfl 0 rfl k) ?_
      replace h := qv_e h
      obtain ⟨w6, e_w6, h⟩ := h
      have hq_w6 : rk σ w6 13 := rk_T hT hk_t rfl (by decide) e_w6
      refine ym 49 (fun B k => gf_X9_23 (x := w6) B hk_t e_w6 dX9_set_46 k) ?_
      refine ym 51 (fun B k => z_iload B dX9_set_49 2 rfl k) ?_
      replace h := bq_e h
      obtain ⟨a7, rfl, h⟩ := h
      have hk_a7 := hq_w6 a7 rfl
      replace h := ck_e h
      obtain ⟨hi_8, h⟩ := h
      refine ym 52 (fun B k => z_iald (j := (ti x6)) (x := (sx_I σ a7 (ti x6))) B hk_a7 rfl hi_8 rfl dX9_set_51 k) ?_
      refine ym 53 (fun B k => z_iload_n B dX9_set_52 rfl 1 rfl k) ?_
      by_cases c9 : (sx_I σ a7 (ti x6)) = x1
      · replace h := ite_p c9 h
        refine ym 56 (fun B k => z_icmp_ne (tgt := 81) B dX9_set_53 (by decide) (fun q => absurd c9 q) (fun _ => k)) ?_
        refine ym 57 (fun B k => z_aload_n B dX9_set_56 rfl 0 rfl k) ?_
        replace h := qv_e h
        obtain ⟨w10, e_w10, h⟩ := h
        have hq_w10 : rk σ w10 13 := rk_T hT hk_t rfl (by decide) e_w10
        refine ym 60 (fun B k => gf_X9_32 (x := w10) B hk_t e_w10 dX9_set_57 k) ?_
        refine ym 62 (fun B k => z_iload B dX9_set_60 2 rfl k) ?_
        replace h := bq_e h
        obtain ⟨a11, rfl, h⟩ := h
        have hk_a11 := hq_w10 a11 rfl
        replace h := ck_e h
        obtain ⟨hi_12, h⟩ := h
        refine ym 63 (fun B k => z_iald (j := (ti x6)) (x := (sx_I σ a11 (ti x6))) B hk_a11 rfl hi_12 rfl dX9_set_62 k) ?_
        by_cases c13 : (sx_I σ a11 (ti x6)) = 0
        · replace h := ite_p c13 h
          refine ym 66 (fun B k => z_if_ne (tgt := 81) B dX9_set_63 (by decide) (fun q => absurd c13 q) (fun _ => k)) ?_
          refine ym 67 (fun B k => z_aload_n B dX9_set_66 rfl 0 rfl k) ?_
          refine ym 69 (fun B k => z_iload B dX9_set_67 2 rfl k) ?_
          replace h := bd_e h
          obtain ⟨r15, u16, h14, h⟩ := h
          have m17 := ct_X9_isFit l (g := g) h14 hT hk_t
          refine yc_Vi (Al := [.int x6]) (rest := []) 72 rfl cw_X9_235 cx_10 dX9_set_69 m17 hk_t rfl (by decide) rfl (Nat.le_of_ble_eq_true rfl) ?_
          have hk_t := k_G m17.1.1 (by decide) hk_t
          have hT := m17.1.1.2.2.2
          have hz_r15 := m17.1.2
          by_cases c18 : r15 = 0
          · replace h := ite_p c18 h
            refine ym 81 (fun B k => z_if_eq (tgt := 81) B dX9_set_72 (by decide) (fun _ => k) (fun q => absurd c18 q)) ?_
            refine ym 84 (fun B k => z_iinc (v := x6 + 1) (lv' := [(6, .int (x6 + 1)), (0, .ref t), (1, .int x1)]) B dX9_set_81 2 rfl rfl (by decide) rfl k) ?_
            refine ym 36 (fun B k => z_goto (tgt := 36) B dX9_set_84 (by decide) k) ?_
            refine y_sub [(0, .ref t), (1, .int x1), (6, .int (x6 + 1))] [1, 2, 0] rfl ?_
            exact ih h hT hk_t
          · replace h := ite_n c18 h
            refine ym 75 (fun B k => z_if_eq (tgt := 81) B dX9_set_72 (by decide) (fun q => absurd q c18) (fun _ => k)) ?_
            refine ym 76 (fun B k => z_aload_n B dX9_set_75 rfl 0 rfl k) ?_
            refine ym 78 (fun B k => z_iload B dX9_set_76 2 rfl k) ?_
            replace h := br_e h
            obtain ⟨u20, h19, h⟩ := h
            have m21 := ct_X9_runs l (g := g) h19 hT hk_t
            refine yc_Vv (Al := [.int x6]) (rest := []) 81 rfl cw_X9_253 cx_10 dX9_set_78 m21 hk_t rfl (by decide) rfl (Nat.le_of_ble_eq_true rfl) ?_
            have hk_t := k_G m21.1.1 (by decide) hk_t
            have hT := m21.1.1.2.2.2
            refine ym 84 (fun B k => z_iinc (v := x6 + 1) (lv' := [(6, .int (x6 + 1)), (0, .ref t), (1, .int x1)]) B dX9_set_81 2 rfl rfl (by decide) rfl k) ?_
            refine ym 36 (fun B k => z_goto (tgt := 36) B dX9_set_84 (by decide) k) ?_
            refine y_sub [(0, .ref t), (1, .int x1), (6, .int (x6 + 1))] [1, 2, 0] rfl ?_
            exact ih h hT hk_t
        · replace h := ite_n c13 h
          refine ym 81 (fun B k => z_if_ne (tgt := 81) B dX9_set_63 (by decide) (fun _ => k) (fun q => absurd q c13)) ?_
          refine ym 84 (fun B k => z_iinc (v := x6 + 1) (lv' := [(6, .int (x6 + 1)), (0, .ref t), (1, .int x1)]) B dX9_set_81 2 rfl rfl (by decide) rfl k) ?_
          refine ym 36 (fun B k => z_goto (tgt := 36) B dX9_set_84 (by decide) k) ?_
          refine y_sub [(0, .ref t), (1, .int x1), (6, .int (x6 + 1))] [1, 2, 0] rfl ?_
          exact ih h hT hk_t
      · replace h := ite_n c9 h
        refine ym 81 (fun B k => z_icmp_ne (tgt := 81) B dX9_set_53 (by decide) (fun _ => k) (fun q => absurd q c9)) ?_
        refine ym 84 (fun B k => z_iinc (v := x6 + 1) (lv' := [(6, .int (x6 + 1)), (0, .ref t), (1, .int x1)]) B dX9_set_81 2 rfl rfl (by decide) rfl k) ?_
        refine ym 36 (fun B k => z_goto (tgt := 36) B dX9_set_84 (by decide) k) ?_
        refine y_sub [(0, .ref t), (1, .int x1), (6, .int (x6 + 1))] [1, 2, 0] rfl ?_
        exact ih h hT hk_t
set_option maxRecDepth 100000 in
set_option maxHeartbeats 4000000 in
theorem ct_X9_set (l : Launch) {g : gx_T} {σ : sx_T} {u : sx_T} {r : Int32} {n0 : Nat} {t : Nat} {x1 : Int32} {x2 : Int32} {x3 : Int32} {x4 : Int32} {x5 : Int32} (h : f_X9_set n0 σ t x1 x2 x3 x4 x5 = some (r, u)) (hT : TS g σ) (hk_t : sx_K σ t = 11) : CT l g yX9_set cX9_set 7 (some .int) 8 206 [.ref t, .int x1, .int x2, .int x3, .int x4, .int x5] (True) u σ (Qxi g r u) := by
  refine yc_met (by decide) (Nat.le_of_ble_eq_true rfl) ?_
  refine yc_lv (show lv_args 0 [.ref t, .int x1, .int x2, .int x3, .int x4, .int x5] = [(0, .ref t), (1, .int x1), (2, .int x2), (3, .int x3), (4, .int x4), (5, .int x5)] from rfl) ?_
  show ZY l g _ _ _ _ _ _ _ _ _ _ _ _ _ _ σ 0 [(0, .ref t), (1, .int x1), (2, .int x2), (3, .int x3), (4, .int x4), (5, .int x5)] []
  unfold f_X9_set at h
  refine ym 1 (fun B k => z_aload_n B dX9_set_0 rfl 0 rfl k) ?_
  refine ym 2 (fun B k => z_iload_n B dX9_set_1 rfl 1 rfl k) ?_
  refine ym 3 (fun B k => z_iload_n B dX9_set_2 rfl 2 rfl k) ?_
  replace h := br_e h
  obtain ⟨r2, h1, h⟩ := h
  have m3 := ct_X9_isStep l (g := g) h1 hT
  refine yc_Si (Al := [.int x1, .int x2]) (rest := [.ref t]) 6 rfl cw_X9_238 dX9_set_3 m3 rfl (by decide) rfl (Nat.le_of_ble_eq_true rfl) ?_
  have hz_r2 := m3.1.2
  refine ym 7 (fun B k => z_iload_n B dX9_set_6 rfl 3 rfl k) ?_
  refine ym 9 (fun B k => z_iload B dX9_set_7 4 rfl k) ?_
  refine ym 11 (fun B k => z_iload B dX9_set_9 5 rfl k) ?_
  replace h := br_e h
  obtain ⟨r5, h4, h⟩ := h
  have m6 := ct_X9_isOperation l (g := g) h4 hT
  refine yc_Si (Al := [.int x3, .int x4, .int x5]) (rest := [.int r2, .ref t]) 14 rfl cw_X9_242 dX9_set_11 m6 rfl (by decide) rfl (Nat.le_of_ble_eq_true rfl) ?_
  have hz_r5 := m6.1.2
  replace h := bd_e h
  obtain ⟨r8, u9, h7, h⟩ := h
  have m10 := ct_X9_needs_ l (g := g) h7 hT hk_t hz_r2 hz_r5
  refine yc_Vi (Al := [.int r2, .int r5]) (rest := []) 17 rfl cw_X9_245 cx_10 dX9_set_14 m10 hk_t rfl (by decide) rfl (Nat.le_of_ble_eq_true rfl) ?_
  have hk_t := k_G m10.1.1 (by decide) hk_t
  have hT := m10.1.1.2.2.2
  have hz_r8 := m10.1.2
  by_cases c11 : r8 = 0
  · replace h := ite_p c11 h
    refine ym 20 (fun B k => z_if_ne (tgt := 22) B dX9_set_17 (by decide) (fun q => absurd c11 q) (fun _ => k)) ?_
    refine ym 21 (fun B k => z_iconst (v := 0) B dX9_set_20 (by decide) k) ?_
    obtain ⟨rfl, rfl⟩ := Prod.mk.inj (Option.some.inj h)
    exact yr_i hT trivial rfl dX9_set_21
  · replace h := ite_n c11 h
    refine ym 22 (fun B k => z_if_ne (tgt := 22) B dX9_set_17 (by decide) (fun _ => k) (fun q => absurd q c11)) ?_
    refine ym 23 (fun B k => z_aload_n B dX9_set_22 rfl 0 rfl k) ?_
    refine ym 24 (fun B k => z_iload_n B dX9_set_23 rfl 1 rfl k) ?_
    refine ym 25 (fun B k => z_iload_n B dX9_set_24 rfl 2 rfl k) ?_
    refine ym 26 (fun B k => z_iload_n B dX9_set_25 rfl 3 rfl k) ?_
    refine ym 28 (fun B k => z_iload B dX9_set_26 4 rfl k) ?_
    refine ym 30 (fun B k => z_iload B dX9_set_28 5 rfl k) ?_
    replace h := br_e h
    obtain ⟨u13, h12, h⟩ := h
    have m14 := ct_X9_lays l (g := g) h12 hT hk_t
    refine yc_Vv (Al := [.int x1, .int x2, .int x3, .int x4, .int x5]) (rest := []) 33 rfl cw_X9_249 cx_10 dX9_set_30 m14 hk_t rfl (by decide) rfl (Nat.le_of_ble_eq_true rfl) ?_
    have hk_t := k_G m14.1.1 (by decide) hk_t
    have hT := m14.1.1.2.2.2
    refine ym 34 (fun B k => z_iconst (v := 0) B dX9_set_33 (by decide) k) ?_
    refine ym 36 (fun B k => z_istore (lv' := [(6, .int 0), (0, .ref t), (1, .int x1), (2, .int x2), (3, .int x3), (4, .int x4), (5, .int x5)]) B dX9_set_34 (by decide) rfl k) ?_
    refine y_sub [(0, .ref t), (1, .int x1), (6, .int 0)] [1, 2, 0] rfl ?_
    exact tl_X9_set_36 h hT hk_t
set_option maxRecDepth 100000 in
set_option maxHeartbeats 4000000 in
theorem ct_X9_check (l : Launch) {g : gx_T} {σ : sx_T} {u : sx_T} {r : Int32} {n0 : Nat} {t : Nat} {x1 : Int32} {x2 : Int32} {x3 : Int32} {x4 : Int32} {x5 : Int32} (h : f_X9_check n0 σ t x1 x2 x3 x4 x5 = some (r, u)) (hT : TS g σ) (hk_t : sx_K σ t = 11) : CT l g yX9_check cX9_check 11 (some .int) 7 177 [.ref t, .int x1, .int x2, .int x3, .int x4, .int x5] (True) u σ (Qxi g r u) := by
  refine yc_met (by decide) (Nat.le_of_ble_eq_true rfl) ?_
  refine yc_lv (show lv_args 0 [.ref t, .int x1, .int x2, .int x3, .int x4, .int x5] = [(0, .ref t), (1, .int x1), (2, .int x2), (3, .int x3), (4, .int x4), (5, .int x5)] from rfl) ?_
  show ZY l g _ _ _ _ _ _ _ _ _ _ _ _ _ _ σ 0 [(0, .ref t), (1, .int x1), (2, .int x2), (3, .int x3), (4, .int x4), (5, .int x5)] []
  unfold f_X9_check at h
  refine ym 1 (fun B k => z_aload_n B dX9_check_0 rfl 0 rfl k) ?_
  refine ym 2 (fun B k => z_iload_n B dX9_check_1 rfl 1 rfl k) ?_
  refine ym 3 (fun B k => z_iload_n B dX9_check_2 rfl 2 rfl k) ?_
  replace h := br_e h
  obtain ⟨r2, h1, h⟩ := h
  have m3 := ct_X9_isStep l (g := g) h1 hT
  refine yc_Si (Al := [.int x1, .int x2]) (rest := [.ref t]) 6 rfl cw_X9_238 dX9_check_3 m3 rfl (by decide) rfl (Nat.le_of_ble_eq_true rfl) ?_
  have hz_r2 := m3.1.2
  refine ym 7 (fun B k => z_iload_n B dX9_check_6 rfl 3 rfl k) ?_
  refine ym 9 (fun B k => z_iload B dX9_check_7 4 rfl k) ?_
  refine ym 11 (fun B k => z_iload B dX9_check_9 5 rfl k) ?_
  replace h := br_e h
  obtain ⟨r5, h4, h⟩ := h
  have m6 := ct_X9_isOperation l (g := g) h4 hT
  refine yc_Si (Al := [.int x3, .int x4, .int x5]) (rest := [.int r2, .ref t]) 14 rfl cw_X9_242 dX9_check_11 m6 rfl (by decide) rfl (Nat.le_of_ble_eq_true rfl) ?_
  have hz_r5 := m6.1.2
  replace h := bd_e h
  obtain ⟨r8, u9, h7, h⟩ := h
  have m10 := ct_X9_needs_ l (g := g) h7 hT hk_t hz_r2 hz_r5
  refine yc_Vi (Al := [.int r2, .int r5]) (rest := []) 17 rfl cw_X9_245 cx_10 dX9_check_14 m10 hk_t rfl (by decide) rfl (Nat.le_of_ble_eq_true rfl) ?_
  have hk_t := k_G m10.1.1 (by decide) hk_t
  have hT := m10.1.1.2.2.2
  have hz_r8 := m10.1.2
  by_cases c11 : r8 = 0
  · replace h := ite_p c11 h
    refine ym 20 (fun B k => z_if_ne (tgt := 22) B dX9_check_17 (by decide) (fun q => absurd c11 q) (fun _ => k)) ?_
    refine ym 21 (fun B k => z_iconst (v := 0) B dX9_check_20 (by decide) k) ?_
    obtain ⟨rfl, rfl⟩ := Prod.mk.inj (Option.some.inj h)
    exact yr_i hT trivial rfl dX9_check_21
  · replace h := ite_n c11 h
    refine ym 22 (fun B k => z_if_ne (tgt := 22) B dX9_check_17 (by decide) (fun _ => k) (fun q => absurd q c11)) ?_
    refine ym 24 (fun B k => z_bipush (v := 20) B dX9_check_22 (by decide) k) ?_
    refine ym 25 (fun B k => z_iload_n B dX9_check_24 rfl 1 rfl k) ?_
    refine ym 26 (fun B k => z_imul B dX9_check_25 k) ?_
    refine ym 27 (fun B k => z_iload_n B dX9_check_26 rfl 2 rfl k) ?_
    refine ym 28 (fun B k => z_iadd B dX9_check_27 k) ?_
    refine ym 30 (fun B k => z_istore (lv' := [(6, .int ((20 * x1) + x2)), (0, .ref t), (1, .int x1), (2, .int x2), (3, .int x3), (4, .int x4), (5, .int x5)]) B dX9_check_28 (by decide) rfl k) ?_
    refine ym 31 (fun B k => z_aload_n B dX9_check_30 rfl 1 rfl k) ?_
    replace h := qv_e h
    obtain ⟨w12, e_w12, h⟩ := h
    have hq_w12 : rk u9 w12 13 := rk_T hT hk_t rfl (by decide) e_w12
    refine ym 34 (fun B k => gf_X9_13 (x := w12) B hk_t e_w12 dX9_check_31 k) ?_
    refine ym 36 (fun B k => z_iload B dX9_check_34 0 rfl k) ?_
    replace h := bq_e h
    obtain ⟨a13, rfl, h⟩ := h
    have hk_a13 := hq_w12 a13 rfl
    replace h := ck_e h
    obtain ⟨hi_14, h⟩ := h
    refine ym 37 (fun B k => z_iald (j := (ti ((20 * x1) + x2))) (x := (sx_I u9 a13 (ti ((20 * x1) + x2)))) B hk_a13 rfl hi_14 rfl dX9_check_36 k) ?_
    refine ym 39 (fun B k => z_istore (lv' := [(7, .int (sx_I u9 a13 (ti ((20 * x1) + x2)))), (6, .int ((20 * x1) + x2)), (0, .ref t), (1, .int x1), (2, .int x2), (3, .int x3), (4, .int x4), (5, .int x5)]) B dX9_check_37 (by decide) rfl k) ?_
    refine ym 40 (fun B k => z_aload_n B dX9_check_39 rfl 2 rfl k) ?_
    replace h := qv_e h
    obtain ⟨w15, e_w15, h⟩ := h
    have hq_w15 : rk u9 w15 13 := rk_T hT hk_t rfl (by decide) e_w15
    refine ym 43 (fun B k => gf_X9_17 (x := w15) B hk_t e_w15 dX9_check_40 k) ?_
    refine ym 45 (fun B k => z_iload B dX9_check_43 1 rfl k) ?_
    replace h := bq_e h
    obtain ⟨a16, rfl, h⟩ := h
    have hk_a16 := hq_w15 a16 rfl
    replace h := ck_e h
    obtain ⟨hi_17, h⟩ := h
    refine ym 46 (fun B k => z_iald (j := (ti ((20 * x1) + x2))) (x := (sx_I u9 a16 (ti ((20 * x1) + x2)))) B hk_a16 rfl hi_17 rfl dX9_check_45 k) ?_
    refine ym 48 (fun B k => z_istore (lv' := [(8, .int (sx_I u9 a16 (ti ((20 * x1) + x2)))), (7, .int (sx_I u9 a13 (ti ((20 * x1) + x2)))), (6, .int ((20 * x1) + x2)), (0, .ref t), (1, .int x1), (2, .int x2), (3, .int x3), (4, .int x4), (5, .int x5)]) B dX9_check_46 (by decide) rfl k) ?_
    refine ym 49 (fun B k => z_aload_n B dX9_check_48 rfl 3 rfl k) ?_
    replace h := qv_e h
    obtain ⟨w18, e_w18, h⟩ := h
    have hq_w18 : rk u9 w18 13 := rk_T hT hk_t rfl (by decide) e_w18
    refine ym 52 (fun B k => gf_X9_20 (x := w18) B hk_t e_w18 dX9_check_49 k) ?_
    refine ym 54 (fun B k => z_iload B dX9_check_52 2 rfl k) ?_
    replace h := bq_e h
    obtain ⟨a19, rfl, h⟩ := h
    have hk_a19 := hq_w18 a19 rfl
    replace h := ck_e h
    obtain ⟨hi_20, h⟩ := h
    refine ym 55 (fun B k => z_iald (j := (ti ((20 * x1) + x2))) (x := (sx_I u9 a19 (ti ((20 * x1) + x2)))) B hk_a19 rfl hi_20 rfl dX9_check_54 k) ?_
    refine ym 57 (fun B k => z_istore (lv' := [(9, .int (sx_I u9 a19 (ti ((20 * x1) + x2)))), (8, .int (sx_I u9 a16 (ti ((20 * x1) + x2)))), (7, .int (sx_I u9 a13 (ti ((20 * x1) + x2)))), (6, .int ((20 * x1) + x2)), (0, .ref t), (1, .int x1), (2, .int x2), (3, .int x3), (4, .int x4), (5, .int x5)]) B dX9_check_55 (by decide) rfl k) ?_
    refine ym 58 (fun B k => z_aload_n B dX9_check_57 rfl 4 rfl k) ?_
    refine ym 59 (fun B k => z_iload_n B dX9_check_58 rfl 5 rfl k) ?_
    refine ym 60 (fun B k => z_iload_n B dX9_check_59 rfl 6 rfl k) ?_
    refine ym 61 (fun B k => z_iload_n B dX9_check_60 rfl 7 rfl k) ?_
    refine ym 63 (fun B k => z_iload B dX9_check_61 8 rfl k) ?_
    refine ym 65 (fun B k => z_iload B dX9_check_63 9 rfl k) ?_
    replace h := br_e h
    obtain ⟨u22, h21, h⟩ := h
    have m23 := ct_X9_lays l (g := g) h21 hT hk_t
    refine yc_Vv (Al := [.int x1, .int x2, .int x3, .int x4, .int x5]) (rest := []) 68 rfl cw_X9_249 cx_10 dX9_check_65 m23 hk_t rfl (by decide) rfl (Nat.le_of_ble_eq_true rfl) ?_
    have hk_t := k_G m23.1.1 (by decide) hk_t
    have hT := m23.1.1.2.2.2
    refine ym 69 (fun B k => z_aload_n B dX9_check_68 rfl 4 rfl k) ?_
    refine ym 70 (fun B k => z_iload_n B dX9_check_69 rfl 5 rfl k) ?_
    replace h := bd_e h
    obtain ⟨r25, u26, h24, h⟩ := h
    have m27 := ct_X9_unfit l (g := g) h24 hT hk_t
    refine yc_Vi (Al := [.int x1]) (rest := []) 73 rfl cw_X9_256 cx_10 dX9_check_70 m27 hk_t rfl (by decide) rfl (Nat.le_of_ble_eq_true rfl) ?_
    have hk_t := k_G m27.1.1 (by decide) hk_t
    have hT := m27.1.1.2.2.2
    refine ym 75 (fun B k => z_istore (lv' := [(10, .int r25), (9, .int (sx_I u9 a19 (ti ((20 * x1) + x2)))), (8, .int (sx_I u9 a16 (ti ((20 * x1) + x2)))), (7, .int (sx_I u9 a13 (ti ((20 * x1) + x2)))), (6, .int ((20 * x1) + x2)), (0, .ref t), (1, .int x1), (2, .int x2), (3, .int x3), (4, .int x4), (5, .int x5)]) B dX9_check_73 (by decide) rfl k) ?_
    refine ym 76 (fun B k => z_aload_n B dX9_check_75 rfl 5 rfl k) ?_
    refine ym 77 (fun B k => z_iload_n B dX9_check_76 rfl 6 rfl k) ?_
    refine ym 78 (fun B k => z_iload_n B dX9_check_77 rfl 7 rfl k) ?_
    refine ym 80 (fun B k => z_iload B dX9_check_78 3 rfl k) ?_
    refine ym 82 (fun B k => z_iload B dX9_check_80 2 rfl k) ?_
    refine ym 84 (fun B k => z_iload B dX9_check_82 1 rfl k) ?_
    replace h := br_e h
    obtain ⟨u29, h28, h⟩ := h
    have m30 := ct_X9_lays l (g := g) h28 hT hk_t
    refine yc_Vv (Al := [.int x1, .int x2, .int (sx_I u9 a13 (ti ((20 * x1) + x2))), .int (sx_I u9 a16 (ti ((20 * x1) + x2))), .int (sx_I u9 a19 (ti ((20 * x1) + x2)))]) (rest := []) 87 rfl cw_X9_249 cx_10 dX9_check_84 m30 hk_t rfl (by decide) rfl (Nat.le_of_ble_eq_true rfl) ?_
    have hk_t := k_G m30.1.1 (by decide) hk_t
    have hT := m30.1.1.2.2.2
    refine ym 89 (fun B k => z_iload B dX9_check_87 0 rfl k) ?_
    obtain ⟨rfl, rfl⟩ := Prod.mk.inj (Option.some.inj h)
    exact yr_i hT trivial rfl dX9_check_89
set_option maxRecDepth 100000 in
set_option maxHeartbeats 4000000 in
theorem tb_X9_needs___26 {l : Launch} {g : gx_T} {σ : sx_T} {u : sx_T} {r : Int32} {As : Array Value}  {t : Nat} {y0 : Int32} (h : fb_X9_needs___26 σ t y0 = some (r, u)) (hT : TS g σ) (hk_t : sx_K σ t = 11) : ZY l g cX9_needs__ RX9 "needs" (some .boolean) 4 0 0 0 0 false As (QM g As (Qxi g r u)) (r = 0 ∨ r = 1) u σ 26 [(0, .ref t)] [.int y0, .ref t] := by
  unfold fb_X9_needs___26 at h
  have j1 := hk_t
  refine ymw (σ' := (wx_I σ t 0 y0)) 29 e_I (fun B hin k => pf_X9_90 (x := y0) B hk_t rfl dX9_needs___26 k) ?_
  have hT := TS_I (k := 0) (x := y0) hT hk_t (Or.inl rfl)
  have hk_t := kk_I (σ := σ) (a := t) (k := 0) (x := y0) hk_t
  refine ym 30 (fun B k => z_aload_n B dX9_needs___29 rfl 0 rfl k) ?_
  refine ym 33 (fun B k => gf_X9_90 (x := y0) B hk_t rI_s dX9_needs___30 k) ?_
  by_cases c2 : y0 = 0
  · replace h := ite_p c2 h
    refine ym 36 (fun B k => z_if_ne (tgt := 40) B dX9_needs___33 (by decide) (fun q => absurd c2 q) (fun _ => k)) ?_
    refine ym 37 (fun B k => z_iconst (v := 1) B dX9_needs___36 (by decide) k) ?_
    refine ym 41 (fun B k => z_goto (tgt := 41) B dX9_needs___37 (by decide) k) ?_
    obtain ⟨rfl, rfl⟩ := Prod.mk.inj (Option.some.inj h)
    exact yr_z hT (Or.inr rfl) rfl (Or.inr rfl) dX9_needs___41
  · replace h := ite_n c2 h
    refine ym 40 (fun B k => z_if_ne (tgt := 40) B dX9_needs___33 (by decide) (fun _ => k) (fun q => absurd q c2)) ?_
    refine ym 41 (fun B k => z_iconst (v := 0) B dX9_needs___40 (by decide) k) ?_
    obtain ⟨rfl, rfl⟩ := Prod.mk.inj (Option.some.inj h)
    exact yr_z hT (Or.inl rfl) rfl (Or.inl rfl) dX9_needs___41
set_option maxRecDepth 100000 in
set_option maxHeartbeats 4000000 in
theorem ct_X9_needs__ (l : Launch) {g : gx_T} {σ : sx_T} {u : sx_T} {r : Int32}  {t : Nat} {x1 : Int32} {x2 : Int32} {x3 : Int32} (h : f_X9_needs__ σ t x1 x2 x3 = some (r, u)) (hT : TS g σ) (hk_t : sx_K σ t = 11) (hz_x1 : x1 = 0 ∨ x1 = 1) (hz_x2 : x2 = 0 ∨ x2 = 1) (hz_x3 : x3 = 0 ∨ x3 = 1) : CT l g yX9_needs__ cX9_needs__ 4 (some .boolean) 0 0 [.ref t, .int x1, .int x2, .int x3] (r = 0 ∨ r = 1) u σ (Qxi g r u) := by
  refine yc_met (by decide) (Nat.le_of_ble_eq_true rfl) ?_
  refine yc_lv (show lv_args 0 [.ref t, .int x1, .int x2, .int x3] = [(0, .ref t), (1, .int x1), (2, .int x2), (3, .int x3)] from rfl) ?_
  show ZY l g _ _ _ _ _ _ _ _ _ _ _ _ _ _ σ 0 [(0, .ref t), (1, .int x1), (2, .int x2), (3, .int x3)] []
  unfold f_X9_needs__ at h
  refine ym 1 (fun B k => z_aload_n B dX9_needs___0 rfl 0 rfl k) ?_
  refine ym 2 (fun B k => z_iload_n B dX9_needs___1 rfl 1 rfl k) ?_
  by_cases c1 : x1 = 0
  · replace h := ite_p c1 h
    refine ym 5 (fun B k => z_if_ne (tgt := 9) B dX9_needs___2 (by decide) (fun q => absurd c1 q) (fun _ => k)) ?_
    refine ym 6 (fun B k => z_iconst (v := 1) B dX9_needs___5 (by decide) k) ?_
    refine ym 26 (fun B k => z_goto (tgt := 26) B dX9_needs___6 (by decide) k) ?_
    refine y_sub [(0, .ref t)] [0] rfl ?_
    exact tb_X9_needs___26 h hT hk_t
  · replace h := ite_n c1 h
    refine ym 9 (fun B k => z_if_ne (tgt := 9) B dX9_needs___2 (by decide) (fun _ => k) (fun q => absurd q c1)) ?_
    refine ym 10 (fun B k => z_iload_n B dX9_needs___9 rfl 2 rfl k) ?_
    by_cases c2 : x2 = 0
    · replace h := ite_p c2 h
      refine ym 13 (fun B k => z_if_ne (tgt := 17) B dX9_needs___10 (by decide) (fun q => absurd c2 q) (fun _ => k)) ?_
      refine ym 14 (fun B k => z_iconst (v := 2) B dX9_needs___13 (by decide) k) ?_
      refine ym 26 (fun B k => z_goto (tgt := 26) B dX9_needs___14 (by decide) k) ?_
      refine y_sub [(0, .ref t)] [0] rfl ?_
      exact tb_X9_needs___26 h hT hk_t
    · replace h := ite_n c2 h
      refine ym 17 (fun B k => z_if_ne (tgt := 17) B dX9_needs___10 (by decide) (fun _ => k) (fun q => absurd q c2)) ?_
      refine ym 18 (fun B k => z_iload_n B dX9_needs___17 rfl 3 rfl k) ?_
      by_cases c3 : x3 = 0
      · replace h := ite_p c3 h
        refine ym 25 (fun B k => z_if_eq (tgt := 25) B dX9_needs___18 (by decide) (fun _ => k) (fun q => absurd c3 q)) ?_
        refine ym 26 (fun B k => z_iconst (v := 3) B dX9_needs___25 (by decide) k) ?_
        refine y_sub [(0, .ref t)] [0] rfl ?_
        exact tb_X9_needs___26 h hT hk_t
      · replace h := ite_n c3 h
        refine ym 21 (fun B k => z_if_eq (tgt := 25) B dX9_needs___18 (by decide) (fun q => absurd q c3) (fun _ => k)) ?_
        refine ym 22 (fun B k => z_iconst (v := 0) B dX9_needs___21 (by decide) k) ?_
        refine ym 26 (fun B k => z_goto (tgt := 26) B dX9_needs___22 (by decide) k) ?_
        refine y_sub [(0, .ref t)] [0] rfl ?_
        exact tb_X9_needs___26 h hT hk_t
set_option maxRecDepth 100000 in
set_option maxHeartbeats 4000000 in
theorem tb_X9_start_31 {l : Launch} {g : gx_T} {σ : sx_T} {u : sx_T} {r : Int32} {As : Array Value} {n0 : Nat} {t : Nat} {x1 : Int32} {x2 : Int32} {y0 : Int32} {y1 : Int32} {y2 : Int32} (h : fb_X9_start_31 n0 σ t x1 x2 y0 y1 y2 = some (r, u)) (hT : TS g σ) (hk_t : sx_K σ t = 11) (hz_y0 : y0 = 0 ∨ y0 = 1) (hz_y1 : y1 = 0 ∨ y1 = 1) (hz_y2 : y2 = 0 ∨ y2 = 1) : ZY l g cX9_start RX9 "start" (some .int) 4 8 206 0 0 false As (QM g As (Qxi g r u)) (True) u σ 31 [(0, .ref t), (1, .int x1), (2, .int x2)] [.int y0, .int y1, .int y2, .ref t] := by
  unfold fb_X9_start_31 at h
  replace h := bd_e h
  obtain ⟨r2, u3, h1, h⟩ := h
  have m4 := ct_X9_needs__ l (g := g) h1 hT hk_t hz_y2 hz_y1 hz_y0
  refine yc_Vi (Al := [.int y2, .int y1, .int y0]) (rest := []) 34 rfl cw_X9_259 cx_10 dX9_start_31 m4 hk_t rfl (by decide) rfl (Nat.le_of_ble_eq_true rfl) ?_
  have hk_t := k_G m4.1.1 (by decide) hk_t
  have hT := m4.1.1.2.2.2
  have hz_r2 := m4.1.2
  by_cases c5 : r2 = 0
  · replace h := ite_p c5 h
    refine ym 37 (fun B k => z_if_ne (tgt := 39) B dX9_start_34 (by decide) (fun q => absurd c5 q) (fun _ => k)) ?_
    refine ym 38 (fun B k => z_iconst (v := 0) B dX9_start_37 (by decide) k) ?_
    obtain ⟨rfl, rfl⟩ := Prod.mk.inj (Option.some.inj h)
    exact yr_i hT trivial rfl dX9_start_38
  · replace h := ite_n c5 h
    refine ym 39 (fun B k => z_if_ne (tgt := 39) B dX9_start_34 (by decide) (fun _ => k) (fun q => absurd q c5)) ?_
    refine ym 40 (fun B k => z_aload_n B dX9_start_39 rfl 0 rfl k) ?_
    refine ym 41 (fun B k => z_iload_n B dX9_start_40 rfl 1 rfl k) ?_
    refine ym 42 (fun B k => z_iload_n B dX9_start_41 rfl 2 rfl k) ?_
    refine ym 43 (fun B k => z_iconst (v := (-1)) B dX9_start_42 (by decide) k) ?_
    refine ym 44 (fun B k => z_iconst (v := (-1)) B dX9_start_43 (by decide) k) ?_
    replace h := bd_e h
    obtain ⟨r7, u8, h6, h⟩ := h
    have m9 := ct_X9_begets l (g := g) h6 hT hk_t
    refine yc_Vi (Al := [.int x1, .int x2, .int (-1), .int (-1)]) (rest := []) 47 rfl cw_X9_168 cx_10 dX9_start_44 m9 hk_t rfl (by decide) rfl (Nat.le_of_ble_eq_true rfl) ?_
    have hk_t := k_G m9.1.1 (by decide) hk_t
    have hT := m9.1.1.2.2.2
    refine ym 48 (fun B k => z_istore_n (lv' := [(3, .int r7), (0, .ref t), (1, .int x1), (2, .int x2)]) B dX9_start_47 rfl (by decide) rfl k) ?_
    refine ym 49 (fun B k => z_aload_n B dX9_start_48 rfl 1 rfl k) ?_
    refine ym 50 (fun B k => z_iload_n B dX9_start_49 rfl 0 rfl k) ?_
    replace h := br_e h
    obtain ⟨u11, h10, h⟩ := h
    have m12 := ct_X9_runs l (g := g) h10 hT hk_t
    refine yc_Vv (Al := [.int r7]) (rest := []) 53 rfl cw_X9_253 cx_10 dX9_start_50 m12 hk_t rfl (by decide) rfl (Nat.le_of_ble_eq_true rfl) ?_
    have hk_t := k_G m12.1.1 (by decide) hk_t
    have hT := m12.1.1.2.2.2
    refine ym 54 (fun B k => z_iload_n B dX9_start_53 rfl 0 rfl k) ?_
    obtain ⟨rfl, rfl⟩ := Prod.mk.inj (Option.some.inj h)
    exact yr_i hT trivial rfl dX9_start_54
set_option maxRecDepth 100000 in
set_option maxHeartbeats 4000000 in
theorem ct_X9_start (l : Launch) {g : gx_T} {σ : sx_T} {u : sx_T} {r : Int32} {n0 : Nat} {t : Nat} {x1 : Int32} {x2 : Int32} (h : f_X9_start n0 σ t x1 x2 = some (r, u)) (hT : TS g σ) (hk_t : sx_K σ t = 11) : CT l g yX9_start cX9_start 4 (some .int) 8 206 [.ref t, .int x1, .int x2] (True) u σ (Qxi g r u) := by
  refine yc_met (by decide) (Nat.le_of_ble_eq_true rfl) ?_
  refine yc_lv (show lv_args 0 [.ref t, .int x1, .int x2] = [(0, .ref t), (1, .int x1), (2, .int x2)] from rfl) ?_
  show ZY l g _ _ _ _ _ _ _ _ _ _ _ _ _ _ σ 0 [(0, .ref t), (1, .int x1), (2, .int x2)] []
  unfold f_X9_start at h
  refine ym 1 (fun B k => z_aload_n B dX9_start_0 rfl 0 rfl k) ?_
  refine ym 2 (fun B k => z_iload_n B dX9_start_1 rfl 1 rfl k) ?_
  refine ym 3 (fun B k => z_iconst (v := 0) B dX9_start_2 (by decide) k) ?_
  refine ym 4 (fun B k => z_iconst (v := 5) B dX9_start_3 (by decide) k) ?_
  replace h := br_e h
  obtain ⟨r2, h1, h⟩ := h
  have m3 := ct_X9_in l (g := g) h1 hT
  refine yc_Si (Al := [.int x1, .int 0, .int 5]) (rest := [.ref t]) 7 rfl cw_X9_96 dX9_start_4 m3 rfl (by decide) rfl (Nat.le_of_ble_eq_true rfl) ?_
  have hz_r2 := m3.1.2
  refine ym 8 (fun B k => z_iload_n B dX9_start_7 rfl 2 rfl k) ?_
  refine ym 11 (fun B k => z_sipush (v := (-999)) B dX9_start_8 (by decide) k) ?_
  refine ym 14 (fun B k => z_sipush (v := 999) B dX9_start_11 (by decide) k) ?_
  replace h := br_e h
  obtain ⟨r5, h4, h⟩ := h
  have m6 := ct_X9_in l (g := g) h4 hT
  refine yc_Si (Al := [.int x2, .int (-999), .int 999]) (rest := [.int r2, .ref t]) 17 rfl cw_X9_96 dX9_start_14 m6 rfl (by decide) rfl (Nat.le_of_ble_eq_true rfl) ?_
  have hz_r5 := m6.1.2
  refine ym 18 (fun B k => z_aload_n B dX9_start_17 rfl 0 rfl k) ?_
  refine ym 21 (fun B k => gf_X9_93 (x := (sx_I σ t 6)) B hk_t rfl dX9_start_18 k) ?_
  refine ym 23 (fun B k => z_bipush (v := 40) B dX9_start_21 (by decide) k) ?_
  by_cases c7 : 40 ≤ (sx_I σ t 6)
  · replace h := ite_p c7 h
    refine ym 30 (fun B k => z_icmp_ge (tgt := 30) B dX9_start_23 (by decide) (fun _ => k) (fun q => absurd c7 q)) ?_
    refine ym 31 (fun B k => z_iconst (v := 0) B dX9_start_30 (by decide) k) ?_
    refine y_sub [(0, .ref t), (1, .int x1), (2, .int x2)] [0, 1, 2] rfl ?_
    exact tb_X9_start_31 h hT hk_t (Or.inl rfl) hz_r5 hz_r2
  · replace h := ite_n c7 h
    refine ym 26 (fun B k => z_icmp_ge (tgt := 30) B dX9_start_23 (by decide) (fun q => absurd q c7) (fun _ => k)) ?_
    refine ym 27 (fun B k => z_iconst (v := 1) B dX9_start_26 (by decide) k) ?_
    refine ym 31 (fun B k => z_goto (tgt := 31) B dX9_start_27 (by decide) k) ?_
    refine y_sub [(0, .ref t), (1, .int x1), (2, .int x2)] [0, 1, 2] rfl ?_
    exact tb_X9_start_31 h hT hk_t (Or.inr rfl) hz_r5 hz_r2
set_option maxRecDepth 100000 in
set_option maxHeartbeats 4000000 in
theorem ct_X9_isWorkflow (l : Launch) {g : gx_T} {σ : sx_T} {r : Int32}  {t : Nat} {x1 : Int32} (h : f_X9_isWorkflow σ t x1 = some r) (hT : TS g σ) (hk_t : sx_K σ t = 11) : CT l g yX9_isWorkflow cX9_isWorkflow 2 (some .boolean) 1 22 [.ref t, .int x1] (r = 0 ∨ r = 1) σ σ (Qxi g r σ) := by
  refine yc_met (by decide) (Nat.le_of_ble_eq_true rfl) ?_
  refine yc_lv (show lv_args 0 [.ref t, .int x1] = [(0, .ref t), (1, .int x1)] from rfl) ?_
  show ZY l g _ _ _ _ _ _ _ _ _ _ _ _ _ _ σ 0 [(0, .ref t), (1, .int x1)] []
  unfold f_X9_isWorkflow at h
  refine ym 1 (fun B k => z_iload_n B dX9_isWorkflow_0 rfl 1 rfl k) ?_
  refine ym 2 (fun B k => z_iconst (v := 0) B dX9_isWorkflow_1 (by decide) k) ?_
  refine ym 3 (fun B k => z_aload_n B dX9_isWorkflow_2 rfl 0 rfl k) ?_
  refine ym 6 (fun B k => gf_X9_93 (x := (sx_I σ t 6)) B hk_t rfl dX9_isWorkflow_3 k) ?_
  refine ym 7 (fun B k => z_iconst (v := 1) B dX9_isWorkflow_6 (by decide) k) ?_
  refine ym 8 (fun B k => z_isub B dX9_isWorkflow_7 k) ?_
  replace h := br_e h
  obtain ⟨r2, h1, h⟩ := h
  have m3 := ct_X9_in l (g := g) h1 hT
  refine yc_Si (Al := [.int x1, .int 0, .int ((sx_I σ t 6) - 1)]) (rest := []) 11 rfl cw_X9_96 dX9_isWorkflow_8 m3 rfl (by decide) rfl (Nat.le_of_ble_eq_true rfl) ?_
  have hz_r2 := m3.1.2
  obtain rfl := Option.some.inj h
  exact yr_z hT hz_r2 rfl hz_r2 dX9_isWorkflow_11
set_option maxRecDepth 100000 in
set_option maxHeartbeats 4000000 in
theorem ct_X9_tells (l : Launch) {g : gx_T} {σ : sx_T} {u : sx_T} {r : Int32} {n0 : Nat} {t : Nat} {x1 : Int32} {x2 : Int32} {x3 : Int64} (h : f_X9_tells n0 σ t x1 x2 x3 = some (r, u)) (hT : TS g σ) (hk_t : sx_K σ t = 11) : CT l g yX9_tells cX9_tells 5 (some .boolean) 8 206 [.ref t, .int x1, .int x2, .long x3] (r = 0 ∨ r = 1) u σ (Qxi g r u) := by
  refine yc_met (by decide) (Nat.le_of_ble_eq_true rfl) ?_
  refine yc_lv (show lv_args 0 [.ref t, .int x1, .int x2, .long x3] = [(0, .ref t), (1, .int x1), (2, .int x2), (3, .long x3)] from rfl) ?_
  show ZY l g _ _ _ _ _ _ _ _ _ _ _ _ _ _ σ 0 [(0, .ref t), (1, .int x1), (2, .int x2), (3, .long x3)] []
  unfold f_X9_tells at h
  refine ym 1 (fun B k => z_aload_n B dX9_tells_0 rfl 0 rfl k) ?_
  replace h := qv_e h
  obtain ⟨w1, e_w1, h⟩ := h
  have hq_w1 : rk σ w1 13 := rk_T hT hk_t rfl (by decide) e_w1
  refine ym 4 (fun B k => gf_X9_32 (x := w1) B hk_t e_w1 dX9_tells_1 k) ?_
  refine ym 5 (fun B k => z_iload_n B dX9_tells_4 rfl 1 rfl k) ?_
  replace h := bq_e h
  obtain ⟨a2, rfl, h⟩ := h
  have hk_a2 := hq_w1 a2 rfl
  replace h := ck_e h
  obtain ⟨hi_3, h⟩ := h
  refine ym 6 (fun B k => z_iald (j := (ti x1)) (x := (sx_I σ a2 (ti x1))) B hk_a2 rfl hi_3 rfl dX9_tells_5 k) ?_
  by_cases c4 : 0 < (sx_I σ a2 (ti x1))
  · replace h := ite_p c4 h
    refine ym 20 (fun B k => z_if_gt (tgt := 20) B dX9_tells_6 (by decide) (fun _ => k) (fun q => absurd c4 q)) ?_
    refine ym 21 (fun B k => z_iconst (v := 0) B dX9_tells_20 (by decide) k) ?_
    obtain ⟨rfl, rfl⟩ := Prod.mk.inj (Option.some.inj h)
    exact yr_z hT (Or.inl rfl) rfl (Or.inl rfl) dX9_tells_21
  · replace h := ite_n c4 h
    refine ym 9 (fun B k => z_if_gt (tgt := 20) B dX9_tells_6 (by decide) (fun q => absurd q c4) (fun _ => k)) ?_
    refine ym 10 (fun B k => z_aload_n B dX9_tells_9 rfl 0 rfl k) ?_
    replace h := qv_e h
    obtain ⟨w5, e_w5, h⟩ := h
    have hq_w5 : rk σ w5 13 := rk_T hT hk_t rfl (by decide) e_w5
    refine ym 13 (fun B k => gf_X9_35 (x := w5) B hk_t e_w5 dX9_tells_10 k) ?_
    refine ym 14 (fun B k => z_iload_n B dX9_tells_13 rfl 1 rfl k) ?_
    replace h := bq_e h
    obtain ⟨a6, rfl, h⟩ := h
    have hk_a6 := hq_w5 a6 rfl
    replace h := ck_e h
    obtain ⟨hi_7, h⟩ := h
    refine ym 15 (fun B k => z_iald (j := (ti x1)) (x := (sx_I σ a6 (ti x1))) B hk_a6 rfl hi_7 rfl dX9_tells_14 k) ?_
    refine ym 17 (fun B k => z_bipush (v := 90) B dX9_tells_15 (by decide) k) ?_
    by_cases c8 : (sx_I σ a6 (ti x1)) < 90
    · replace h := ite_p c8 h
      refine ym 22 (fun B k => z_icmp_lt (tgt := 22) B dX9_tells_17 (by decide) (fun _ => k) (fun q => absurd c8 q)) ?_
      refine ym 23 (fun B k => z_aload_n B dX9_tells_22 rfl 0 rfl k) ?_
      refine ym 24 (fun B k => z_iload_n B dX9_tells_23 rfl 1 rfl k) ?_
      refine ym 25 (fun B k => z_iload_n B dX9_tells_24 rfl 2 rfl k) ?_
      refine ym 26 (fun B k => z_lload_n B dX9_tells_25 rfl 3 rfl k) ?_
      replace h := br_e h
      obtain ⟨u10, h9, h⟩ := h
      have m11 := ct_X9_adds l (g := g) h9 hT hk_t
      refine yc_Vv (Al := [.int x1, .int x2, .long x3]) (rest := []) 29 rfl cw_X9_143 cx_10 dX9_tells_26 m11 hk_t rfl (by decide) rfl (Nat.le_of_ble_eq_true rfl) ?_
      have hk_t := k_G m11.1.1 (by decide) hk_t
      have hT := m11.1.1.2.2.2
      refine ym 30 (fun B k => z_aload_n B dX9_tells_29 rfl 0 rfl k) ?_
      refine ym 31 (fun B k => z_iload_n B dX9_tells_30 rfl 1 rfl k) ?_
      replace h := br_e h
      obtain ⟨u13, h12, h⟩ := h
      have m14 := ct_X9_runs l (g := g) h12 hT hk_t
      refine yc_Vv (Al := [.int x1]) (rest := []) 34 rfl cw_X9_253 cx_10 dX9_tells_31 m14 hk_t rfl (by decide) rfl (Nat.le_of_ble_eq_true rfl) ?_
      have hk_t := k_G m14.1.1 (by decide) hk_t
      have hT := m14.1.1.2.2.2
      refine ym 35 (fun B k => z_iconst (v := 1) B dX9_tells_34 (by decide) k) ?_
      obtain ⟨rfl, rfl⟩ := Prod.mk.inj (Option.some.inj h)
      exact yr_z hT (Or.inr rfl) rfl (Or.inr rfl) dX9_tells_35
    · replace h := ite_n c8 h
      refine ym 20 (fun B k => z_icmp_lt (tgt := 22) B dX9_tells_17 (by decide) (fun q => absurd q c8) (fun _ => k)) ?_
      refine ym 21 (fun B k => z_iconst (v := 0) B dX9_tells_20 (by decide) k) ?_
      obtain ⟨rfl, rfl⟩ := Prod.mk.inj (Option.some.inj h)
      exact yr_z hT (Or.inl rfl) rfl (Or.inl rfl) dX9_tells_21
set_option maxRecDepth 100000 in
set_option maxHeartbeats 4000000 in
theorem tb_X9_signal_31 {l : Launch} {g : gx_T} {σ : sx_T} {u : sx_T} {r : Int32} {As : Array Value} {n0 : Nat} {t : Nat} {x1 : Int32} {x2 : Int32} {x3 : Int32} {y0 : Int32} {y1 : Int32} (h : fb_X9_signal_31 n0 σ t x1 x2 x3 y0 y1 = some (r, u)) (hT : TS g σ) (hk_t : sx_K σ t = 11) (hz_y0 : y0 = 0 ∨ y0 = 1) (hz_y1 : y1 = 0 ∨ y1 = 1) : ZY l g cX9_signal RX9 "signal" (some .boolean) 4 9 230 0 0 false As (QM g As (Qxi g r u)) (r = 0 ∨ r = 1) u σ 31 [(0, .ref t), (1, .int x1), (2, .int x2), (3, .int x3)] [.int y0, .int y1, .ref t] := by
  unfold fb_X9_signal_31 at h
  replace h := bd_e h
  obtain ⟨r2, u3, h1, h⟩ := h
  have m4 := ct_X9_needs_ l (g := g) h1 hT hk_t hz_y1 hz_y0
  refine yc_Vi (Al := [.int y1, .int y0]) (rest := []) 34 rfl cw_X9_245 cx_10 dX9_signal_31 m4 hk_t rfl (by decide) rfl (Nat.le_of_ble_eq_true rfl) ?_
  have hk_t := k_G m4.1.1 (by decide) hk_t
  have hT := m4.1.1.2.2.2
  have hz_r2 := m4.1.2
  by_cases c5 : r2 = 0
  · replace h := ite_p c5 h
    refine ym 60 (fun B k => z_if_eq (tgt := 60) B dX9_signal_34 (by decide) (fun _ => k) (fun q => absurd c5 q)) ?_
    refine ym 61 (fun B k => z_iconst (v := 0) B dX9_signal_60 (by decide) k) ?_
    obtain ⟨rfl, rfl⟩ := Prod.mk.inj (Option.some.inj h)
    exact yr_z hT (Or.inl rfl) rfl (Or.inl rfl) dX9_signal_61
  · replace h := ite_n c5 h
    refine ym 37 (fun B k => z_if_eq (tgt := 60) B dX9_signal_34 (by decide) (fun q => absurd q c5) (fun _ => k)) ?_
    refine ym 38 (fun B k => z_aload_n B dX9_signal_37 rfl 0 rfl k) ?_
    refine ym 39 (fun B k => z_iload_n B dX9_signal_38 rfl 1 rfl k) ?_
    refine ym 41 (fun B k => z_bipush (v := 6) B dX9_signal_39 (by decide) k) ?_
    refine ym 44 (fun B k => z_ldc2 (v := 100) B dX9_signal_41 wg_1238 k) ?_
    refine ym 45 (fun B k => z_iload_n B dX9_signal_44 rfl 2 rfl k) ?_
    refine ym 46 (fun B k => z_i2l (v := x2.toInt64) B dX9_signal_45 rfl k) ?_
    refine ym 47 (fun B k => z_lmul B dX9_signal_46 k) ?_
    refine ym 48 (fun B k => z_iload_n B dX9_signal_47 rfl 3 rfl k) ?_
    refine ym 49 (fun B k => z_i2l (v := x3.toInt64) B dX9_signal_48 rfl k) ?_
    refine ym 50 (fun B k => z_ladd B dX9_signal_49 k) ?_
    replace h := bd_e h
    obtain ⟨r7, u8, h6, h⟩ := h
    have m9 := ct_X9_tells l (g := g) h6 hT hk_t
    refine yc_Vi (Al := [.int x1, .int 6, .long ((100 * x2.toInt64) + x3.toInt64)]) (rest := []) 53 rfl cw_X9_265 cx_10 dX9_signal_50 m9 hk_t rfl (by decide) rfl (Nat.le_of_ble_eq_true rfl) ?_
    have hk_t := k_G m9.1.1 (by decide) hk_t
    have hT := m9.1.1.2.2.2
    have hz_r7 := m9.1.2
    by_cases c10 : r7 = 0
    · replace h := ite_p c10 h
      refine ym 60 (fun B k => z_if_eq (tgt := 60) B dX9_signal_53 (by decide) (fun _ => k) (fun q => absurd c10 q)) ?_
      refine ym 61 (fun B k => z_iconst (v := 0) B dX9_signal_60 (by decide) k) ?_
      obtain ⟨rfl, rfl⟩ := Prod.mk.inj (Option.some.inj h)
      exact yr_z hT (Or.inl rfl) rfl (Or.inl rfl) dX9_signal_61
    · replace h := ite_n c10 h
      refine ym 56 (fun B k => z_if_eq (tgt := 60) B dX9_signal_53 (by decide) (fun q => absurd q c10) (fun _ => k)) ?_
      refine ym 57 (fun B k => z_iconst (v := 1) B dX9_signal_56 (by decide) k) ?_
      refine ym 61 (fun B k => z_goto (tgt := 61) B dX9_signal_57 (by decide) k) ?_
      obtain ⟨rfl, rfl⟩ := Prod.mk.inj (Option.some.inj h)
      exact yr_z hT (Or.inr rfl) rfl (Or.inr rfl) dX9_signal_61
set_option maxRecDepth 100000 in
set_option maxHeartbeats 4000000 in
theorem tb_X9_signal_30 {l : Launch} {g : gx_T} {σ : sx_T} {u : sx_T} {r : Int32} {As : Array Value} {n0 : Nat} {t : Nat} {x1 : Int32} {x2 : Int32} {x3 : Int32} {y0 : Int32} (h : fb_X9_signal_30 n0 σ t x1 x2 x3 y0 = some (r, u)) (hT : TS g σ) (hk_t : sx_K σ t = 11) (hz_y0 : y0 = 0 ∨ y0 = 1) : ZY l g cX9_signal RX9 "signal" (some .boolean) 4 9 230 0 0 false As (QM g As (Qxi g r u)) (r = 0 ∨ r = 1) u σ 30 [(0, .ref t), (1, .int x1), (2, .int x2), (3, .int x3)] [.int y0, .ref t] := by
  unfold fb_X9_signal_30 at h
  refine ym 31 (fun B k => z_iconst (v := 0) B dX9_signal_30 (by decide) k) ?_
  refine y_sub [(0, .ref t), (1, .int x1), (2, .int x2), (3, .int x3)] [0, 1, 2, 3] rfl ?_
  exact tb_X9_signal_31 h hT hk_t (Or.inl rfl) hz_y0
set_option maxRecDepth 100000 in
set_option maxHeartbeats 4000000 in
theorem ct_X9_signal (l : Launch) {g : gx_T} {σ : sx_T} {u : sx_T} {r : Int32} {n0 : Nat} {t : Nat} {x1 : Int32} {x2 : Int32} {x3 : Int32} (h : f_X9_signal n0 σ t x1 x2 x3 = some (r, u)) (hT : TS g σ) (hk_t : sx_K σ t = 11) : CT l g yX9_signal cX9_signal 4 (some .boolean) 9 230 [.ref t, .int x1, .int x2, .int x3] (r = 0 ∨ r = 1) u σ (Qxi g r u) := by
  refine yc_met (by decide) (Nat.le_of_ble_eq_true rfl) ?_
  refine yc_lv (show lv_args 0 [.ref t, .int x1, .int x2, .int x3] = [(0, .ref t), (1, .int x1), (2, .int x2), (3, .int x3)] from rfl) ?_
  show ZY l g _ _ _ _ _ _ _ _ _ _ _ _ _ _ σ 0 [(0, .ref t), (1, .int x1), (2, .int x2), (3, .int x3)] []
  unfold f_X9_signal at h
  refine ym 1 (fun B k => z_aload_n B dX9_signal_0 rfl 0 rfl k) ?_
  refine ym 2 (fun B k => z_aload_n B dX9_signal_1 rfl 0 rfl k) ?_
  refine ym 3 (fun B k => z_iload_n B dX9_signal_2 rfl 1 rfl k) ?_
  replace h := br_e h
  obtain ⟨r2, h1, h⟩ := h
  have m3 := ct_X9_isWorkflow l (g := g) h1 hT hk_t
  refine yc_Vi (Al := [.int x1]) (rest := [.ref t]) 6 rfl cw_X9_262 cx_10 dX9_signal_3 m3 hk_t rfl (by decide) rfl (Nat.le_of_ble_eq_true rfl) ?_
  have hz_r2 := m3.1.2
  refine ym 7 (fun B k => z_iload_n B dX9_signal_6 rfl 2 rfl k) ?_
  refine ym 8 (fun B k => z_iconst (v := 0) B dX9_signal_7 (by decide) k) ?_
  refine ym 10 (fun B k => z_bipush (v := 99) B dX9_signal_8 (by decide) k) ?_
  replace h := br_e h
  obtain ⟨r5, h4, h⟩ := h
  have m6 := ct_X9_in l (g := g) h4 hT
  refine yc_Si (Al := [.int x2, .int 0, .int 99]) (rest := [.int r2, .ref t]) 13 rfl cw_X9_96 dX9_signal_10 m6 rfl (by decide) rfl (Nat.le_of_ble_eq_true rfl) ?_
  have hz_r5 := m6.1.2
  by_cases c7 : r5 = 0
  · replace h := ite_p c7 h
    refine ym 30 (fun B k => z_if_eq (tgt := 30) B dX9_signal_13 (by decide) (fun _ => k) (fun q => absurd c7 q)) ?_
    refine y_sub [(0, .ref t), (1, .int x1), (2, .int x2), (3, .int x3)] [0, 1, 2, 3] rfl ?_
    exact tb_X9_signal_30 h hT hk_t hz_r2
  · replace h := ite_n c7 h
    refine ym 16 (fun B k => z_if_eq (tgt := 30) B dX9_signal_13 (by decide) (fun q => absurd q c7) (fun _ => k)) ?_
    refine ym 17 (fun B k => z_iload_n B dX9_signal_16 rfl 3 rfl k) ?_
    refine ym 18 (fun B k => z_iconst (v := 0) B dX9_signal_17 (by decide) k) ?_
    refine ym 20 (fun B k => z_bipush (v := 99) B dX9_signal_18 (by decide) k) ?_
    replace h := br_e h
    obtain ⟨r9, h8, h⟩ := h
    have m10 := ct_X9_in l (g := g) h8 hT
    refine yc_Si (Al := [.int x3, .int 0, .int 99]) (rest := [.int r2, .ref t]) 23 rfl cw_X9_96 dX9_signal_20 m10 rfl (by decide) rfl (Nat.le_of_ble_eq_true rfl) ?_
    have hz_r9 := m10.1.2
    by_cases c11 : r9 = 0
    · replace h := ite_p c11 h
      refine ym 30 (fun B k => z_if_eq (tgt := 30) B dX9_signal_23 (by decide) (fun _ => k) (fun q => absurd c11 q)) ?_
      refine y_sub [(0, .ref t), (1, .int x1), (2, .int x2), (3, .int x3)] [0, 1, 2, 3] rfl ?_
      exact tb_X9_signal_30 h hT hk_t hz_r2
    · replace h := ite_n c11 h
      refine ym 26 (fun B k => z_if_eq (tgt := 30) B dX9_signal_23 (by decide) (fun q => absurd q c11) (fun _ => k)) ?_
      refine ym 27 (fun B k => z_iconst (v := 1) B dX9_signal_26 (by decide) k) ?_
      refine ym 31 (fun B k => z_goto (tgt := 31) B dX9_signal_27 (by decide) k) ?_
      refine y_sub [(0, .ref t), (1, .int x1), (2, .int x2), (3, .int x3)] [0, 1, 2, 3] rfl ?_
      exact tb_X9_signal_31 h hT hk_t (Or.inr rfl) hz_r2
set_option maxRecDepth 100000 in
set_option maxHeartbeats 4000000 in
theorem tb_X9_needs_10 {l : Launch} {g : gx_T} {σ : sx_T} {u : sx_T} {r : Int32} {As : Array Value}  {x1 : Int32} {y0 : Int32} {t : Nat} (h : fb_X9_needs_10 σ x1 y0 t = some (r, u)) (hT : TS g σ) (hz_x1 : x1 = 0 ∨ x1 = 1) (hz_y0 : y0 = 0 ∨ y0 = 1) (hk_t : sx_K σ t = 11) : ZY l g cX9_needs RX9 "needs" (some .boolean) 2 0 0 0 0 false As (QM g As (Qxi g r u)) (r = 0 ∨ r = 1) u σ 10 [(1, .int x1)] [.int y0, .ref t] := by
  unfold fb_X9_needs_10 at h
  have j1 := hk_t
  refine ymw (σ' := (wx_I σ t 0 y0)) 13 e_I (fun B hin k => pf_X9_90 (x := y0) B hk_t rfl dX9_needs_10 k) ?_
  have hT := TS_I (k := 0) (x := y0) hT hk_t (Or.inl rfl)
  refine ym 14 (fun B k => z_iload_n B dX9_needs_13 rfl 0 rfl k) ?_
  obtain ⟨rfl, rfl⟩ := Prod.mk.inj (Option.some.inj h)
  exact yr_z hT hz_x1 rfl hz_x1 dX9_needs_14
set_option maxRecDepth 100000 in
set_option maxHeartbeats 4000000 in
theorem ct_X9_needs (l : Launch) {g : gx_T} {σ : sx_T} {u : sx_T} {r : Int32}  {t : Nat} {x1 : Int32} (h : f_X9_needs σ t x1 = some (r, u)) (hT : TS g σ) (hk_t : sx_K σ t = 11) (hz_x1 : x1 = 0 ∨ x1 = 1) : CT l g yX9_needs cX9_needs 2 (some .boolean) 0 0 [.ref t, .int x1] (r = 0 ∨ r = 1) u σ (Qxi g r u) := by
  refine yc_met (by decide) (Nat.le_of_ble_eq_true rfl) ?_
  refine yc_lv (show lv_args 0 [.ref t, .int x1] = [(0, .ref t), (1, .int x1)] from rfl) ?_
  show ZY l g _ _ _ _ _ _ _ _ _ _ _ _ _ _ σ 0 [(0, .ref t), (1, .int x1)] []
  unfold f_X9_needs at h
  refine ym 1 (fun B k => z_aload_n B dX9_needs_0 rfl 0 rfl k) ?_
  refine ym 2 (fun B k => z_iload_n B dX9_needs_1 rfl 1 rfl k) ?_
  by_cases c1 : x1 = 0
  · replace h := ite_p c1 h
    refine ym 9 (fun B k => z_if_eq (tgt := 9) B dX9_needs_2 (by decide) (fun _ => k) (fun q => absurd c1 q)) ?_
    refine ym 10 (fun B k => z_iconst (v := 1) B dX9_needs_9 (by decide) k) ?_
    refine y_sub [(1, .int x1)] [1] rfl ?_
    exact tb_X9_needs_10 h hT hz_x1 (Or.inr rfl) hk_t
  · replace h := ite_n c1 h
    refine ym 5 (fun B k => z_if_eq (tgt := 9) B dX9_needs_2 (by decide) (fun q => absurd q c1) (fun _ => k)) ?_
    refine ym 6 (fun B k => z_iconst (v := 0) B dX9_needs_5 (by decide) k) ?_
    refine ym 10 (fun B k => z_goto (tgt := 10) B dX9_needs_6 (by decide) k) ?_
    refine y_sub [(1, .int x1)] [1] rfl ?_
    exact tb_X9_needs_10 h hT hz_x1 (Or.inl rfl) hk_t
set_option maxRecDepth 100000 in
set_option maxHeartbeats 4000000 in
theorem ct_X9_cancel (l : Launch) {g : gx_T} {σ : sx_T} {u : sx_T} {r : Int32} {n0 : Nat} {t : Nat} {x1 : Int32} (h : f_X9_cancel n0 σ t x1 = some (r, u)) (hT : TS g σ) (hk_t : sx_K σ t = 11) : CT l g yX9_cancel cX9_cancel 2 (some .boolean) 9 230 [.ref t, .int x1] (r = 0 ∨ r = 1) u σ (Qxi g r u) := by
  refine yc_met (by decide) (Nat.le_of_ble_eq_true rfl) ?_
  refine yc_lv (show lv_args 0 [.ref t, .int x1] = [(0, .ref t), (1, .int x1)] from rfl) ?_
  show ZY l g _ _ _ _ _ _ _ _ _ _ _ _ _ _ σ 0 [(0, .ref t), (1, .int x1)] []
  unfold f_X9_cancel at h
  refine ym 1 (fun B k => z_aload_n B dX9_cancel_0 rfl 0 rfl k) ?_
  refine ym 2 (fun B k => z_aload_n B dX9_cancel_1 rfl 0 rfl k) ?_
  refine ym 3 (fun B k => z_iload_n B dX9_cancel_2 rfl 1 rfl k) ?_
  replace h := br_e h
  obtain ⟨r2, h1, h⟩ := h
  have m3 := ct_X9_isWorkflow l (g := g) h1 hT hk_t
  refine yc_Vi (Al := [.int x1]) (rest := [.ref t]) 6 rfl cw_X9_262 cx_10 dX9_cancel_3 m3 hk_t rfl (by decide) rfl (Nat.le_of_ble_eq_true rfl) ?_
  have hz_r2 := m3.1.2
  replace h := bd_e h
  obtain ⟨r5, u6, h4, h⟩ := h
  have m7 := ct_X9_needs l (g := g) h4 hT hk_t hz_r2
  refine yc_Vi (Al := [.int r2]) (rest := []) 9 rfl cw_X9_269 cx_10 dX9_cancel_6 m7 hk_t rfl (by decide) rfl (Nat.le_of_ble_eq_true rfl) ?_
  have hk_t := k_G m7.1.1 (by decide) hk_t
  have hT := m7.1.1.2.2.2
  have hz_r5 := m7.1.2
  by_cases c8 : r5 = 0
  · replace h := ite_p c8 h
    refine ym 27 (fun B k => z_if_eq (tgt := 27) B dX9_cancel_9 (by decide) (fun _ => k) (fun q => absurd c8 q)) ?_
    refine ym 28 (fun B k => z_iconst (v := 0) B dX9_cancel_27 (by decide) k) ?_
    obtain ⟨rfl, rfl⟩ := Prod.mk.inj (Option.some.inj h)
    exact yr_z hT (Or.inl rfl) rfl (Or.inl rfl) dX9_cancel_28
  · replace h := ite_n c8 h
    refine ym 12 (fun B k => z_if_eq (tgt := 27) B dX9_cancel_9 (by decide) (fun q => absurd q c8) (fun _ => k)) ?_
    refine ym 13 (fun B k => z_aload_n B dX9_cancel_12 rfl 0 rfl k) ?_
    refine ym 14 (fun B k => z_iload_n B dX9_cancel_13 rfl 1 rfl k) ?_
    refine ym 16 (fun B k => z_bipush (v := 12) B dX9_cancel_14 (by decide) k) ?_
    refine ym 17 (fun B k => z_lconst (v := 0) B dX9_cancel_16 (by decide) k) ?_
    replace h := bd_e h
    obtain ⟨r10, u11, h9, h⟩ := h
    have m12 := ct_X9_tells l (g := g) h9 hT hk_t
    refine yc_Vi (Al := [.int x1, .int 12, .long 0]) (rest := []) 20 rfl cw_X9_265 cx_10 dX9_cancel_17 m12 hk_t rfl (by decide) rfl (Nat.le_of_ble_eq_true rfl) ?_
    have hk_t := k_G m12.1.1 (by decide) hk_t
    have hT := m12.1.1.2.2.2
    have hz_r10 := m12.1.2
    by_cases c13 : r10 = 0
    · replace h := ite_p c13 h
      refine ym 27 (fun B k => z_if_eq (tgt := 27) B dX9_cancel_20 (by decide) (fun _ => k) (fun q => absurd c13 q)) ?_
      refine ym 28 (fun B k => z_iconst (v := 0) B dX9_cancel_27 (by decide) k) ?_
      obtain ⟨rfl, rfl⟩ := Prod.mk.inj (Option.some.inj h)
      exact yr_z hT (Or.inl rfl) rfl (Or.inl rfl) dX9_cancel_28
    · replace h := ite_n c13 h
      refine ym 23 (fun B k => z_if_eq (tgt := 27) B dX9_cancel_20 (by decide) (fun q => absurd q c13) (fun _ => k)) ?_
      refine ym 24 (fun B k => z_iconst (v := 1) B dX9_cancel_23 (by decide) k) ?_
      refine ym 28 (fun B k => z_goto (tgt := 28) B dX9_cancel_24 (by decide) k) ?_
      obtain ⟨rfl, rfl⟩ := Prod.mk.inj (Option.some.inj h)
      exact yr_z hT (Or.inr rfl) rfl (Or.inr rfl) dX9_cancel_28
set_option maxRecDepth 100000 in
set_option maxHeartbeats 4000000 in
theorem tl_X9_copies_3 {l : Launch} {g : gx_T} {u : sx_T} {As : Array Value} {n0 : Nat} : ∀ {n : Nat} {σ : sx_T} {t : Nat} {x1 : Int32} {x2 : Int32} {x3 : Int32} {x4 : Int32}, fl_X9_copies_3 n0 n σ t x1 x2 x3 x4 = some u → TS g σ → sx_K σ t = 11 → ZY l g cX9_copies RX9 "copies" none 5 0 0 0 0 false As (QM g As (Qxv g u)) (True) u σ 3 [(0, .ref t), (1, .int x1), (2, .int x2), (3, .int x3), (4, .int x4)] [] := by
  intro n
  induction n with
  | zero =>
    intro σ t x1 x2 x3 x4 h
    exact nomatch h
  | succ n ih_ =>
    have ih := @ih_
    intro σ t x1 x2 x3 x4 h hT hk_t
    unfold fl_X9_copies_3 at h
    refine ym 5 (fun B k => z_iload B dX9_copies_3 4 rfl k) ?_
    refine ym 6 (fun B k => z_iload_n B dX9_copies_5 rfl 3 rfl k) ?_
    by_cases c1 : x3 ≤ x4
    · replace h := ite_p c1 h
      refine ym 67 (fun B k => z_icmp_ge (tgt := 67) B dX9_copies_6 (by decide) (fun _ => k) (fun q => absurd c1 q)) ?_
      refine ym 68 (fun B k => z_aload_n B dX9_copies_67 rfl 0 rfl k) ?_
      replace h := qv_e h
      obtain ⟨w2, e_w2, h⟩ := h
      have hq_w2 : rk σ w2 13 := rk_T hT hk_t rfl (by decide) e_w2
      refine ym 71 (fun B k => gf_X9_35 (x := w2) B hk_t e_w2 dX9_copies_68 k) ?_
      refine ym 72 (fun B k => z_iload_n B dX9_copies_71 rfl 2 rfl k) ?_
      refine ym 73 (fun B k => z_iload_n B dX9_copies_72 rfl 3 rfl k) ?_
      replace h := bq_e h
      obtain ⟨a3, rfl, h⟩ := h
      have hk_a3 := hq_w2 a3 rfl
      replace h := ck_e h
      obtain ⟨hi_4, h⟩ := h
      have j5 := hk_a3
      refine ymw (σ' := (wx_I σ a3 (ti x2) x3)) 74 e_I (fun B _ k => z_iast (j := (ti x2)) B hk_a3 rfl hi_4 rfl dX9_copies_73 k) ?_
      have hT := TS_I (k := (ti x2)) (x := x3) hT hk_a3 (Or.inl rfl)
      have hk_t := kk_I (σ := σ) (a := a3) (k := (ti x2)) (x := x3) hk_t
      obtain rfl := Option.some.inj h
      exact yr_v hT trivial rfl dX9_copies_74
    · replace h := ite_n c1 h
      refine ym 9 (fun B k => z_icmp_ge (tgt := 67) B dX9_copies_6 (by decide) (fun q => absurd q c1) (fun _ => k)) ?_
      refine ym 10 (fun B k => z_aload_n B dX9_copies_9 rfl 0 rfl k) ?_
      replace h := qv_e h
      obtain ⟨w6, e_w6, h⟩ := h
      have hq_w6 : rk σ w6 13 := rk_T hT hk_t rfl (by decide) e_w6
      refine ym 13 (fun B k => gf_X9_44 (x := w6) B hk_t e_w6 dX9_copies_10 k) ?_
      refine ym 16 (fun B k => z_sipush (v := 160) B dX9_copies_13 (by decide) k) ?_
      refine ym 17 (fun B k => z_iload_n B dX9_copies_16 rfl 2 rfl k) ?_
      refine ym 18 (fun B k => z_imul B dX9_copies_17 k) ?_
      refine ym 20 (fun B k => z_iload B dX9_copies_18 4 rfl k) ?_
      refine ym 21 (fun B k => z_iadd B dX9_copies_20 k) ?_
      refine ym 22 (fun B k => z_aload_n B dX9_copies_21 rfl 0 rfl k) ?_
      replace h := qv_e h
      obtain ⟨w7, e_w7, h⟩ := h
      have hq_w7 : rk σ w7 13 := rk_T hT hk_t rfl (by decide) e_w7
      refine ym 25 (fun B k => gf_X9_44 (x := w7) B hk_t e_w7 dX9_copies_22 k) ?_
      refine ym 28 (fun B k => z_sipush (v := 160) B dX9_copies_25 (by decide) k) ?_
      refine ym 29 (fun B k => z_iload_n B dX9_copies_28 rfl 1 rfl k) ?_
      refine ym 30 (fun B k => z_imul B dX9_copies_29 k) ?_
      refine ym 32 (fun B k => z_iload B dX9_copies_30 4 rfl k) ?_
      refine ym 33 (fun B k => z_iadd B dX9_copies_32 k) ?_
      replace h := bq_e h
      obtain ⟨a8, rfl, h⟩ := h
      have hk_a8 := hq_w7 a8 rfl
      replace h := ck_e h
      obtain ⟨hi_9, h⟩ := h
      refine ym 34 (fun B k => z_iald (j := (ti ((160 * x1) + x4))) (x := (sx_I σ a8 (ti ((160 * x1) + x4)))) B hk_a8 rfl hi_9 rfl dX9_copies_33 k) ?_
      replace h := bq_e h
      obtain ⟨a10, rfl, h⟩ := h
      have hk_a10 := hq_w6 a10 rfl
      replace h := ck_e h
      obtain ⟨hi_11, h⟩ := h
      have j12 := hk_a10
      refine ymw (σ' := (wx_I σ a10 (ti ((160 * x2) + x4)) (sx_I σ a8 (ti ((160 * x1) + x4))))) 35 e_I (fun B _ k => z_iast (j := (ti ((160 * x2) + x4))) B hk_a10 rfl hi_11 rfl dX9_copies_34 k) ?_
      have hT := TS_I (k := (ti ((160 * x2) + x4))) (x := (sx_I σ a8 (ti ((160 * x1) + x4)))) hT hk_a10 (Or.inl rfl)
      have hk_t := kk_I (σ := σ) (a := a10) (k := (ti ((160 * x2) + x4))) (x := (sx_I σ a8 (ti ((160 * x1) + x4)))) hk_t
      refine ym 36 (fun B k => z_aload_n B dX9_copies_35 rfl 0 rfl k) ?_
      replace h := qv_e h
      obtain ⟨w13, e_w13, h⟩ := h
      have hq_w13 : rk (wx_I σ a10 (ti ((160 * x2) + x4)) (sx_I σ a8 (ti ((160 * x1) + x4)))) w13 14 := rk_T hT hk_t rfl (by decide) ((rR_I rfl).trans e_w13)
      refine ym 39 (fun B k => gf_X9_47 (x := w13) B hk_t ((rR_I rfl).trans e_w13) dX9_copies_36 k) ?_
      refine ym 42 (fun B k => z_sipush (v := 160) B dX9_copies_39 (by decide) k) ?_
      refine ym 43 (fun B k => z_iload_n B dX9_copies_42 rfl 2 rfl k) ?_
      refine ym 44 (fun B k => z_imul B dX9_copies_43 k) ?_
      refine ym 46 (fun B k => z_iload B dX9_copies_44 4 rfl k) ?_
      refine ym 47 (fun B k => z_iadd B dX9_copies_46 k) ?_
      refine ym 48 (fun B k => z_aload_n B dX9_copies_47 rfl 0 rfl k) ?_
      replace h := qv_e h
      obtain ⟨w14, e_w14, h⟩ := h
      have hq_w14 : rk (wx_I σ a10 (ti ((160 * x2) + x4)) (sx_I σ a8 (ti ((160 * x1) + x4)))) w14 14 := rk_T hT hk_t rfl (by decide) ((rR_I rfl).trans e_w14)
      refine ym 51 (fun B k => gf_X9_47 (x := w14) B hk_t ((rR_I rfl).trans e_w14) dX9_copies_48 k) ?_
      refine ym 54 (fun B k => z_sipush (v := 160) B dX9_copies_51 (by decide) k) ?_
      refine ym 55 (fun B k => z_iload_n B dX9_copies_54 rfl 1 rfl k) ?_
      refine ym 56 (fun B k => z_imul B dX9_copies_55 k) ?_
      refine ym 58 (fun B k => z_iload B dX9_copies_56 4 rfl k) ?_
      refine ym 59 (fun B k => z_iadd B dX9_copies_58 k) ?_
      replace h := bq_e h
      obtain ⟨a15, rfl, h⟩ := h
      have hk_a15 := hq_w14 a15 rfl
      replace h := ck_e h
      obtain ⟨hi_16, h⟩ := h
      refine ym 60 (fun B k => z_lald (j := (ti ((160 * x1) + x4))) (x := (sx_J σ a15 (ti ((160 * x1) + x4)))) B hk_a15 rfl hi_16 (rJ_I rfl) dX9_copies_59 k) ?_
      replace h := bq_e h
      obtain ⟨a17, rfl, h⟩ := h
      have hk_a17 := hq_w13 a17 rfl
      replace h := ck_e h
      obtain ⟨hi_18, h⟩ := h
      have j19 := hk_a17
      refine ymw (σ' := (wx_J (wx_I σ a10 (ti ((160 * x2) + x4)) (sx_I σ a8 (ti ((160 * x1) + x4)))) a17 (ti ((160 * x2) + x4)) (sx_J σ a15 (ti ((160 * x1) + x4))))) 61 e_J (fun B _ k => z_last (j := (ti ((160 * x2) + x4))) B hk_a17 rfl hi_18 rfl dX9_copies_60 k) ?_
      have hT := TS_J (a := a17) (k := (ti ((160 * x2) + x4))) (x := (sx_J σ a15 (ti ((160 * x1) + x4)))) hT
      have hk_t := kk_J (σ := (wx_I σ a10 (ti ((160 * x2) + x4)) (sx_I σ a8 (ti ((160 * x1) + x4))))) (a := a17) (k := (ti ((160 * x2) + x4))) (x := (sx_J σ a15 (ti ((160 * x1) + x4)))) hk_t
      refine ym 64 (fun B k => z_iinc (v := x4 + 1) (lv' := [(4, .int (x4 + 1)), (0, .ref t), (1, .int x1), (2, .int x2), (3, .int x3)]) B dX9_copies_61 4 rfl rfl (by decide) rfl k) ?_
      refine ym 3 (fun B k => z_goto (tgt := 3) B dX9_copies_64 (by decide) k) ?_
      refine y_sub [(0, .ref t), (1, .int x1), (2, .int x2), (3, .int x3), (4, .int (x4 + 1))] [1, 2, 3, 4, 0] rfl ?_
      exact ih h hT hk_t
set_option maxRecDepth 100000 in
set_option maxHeartbeats 4000000 in
theorem ct_X9_copies (l : Launch) {g : gx_T} {σ : sx_T} {u : sx_T} {n0 : Nat} {t : Nat} {x1 : Int32} {x2 : Int32} {x3 : Int32} (h : f_X9_copies n0 σ t x1 x2 x3 = some u) (hT : TS g σ) (hk_t : sx_K σ t = 11) : CT l g yX9_copies cX9_copies 5 none 0 0 [.ref t, .int x1, .int x2, .int x3] (True) u σ (Qxv g u) := by
  refine yc_met (by decide) (Nat.le_of_ble_eq_true rfl) ?_
  refine yc_lv (show lv_args 0 [.ref t, .int x1, .int x2, .int x3] = [(0, .ref t), (1, .int x1), (2, .int x2), (3, .int x3)] from rfl) ?_
  show ZY l g _ _ _ _ _ _ _ _ _ _ _ _ _ _ σ 0 [(0, .ref t), (1, .int x1), (2, .int x2), (3, .int x3)] []
  unfold f_X9_copies at h
  refine ym 1 (fun B k => z_iconst (v := 0) B dX9_copies_0 (by decide) k) ?_
  refine ym 3 (fun B k => z_istore (lv' := [(4, .int 0), (0, .ref t), (1, .int x1), (2, .int x2), (3, .int x3)]) B dX9_copies_1 (by decide) rfl k) ?_
  refine y_sub [(0, .ref t), (1, .int x1), (2, .int x2), (3, .int x3), (4, .int 0)] [1, 2, 3, 4, 0] rfl ?_
  exact tl_X9_copies_3 h hT hk_t
set_option maxRecDepth 100000 in
set_option maxHeartbeats 4000000 in
theorem ct_X9_canReset (l : Launch) {g : gx_T} {σ : sx_T} {u : sx_T} {r : Int32} {n0 : Nat} {t : Nat} {x1 : Int32} {x2 : Int32} (h : f_X9_canReset n0 σ t x1 x2 = some (r, u)) (hT : TS g σ) (hk_t : sx_K σ t = 11) : CT l g yX9_canReset cX9_canReset 3 (some .boolean) 5 133 [.ref t, .int x1, .int x2] (r = 0 ∨ r = 1) u σ (Qxi g r u) := by
  refine yc_met (by decide) (Nat.le_of_ble_eq_true rfl) ?_
  refine yc_lv (show lv_args 0 [.ref t, .int x1, .int x2] = [(0, .ref t), (1, .int x1), (2, .int x2)] from rfl) ?_
  show ZY l g _ _ _ _ _ _ _ _ _ _ _ _ _ _ σ 0 [(0, .ref t), (1, .int x1), (2, .int x2)] []
  unfold f_X9_canReset at h
  refine ym 1 (fun B k => z_aload_n B dX9_canReset_0 rfl 0 rfl k) ?_
  replace h := qv_e h
  obtain ⟨w1, e_w1, h⟩ := h
  have hq_w1 : rk σ w1 13 := rk_T hT hk_t rfl (by decide) e_w1
  refine ym 4 (fun B k => gf_X9_32 (x := w1) B hk_t e_w1 dX9_canReset_1 k) ?_
  refine ym 5 (fun B k => z_iload_n B dX9_canReset_4 rfl 1 rfl k) ?_
  replace h := bq_e h
  obtain ⟨a2, rfl, h⟩ := h
  have hk_a2 := hq_w1 a2 rfl
  replace h := ck_e h
  obtain ⟨hi_3, h⟩ := h
  refine ym 6 (fun B k => z_iald (j := (ti x1)) (x := (sx_I σ a2 (ti x1))) B hk_a2 rfl hi_3 rfl dX9_canReset_5 k) ?_
  by_cases c4 : (sx_I σ a2 (ti x1)) = 0
  · replace h := ite_p c4 h
    refine ym 18 (fun B k => z_if_eq (tgt := 18) B dX9_canReset_6 (by decide) (fun _ => k) (fun q => absurd c4 q)) ?_
    refine ym 19 (fun B k => z_iconst (v := 0) B dX9_canReset_18 (by decide) k) ?_
    obtain ⟨rfl, rfl⟩ := Prod.mk.inj (Option.some.inj h)
    exact yr_z hT (Or.inl rfl) rfl (Or.inl rfl) dX9_canReset_19
  · replace h := ite_n c4 h
    refine ym 9 (fun B k => z_if_eq (tgt := 18) B dX9_canReset_6 (by decide) (fun q => absurd q c4) (fun _ => k)) ?_
    refine ym 10 (fun B k => z_aload_n B dX9_canReset_9 rfl 0 rfl k) ?_
    refine ym 13 (fun B k => gf_X9_93 (x := (sx_I σ t 6)) B hk_t rfl dX9_canReset_10 k) ?_
    refine ym 15 (fun B k => z_bipush (v := 40) B dX9_canReset_13 (by decide) k) ?_
    by_cases c5 : (sx_I σ t 6) = 40
    · replace h := ite_p c5 h
      refine ym 18 (fun B k => z_icmp_ne (tgt := 20) B dX9_canReset_15 (by decide) (fun q => absurd c5 q) (fun _ => k)) ?_
      refine ym 19 (fun B k => z_iconst (v := 0) B dX9_canReset_18 (by decide) k) ?_
      obtain ⟨rfl, rfl⟩ := Prod.mk.inj (Option.some.inj h)
      exact yr_z hT (Or.inl rfl) rfl (Or.inl rfl) dX9_canReset_19
    · replace h := ite_n c5 h
      refine ym 20 (fun B k => z_icmp_ne (tgt := 20) B dX9_canReset_15 (by decide) (fun _ => k) (fun q => absurd q c5)) ?_
      refine ym 21 (fun B k => z_aload_n B dX9_canReset_20 rfl 0 rfl k) ?_
      replace h := qv_e h
      obtain ⟨w6, e_w6, h⟩ := h
      have hq_w6 : rk σ w6 13 := rk_T hT hk_t rfl (by decide) e_w6
      refine ym 24 (fun B k => gf_X9_23 (x := w6) B hk_t e_w6 dX9_canReset_21 k) ?_
      refine ym 26 (fun B k => z_bipush (v := 40) B dX9_canReset_24 (by decide) k) ?_
      refine ym 27 (fun B k => z_aload_n B dX9_canReset_26 rfl 0 rfl k) ?_
      replace h := qv_e h
      obtain ⟨w7, e_w7, h⟩ := h
      have hq_w7 : rk σ w7 13 := rk_T hT hk_t rfl (by decide) e_w7
      refine ym 30 (fun B k => gf_X9_23 (x := w7) B hk_t e_w7 dX9_canReset_27 k) ?_
      refine ym 31 (fun B k => z_iload_n B dX9_canReset_30 rfl 1 rfl k) ?_
      replace h := bq_e h
      obtain ⟨a8, rfl, h⟩ := h
      have hk_a8 := hq_w7 a8 rfl
      replace h := ck_e h
      obtain ⟨hi_9, h⟩ := h
      refine ym 32 (fun B k => z_iald (j := (ti x1)) (x := (sx_I σ a8 (ti x1))) B hk_a8 rfl hi_9 rfl dX9_canReset_31 k) ?_
      replace h := bq_e h
      obtain ⟨a10, rfl, h⟩ := h
      have hk_a10 := hq_w6 a10 rfl
      replace h := ck_e h
      obtain ⟨hi_11, h⟩ := h
      have j12 := hk_a10
      refine ymw (σ' := (wx_I σ a10 (ti 40) (sx_I σ a8 (ti x1)))) 33 e_I (fun B _ k => z_iast (j := (ti 40)) B hk_a10 rfl hi_11 rfl dX9_canReset_32 k) ?_
      have hT := TS_I (k := (ti 40)) (x := (sx_I σ a8 (ti x1))) hT hk_a10 (Or.inl rfl)
      have hk_t := kk_I (σ := σ) (a := a10) (k := (ti 40)) (x := (sx_I σ a8 (ti x1))) hk_t
      refine ym 34 (fun B k => z_aload_n B dX9_canReset_33 rfl 0 rfl k) ?_
      replace h := qv_e h
      obtain ⟨w13, e_w13, h⟩ := h
      have hq_w13 : rk (wx_I σ a10 (ti 40) (sx_I σ a8 (ti x1))) w13 13 := rk_T hT hk_t rfl (by decide) ((rR_I rfl).trans e_w13)
      refine ym 37 (fun B k => gf_X9_26 (x := w13) B hk_t ((rR_I rfl).trans e_w13) dX9_canReset_34 k) ?_
      refine ym 39 (fun B k => z_bipush (v := 40) B dX9_canReset_37 (by decide) k) ?_
      refine ym 40 (fun B k => z_iconst (v := (-1)) B dX9_canReset_39 (by decide) k) ?_
      replace h := bq_e h
      obtain ⟨a14, rfl, h⟩ := h
      have hk_a14 := hq_w13 a14 rfl
      replace h := ck_e h
      obtain ⟨hi_15, h⟩ := h
      have j16 := hk_a14
      refine ymw (σ' := (wx_I (wx_I σ a10 (ti 40) (sx_I σ a8 (ti x1))) a14 (ti 40) (-1))) 41 e_I (fun B _ k => z_iast (j := (ti 40)) B hk_a14 rfl hi_15 rfl dX9_canReset_40 k) ?_
      have hT := TS_I (k := (ti 40)) (x := (-1)) hT hk_a14 (Or.inl rfl)
      have hk_t := kk_I (σ := (wx_I σ a10 (ti 40) (sx_I σ a8 (ti x1)))) (a := a14) (k := (ti 40)) (x := (-1)) hk_t
      refine ym 42 (fun B k => z_aload_n B dX9_canReset_41 rfl 0 rfl k) ?_
      refine ym 43 (fun B k => z_iload_n B dX9_canReset_42 rfl 1 rfl k) ?_
      refine ym 45 (fun B k => z_bipush (v := 40) B dX9_canReset_43 (by decide) k) ?_
      refine ym 46 (fun B k => z_iload_n B dX9_canReset_45 rfl 2 rfl k) ?_
      replace h := br_e h
      obtain ⟨u18, h17, h⟩ := h
      have m19 := ct_X9_copies l (g := g) h17 hT hk_t
      refine yc_Vv (Al := [.int x1, .int 40, .int x2]) (rest := []) 49 rfl cw_X9_275 cx_10 dX9_canReset_46 m19 hk_t rfl (by decide) rfl (Nat.le_of_ble_eq_true rfl) ?_
      have hk_t := k_G m19.1.1 (by decide) hk_t
      have hT := m19.1.1.2.2.2
      refine ym 50 (fun B k => z_aload_n B dX9_canReset_49 rfl 0 rfl k) ?_
      refine ym 52 (fun B k => z_bipush (v := 40) B dX9_canReset_50 (by decide) k) ?_
      refine ym 53 (fun B k => z_iload_n B dX9_canReset_52 rfl 2 rfl k) ?_
      refine ym 54 (fun B k => z_iconst (v := 0) B dX9_canReset_53 (by decide) k) ?_
      replace h := bd_e h
      obtain ⟨r21, u22, h20, h⟩ := h
      have m23 := ct_X9_replays l (g := g) h20 hT hk_t (Or.inl rfl)
      refine yc_Vi (Al := [.int 40, .int x2, .int 0]) (rest := []) 57 rfl cw_X9_216 cx_10 dX9_canReset_54 m23 hk_t rfl (by decide) rfl (Nat.le_of_ble_eq_true rfl) ?_
      have hk_t := k_G m23.1.1 (by decide) hk_t
      have hT := m23.1.1.2.2.2
      refine ym 58 (fun B k => z_pop B dX9_canReset_57 rfl k) ?_
      refine ym 59 (fun B k => z_aload_n B dX9_canReset_58 rfl 0 rfl k) ?_
      refine ym 62 (fun B k => gf_X9_103 (x := (sx_I u22 t 26)) B hk_t rfl dX9_canReset_59 k) ?_
      by_cases c24 : (sx_I u22 t 26) = 0
      · replace h := ite_p c24 h
        refine ym 77 (fun B k => z_if_eq (tgt := 77) B dX9_canReset_62 (by decide) (fun _ => k) (fun q => absurd c24 q)) ?_
        refine ym 78 (fun B k => z_iconst (v := 0) B dX9_canReset_77 (by decide) k) ?_
        obtain ⟨rfl, rfl⟩ := Prod.mk.inj (Option.some.inj h)
        exact yr_z hT (Or.inl rfl) rfl (Or.inl rfl) dX9_canReset_78
      · replace h := ite_n c24 h
        refine ym 65 (fun B k => z_if_eq (tgt := 77) B dX9_canReset_62 (by decide) (fun q => absurd q c24) (fun _ => k)) ?_
        refine ym 66 (fun B k => z_aload_n B dX9_canReset_65 rfl 0 rfl k) ?_
        refine ym 69 (fun B k => gf_X9_116 (x := (sx_I u22 t 30)) B hk_t rfl dX9_canReset_66 k) ?_
        refine ym 70 (fun B k => z_iconst (v := 5) B dX9_canReset_69 (by decide) k) ?_
        by_cases c25 : (sx_I u22 t 30) = 5
        · replace h := ite_p c25 h
          refine ym 77 (fun B k => z_icmp_eq (tgt := 77) B dX9_canReset_70 (by decide) (fun _ => k) (fun q => absurd c25 q)) ?_
          refine ym 78 (fun B k => z_iconst (v := 0) B dX9_canReset_77 (by decide) k) ?_
          obtain ⟨rfl, rfl⟩ := Prod.mk.inj (Option.some.inj h)
          exact yr_z hT (Or.inl rfl) rfl (Or.inl rfl) dX9_canReset_78
        · replace h := ite_n c25 h
          refine ym 73 (fun B k => z_icmp_eq (tgt := 77) B dX9_canReset_70 (by decide) (fun q => absurd q c25) (fun _ => k)) ?_
          refine ym 74 (fun B k => z_iconst (v := 1) B dX9_canReset_73 (by decide) k) ?_
          refine ym 78 (fun B k => z_goto (tgt := 78) B dX9_canReset_74 (by decide) k) ?_
          obtain ⟨rfl, rfl⟩ := Prod.mk.inj (Option.some.inj h)
          exact yr_z hT (Or.inr rfl) rfl (Or.inr rfl) dX9_canReset_78
