set_option maxRecDepth 100000 in
set_option maxHeartbeats 4000000 in
theorem tl_X6_find_2 {l : Launch} {g : gx_T} {r : Int32} {As : Array Value} {n0 : Nat} : ∀ {n : Nat} {σ : sx_T} {t : Nat} {x1 : Int32} {x2 : Int32}, fl_X6_find_2 n0 n σ t x1 x2 = some r → TS g σ → sx_K σ t = 8 → ZY l g cX6_find RX6 "find" (some .int) 3 0 0 0 0 false As (QM g As (Qxi g r σ)) (True) σ σ 2 [(0, .ref t), (1, .int x1), (2, .int x2)] [] := by
  intro n
  induction n with
  | zero =>
    intro σ t x1 x2 h
    exact nomatch h
  | succ n ih_ =>
    have ih := @ih_
    intro σ t x1 x2 h hT hk_t
    unfold fl_X6_find_2 at h
    refine ym 3 (fun B k => z_iload_n B dX6_find_2 rfl 2 rfl k) ?_
    refine ym 4 (fun B k => z_aload_n B dX6_find_3 rfl 0 rfl k) ?_
    refine ym 7 (fun B k => gf_X6_15 (x := (sx_I σ t 1)) B hk_t rfl dX6_find_4 k) ?_
    by_cases c1 : (sx_I σ t 1) ≤ x2
    · replace h := ite_p c1 h
      refine ym 40 (fun B k => z_icmp_ge (tgt := 40) B dX6_find_7 (by decide) (fun _ => k) (fun q => absurd c1 q)) ?_
      refine ym 41 (fun B k => z_iconst (v := (-1)) B dX6_find_40 (by decide) k) ?_
      obtain rfl := Option.some.inj h
      exact yr_i hT trivial rfl dX6_find_41
    · replace h := ite_n c1 h
      refine ym 10 (fun B k => z_icmp_ge (tgt := 40) B dX6_find_7 (by decide) (fun q => absurd q c1) (fun _ => k)) ?_
      refine ym 11 (fun B k => z_iload_n B dX6_find_10 rfl 2 rfl k) ?_
      refine ym 12 (fun B k => z_aload_n B dX6_find_11 rfl 0 rfl k) ?_
      replace h := qv_e h
      obtain ⟨w2, e_w2, h⟩ := h
      have hq_w2 : rk σ w2 13 := rk_T hT hk_t rfl (by decide) e_w2
      refine ym 15 (fun B k => gf_X6_9 (x := w2) B hk_t e_w2 dX6_find_12 k) ?_
      replace h := bq_e h
      obtain ⟨a3, rfl, h⟩ := h
      have hk_a3 := hq_w2 a3 rfl
      refine ym 16 (fun B k => z_alen (kd := 13) (ti := 1) (v := Int32.ofNat (sx_N σ a3)) B hk_a3 (by decide) rfl rfl dX6_find_15 k) ?_
      by_cases c4 : (Int32.ofNat (sx_N σ a3)) ≤ x2
      · replace h := ite_p c4 h
        refine ym 40 (fun B k => z_icmp_ge (tgt := 40) B dX6_find_16 (by decide) (fun _ => k) (fun q => absurd c4 q)) ?_
        refine ym 41 (fun B k => z_iconst (v := (-1)) B dX6_find_40 (by decide) k) ?_
        obtain rfl := Option.some.inj h
        exact yr_i hT trivial rfl dX6_find_41
      · replace h := ite_n c4 h
        refine ym 19 (fun B k => z_icmp_ge (tgt := 40) B dX6_find_16 (by decide) (fun q => absurd q c4) (fun _ => k)) ?_
        refine ym 20 (fun B k => z_aload_n B dX6_find_19 rfl 0 rfl k) ?_
        replace h := qv_e h
        obtain ⟨w5, e_w5, h⟩ := h
        have hq_w5 : rk σ w5 13 := rk_T hT hk_t rfl (by decide) e_w5
        refine ym 23 (fun B k => gf_X6_9 (x := w5) B hk_t e_w5 dX6_find_20 k) ?_
        refine ym 24 (fun B k => z_iload_n B dX6_find_23 rfl 2 rfl k) ?_
        replace h := bq_e h
        obtain ⟨a6, rfl, h⟩ := h
        have hk_a6 := hq_w5 a6 rfl
        replace h := ck_e h
        obtain ⟨hi_7, h⟩ := h
        refine ym 25 (fun B k => z_iald (j := (ti x2)) (x := (sx_I σ a6 (ti x2))) B hk_a6 rfl hi_7 rfl dX6_find_24 k) ?_
        refine ym 27 (fun B k => z_bipush (v := 100) B dX6_find_25 (by decide) k) ?_
        refine ym 28 (fun B k => z_idiv B dX6_find_27 (by decide) k) ?_
        refine ym 29 (fun B k => z_iload_n B dX6_find_28 rfl 1 rfl k) ?_
        by_cases c8 : ((sx_I σ a6 (ti x2)) / 100) = x1
        · replace h := ite_p c8 h
          refine ym 32 (fun B k => z_icmp_ne (tgt := 34) B dX6_find_29 (by decide) (fun q => absurd c8 q) (fun _ => k)) ?_
          refine ym 33 (fun B k => z_iload_n B dX6_find_32 rfl 2 rfl k) ?_
          obtain rfl := Option.some.inj h
          exact yr_i hT trivial rfl dX6_find_33
        · replace h := ite_n c8 h
          refine ym 34 (fun B k => z_icmp_ne (tgt := 34) B dX6_find_29 (by decide) (fun _ => k) (fun q => absurd q c8)) ?_
          refine ym 37 (fun B k => z_iinc (v := x2 + 1) (lv' := [(2, .int (x2 + 1)), (0, .ref t), (1, .int x1)]) B dX6_find_34 2 rfl rfl (by decide) rfl k) ?_
          refine ym 2 (fun B k => z_goto (tgt := 2) B dX6_find_37 (by decide) k) ?_
          refine y_sub [(0, .ref t), (1, .int x1), (2, .int (x2 + 1))] [1, 2, 0] rfl ?_
          exact ih h hT hk_t
set_option maxRecDepth 100000 in
set_option maxHeartbeats 4000000 in
theorem ct_X6_find (l : Launch) {g : gx_T} {σ : sx_T} {r : Int32} {n0 : Nat} {t : Nat} {x1 : Int32} (h : f_X6_find n0 σ t x1 = some r) (hT : TS g σ) (hk_t : sx_K σ t = 8) : CT l g yX6_find cX6_find 3 (some .int) 0 0 [.ref t, .int x1] (True) σ σ (Qxi g r σ) := by
  refine yc_met (by decide) (Nat.le_of_ble_eq_true rfl) ?_
  refine yc_lv (show lv_args 0 [.ref t, .int x1] = [(0, .ref t), (1, .int x1)] from rfl) ?_
  show ZY l g _ _ _ _ _ _ _ _ _ _ _ _ _ _ σ 0 [(0, .ref t), (1, .int x1)] []
  unfold f_X6_find at h
  refine ym 1 (fun B k => z_iconst (v := 0) B dX6_find_0 (by decide) k) ?_
  refine ym 2 (fun B k => z_istore_n (lv' := [(2, .int 0), (0, .ref t), (1, .int x1)]) B dX6_find_1 rfl (by decide) rfl k) ?_
  refine y_sub [(0, .ref t), (1, .int x1), (2, .int 0)] [1, 2, 0] rfl ?_
  exact tl_X6_find_2 h hT hk_t
set_option maxRecDepth 100000 in
set_option maxHeartbeats 4000000 in
theorem ct_X5_isRefused (l : Launch) {g : gx_T} {σ : sx_T} {r : Int32} {n0 : Nat} {t : Nat} {x1 : Int32} {x2 : Int32} (h : f_X5_isRefused n0 σ t x1 x2 = some r) (hT : TS g σ) (hk_t : sx_K σ t = 7) : CT l g yX5_isRefused cX5_isRefused 3 (some .boolean) 1 22 [.ref t, .int x1, .int x2] (r = 0 ∨ r = 1) σ σ (Qxi g r σ) := by
  refine yc_met (by decide) (Nat.le_of_ble_eq_true rfl) ?_
  refine yc_lv (show lv_args 0 [.ref t, .int x1, .int x2] = [(0, .ref t), (1, .int x1), (2, .int x2)] from rfl) ?_
  show ZY l g _ _ _ _ _ _ _ _ _ _ _ _ _ _ σ 0 [(0, .ref t), (1, .int x1), (2, .int x2)] []
  unfold f_X5_isRefused at h
  refine ym 1 (fun B k => z_iload_n B dX5_isRefused_0 rfl 1 rfl k) ?_
  by_cases c1 : x1 = 1
  · replace h := ite_p c1 h
    refine ym 119 (fun B k => z_tableIn (tgt := 119) B dX5_isRefused_1 (by rw [c1]; decide) (by rw [c1]; decide) (show _ = some (118 : Int) by rw [c1]; decide) (by decide) k) ?_
    refine ym 120 (fun B k => z_aload_n B dX5_isRefused_119 rfl 0 rfl k) ?_
    refine ym 123 (fun B k => gf_X5_38 (x := (sx_I σ t 4)) B hk_t rfl dX5_isRefused_120 k) ?_
    refine ym 125 (fun B k => z_bipush (v := 60) B dX5_isRefused_123 (by decide) k) ?_
    by_cases c2 : (sx_I σ t 4) < 60
    · replace h := ite_p c2 h
      refine ym 132 (fun B k => z_icmp_lt (tgt := 132) B dX5_isRefused_125 (by decide) (fun _ => k) (fun q => absurd c2 q)) ?_
      refine ym 133 (fun B k => z_iconst (v := 0) B dX5_isRefused_132 (by decide) k) ?_
      obtain rfl := Option.some.inj h
      exact yr_z hT (Or.inl rfl) rfl (Or.inl rfl) dX5_isRefused_133
    · replace h := ite_n c2 h
      refine ym 128 (fun B k => z_icmp_lt (tgt := 132) B dX5_isRefused_125 (by decide) (fun q => absurd q c2) (fun _ => k)) ?_
      refine ym 129 (fun B k => z_iconst (v := 1) B dX5_isRefused_128 (by decide) k) ?_
      refine ym 133 (fun B k => z_goto (tgt := 133) B dX5_isRefused_129 (by decide) k) ?_
      obtain rfl := Option.some.inj h
      exact yr_z hT (Or.inr rfl) rfl (Or.inr rfl) dX5_isRefused_133
  replace h := ite_n c1 h
  by_cases c3 : x1 = 2
  · replace h := ite_p c3 h
    refine ym 119 (fun B k => z_tableIn (tgt := 119) B dX5_isRefused_1 (by rw [c3]; decide) (by rw [c3]; decide) (show _ = some (118 : Int) by rw [c3]; decide) (by decide) k) ?_
    refine ym 120 (fun B k => z_aload_n B dX5_isRefused_119 rfl 0 rfl k) ?_
    refine ym 123 (fun B k => gf_X5_38 (x := (sx_I σ t 4)) B hk_t rfl dX5_isRefused_120 k) ?_
    refine ym 125 (fun B k => z_bipush (v := 60) B dX5_isRefused_123 (by decide) k) ?_
    by_cases c4 : (sx_I σ t 4) < 60
    · replace h := ite_p c4 h
      refine ym 132 (fun B k => z_icmp_lt (tgt := 132) B dX5_isRefused_125 (by decide) (fun _ => k) (fun q => absurd c4 q)) ?_
      refine ym 133 (fun B k => z_iconst (v := 0) B dX5_isRefused_132 (by decide) k) ?_
      obtain rfl := Option.some.inj h
      exact yr_z hT (Or.inl rfl) rfl (Or.inl rfl) dX5_isRefused_133
    · replace h := ite_n c4 h
      refine ym 128 (fun B k => z_icmp_lt (tgt := 132) B dX5_isRefused_125 (by decide) (fun q => absurd q c4) (fun _ => k)) ?_
      refine ym 129 (fun B k => z_iconst (v := 1) B dX5_isRefused_128 (by decide) k) ?_
      refine ym 133 (fun B k => z_goto (tgt := 133) B dX5_isRefused_129 (by decide) k) ?_
      obtain rfl := Option.some.inj h
      exact yr_z hT (Or.inr rfl) rfl (Or.inr rfl) dX5_isRefused_133
  replace h := ite_n c3 h
  by_cases c5 : x1 = 4
  · replace h := ite_p c5 h
    refine ym 92 (fun B k => z_tableIn (tgt := 92) B dX5_isRefused_1 (by rw [c5]; decide) (by rw [c5]; decide) (show _ = some (91 : Int) by rw [c5]; decide) (by decide) k) ?_
    refine ym 93 (fun B k => z_aload_n B dX5_isRefused_92 rfl 0 rfl k) ?_
    refine ym 96 (fun B k => gf_X5_38 (x := (sx_I σ t 4)) B hk_t rfl dX5_isRefused_93 k) ?_
    refine ym 98 (fun B k => z_bipush (v := 60) B dX5_isRefused_96 (by decide) k) ?_
    by_cases c6 : (sx_I σ t 4) < 60
    · replace h := ite_p c6 h
      refine ym 117 (fun B k => z_icmp_lt (tgt := 117) B dX5_isRefused_98 (by decide) (fun _ => k) (fun q => absurd c6 q)) ?_
      refine ym 118 (fun B k => z_iconst (v := 0) B dX5_isRefused_117 (by decide) k) ?_
      obtain rfl := Option.some.inj h
      exact yr_z hT (Or.inl rfl) rfl (Or.inl rfl) dX5_isRefused_118
    · replace h := ite_n c6 h
      refine ym 101 (fun B k => z_icmp_lt (tgt := 117) B dX5_isRefused_98 (by decide) (fun q => absurd q c6) (fun _ => k)) ?_
      refine ym 102 (fun B k => z_aload_n B dX5_isRefused_101 rfl 0 rfl k) ?_
      replace h := qv_e h
      obtain ⟨w7, e_w7, h⟩ := h
      have hq_w7 : rk σ w7 8 := rk_T hT hk_t rfl (by decide) e_w7
      refine ym 105 (fun B k => gf_X5_21 (x := w7) B hk_t e_w7 dX5_isRefused_102 k) ?_
      refine ym 106 (fun B k => z_iload_n B dX5_isRefused_105 rfl 2 rfl k) ?_
      replace h := bq_e h
      obtain ⟨a8, rfl, h⟩ := h
      have hk_a8 := hq_w7 a8 rfl
      replace h := br_e h
      obtain ⟨r10, h9, h⟩ := h
      have m11 := ct_X6_find l (g := g) h9 hT hk_a8
      refine yc_Vi (Al := [.int x2]) (rest := []) 109 rfl cw_X5_191 cx_7 dX5_isRefused_106 m11 hk_a8 rfl (by decide) rfl (Nat.le_of_ble_eq_true rfl) ?_
      refine ym 110 (fun B k => z_iconst (v := (-1)) B dX5_isRefused_109 (by decide) k) ?_
      by_cases c12 : r10 = (-1)
      · replace h := ite_p c12 h
        refine ym 113 (fun B k => z_icmp_ne (tgt := 117) B dX5_isRefused_110 (by decide) (fun q => absurd c12 q) (fun _ => k)) ?_
        refine ym 114 (fun B k => z_iconst (v := 1) B dX5_isRefused_113 (by decide) k) ?_
        refine ym 118 (fun B k => z_goto (tgt := 118) B dX5_isRefused_114 (by decide) k) ?_
        obtain rfl := Option.some.inj h
        exact yr_z hT (Or.inr rfl) rfl (Or.inr rfl) dX5_isRefused_118
      · replace h := ite_n c12 h
        refine ym 117 (fun B k => z_icmp_ne (tgt := 117) B dX5_isRefused_110 (by decide) (fun _ => k) (fun q => absurd q c12)) ?_
        refine ym 118 (fun B k => z_iconst (v := 0) B dX5_isRefused_117 (by decide) k) ?_
        obtain rfl := Option.some.inj h
        exact yr_z hT (Or.inl rfl) rfl (Or.inl rfl) dX5_isRefused_118
  replace h := ite_n c5 h
  by_cases c13 : x1 = 9
  · replace h := ite_p c13 h
    refine ym 119 (fun B k => z_tableIn (tgt := 119) B dX5_isRefused_1 (by rw [c13]; decide) (by rw [c13]; decide) (show _ = some (118 : Int) by rw [c13]; decide) (by decide) k) ?_
    refine ym 120 (fun B k => z_aload_n B dX5_isRefused_119 rfl 0 rfl k) ?_
    refine ym 123 (fun B k => gf_X5_38 (x := (sx_I σ t 4)) B hk_t rfl dX5_isRefused_120 k) ?_
    refine ym 125 (fun B k => z_bipush (v := 60) B dX5_isRefused_123 (by decide) k) ?_
    by_cases c14 : (sx_I σ t 4) < 60
    · replace h := ite_p c14 h
      refine ym 132 (fun B k => z_icmp_lt (tgt := 132) B dX5_isRefused_125 (by decide) (fun _ => k) (fun q => absurd c14 q)) ?_
      refine ym 133 (fun B k => z_iconst (v := 0) B dX5_isRefused_132 (by decide) k) ?_
      obtain rfl := Option.some.inj h
      exact yr_z hT (Or.inl rfl) rfl (Or.inl rfl) dX5_isRefused_133
    · replace h := ite_n c14 h
      refine ym 128 (fun B k => z_icmp_lt (tgt := 132) B dX5_isRefused_125 (by decide) (fun q => absurd q c14) (fun _ => k)) ?_
      refine ym 129 (fun B k => z_iconst (v := 1) B dX5_isRefused_128 (by decide) k) ?_
      refine ym 133 (fun B k => z_goto (tgt := 133) B dX5_isRefused_129 (by decide) k) ?_
      obtain rfl := Option.some.inj h
      exact yr_z hT (Or.inr rfl) rfl (Or.inr rfl) dX5_isRefused_133
  replace h := ite_n c13 h
  by_cases c15 : x1 = 10
  · replace h := ite_p c15 h
    refine ym 119 (fun B k => z_tableIn (tgt := 119) B dX5_isRefused_1 (by rw [c15]; decide) (by rw [c15]; decide) (show _ = some (118 : Int) by rw [c15]; decide) (by decide) k) ?_
    refine ym 120 (fun B k => z_aload_n B dX5_isRefused_119 rfl 0 rfl k) ?_
    refine ym 123 (fun B k => gf_X5_38 (x := (sx_I σ t 4)) B hk_t rfl dX5_isRefused_120 k) ?_
    refine ym 125 (fun B k => z_bipush (v := 60) B dX5_isRefused_123 (by decide) k) ?_
    by_cases c16 : (sx_I σ t 4) < 60
    · replace h := ite_p c16 h
      refine ym 132 (fun B k => z_icmp_lt (tgt := 132) B dX5_isRefused_125 (by decide) (fun _ => k) (fun q => absurd c16 q)) ?_
      refine ym 133 (fun B k => z_iconst (v := 0) B dX5_isRefused_132 (by decide) k) ?_
      obtain rfl := Option.some.inj h
      exact yr_z hT (Or.inl rfl) rfl (Or.inl rfl) dX5_isRefused_133
    · replace h := ite_n c16 h
      refine ym 128 (fun B k => z_icmp_lt (tgt := 132) B dX5_isRefused_125 (by decide) (fun q => absurd q c16) (fun _ => k)) ?_
      refine ym 129 (fun B k => z_iconst (v := 1) B dX5_isRefused_128 (by decide) k) ?_
      refine ym 133 (fun B k => z_goto (tgt := 133) B dX5_isRefused_129 (by decide) k) ?_
      obtain rfl := Option.some.inj h
      exact yr_z hT (Or.inr rfl) rfl (Or.inr rfl) dX5_isRefused_133
  replace h := ite_n c15 h
  by_cases c17 : x1 = 11
  · replace h := ite_p c17 h
    refine ym 119 (fun B k => z_tableIn (tgt := 119) B dX5_isRefused_1 (by rw [c17]; decide) (by rw [c17]; decide) (show _ = some (118 : Int) by rw [c17]; decide) (by decide) k) ?_
    refine ym 120 (fun B k => z_aload_n B dX5_isRefused_119 rfl 0 rfl k) ?_
    refine ym 123 (fun B k => gf_X5_38 (x := (sx_I σ t 4)) B hk_t rfl dX5_isRefused_120 k) ?_
    refine ym 125 (fun B k => z_bipush (v := 60) B dX5_isRefused_123 (by decide) k) ?_
    by_cases c18 : (sx_I σ t 4) < 60
    · replace h := ite_p c18 h
      refine ym 132 (fun B k => z_icmp_lt (tgt := 132) B dX5_isRefused_125 (by decide) (fun _ => k) (fun q => absurd c18 q)) ?_
      refine ym 133 (fun B k => z_iconst (v := 0) B dX5_isRefused_132 (by decide) k) ?_
      obtain rfl := Option.some.inj h
      exact yr_z hT (Or.inl rfl) rfl (Or.inl rfl) dX5_isRefused_133
    · replace h := ite_n c18 h
      refine ym 128 (fun B k => z_icmp_lt (tgt := 132) B dX5_isRefused_125 (by decide) (fun q => absurd q c18) (fun _ => k)) ?_
      refine ym 129 (fun B k => z_iconst (v := 1) B dX5_isRefused_128 (by decide) k) ?_
      refine ym 133 (fun B k => z_goto (tgt := 133) B dX5_isRefused_129 (by decide) k) ?_
      obtain rfl := Option.some.inj h
      exact yr_z hT (Or.inr rfl) rfl (Or.inr rfl) dX5_isRefused_133
  replace h := ite_n c17 h
  by_cases c19 : x1 = 12
  · replace h := ite_p c19 h
    refine ym 84 (fun B k => z_tableIn (tgt := 84) B dX5_isRefused_1 (by rw [c19]; decide) (by rw [c19]; decide) (show _ = some (83 : Int) by rw [c19]; decide) (by decide) k) ?_
    refine ym 85 (fun B k => z_aload_n B dX5_isRefused_84 rfl 0 rfl k) ?_
    replace h := qv_e h
    obtain ⟨w20, e_w20, h⟩ := h
    have hq_w20 : rk σ w20 5 := rk_T hT hk_t rfl (by decide) e_w20
    refine ym 88 (fun B k => gf_X5_12 (x := w20) B hk_t e_w20 dX5_isRefused_85 k) ?_
    replace h := bq_e h
    obtain ⟨a21, rfl, h⟩ := h
    have hk_a21 := hq_w20 a21 rfl
    replace h := br_e h
    obtain ⟨r23, h22, h⟩ := h
    have m24 := ct_X3_isFull l (g := g) h22 hT hk_a21
    refine yc_Vi (Al := []) (rest := []) 91 rfl cw_X5_187 cx_4 dX5_isRefused_88 m24 hk_a21 rfl (by decide) rfl (Nat.le_of_ble_eq_true rfl) ?_
    have hz_r23 := m24.1.2
    obtain rfl := Option.some.inj h
    exact yr_z hT hz_r23 rfl hz_r23 dX5_isRefused_91
  replace h := ite_n c19 h
  by_cases c25 : x1 = 14
  · replace h := ite_p c25 h
    refine ym 119 (fun B k => z_tableIn (tgt := 119) B dX5_isRefused_1 (by rw [c25]; decide) (by rw [c25]; decide) (show _ = some (118 : Int) by rw [c25]; decide) (by decide) k) ?_
    refine ym 120 (fun B k => z_aload_n B dX5_isRefused_119 rfl 0 rfl k) ?_
    refine ym 123 (fun B k => gf_X5_38 (x := (sx_I σ t 4)) B hk_t rfl dX5_isRefused_120 k) ?_
    refine ym 125 (fun B k => z_bipush (v := 60) B dX5_isRefused_123 (by decide) k) ?_
    by_cases c26 : (sx_I σ t 4) < 60
    · replace h := ite_p c26 h
      refine ym 132 (fun B k => z_icmp_lt (tgt := 132) B dX5_isRefused_125 (by decide) (fun _ => k) (fun q => absurd c26 q)) ?_
      refine ym 133 (fun B k => z_iconst (v := 0) B dX5_isRefused_132 (by decide) k) ?_
      obtain rfl := Option.some.inj h
      exact yr_z hT (Or.inl rfl) rfl (Or.inl rfl) dX5_isRefused_133
    · replace h := ite_n c26 h
      refine ym 128 (fun B k => z_icmp_lt (tgt := 132) B dX5_isRefused_125 (by decide) (fun q => absurd q c26) (fun _ => k)) ?_
      refine ym 129 (fun B k => z_iconst (v := 1) B dX5_isRefused_128 (by decide) k) ?_
      refine ym 133 (fun B k => z_goto (tgt := 133) B dX5_isRefused_129 (by decide) k) ?_
      obtain rfl := Option.some.inj h
      exact yr_z hT (Or.inr rfl) rfl (Or.inr rfl) dX5_isRefused_133
  replace h := ite_n c25 h
  by_cases c27 : x1 = 17
  · replace h := ite_p c27 h
    refine ym 119 (fun B k => z_tableIn (tgt := 119) B dX5_isRefused_1 (by rw [c27]; decide) (by rw [c27]; decide) (show _ = some (118 : Int) by rw [c27]; decide) (by decide) k) ?_
    refine ym 120 (fun B k => z_aload_n B dX5_isRefused_119 rfl 0 rfl k) ?_
    refine ym 123 (fun B k => gf_X5_38 (x := (sx_I σ t 4)) B hk_t rfl dX5_isRefused_120 k) ?_
    refine ym 125 (fun B k => z_bipush (v := 60) B dX5_isRefused_123 (by decide) k) ?_
    by_cases c28 : (sx_I σ t 4) < 60
    · replace h := ite_p c28 h
      refine ym 132 (fun B k => z_icmp_lt (tgt := 132) B dX5_isRefused_125 (by decide) (fun _ => k) (fun q => absurd c28 q)) ?_
      refine ym 133 (fun B k => z_iconst (v := 0) B dX5_isRefused_132 (by decide) k) ?_
      obtain rfl := Option.some.inj h
      exact yr_z hT (Or.inl rfl) rfl (Or.inl rfl) dX5_isRefused_133
    · replace h := ite_n c28 h
      refine ym 128 (fun B k => z_icmp_lt (tgt := 132) B dX5_isRefused_125 (by decide) (fun q => absurd q c28) (fun _ => k)) ?_
      refine ym 129 (fun B k => z_iconst (v := 1) B dX5_isRefused_128 (by decide) k) ?_
      refine ym 133 (fun B k => z_goto (tgt := 133) B dX5_isRefused_129 (by decide) k) ?_
      obtain rfl := Option.some.inj h
      exact yr_z hT (Or.inr rfl) rfl (Or.inr rfl) dX5_isRefused_133
  replace h := ite_n c27 h
  refine ym 134 (fun B k => z_tabDf (tgt := 134) (vs := [1, 2, 4, 9, 10, 11, 12, 14, 17]) B dX5_isRefused_1 (by decide) (by decide) (by decide) (by intro v hv; simp only [List.mem_cons, List.not_mem_nil, or_false] at hv; rcases hv with rfl | rfl | rfl | rfl | rfl | rfl | rfl | rfl | rfl; all_goals assumption) k) ?_
  refine ym 135 (fun B k => z_iconst (v := 0) B dX5_isRefused_134 (by decide) k) ?_
  obtain rfl := Option.some.inj h
  exact yr_z hT (Or.inl rfl) rfl (Or.inl rfl) dX5_isRefused_135
set_option maxRecDepth 100000 in
set_option maxHeartbeats 4000000 in
theorem ct_J9_max_7cf53 (l : Launch) {g : gx_T} {σ : sx_T} {r : Int32}  {x0 : Int32} {x1 : Int32} (h : f_J9_max_7cf53 σ x0 x1 = some r) (hT : TS g σ)  : CT l g yJ9_max_7cf53 cJ9_max_7cf53 2 (some .int) 0 0 [.int x0, .int x1] (True) σ σ (Qxi g r σ) := by
  refine yc_metF (by decide +kernel) (Nat.le_of_ble_eq_true rfl) ?_
  refine yc_lv (show lv_args 0 [.int x0, .int x1] = [(0, .int x0), (1, .int x1)] from rfl) ?_
  show ZY l g _ _ _ _ _ _ _ _ _ _ _ _ _ _ σ 0 [(0, .int x0), (1, .int x1)] []
  unfold f_J9_max_7cf53 at h
  refine ym 1 (fun B k => z_iload_n B dJ9_max_7cf53_0 rfl 0 rfl k) ?_
  refine ym 2 (fun B k => z_iload_n B dJ9_max_7cf53_1 rfl 1 rfl k) ?_
  by_cases c1 : x0 < x1
  · replace h := ite_p c1 h
    refine ym 9 (fun B k => z_icmp_lt (tgt := 9) B dJ9_max_7cf53_2 (by decide) (fun _ => k) (fun q => absurd c1 q)) ?_
    refine ym 10 (fun B k => z_iload_n B dJ9_max_7cf53_9 rfl 1 rfl k) ?_
    obtain rfl := Option.some.inj h
    exact yr_i hT trivial rfl dJ9_max_7cf53_10
  · replace h := ite_n c1 h
    refine ym 5 (fun B k => z_icmp_lt (tgt := 9) B dJ9_max_7cf53_2 (by decide) (fun q => absurd q c1) (fun _ => k)) ?_
    refine ym 6 (fun B k => z_iload_n B dJ9_max_7cf53_5 rfl 0 rfl k) ?_
    refine ym 10 (fun B k => z_goto (tgt := 10) B dJ9_max_7cf53_6 (by decide) k) ?_
    obtain rfl := Option.some.inj h
    exact yr_i hT trivial rfl dJ9_max_7cf53_10
set_option maxRecDepth 100000 in
set_option maxHeartbeats 4000000 in
theorem tl_X6_use_38 {l : Launch} {g : gx_T} {u : sx_T} {r : Int32} {As : Array Value} {n0 : Nat} : ∀ {n : Nat} {σ : sx_T} {t : Nat} {x2 : Int32} {x3 : Int32}, fl_X6_use_38 n0 n σ t x2 x3 = some (r, u) → TS g σ → sx_K σ t = 8 → ZY l g cX6_use RX6 "use" (some .int) 4 0 0 0 0 false As (QM g As (Qxi g r u)) (True) u σ 38 [(0, .ref t), (2, .int x2), (3, .int x3)] [] := by
  intro n
  induction n with
  | zero =>
    intro σ t x2 x3 h
    exact nomatch h
  | succ n ih_ =>
    have ih := @ih_
    intro σ t x2 x3 h hT hk_t
    unfold fl_X6_use_38 at h
    refine ym 39 (fun B k => z_iload_n B dX6_use_38 rfl 2 rfl k) ?_
    refine ym 40 (fun B k => z_iconst (v := 1) B dX6_use_39 (by decide) k) ?_
    refine ym 41 (fun B k => z_iadd B dX6_use_40 k) ?_
    refine ym 42 (fun B k => z_aload_n B dX6_use_41 rfl 0 rfl k) ?_
    refine ym 45 (fun B k => gf_X6_15 (x := (sx_I σ t 1)) B hk_t rfl dX6_use_42 k) ?_
    by_cases c1 : (sx_I σ t 1) ≤ (x3 + 1)
    · replace h := ite_p c1 h
      refine ym 68 (fun B k => z_icmp_ge (tgt := 68) B dX6_use_45 (by decide) (fun _ => k) (fun q => absurd c1 q)) ?_
      refine ym 69 (fun B k => z_aload_n B dX6_use_68 rfl 0 rfl k) ?_
      refine ym 70 (fun B k => z_dup B dX6_use_69 rfl k) ?_
      refine ym 73 (fun B k => gf_X6_15 (x := (sx_I σ t 1)) B hk_t rfl dX6_use_70 k) ?_
      refine ym 74 (fun B k => z_iconst (v := 1) B dX6_use_73 (by decide) k) ?_
      refine ym 75 (fun B k => z_isub B dX6_use_74 k) ?_
      have j2 := hk_t
      refine ymw (σ' := (wx_I σ t 1 ((sx_I σ t 1) - 1))) 78 e_I (fun B hin k => pf_X6_15 (x := ((sx_I σ t 1) - 1)) B hk_t rfl dX6_use_75 k) ?_
      have hT := TS_I (k := 1) (x := ((sx_I σ t 1) - 1)) hT hk_t (Or.inl rfl)
      have hk_t := kk_I (σ := σ) (a := t) (k := 1) (x := ((sx_I σ t 1) - 1)) hk_t
      refine ym 79 (fun B k => z_iload_n B dX6_use_78 rfl 1 rfl k) ?_
      obtain ⟨rfl, rfl⟩ := Prod.mk.inj (Option.some.inj h)
      exact yr_i hT trivial rfl dX6_use_79
    · replace h := ite_n c1 h
      refine ym 48 (fun B k => z_icmp_ge (tgt := 68) B dX6_use_45 (by decide) (fun q => absurd q c1) (fun _ => k)) ?_
      refine ym 49 (fun B k => z_aload_n B dX6_use_48 rfl 0 rfl k) ?_
      replace h := qv_e h
      obtain ⟨w3, e_w3, h⟩ := h
      have hq_w3 : rk σ w3 13 := rk_T hT hk_t rfl (by decide) e_w3
      refine ym 52 (fun B k => gf_X6_9 (x := w3) B hk_t e_w3 dX6_use_49 k) ?_
      refine ym 53 (fun B k => z_iload_n B dX6_use_52 rfl 2 rfl k) ?_
      refine ym 54 (fun B k => z_aload_n B dX6_use_53 rfl 0 rfl k) ?_
      replace h := qv_e h
      obtain ⟨w4, e_w4, h⟩ := h
      have hq_w4 : rk σ w4 13 := rk_T hT hk_t rfl (by decide) e_w4
      refine ym 57 (fun B k => gf_X6_9 (x := w4) B hk_t e_w4 dX6_use_54 k) ?_
      refine ym 58 (fun B k => z_iload_n B dX6_use_57 rfl 2 rfl k) ?_
      refine ym 59 (fun B k => z_iconst (v := 1) B dX6_use_58 (by decide) k) ?_
      refine ym 60 (fun B k => z_iadd B dX6_use_59 k) ?_
      replace h := bq_e h
      obtain ⟨a5, rfl, h⟩ := h
      have hk_a5 := hq_w4 a5 rfl
      replace h := ck_e h
      obtain ⟨hi_6, h⟩ := h
      refine ym 61 (fun B k => z_iald (j := (ti (x3 + 1))) (x := (sx_I σ a5 (ti (x3 + 1)))) B hk_a5 rfl hi_6 rfl dX6_use_60 k) ?_
      replace h := bq_e h
      obtain ⟨a7, rfl, h⟩ := h
      have hk_a7 := hq_w3 a7 rfl
      replace h := ck_e h
      obtain ⟨hi_8, h⟩ := h
      have j9 := hk_a7
      refine ymw (σ' := (wx_I σ a7 (ti x3) (sx_I σ a5 (ti (x3 + 1))))) 62 e_I (fun B _ k => z_iast (j := (ti x3)) B hk_a7 rfl hi_8 rfl dX6_use_61 k) ?_
      have hT := TS_I (k := (ti x3)) (x := (sx_I σ a5 (ti (x3 + 1)))) hT hk_a7 (Or.inl rfl)
      have hk_t := kk_I (σ := σ) (a := a7) (k := (ti x3)) (x := (sx_I σ a5 (ti (x3 + 1)))) hk_t
      refine ym 65 (fun B k => z_iinc (v := x3 + 1) (lv' := [(3, .int (x3 + 1)), (0, .ref t), (2, .int x2)]) B dX6_use_62 2 rfl rfl (by decide) rfl k) ?_
      refine ym 38 (fun B k => z_goto (tgt := 38) B dX6_use_65 (by decide) k) ?_
      refine y_sub [(0, .ref t), (2, .int x2), (3, .int (x3 + 1))] [1, 2, 0] rfl ?_
      exact ih h hT hk_t
set_option maxRecDepth 100000 in
set_option maxHeartbeats 4000000 in
theorem ct_X6_use (l : Launch) {g : gx_T} {σ : sx_T} {u : sx_T} {r : Int32} {n0 : Nat} {t : Nat} {x1 : Int32} (h : f_X6_use n0 σ t x1 = some (r, u)) (hT : TS g σ) (hk_t : sx_K σ t = 8) : CT l g yX6_use cX6_use 4 (some .int) 0 0 [.ref t, .int x1] (True) u σ (Qxi g r u) := by
  refine yc_met (by decide) (Nat.le_of_ble_eq_true rfl) ?_
  refine yc_lv (show lv_args 0 [.ref t, .int x1] = [(0, .ref t), (1, .int x1)] from rfl) ?_
  show ZY l g _ _ _ _ _ _ _ _ _ _ _ _ _ _ σ 0 [(0, .ref t), (1, .int x1)] []
  unfold f_X6_use at h
  refine ym 1 (fun B k => z_iload_n B dX6_use_0 rfl 1 rfl k) ?_
  by_cases c1 : x1 < 0
  · replace h := ite_p c1 h
    refine ym 24 (fun B k => z_if_lt (tgt := 24) B dX6_use_1 (by decide) (fun _ => k) (fun q => absurd c1 q)) ?_
    refine ym 25 (fun B k => z_iconst (v := 0) B dX6_use_24 (by decide) k) ?_
    obtain ⟨rfl, rfl⟩ := Prod.mk.inj (Option.some.inj h)
    exact yr_i hT trivial rfl dX6_use_25
  · replace h := ite_n c1 h
    refine ym 4 (fun B k => z_if_lt (tgt := 24) B dX6_use_1 (by decide) (fun q => absurd q c1) (fun _ => k)) ?_
    refine ym 5 (fun B k => z_iload_n B dX6_use_4 rfl 1 rfl k) ?_
    refine ym 6 (fun B k => z_aload_n B dX6_use_5 rfl 0 rfl k) ?_
    refine ym 9 (fun B k => gf_X6_15 (x := (sx_I σ t 1)) B hk_t rfl dX6_use_6 k) ?_
    by_cases c2 : (sx_I σ t 1) ≤ x1
    · replace h := ite_p c2 h
      refine ym 24 (fun B k => z_icmp_ge (tgt := 24) B dX6_use_9 (by decide) (fun _ => k) (fun q => absurd c2 q)) ?_
      refine ym 25 (fun B k => z_iconst (v := 0) B dX6_use_24 (by decide) k) ?_
      obtain ⟨rfl, rfl⟩ := Prod.mk.inj (Option.some.inj h)
      exact yr_i hT trivial rfl dX6_use_25
    · replace h := ite_n c2 h
      refine ym 12 (fun B k => z_icmp_ge (tgt := 24) B dX6_use_9 (by decide) (fun q => absurd q c2) (fun _ => k)) ?_
      refine ym 13 (fun B k => z_aload_n B dX6_use_12 rfl 0 rfl k) ?_
      refine ym 16 (fun B k => gf_X6_15 (x := (sx_I σ t 1)) B hk_t rfl dX6_use_13 k) ?_
      refine ym 17 (fun B k => z_aload_n B dX6_use_16 rfl 0 rfl k) ?_
      replace h := qv_e h
      obtain ⟨w3, e_w3, h⟩ := h
      have hq_w3 : rk σ w3 13 := rk_T hT hk_t rfl (by decide) e_w3
      refine ym 20 (fun B k => gf_X6_9 (x := w3) B hk_t e_w3 dX6_use_17 k) ?_
      replace h := bq_e h
      obtain ⟨a4, rfl, h⟩ := h
      have hk_a4 := hq_w3 a4 rfl
      refine ym 21 (fun B k => z_alen (kd := 13) (ti := 1) (v := Int32.ofNat (sx_N σ a4)) B hk_a4 (by decide) rfl rfl dX6_use_20 k) ?_
      by_cases c5 : (sx_I σ t 1) ≤ (Int32.ofNat (sx_N σ a4))
      · replace h := ite_p c5 h
        refine ym 26 (fun B k => z_icmp_le (tgt := 26) B dX6_use_21 (by decide) (fun _ => k) (fun q => absurd c5 q)) ?_
        refine ym 27 (fun B k => z_aload_n B dX6_use_26 rfl 0 rfl k) ?_
        replace h := qv_e h
        obtain ⟨w6, e_w6, h⟩ := h
        have hq_w6 : rk σ w6 13 := rk_T hT hk_t rfl (by decide) e_w6
        refine ym 30 (fun B k => gf_X6_9 (x := w6) B hk_t e_w6 dX6_use_27 k) ?_
        refine ym 31 (fun B k => z_iload_n B dX6_use_30 rfl 1 rfl k) ?_
        replace h := bq_e h
        obtain ⟨a7, rfl, h⟩ := h
        have hk_a7 := hq_w6 a7 rfl
        replace h := ck_e h
        obtain ⟨hi_8, h⟩ := h
        refine ym 32 (fun B k => z_iald (j := (ti x1)) (x := (sx_I σ a7 (ti x1))) B hk_a7 rfl hi_8 rfl dX6_use_31 k) ?_
        refine ym 34 (fun B k => z_bipush (v := 100) B dX6_use_32 (by decide) k) ?_
        refine ym 35 (fun B k => z_irem B dX6_use_34 (by decide) k) ?_
        refine ym 36 (fun B k => z_istore_n (lv' := [(2, .int (jrem (sx_I σ a7 (ti x1)) 100)), (0, .ref t), (1, .int x1)]) B dX6_use_35 rfl (by decide) rfl k) ?_
        refine ym 37 (fun B k => z_iload_n B dX6_use_36 rfl 2 rfl k) ?_
        refine ym 38 (fun B k => z_istore_n (lv' := [(3, .int x1), (2, .int (jrem (sx_I σ a7 (ti x1)) 100)), (0, .ref t), (1, .int x1)]) B dX6_use_37 rfl (by decide) rfl k) ?_
        refine y_sub [(0, .ref t), (2, .int (jrem (sx_I σ a7 (ti x1)) 100)), (3, .int x1)] [2, 1, 0] rfl ?_
        exact tl_X6_use_38 h hT hk_t
      · replace h := ite_n c5 h
        refine ym 24 (fun B k => z_icmp_le (tgt := 26) B dX6_use_21 (by decide) (fun q => absurd q c5) (fun _ => k)) ?_
        refine ym 25 (fun B k => z_iconst (v := 0) B dX6_use_24 (by decide) k) ?_
        obtain ⟨rfl, rfl⟩ := Prod.mk.inj (Option.some.inj h)
        exact yr_i hT trivial rfl dX6_use_25
set_option maxRecDepth 100000 in
set_option maxHeartbeats 4000000 in
theorem ct_X5_await (l : Launch) {g : gx_T} {σ : sx_T} {u : sx_T} {n0 : Nat} {t : Nat} {x1 : Int32} (h : f_X5_await n0 σ t x1 = some u) (hT : TS g σ) (hk_t : sx_K σ t = 7) : CT l g yX5_await cX5_await 3 none 1 23 [.ref t, .int x1] (True) u σ (Qxv g u) := by
  refine yc_met (by decide) (Nat.le_of_ble_eq_true rfl) ?_
  refine yc_lv (show lv_args 0 [.ref t, .int x1] = [(0, .ref t), (1, .int x1)] from rfl) ?_
  show ZY l g _ _ _ _ _ _ _ _ _ _ _ _ _ _ σ 0 [(0, .ref t), (1, .int x1)] []
  unfold f_X5_await at h
  refine ym 1 (fun B k => z_aload_n B dX5_await_0 rfl 0 rfl k) ?_
  replace h := qv_e h
  obtain ⟨w1, e_w1, h⟩ := h
  have hq_w1 : rk σ w1 8 := rk_T hT hk_t rfl (by decide) e_w1
  refine ym 4 (fun B k => gf_X5_21 (x := w1) B hk_t e_w1 dX5_await_1 k) ?_
  refine ym 5 (fun B k => z_iload_n B dX5_await_4 rfl 1 rfl k) ?_
  replace h := bq_e h
  obtain ⟨a2, rfl, h⟩ := h
  have hk_a2 := hq_w1 a2 rfl
  replace h := br_e h
  obtain ⟨r4, h3, h⟩ := h
  have m5 := ct_X6_find l (g := g) h3 hT hk_a2
  refine yc_Vi (Al := [.int x1]) (rest := []) 8 rfl cw_X5_191 cx_7 dX5_await_5 m5 hk_a2 rfl (by decide) rfl (Nat.le_of_ble_eq_true rfl) ?_
  refine ym 9 (fun B k => z_istore_n (lv' := [(2, .int r4), (0, .ref t), (1, .int x1)]) B dX5_await_8 rfl (by decide) rfl k) ?_
  refine ym 10 (fun B k => z_iload_n B dX5_await_9 rfl 0 rfl k) ?_
  refine ym 11 (fun B k => z_iconst (v := (-1)) B dX5_await_10 (by decide) k) ?_
  by_cases c6 : r4 = (-1)
  · replace h := ite_p c6 h
    refine ym 14 (fun B k => z_icmp_ne (tgt := 27) B dX5_await_11 (by decide) (fun q => absurd c6 q) (fun _ => k)) ?_
    refine ym 15 (fun B k => z_aload_n B dX5_await_14 rfl 1 rfl k) ?_
    refine ym 16 (fun B k => z_iload_n B dX5_await_15 rfl 2 rfl k) ?_
    have j7 := hk_t
    refine ymw (σ' := (wx_I σ t 9 x1)) 19 e_I (fun B hin k => pf_X5_59 (x := x1) B hk_t rfl dX5_await_16 k) ?_
    have hT := TS_I (k := 9) (x := x1) hT hk_t (Or.inl rfl)
    have hk_t := kk_I (σ := σ) (a := t) (k := 9) (x := x1) hk_t
    refine ym 20 (fun B k => z_aload_n B dX5_await_19 rfl 1 rfl k) ?_
    refine ym 21 (fun B k => z_iconst (v := 3) B dX5_await_20 (by decide) k) ?_
    have j8 := hk_t
    refine ymw (σ' := (wx_I (wx_I σ t 9 x1) t 8 3)) 24 e_I (fun B hin k => pf_X5_56 (x := 3) B hk_t rfl dX5_await_21 k) ?_
    have hT := TS_I (k := 8) (x := 3) hT hk_t (Or.inl rfl)
    have hk_t := kk_I (σ := (wx_I σ t 9 x1)) (a := t) (k := 8) (x := 3) hk_t
    refine ym 39 (fun B k => z_goto (tgt := 39) B dX5_await_24 (by decide) k) ?_
    obtain rfl := Option.some.inj h
    exact yr_v hT trivial rfl dX5_await_39
  · replace h := ite_n c6 h
    refine ym 27 (fun B k => z_icmp_ne (tgt := 27) B dX5_await_11 (by decide) (fun _ => k) (fun q => absurd q c6)) ?_
    refine ym 28 (fun B k => z_aload_n B dX5_await_27 rfl 1 rfl k) ?_
    refine ym 29 (fun B k => z_aload_n B dX5_await_28 rfl 1 rfl k) ?_
    replace h := qv_e h
    obtain ⟨w9, e_w9, h⟩ := h
    have hq_w9 : rk σ w9 8 := rk_T hT hk_t rfl (by decide) e_w9
    refine ym 32 (fun B k => gf_X5_21 (x := w9) B hk_t e_w9 dX5_await_29 k) ?_
    refine ym 33 (fun B k => z_iload_n B dX5_await_32 rfl 0 rfl k) ?_
    replace h := bq_e h
    obtain ⟨a10, rfl, h⟩ := h
    have hk_a10 := hq_w9 a10 rfl
    replace h := bd_e h
    obtain ⟨r12, u13, h11, h⟩ := h
    have m14 := ct_X6_use l (g := g) h11 hT hk_a10
    refine yc_Vi (Al := [.int r4]) (rest := [.ref t]) 36 rfl cw_X5_194 cx_7 dX5_await_33 m14 hk_a10 rfl (by decide) rfl (Nat.le_of_ble_eq_true rfl) ?_
    have hk_t := k_G m14.1.1 (by decide) hk_t
    have hT := m14.1.1.2.2.2
    have j15 := hk_t
    refine ymw (σ' := (wx_I u13 t 6 r12)) 39 e_I (fun B hin k => pf_X5_50 (x := r12) B hk_t rfl dX5_await_36 k) ?_
    have hT := TS_I (k := 6) (x := r12) hT hk_t (Or.inl rfl)
    have hk_t := kk_I (σ := u13) (a := t) (k := 6) (x := r12) hk_t
    obtain rfl := Option.some.inj h
    exact yr_v hT trivial rfl dX5_await_39
set_option maxRecDepth 100000 in
set_option maxHeartbeats 4000000 in
theorem ct_X5_select (l : Launch) {g : gx_T} {σ : sx_T} {u : sx_T} {n0 : Nat} {t : Nat} {x1 : Int32} {x2 : Int32} (h : f_X5_select n0 σ t x1 x2 = some u) (hT : TS g σ) (hk_t : sx_K σ t = 7) : CT l g yX5_select cX5_select 4 none 1 23 [.ref t, .int x1, .int x2] (True) u σ (Qxv g u) := by
  refine yc_met (by decide) (Nat.le_of_ble_eq_true rfl) ?_
  refine yc_lv (show lv_args 0 [.ref t, .int x1, .int x2] = [(0, .ref t), (1, .int x1), (2, .int x2)] from rfl) ?_
  show ZY l g _ _ _ _ _ _ _ _ _ _ _ _ _ _ σ 0 [(0, .ref t), (1, .int x1), (2, .int x2)] []
  unfold f_X5_select at h
  refine ym 1 (fun B k => z_aload_n B dX5_select_0 rfl 0 rfl k) ?_
  replace h := qv_e h
  obtain ⟨w1, e_w1, h⟩ := h
  have hq_w1 : rk σ w1 8 := rk_T hT hk_t rfl (by decide) e_w1
  refine ym 4 (fun B k => gf_X5_21 (x := w1) B hk_t e_w1 dX5_select_1 k) ?_
  refine ym 5 (fun B k => z_iload_n B dX5_select_4 rfl 1 rfl k) ?_
  replace h := bq_e h
  obtain ⟨a2, rfl, h⟩ := h
  have hk_a2 := hq_w1 a2 rfl
  replace h := br_e h
  obtain ⟨r4, h3, h⟩ := h
  have m5 := ct_X6_find l (g := g) h3 hT hk_a2
  refine yc_Vi (Al := [.int x1]) (rest := []) 8 rfl cw_X5_191 cx_7 dX5_select_5 m5 hk_a2 rfl (by decide) rfl (Nat.le_of_ble_eq_true rfl) ?_
  refine ym 9 (fun B k => z_istore_n (lv' := [(3, .int r4), (0, .ref t), (1, .int x1), (2, .int x2)]) B dX5_select_8 rfl (by decide) rfl k) ?_
  refine ym 10 (fun B k => z_iload_n B dX5_select_9 rfl 0 rfl k) ?_
  refine ym 11 (fun B k => z_iconst (v := (-1)) B dX5_select_10 (by decide) k) ?_
  by_cases c6 : r4 = (-1)
  · replace h := ite_p c6 h
    refine ym 14 (fun B k => z_icmp_ne (tgt := 33) B dX5_select_11 (by decide) (fun q => absurd c6 q) (fun _ => k)) ?_
    refine ym 15 (fun B k => z_aload_n B dX5_select_14 rfl 1 rfl k) ?_
    refine ym 16 (fun B k => z_iload_n B dX5_select_15 rfl 2 rfl k) ?_
    have j7 := hk_t
    refine ymw (σ' := (wx_I σ t 9 x1)) 19 e_I (fun B hin k => pf_X5_59 (x := x1) B hk_t rfl dX5_select_16 k) ?_
    have hT := TS_I (k := 9) (x := x1) hT hk_t (Or.inl rfl)
    have hk_t := kk_I (σ := σ) (a := t) (k := 9) (x := x1) hk_t
    refine ym 20 (fun B k => z_aload_n B dX5_select_19 rfl 1 rfl k) ?_
    refine ym 21 (fun B k => z_iconst (v := 4) B dX5_select_20 (by decide) k) ?_
    refine ym 22 (fun B k => z_iconst (v := 1) B dX5_select_21 (by decide) k) ?_
    refine ym 23 (fun B k => z_iload_n B dX5_select_22 rfl 3 rfl k) ?_
    replace h := br_e h
    obtain ⟨r9, h8, h⟩ := h
    have m10 := ct_J9_max_7cf53 l (g := g) h8 hT
    refine yc_Si (Al := [.int 1, .int x2]) (rest := [.int 4, .ref t]) 26 rfl cw_X5_170 dX5_select_23 m10 rfl (by decide) rfl (Nat.le_of_ble_eq_true rfl) ?_
    refine ym 27 (fun B k => z_i2l (v := r9.toInt64) B dX5_select_26 rfl k) ?_
    replace h := br_e h
    obtain ⟨u12, h11, h⟩ := h
    have m13 := ct_X5_want l (g := g) h11 hT hk_t
    refine yc_Vv (Al := [.int 4, .long r9.toInt64]) (rest := []) 30 rfl cw_X5_114 cx_6 dX5_select_27 m13 hk_t rfl (by decide) rfl (Nat.le_of_ble_eq_true rfl) ?_
    have hk_t := k_G m13.1.1 (by decide) hk_t
    have hT := m13.1.1.2.2.2
    refine ym 47 (fun B k => z_goto (tgt := 47) B dX5_select_30 (by decide) k) ?_
    obtain rfl := Option.some.inj h
    exact yr_v hT trivial rfl dX5_select_47
  · replace h := ite_n c6 h
    refine ym 33 (fun B k => z_icmp_ne (tgt := 33) B dX5_select_11 (by decide) (fun _ => k) (fun q => absurd q c6)) ?_
    refine ym 34 (fun B k => z_aload_n B dX5_select_33 rfl 1 rfl k) ?_
    replace h := qv_e h
    obtain ⟨w14, e_w14, h⟩ := h
    have hq_w14 : rk σ w14 8 := rk_T hT hk_t rfl (by decide) e_w14
    refine ym 37 (fun B k => gf_X5_21 (x := w14) B hk_t e_w14 dX5_select_34 k) ?_
    refine ym 38 (fun B k => z_iload_n B dX5_select_37 rfl 0 rfl k) ?_
    replace h := bq_e h
    obtain ⟨a15, rfl, h⟩ := h
    have hk_a15 := hq_w14 a15 rfl
    replace h := bd_e h
    obtain ⟨r17, u18, h16, h⟩ := h
    have m19 := ct_X6_use l (g := g) h16 hT hk_a15
    refine yc_Vi (Al := [.int r4]) (rest := []) 41 rfl cw_X5_194 cx_7 dX5_select_38 m19 hk_a15 rfl (by decide) rfl (Nat.le_of_ble_eq_true rfl) ?_
    have hk_t := k_G m19.1.1 (by decide) hk_t
    have hT := m19.1.1.2.2.2
    refine ym 42 (fun B k => z_pop B dX5_select_41 rfl k) ?_
    refine ym 43 (fun B k => z_aload_n B dX5_select_42 rfl 1 rfl k) ?_
    refine ym 44 (fun B k => z_iconst (v := 1) B dX5_select_43 (by decide) k) ?_
    have j20 := hk_t
    refine ymw (σ' := (wx_I u18 t 6 1)) 47 e_I (fun B hin k => pf_X5_50 (x := 1) B hk_t rfl dX5_select_44 k) ?_
    have hT := TS_I (k := 6) (x := 1) hT hk_t (Or.inl rfl)
    have hk_t := kk_I (σ := u18) (a := t) (k := 6) (x := 1) hk_t
    obtain rfl := Option.some.inj h
    exact yr_v hT trivial rfl dX5_select_47
set_option maxRecDepth 100000 in
set_option maxHeartbeats 4000000 in
theorem ct_X3_push (l : Launch) {g : gx_T} {σ : sx_T} {u : sx_T}  {t : Nat} {x1 : Int32} (h : f_X3_push σ t x1 = some u) (hT : TS g σ) (hk_t : sx_K σ t = 5) : CT l g yX3_push cX3_push 2 none 0 0 [.ref t, .int x1] (True) u σ (Qxv g u) := by
  refine yc_met (by decide) (Nat.le_of_ble_eq_true rfl) ?_
  refine yc_lv (show lv_args 0 [.ref t, .int x1] = [(0, .ref t), (1, .int x1)] from rfl) ?_
  show ZY l g _ _ _ _ _ _ _ _ _ _ _ _ _ _ σ 0 [(0, .ref t), (1, .int x1)] []
  unfold f_X3_push at h
  refine ym 1 (fun B k => z_aload_n B dX3_push_0 rfl 0 rfl k) ?_
  refine ym 4 (fun B k => gf_X3_15 (x := (sx_I σ t 1)) B hk_t rfl dX3_push_1 k) ?_
  by_cases c1 : (sx_I σ t 1) < 0
  · replace h := ite_p c1 h
    refine ym 39 (fun B k => z_if_lt (tgt := 39) B dX3_push_4 (by decide) (fun _ => k) (fun q => absurd c1 q)) ?_
    obtain rfl := Option.some.inj h
    exact yr_v hT trivial rfl dX3_push_39
  · replace h := ite_n c1 h
    refine ym 7 (fun B k => z_if_lt (tgt := 39) B dX3_push_4 (by decide) (fun q => absurd q c1) (fun _ => k)) ?_
    refine ym 8 (fun B k => z_aload_n B dX3_push_7 rfl 0 rfl k) ?_
    refine ym 11 (fun B k => gf_X3_15 (x := (sx_I σ t 1)) B hk_t rfl dX3_push_8 k) ?_
    refine ym 12 (fun B k => z_aload_n B dX3_push_11 rfl 0 rfl k) ?_
    replace h := qv_e h
    obtain ⟨w2, e_w2, h⟩ := h
    have hq_w2 : rk σ w2 13 := rk_T hT hk_t rfl (by decide) e_w2
    refine ym 15 (fun B k => gf_X3_9 (x := w2) B hk_t e_w2 dX3_push_12 k) ?_
    replace h := bq_e h
    obtain ⟨a3, rfl, h⟩ := h
    have hk_a3 := hq_w2 a3 rfl
    refine ym 16 (fun B k => z_alen (kd := 13) (ti := 1) (v := Int32.ofNat (sx_N σ a3)) B hk_a3 (by decide) rfl rfl dX3_push_15 k) ?_
    by_cases c4 : (Int32.ofNat (sx_N σ a3)) ≤ (sx_I σ t 1)
    · replace h := ite_p c4 h
      refine ym 39 (fun B k => z_icmp_ge (tgt := 39) B dX3_push_16 (by decide) (fun _ => k) (fun q => absurd c4 q)) ?_
      obtain rfl := Option.some.inj h
      exact yr_v hT trivial rfl dX3_push_39
    · replace h := ite_n c4 h
      refine ym 19 (fun B k => z_icmp_ge (tgt := 39) B dX3_push_16 (by decide) (fun q => absurd q c4) (fun _ => k)) ?_
      refine ym 20 (fun B k => z_aload_n B dX3_push_19 rfl 0 rfl k) ?_
      replace h := qv_e h
      obtain ⟨w5, e_w5, h⟩ := h
      have hq_w5 : rk σ w5 13 := rk_T hT hk_t rfl (by decide) e_w5
      refine ym 23 (fun B k => gf_X3_9 (x := w5) B hk_t e_w5 dX3_push_20 k) ?_
      refine ym 24 (fun B k => z_aload_n B dX3_push_23 rfl 0 rfl k) ?_
      refine ym 27 (fun B k => gf_X3_15 (x := (sx_I σ t 1)) B hk_t rfl dX3_push_24 k) ?_
      refine ym 28 (fun B k => z_iload_n B dX3_push_27 rfl 1 rfl k) ?_
      replace h := bq_e h
      obtain ⟨a6, rfl, h⟩ := h
      have hk_a6 := hq_w5 a6 rfl
      replace h := ck_e h
      obtain ⟨hi_7, h⟩ := h
      have j8 := hk_a6
      refine ymw (σ' := (wx_I σ a6 (ti (sx_I σ t 1)) x1)) 29 e_I (fun B _ k => z_iast (j := (ti (sx_I σ t 1))) B hk_a6 rfl hi_7 rfl dX3_push_28 k) ?_
      have hT := TS_I (k := (ti (sx_I σ t 1))) (x := x1) hT hk_a6 (Or.inl rfl)
      have hk_t := kk_I (σ := σ) (a := a6) (k := (ti (sx_I σ t 1))) (x := x1) hk_t
      refine ym 30 (fun B k => z_aload_n B dX3_push_29 rfl 0 rfl k) ?_
      refine ym 31 (fun B k => z_dup B dX3_push_30 rfl k) ?_
      refine ym 34 (fun B k => gf_X3_15 (x := (sx_I σ t 1)) B hk_t (rI_k (by decide) j8 (kd_I hk_t) rfl) dX3_push_31 k) ?_
      refine ym 35 (fun B k => z_iconst (v := 1) B dX3_push_34 (by decide) k) ?_
      refine ym 36 (fun B k => z_iadd B dX3_push_35 k) ?_
      have j9 := hk_t
      refine ymw (σ' := (wx_I (wx_I σ a6 (ti (sx_I σ t 1)) x1) t 1 ((sx_I σ t 1) + 1))) 39 e_I (fun B hin k => pf_X3_15 (x := ((sx_I σ t 1) + 1)) B hk_t rfl dX3_push_36 k) ?_
      have hT := TS_I (k := 1) (x := ((sx_I σ t 1) + 1)) hT hk_t (Or.inl rfl)
      have hk_t := kk_I (σ := (wx_I σ a6 (ti (sx_I σ t 1)) x1)) (a := t) (k := 1) (x := ((sx_I σ t 1) + 1)) hk_t
      obtain rfl := Option.some.inj h
      exact yr_v hT trivial rfl dX3_push_39
set_option maxRecDepth 100000 in
set_option maxHeartbeats 4000000 in
theorem tb_X5_stepWithoutEvent_163 {l : Launch} {g : gx_T} {σ : sx_T} {u : sx_T} {As : Array Value}  {y0 : Int32} {t : Nat} (h : fb_X5_stepWithoutEvent_163 σ y0 t = some u) (hT : TS g σ) (hk_t : sx_K σ t = 7) : ZY l g cX5_stepWithoutEvent RX5 "stepWithoutEvent" none 3 1 21 0 0 false As (QM g As (Qxv g u)) (True) u σ 163 [] [.int y0, .ref t] := by
  unfold fb_X5_stepWithoutEvent_163 at h
  have j1 := hk_t
  refine ymw (σ' := (wx_I σ t 14 y0)) 166 e_I (fun B hin k => pf_X5_76 (x := y0) B hk_t rfl dX5_stepWithoutEvent_163 k) ?_
  have hT := TS_I (k := 14) (x := y0) hT hk_t (Or.inl rfl)
  refine ym 176 (fun B k => z_goto (tgt := 176) B dX5_stepWithoutEvent_166 (by decide) k) ?_
  obtain rfl := Option.some.inj h
  exact yr_v hT trivial rfl dX5_stepWithoutEvent_176
set_option maxRecDepth 100000 in
set_option maxHeartbeats 4000000 in
theorem tb_X5_stepWithoutEvent_83 {l : Launch} {g : gx_T} {σ : sx_T} {u : sx_T} {As : Array Value}  {y0 : Int32} {t : Nat} (h : fb_X5_stepWithoutEvent_83 σ y0 t = some u) (hT : TS g σ) (hk_t : sx_K σ t = 7) : ZY l g cX5_stepWithoutEvent RX5 "stepWithoutEvent" none 3 1 21 0 0 false As (QM g As (Qxv g u)) (True) u σ 83 [] [.int y0, .ref t] := by
  unfold fb_X5_stepWithoutEvent_83 at h
  have j1 := hk_t
  refine ymw (σ' := (wx_I σ t 5 y0)) 86 e_I (fun B hin k => pf_X5_41 (x := y0) B hk_t rfl dX5_stepWithoutEvent_83 k) ?_
  have hT := TS_I (k := 5) (x := y0) hT hk_t (Or.inl rfl)
  refine ym 176 (fun B k => z_goto (tgt := 176) B dX5_stepWithoutEvent_86 (by decide) k) ?_
  obtain rfl := Option.some.inj h
  exact yr_v hT trivial rfl dX5_stepWithoutEvent_176
set_option maxRecDepth 100000 in
set_option maxHeartbeats 4000000 in
theorem ct_X5_stepWithoutEvent (l : Launch) {g : gx_T} {σ : sx_T} {u : sx_T}  {t : Nat} {x1 : Int32} {x2 : Int32} (h : f_X5_stepWithoutEvent σ t x1 x2 = some u) (hT : TS g σ) (hk_t : sx_K σ t = 7) : CT l g yX5_stepWithoutEvent cX5_stepWithoutEvent 3 none 1 21 [.ref t, .int x1, .int x2] (True) u σ (Qxv g u) := by
  refine yc_met (by decide) (Nat.le_of_ble_eq_true rfl) ?_
  refine yc_lv (show lv_args 0 [.ref t, .int x1, .int x2] = [(0, .ref t), (1, .int x1), (2, .int x2)] from rfl) ?_
  show ZY l g _ _ _ _ _ _ _ _ _ _ _ _ _ _ σ 0 [(0, .ref t), (1, .int x1), (2, .int x2)] []
  unfold f_X5_stepWithoutEvent at h
  refine ym 1 (fun B k => z_iload_n B dX5_stepWithoutEvent_0 rfl 1 rfl k) ?_
  by_cases c1 : x1 = 5
  · replace h := ite_p c1 h
    refine ym 64 (fun B k => z_tableIn (tgt := 64) B dX5_stepWithoutEvent_1 (by rw [c1]; decide) (by rw [c1]; decide) (show _ = some (63 : Int) by rw [c1]; decide) (by decide) k) ?_
    refine ym 65 (fun B k => z_aload_n B dX5_stepWithoutEvent_64 rfl 0 rfl k) ?_
    refine ym 66 (fun B k => z_aload_n B dX5_stepWithoutEvent_65 rfl 0 rfl k) ?_
    refine ym 69 (fun B k => gf_X5_50 (x := (sx_I σ t 6)) B hk_t rfl dX5_stepWithoutEvent_66 k) ?_
    by_cases c2 : (sx_I σ t 6) = 0
    · replace h := ite_p c2 h
      refine ym 72 (fun B k => z_if_ne (tgt := 79) B dX5_stepWithoutEvent_69 (by decide) (fun q => absurd c2 q) (fun _ => k)) ?_
      refine ym 73 (fun B k => z_iload_n B dX5_stepWithoutEvent_72 rfl 2 rfl k) ?_
      refine ym 75 (fun B k => z_bipush (v := 20) B dX5_stepWithoutEvent_73 (by decide) k) ?_
      refine ym 76 (fun B k => z_irem B dX5_stepWithoutEvent_75 (by decide) k) ?_
      refine ym 83 (fun B k => z_goto (tgt := 83) B dX5_stepWithoutEvent_76 (by decide) k) ?_
      refine y_sub [] [] rfl ?_
      exact tb_X5_stepWithoutEvent_83 h hT hk_t
    · replace h := ite_n c2 h
      refine ym 79 (fun B k => z_if_ne (tgt := 79) B dX5_stepWithoutEvent_69 (by decide) (fun _ => k) (fun q => absurd q c2)) ?_
      refine ym 80 (fun B k => z_aload_n B dX5_stepWithoutEvent_79 rfl 0 rfl k) ?_
      refine ym 83 (fun B k => gf_X5_41 (x := (sx_I σ t 5)) B hk_t rfl dX5_stepWithoutEvent_80 k) ?_
      refine y_sub [] [] rfl ?_
      exact tb_X5_stepWithoutEvent_83 h hT hk_t
  replace h := ite_n c1 h
  by_cases c3 : x1 = 6
  · replace h := ite_p c3 h
    refine ym 89 (fun B k => z_tableIn (tgt := 89) B dX5_stepWithoutEvent_1 (by rw [c3]; decide) (by rw [c3]; decide) (show _ = some (88 : Int) by rw [c3]; decide) (by decide) k) ?_
    refine ym 90 (fun B k => z_aload_n B dX5_stepWithoutEvent_89 rfl 0 rfl k) ?_
    refine ym 91 (fun B k => z_iload_n B dX5_stepWithoutEvent_90 rfl 2 rfl k) ?_
    refine ym 93 (fun B k => z_bipush (v := 20) B dX5_stepWithoutEvent_91 (by decide) k) ?_
    refine ym 94 (fun B k => z_irem B dX5_stepWithoutEvent_93 (by decide) k) ?_
    have j4 := hk_t
    refine ymw (σ' := (wx_I σ t 5 (jrem x2 20))) 97 e_I (fun B hin k => pf_X5_41 (x := (jrem x2 20)) B hk_t rfl dX5_stepWithoutEvent_94 k) ?_
    have hT := TS_I (k := 5) (x := (jrem x2 20)) hT hk_t (Or.inl rfl)
    have hk_t := kk_I (σ := σ) (a := t) (k := 5) (x := (jrem x2 20)) hk_t
    refine ym 176 (fun B k => z_goto (tgt := 176) B dX5_stepWithoutEvent_97 (by decide) k) ?_
    obtain rfl := Option.some.inj h
    exact yr_v hT trivial rfl dX5_stepWithoutEvent_176
  replace h := ite_n c3 h
  by_cases c5 : x1 = 7
  · replace h := ite_p c5 h
    refine ym 100 (fun B k => z_tableIn (tgt := 100) B dX5_stepWithoutEvent_1 (by rw [c5]; decide) (by rw [c5]; decide) (show _ = some (99 : Int) by rw [c5]; decide) (by decide) k) ?_
    refine ym 101 (fun B k => z_aload_n B dX5_stepWithoutEvent_100 rfl 0 rfl k) ?_
    refine ym 102 (fun B k => z_dup B dX5_stepWithoutEvent_101 rfl k) ?_
    refine ym 105 (fun B k => gf_X5_50 (x := (sx_I σ t 6)) B hk_t rfl dX5_stepWithoutEvent_102 k) ?_
    refine ym 106 (fun B k => z_iload_n B dX5_stepWithoutEvent_105 rfl 2 rfl k) ?_
    refine ym 107 (fun B k => z_iadd B dX5_stepWithoutEvent_106 k) ?_
    have j6 := hk_t
    refine ymw (σ' := (wx_I σ t 6 ((sx_I σ t 6) + x2))) 110 e_I (fun B hin k => pf_X5_50 (x := ((sx_I σ t 6) + x2)) B hk_t rfl dX5_stepWithoutEvent_107 k) ?_
    have hT := TS_I (k := 6) (x := ((sx_I σ t 6) + x2)) hT hk_t (Or.inl rfl)
    have hk_t := kk_I (σ := σ) (a := t) (k := 6) (x := ((sx_I σ t 6) + x2)) hk_t
    refine ym 176 (fun B k => z_goto (tgt := 176) B dX5_stepWithoutEvent_110 (by decide) k) ?_
    obtain rfl := Option.some.inj h
    exact yr_v hT trivial rfl dX5_stepWithoutEvent_176
  replace h := ite_n c5 h
  by_cases c7 : x1 = 8
  · replace h := ite_p c7 h
    refine ym 113 (fun B k => z_tableIn (tgt := 113) B dX5_stepWithoutEvent_1 (by rw [c7]; decide) (by rw [c7]; decide) (show _ = some (112 : Int) by rw [c7]; decide) (by decide) k) ?_
    refine ym 114 (fun B k => z_aload_n B dX5_stepWithoutEvent_113 rfl 0 rfl k) ?_
    refine ym 115 (fun B k => z_dup B dX5_stepWithoutEvent_114 rfl k) ?_
    refine ym 118 (fun B k => gf_X5_50 (x := (sx_I σ t 6)) B hk_t rfl dX5_stepWithoutEvent_115 k) ?_
    refine ym 119 (fun B k => z_iload_n B dX5_stepWithoutEvent_118 rfl 2 rfl k) ?_
    refine ym 120 (fun B k => z_isub B dX5_stepWithoutEvent_119 k) ?_
    have j8 := hk_t
    refine ymw (σ' := (wx_I σ t 6 ((sx_I σ t 6) - x2))) 123 e_I (fun B hin k => pf_X5_50 (x := ((sx_I σ t 6) - x2)) B hk_t rfl dX5_stepWithoutEvent_120 k) ?_
    have hT := TS_I (k := 6) (x := ((sx_I σ t 6) - x2)) hT hk_t (Or.inl rfl)
    have hk_t := kk_I (σ := σ) (a := t) (k := 6) (x := ((sx_I σ t 6) - x2)) hk_t
    refine ym 176 (fun B k => z_goto (tgt := 176) B dX5_stepWithoutEvent_123 (by decide) k) ?_
    obtain rfl := Option.some.inj h
    exact yr_v hT trivial rfl dX5_stepWithoutEvent_176
  replace h := ite_n c7 h
  by_cases c9 : x1 = 12
  · replace h := ite_p c9 h
    refine ym 126 (fun B k => z_tableIn (tgt := 126) B dX5_stepWithoutEvent_1 (by rw [c9]; decide) (by rw [c9]; decide) (show _ = some (125 : Int) by rw [c9]; decide) (by decide) k) ?_
    refine ym 127 (fun B k => z_aload_n B dX5_stepWithoutEvent_126 rfl 0 rfl k) ?_
    replace h := qv_e h
    obtain ⟨w10, e_w10, h⟩ := h
    have hq_w10 : rk σ w10 5 := rk_T hT hk_t rfl (by decide) e_w10
    refine ym 130 (fun B k => gf_X5_12 (x := w10) B hk_t e_w10 dX5_stepWithoutEvent_127 k) ?_
    refine ym 131 (fun B k => z_iload_n B dX5_stepWithoutEvent_130 rfl 2 rfl k) ?_
    replace h := bq_e h
    obtain ⟨a11, rfl, h⟩ := h
    have hk_a11 := hq_w10 a11 rfl
    replace h := br_e h
    obtain ⟨u13, h12, h⟩ := h
    have m14 := ct_X3_push l (g := g) h12 hT hk_a11
    refine yc_Vv (Al := [.int x2]) (rest := []) 134 rfl cw_X5_184 cx_4 dX5_stepWithoutEvent_131 m14 hk_a11 rfl (by decide) rfl (Nat.le_of_ble_eq_true rfl) ?_
    have hk_t := k_G m14.1.1 (by decide) hk_t
    have hT := m14.1.1.2.2.2
    refine ym 176 (fun B k => z_goto (tgt := 176) B dX5_stepWithoutEvent_134 (by decide) k) ?_
    obtain rfl := Option.some.inj h
    exact yr_v hT trivial rfl dX5_stepWithoutEvent_176
  replace h := ite_n c9 h
  by_cases c15 : x1 = 13
  · replace h := ite_p c15 h
    refine ym 169 (fun B k => z_tableIn (tgt := 169) B dX5_stepWithoutEvent_1 (by rw [c15]; decide) (by rw [c15]; decide) (show _ = some (168 : Int) by rw [c15]; decide) (by decide) k) ?_
    refine ym 170 (fun B k => z_aload_n B dX5_stepWithoutEvent_169 rfl 0 rfl k) ?_
    replace h := br_e h
    obtain ⟨u17, h16, h⟩ := h
    have m18 := ct_X5_failNow l (g := g) h16 hT hk_t
    refine yc_Vv (Al := []) (rest := []) 173 rfl cw_X5_122 cx_6 dX5_stepWithoutEvent_170 m18 hk_t rfl (by decide) rfl (Nat.le_of_ble_eq_true rfl) ?_
    have hk_t := k_G m18.1.1 (by decide) hk_t
    have hT := m18.1.1.2.2.2
    refine ym 176 (fun B k => z_goto (tgt := 176) B dX5_stepWithoutEvent_173 (by decide) k) ?_
    obtain rfl := Option.some.inj h
    exact yr_v hT trivial rfl dX5_stepWithoutEvent_176
  replace h := ite_n c15 h
  by_cases c19 : x1 = 15
  · replace h := ite_p c19 h
    refine ym 137 (fun B k => z_tableIn (tgt := 137) B dX5_stepWithoutEvent_1 (by rw [c19]; decide) (by rw [c19]; decide) (show _ = some (136 : Int) by rw [c19]; decide) (by decide) k) ?_
    refine ym 138 (fun B k => z_aload_n B dX5_stepWithoutEvent_137 rfl 0 rfl k) ?_
    refine ym 139 (fun B k => z_iconst (v := 1) B dX5_stepWithoutEvent_138 (by decide) k) ?_
    have j20 := hk_t
    refine ymw (σ' := (wx_I σ t 12 1)) 142 e_I (fun B hin k => pf_X5_69 (x := 1) B (Or.inr rfl) hk_t rfl dX5_stepWithoutEvent_139 k) ?_
    have hT := TS_I (k := 12) (x := 1) hT hk_t (Or.inr (Or.inr rfl))
    have hk_t := kk_I (σ := σ) (a := t) (k := 12) (x := 1) hk_t
    refine ym 176 (fun B k => z_goto (tgt := 176) B dX5_stepWithoutEvent_142 (by decide) k) ?_
    obtain rfl := Option.some.inj h
    exact yr_v hT trivial rfl dX5_stepWithoutEvent_176
  replace h := ite_n c19 h
  by_cases c21 : x1 = 16
  · replace h := ite_p c21 h
    refine ym 145 (fun B k => z_tableIn (tgt := 145) B dX5_stepWithoutEvent_1 (by rw [c21]; decide) (by rw [c21]; decide) (show _ = some (144 : Int) by rw [c21]; decide) (by decide) k) ?_
    refine ym 146 (fun B k => z_aload_n B dX5_stepWithoutEvent_145 rfl 0 rfl k) ?_
    refine ym 147 (fun B k => z_iconst (v := 0) B dX5_stepWithoutEvent_146 (by decide) k) ?_
    have j22 := hk_t
    refine ymw (σ' := (wx_I σ t 12 0)) 150 e_I (fun B hin k => pf_X5_69 (x := 0) B (Or.inl rfl) hk_t rfl dX5_stepWithoutEvent_147 k) ?_
    have hT := TS_I (k := 12) (x := 0) hT hk_t (Or.inr (Or.inl rfl))
    have hk_t := kk_I (σ := σ) (a := t) (k := 12) (x := 0) hk_t
    refine ym 151 (fun B k => z_aload_n B dX5_stepWithoutEvent_150 rfl 0 rfl k) ?_
    refine ym 152 (fun B k => z_aload_n B dX5_stepWithoutEvent_151 rfl 0 rfl k) ?_
    refine ym 155 (fun B k => gf_X5_73 (x := (sx_I σ t 13)) B hk_t (rI_n (by decide) rfl) dX5_stepWithoutEvent_152 k) ?_
    by_cases c23 : (sx_I σ t 13) = 0
    · replace h := ite_p c23 h
      refine ym 162 (fun B k => z_if_eq (tgt := 162) B dX5_stepWithoutEvent_155 (by decide) (fun _ => k) (fun q => absurd c23 q)) ?_
      refine ym 163 (fun B k => z_iconst (v := 0) B dX5_stepWithoutEvent_162 (by decide) k) ?_
      refine y_sub [] [] rfl ?_
      exact tb_X5_stepWithoutEvent_163 h hT hk_t
    · replace h := ite_n c23 h
      refine ym 158 (fun B k => z_if_eq (tgt := 162) B dX5_stepWithoutEvent_155 (by decide) (fun q => absurd q c23) (fun _ => k)) ?_
      refine ym 159 (fun B k => z_iconst (v := 3) B dX5_stepWithoutEvent_158 (by decide) k) ?_
      refine ym 163 (fun B k => z_goto (tgt := 163) B dX5_stepWithoutEvent_159 (by decide) k) ?_
      refine y_sub [] [] rfl ?_
      exact tb_X5_stepWithoutEvent_163 h hT hk_t
  replace h := ite_n c21 h
  refine ym 176 (fun B k => z_tabDf (tgt := 176) (vs := [5, 6, 7, 8, 12, 13, 15, 16]) B dX5_stepWithoutEvent_1 (by decide) (by decide) (by decide) (by intro v hv; simp only [List.mem_cons, List.not_mem_nil, or_false] at hv; rcases hv with rfl | rfl | rfl | rfl | rfl | rfl | rfl | rfl; all_goals assumption) k) ?_
  obtain rfl := Option.some.inj h
  exact yr_v hT trivial rfl dX5_stepWithoutEvent_176
set_option maxRecDepth 100000 in
set_option maxHeartbeats 4000000 in
theorem tb_X5_step_77 {l : Launch} {g : gx_T} {σ : sx_T} {u : sx_T} {As : Array Value} {n0 : Nat} {t : Nat} (h : fb_X5_step_77 n0 σ t = some u) (hT : TS g σ) (hk_t : sx_K σ t = 7) : ZY l g cX5_step RX5 "step" none 4 2 46 0 0 false As (QM g As (Qxv g u)) (True) u σ 77 [(0, .ref t)] [] := by
  unfold fb_X5_step_77 at h
  refine ym 78 (fun B k => z_aload_n B dX5_step_77 rfl 0 rfl k) ?_
  replace h := br_e h
  obtain ⟨u2, h1, h⟩ := h
  have m3 := ct_X5_failNow l (g := g) h1 hT hk_t
  refine yc_Vv (Al := []) (rest := []) 81 rfl cw_X5_122 cx_6 dX5_step_78 m3 hk_t rfl (by decide) rfl (Nat.le_of_ble_eq_true rfl) ?_
  have hk_t := k_G m3.1.1 (by decide) hk_t
  have hT := m3.1.1.2.2.2
  obtain rfl := Option.some.inj h
  exact yr_v hT trivial rfl dX5_step_81
set_option maxRecDepth 100000 in
set_option maxHeartbeats 4000000 in
theorem ct_X5_step (l : Launch) {g : gx_T} {σ : sx_T} {u : sx_T} {n0 : Nat} {t : Nat} (h : f_X5_step n0 σ t = some u) (hT : TS g σ) (hk_t : sx_K σ t = 7) : CT l g yX5_step cX5_step 4 none 2 46 [.ref t] (True) u σ (Qxv g u) := by
  refine yc_met (by decide) (Nat.le_of_ble_eq_true rfl) ?_
  refine yc_lv (show lv_args 0 [.ref t] = [(0, .ref t)] from rfl) ?_
  show ZY l g _ _ _ _ _ _ _ _ _ _ _ _ _ _ σ 0 [(0, .ref t)] []
  unfold f_X5_step at h
  refine ym 1 (fun B k => z_aload_n B dX5_step_0 rfl 0 rfl k) ?_
  replace h := qv_e h
  obtain ⟨w1, e_w1, h⟩ := h
  have hq_w1 : rk σ w1 6 := rk_T hT hk_t rfl (by decide) e_w1
  refine ym 4 (fun B k => gf_X5_25 (x := w1) B hk_t e_w1 dX5_step_1 k) ?_
  refine ym 5 (fun B k => z_aload_n B dX5_step_4 rfl 0 rfl k) ?_
  refine ym 8 (fun B k => gf_X5_41 (x := (sx_I σ t 5)) B hk_t rfl dX5_step_5 k) ?_
  replace h := bq_e h
  obtain ⟨a2, rfl, h⟩ := h
  have hk_a2 := hq_w1 a2 rfl
  replace h := br_e h
  obtain ⟨r4, h3, h⟩ := h
  have m5 := ct_X4_operation l (g := g) h3 hT hk_a2
  refine yc_Vi (Al := [.int (sx_I σ t 5)]) (rest := []) 11 rfl cw_X5_155 cx_5 dX5_step_8 m5 hk_a2 rfl (by decide) rfl (Nat.le_of_ble_eq_true rfl) ?_
  refine ym 12 (fun B k => z_istore_n (lv' := [(1, .int r4), (0, .ref t)]) B dX5_step_11 rfl (by decide) rfl k) ?_
  refine ym 13 (fun B k => z_aload_n B dX5_step_12 rfl 1 rfl k) ?_
  replace h := qv_e h
  obtain ⟨w6, e_w6, h⟩ := h
  have hq_w6 : rk σ w6 6 := rk_T hT hk_t rfl (by decide) e_w6
  refine ym 16 (fun B k => gf_X5_25 (x := w6) B hk_t e_w6 dX5_step_13 k) ?_
  refine ym 17 (fun B k => z_aload_n B dX5_step_16 rfl 1 rfl k) ?_
  refine ym 20 (fun B k => gf_X5_41 (x := (sx_I σ t 5)) B hk_t rfl dX5_step_17 k) ?_
  replace h := bq_e h
  obtain ⟨a7, rfl, h⟩ := h
  have hk_a7 := hq_w6 a7 rfl
  replace h := br_e h
  obtain ⟨r9, h8, h⟩ := h
  have m10 := ct_X4_first l (g := g) h8 hT hk_a7
  refine yc_Vi (Al := [.int (sx_I σ t 5)]) (rest := []) 23 rfl cw_X5_160 cx_5 dX5_step_20 m10 hk_a7 rfl (by decide) rfl (Nat.le_of_ble_eq_true rfl) ?_
  refine ym 24 (fun B k => z_istore_n (lv' := [(2, .int r9), (1, .int r4), (0, .ref t)]) B dX5_step_23 rfl (by decide) rfl k) ?_
  refine ym 25 (fun B k => z_aload_n B dX5_step_24 rfl 2 rfl k) ?_
  replace h := qv_e h
  obtain ⟨w11, e_w11, h⟩ := h
  have hq_w11 : rk σ w11 6 := rk_T hT hk_t rfl (by decide) e_w11
  refine ym 28 (fun B k => gf_X5_25 (x := w11) B hk_t e_w11 dX5_step_25 k) ?_
  refine ym 29 (fun B k => z_aload_n B dX5_step_28 rfl 2 rfl k) ?_
  refine ym 32 (fun B k => gf_X5_41 (x := (sx_I σ t 5)) B hk_t rfl dX5_step_29 k) ?_
  replace h := bq_e h
  obtain ⟨a12, rfl, h⟩ := h
  have hk_a12 := hq_w11 a12 rfl
  replace h := br_e h
  obtain ⟨r14, h13, h⟩ := h
  have m15 := ct_X4_second l (g := g) h13 hT hk_a12
  refine yc_Vi (Al := [.int (sx_I σ t 5)]) (rest := []) 35 rfl cw_X5_163 cx_5 dX5_step_32 m15 hk_a12 rfl (by decide) rfl (Nat.le_of_ble_eq_true rfl) ?_
  refine ym 36 (fun B k => z_istore_n (lv' := [(3, .int r14), (2, .int r9), (1, .int r4), (0, .ref t)]) B dX5_step_35 rfl (by decide) rfl k) ?_
  refine ym 37 (fun B k => z_aload_n B dX5_step_36 rfl 3 rfl k) ?_
  refine ym 38 (fun B k => z_aload_n B dX5_step_37 rfl 3 rfl k) ?_
  refine ym 41 (fun B k => gf_X5_41 (x := (sx_I σ t 5)) B hk_t rfl dX5_step_38 k) ?_
  refine ym 42 (fun B k => z_iconst (v := 1) B dX5_step_41 (by decide) k) ?_
  refine ym 43 (fun B k => z_iadd B dX5_step_42 k) ?_
  refine ym 45 (fun B k => z_bipush (v := 20) B dX5_step_43 (by decide) k) ?_
  refine ym 46 (fun B k => z_irem B dX5_step_45 (by decide) k) ?_
  have j16 := hk_t
  refine ymw (σ' := (wx_I σ t 5 (jrem ((sx_I σ t 5) + 1) 20))) 49 e_I (fun B hin k => pf_X5_41 (x := (jrem ((sx_I σ t 5) + 1) 20)) B hk_t rfl dX5_step_46 k) ?_
  have hT := TS_I (k := 5) (x := (jrem ((sx_I σ t 5) + 1) 20)) hT hk_t (Or.inl rfl)
  have hk_t := kk_I (σ := σ) (a := t) (k := 5) (x := (jrem ((sx_I σ t 5) + 1) 20)) hk_t
  refine ym 50 (fun B k => z_aload_n B dX5_step_49 rfl 3 rfl k) ?_
  refine ym 51 (fun B k => z_dup B dX5_step_50 rfl k) ?_
  refine ym 54 (fun B k => gf_X5_53 (x := (sx_I σ t 7)) B hk_t (rI_n (by decide) rfl) dX5_step_51 k) ?_
  refine ym 55 (fun B k => z_iconst (v := 1) B dX5_step_54 (by decide) k) ?_
  refine ym 56 (fun B k => z_iadd B dX5_step_55 k) ?_
  have j17 := hk_t
  refine ymw (σ' := (wx_I (wx_I σ t 5 (jrem ((sx_I σ t 5) + 1) 20)) t 7 ((sx_I σ t 7) + 1))) 59 e_I (fun B hin k => pf_X5_53 (x := ((sx_I σ t 7) + 1)) B hk_t rfl dX5_step_56 k) ?_
  have hT := TS_I (k := 7) (x := ((sx_I σ t 7) + 1)) hT hk_t (Or.inl rfl)
  have hk_t := kk_I (σ := (wx_I σ t 5 (jrem ((sx_I σ t 5) + 1) 20))) (a := t) (k := 7) (x := ((sx_I σ t 7) + 1)) hk_t
  refine ym 60 (fun B k => z_aload_n B dX5_step_59 rfl 3 rfl k) ?_
  refine ym 63 (fun B k => gf_X5_53 (x := ((sx_I σ t 7) + 1)) B hk_t rI_s dX5_step_60 k) ?_
  refine ym 65 (fun B k => z_bipush (v := 60) B dX5_step_63 (by decide) k) ?_
  by_cases c18 : 60 < ((sx_I σ t 7) + 1)
  · replace h := ite_p c18 h
    refine ym 77 (fun B k => z_icmp_gt (tgt := 77) B dX5_step_65 (by decide) (fun _ => k) (fun q => absurd c18 q)) ?_
    refine y_sub [(0, .ref t)] [3] rfl ?_
    exact tb_X5_step_77 h hT hk_t
  · replace h := ite_n c18 h
    refine ym 68 (fun B k => z_icmp_gt (tgt := 77) B dX5_step_65 (by decide) (fun q => absurd q c18) (fun _ => k)) ?_
    refine ym 69 (fun B k => z_aload_n B dX5_step_68 rfl 3 rfl k) ?_
    refine ym 70 (fun B k => z_iload_n B dX5_step_69 rfl 2 rfl k) ?_
    refine ym 71 (fun B k => z_iload_n B dX5_step_70 rfl 1 rfl k) ?_
    replace h := br_e h
    obtain ⟨r20, h19, h⟩ := h
    have m21 := ct_X5_isRefused l (g := g) h19 hT hk_t
    refine yc_Vi (Al := [.int r4, .int r9]) (rest := []) 74 rfl cw_X5_166 cx_6 dX5_step_71 m21 hk_t rfl (by decide) rfl (Nat.le_of_ble_eq_true rfl) ?_
    have hz_r20 := m21.1.2
    by_cases c22 : r20 = 0
    · replace h := ite_p c22 h
      refine ym 82 (fun B k => z_if_eq (tgt := 82) B dX5_step_74 (by decide) (fun _ => k) (fun q => absurd c22 q)) ?_
      refine ym 83 (fun B k => z_iload_n B dX5_step_82 rfl 2 rfl k) ?_
      by_cases c23 : r4 = 0
      · replace h := ite_p c23 h
        refine ym 276 (fun B k => z_tableIn (tgt := 276) B dX5_step_83 (by rw [c23]; decide) (by rw [c23]; decide) (show _ = some (193 : Int) by rw [c23]; decide) (by decide) k) ?_
        refine ym 277 (fun B k => z_aload_n B dX5_step_276 rfl 3 rfl k) ?_
        refine ym 279 (fun B k => z_bipush (v := 13) B dX5_step_277 (by decide) k) ?_
        refine ym 282 (fun B k => z_ldc2 (v := 10) B dX5_step_279 wg_370 k) ?_
        refine ym 283 (fun B k => z_aload_n B dX5_step_282 rfl 3 rfl k) ?_
        refine ym 286 (fun B k => gf_X5_50 (x := (sx_I σ t 6)) B hk_t (rI_n (by decide) (rI_n (by decide) rfl)) dX5_step_283 k) ?_
        refine ym 287 (fun B k => z_i2l (v := (sx_I σ t 6).toInt64) B dX5_step_286 rfl k) ?_
        refine ym 288 (fun B k => z_lmul B dX5_step_287 k) ?_
        refine ym 289 (fun B k => z_lconst (v := 1) B dX5_step_288 (by decide) k) ?_
        refine ym 290 (fun B k => z_ladd B dX5_step_289 k) ?_
        replace h := br_e h
        obtain ⟨u25, h24, h⟩ := h
        have m26 := ct_X5_want l (g := g) h24 hT hk_t
        refine yc_Vv (Al := [.int 13, .long ((10 * ((sx_I σ t 6).toInt64)) + 1)]) (rest := []) 293 rfl cw_X5_114 cx_6 dX5_step_290 m26 hk_t rfl (by decide) rfl (Nat.le_of_ble_eq_true rfl) ?_
        have hk_t := k_G m26.1.1 (by decide) hk_t
        have hT := m26.1.1.2.2.2
        refine ym 302 (fun B k => z_goto (tgt := 302) B dX5_step_293 (by decide) k) ?_
        obtain rfl := Option.some.inj h
        exact yr_v hT trivial rfl dX5_step_302
      replace h := ite_n c23 h
      by_cases c27 : r4 = 1
      · replace h := ite_p c27 h
        refine ym 168 (fun B k => z_tableIn (tgt := 168) B dX5_step_83 (by rw [c27]; decide) (by rw [c27]; decide) (show _ = some (85 : Int) by rw [c27]; decide) (by decide) k) ?_
        refine ym 169 (fun B k => z_aload_n B dX5_step_168 rfl 3 rfl k) ?_
        refine ym 170 (fun B k => z_iconst (v := 1) B dX5_step_169 (by decide) k) ?_
        refine ym 171 (fun B k => z_iload_n B dX5_step_170 rfl 1 rfl k) ?_
        refine ym 172 (fun B k => z_i2l (v := r9.toInt64) B dX5_step_171 rfl k) ?_
        replace h := br_e h
        obtain ⟨u29, h28, h⟩ := h
        have m30 := ct_X5_want l (g := g) h28 hT hk_t
        refine yc_Vv (Al := [.int 1, .long r9.toInt64]) (rest := []) 175 rfl cw_X5_114 cx_6 dX5_step_172 m30 hk_t rfl (by decide) rfl (Nat.le_of_ble_eq_true rfl) ?_
        have hk_t := k_G m30.1.1 (by decide) hk_t
        have hT := m30.1.1.2.2.2
        refine ym 302 (fun B k => z_goto (tgt := 302) B dX5_step_175 (by decide) k) ?_
        obtain rfl := Option.some.inj h
        exact yr_v hT trivial rfl dX5_step_302
      replace h := ite_n c27 h
      by_cases c31 : r4 = 2
      · replace h := ite_p c31 h
        refine ym 178 (fun B k => z_tableIn (tgt := 178) B dX5_step_83 (by rw [c31]; decide) (by rw [c31]; decide) (show _ = some (95 : Int) by rw [c31]; decide) (by decide) k) ?_
        refine ym 179 (fun B k => z_aload_n B dX5_step_178 rfl 3 rfl k) ?_
        refine ym 180 (fun B k => z_iconst (v := (-1)) B dX5_step_179 (by decide) k) ?_
        have j32 := hk_t
        refine ymw (σ' := (wx_I (wx_I (wx_I σ t 5 (jrem ((sx_I σ t 5) + 1) 20)) t 7 ((sx_I σ t 7) + 1)) t 9 (-1))) 183 e_I (fun B hin k => pf_X5_59 (x := (-1)) B hk_t rfl dX5_step_180 k) ?_
        have hT := TS_I (k := 9) (x := (-1)) hT hk_t (Or.inl rfl)
        have hk_t := kk_I (σ := (wx_I (wx_I σ t 5 (jrem ((sx_I σ t 5) + 1) 20)) t 7 ((sx_I σ t 7) + 1))) (a := t) (k := 9) (x := (-1)) hk_t
        refine ym 184 (fun B k => z_aload_n B dX5_step_183 rfl 3 rfl k) ?_
        refine ym 185 (fun B k => z_iconst (v := 4) B dX5_step_184 (by decide) k) ?_
        refine ym 186 (fun B k => z_iconst (v := 1) B dX5_step_185 (by decide) k) ?_
        refine ym 187 (fun B k => z_iload_n B dX5_step_186 rfl 1 rfl k) ?_
        replace h := br_e h
        obtain ⟨r34, h33, h⟩ := h
        have m35 := ct_J9_max_7cf53 l (g := g) h33 hT
        refine yc_Si (Al := [.int 1, .int r9]) (rest := [.int 4, .ref t]) 190 rfl cw_X5_170 dX5_step_187 m35 rfl (by decide) rfl (Nat.le_of_ble_eq_true rfl) ?_
        refine ym 191 (fun B k => z_i2l (v := r34.toInt64) B dX5_step_190 rfl k) ?_
        replace h := br_e h
        obtain ⟨u37, h36, h⟩ := h
        have m38 := ct_X5_want l (g := g) h36 hT hk_t
        refine yc_Vv (Al := [.int 4, .long r34.toInt64]) (rest := []) 194 rfl cw_X5_114 cx_6 dX5_step_191 m38 hk_t rfl (by decide) rfl (Nat.le_of_ble_eq_true rfl) ?_
        have hk_t := k_G m38.1.1 (by decide) hk_t
        have hT := m38.1.1.2.2.2
        refine ym 302 (fun B k => z_goto (tgt := 302) B dX5_step_194 (by decide) k) ?_
        obtain rfl := Option.some.inj h
        exact yr_v hT trivial rfl dX5_step_302
      replace h := ite_n c31 h
      by_cases c39 : r4 = 3
      · replace h := ite_p c39 h
        refine ym 197 (fun B k => z_tableIn (tgt := 197) B dX5_step_83 (by rw [c39]; decide) (by rw [c39]; decide) (show _ = some (114 : Int) by rw [c39]; decide) (by decide) k) ?_
        refine ym 198 (fun B k => z_aload_n B dX5_step_197 rfl 3 rfl k) ?_
        refine ym 199 (fun B k => z_iload_n B dX5_step_198 rfl 1 rfl k) ?_
        replace h := br_e h
        obtain ⟨u41, h40, h⟩ := h
        have m42 := ct_X5_await l (g := g) h40 hT hk_t
        refine yc_Vv (Al := [.int r9]) (rest := []) 202 rfl cw_X5_174 cx_6 dX5_step_199 m42 hk_t rfl (by decide) rfl (Nat.le_of_ble_eq_true rfl) ?_
        have hk_t := k_G m42.1.1 (by decide) hk_t
        have hT := m42.1.1.2.2.2
        refine ym 302 (fun B k => z_goto (tgt := 302) B dX5_step_202 (by decide) k) ?_
        obtain rfl := Option.some.inj h
        exact yr_v hT trivial rfl dX5_step_302
      replace h := ite_n c39 h
      by_cases c43 : r4 = 4
      · replace h := ite_p c43 h
        refine ym 205 (fun B k => z_tableIn (tgt := 205) B dX5_step_83 (by rw [c43]; decide) (by rw [c43]; decide) (show _ = some (122 : Int) by rw [c43]; decide) (by decide) k) ?_
        refine ym 206 (fun B k => z_aload_n B dX5_step_205 rfl 3 rfl k) ?_
        refine ym 207 (fun B k => z_iload_n B dX5_step_206 rfl 1 rfl k) ?_
        refine ym 208 (fun B k => z_iload_n B dX5_step_207 rfl 0 rfl k) ?_
        replace h := br_e h
        obtain ⟨u45, h44, h⟩ := h
        have m46 := ct_X5_select l (g := g) h44 hT hk_t
        refine yc_Vv (Al := [.int r9, .int r14]) (rest := []) 211 rfl cw_X5_177 cx_6 dX5_step_208 m46 hk_t rfl (by decide) rfl (Nat.le_of_ble_eq_true rfl) ?_
        have hk_t := k_G m46.1.1 (by decide) hk_t
        have hT := m46.1.1.2.2.2
        refine ym 302 (fun B k => z_goto (tgt := 302) B dX5_step_211 (by decide) k) ?_
        obtain rfl := Option.some.inj h
        exact yr_v hT trivial rfl dX5_step_302
      replace h := ite_n c43 h
      by_cases c47 : r4 = 9
      · replace h := ite_p c47 h
        refine ym 214 (fun B k => z_tableIn (tgt := 214) B dX5_step_83 (by rw [c47]; decide) (by rw [c47]; decide) (show _ = some (131 : Int) by rw [c47]; decide) (by decide) k) ?_
        refine ym 215 (fun B k => z_aload_n B dX5_step_214 rfl 3 rfl k) ?_
        refine ym 217 (fun B k => z_bipush (v := 7) B dX5_step_215 (by decide) k) ?_
        refine ym 218 (fun B k => z_iload_n B dX5_step_217 rfl 1 rfl k) ?_
        refine ym 220 (fun B k => z_bipush (v := 6) B dX5_step_218 (by decide) k) ?_
        refine ym 221 (fun B k => z_irem B dX5_step_220 (by decide) k) ?_
        refine ym 222 (fun B k => z_i2l (v := (jrem r9 6).toInt64) B dX5_step_221 rfl k) ?_
        replace h := br_e h
        obtain ⟨u49, h48, h⟩ := h
        have m50 := ct_X5_want l (g := g) h48 hT hk_t
        refine yc_Vv (Al := [.int 7, .long ((jrem r9 6).toInt64)]) (rest := []) 225 rfl cw_X5_114 cx_6 dX5_step_222 m50 hk_t rfl (by decide) rfl (Nat.le_of_ble_eq_true rfl) ?_
        have hk_t := k_G m50.1.1 (by decide) hk_t
        have hT := m50.1.1.2.2.2
        refine ym 302 (fun B k => z_goto (tgt := 302) B dX5_step_225 (by decide) k) ?_
        obtain rfl := Option.some.inj h
        exact yr_v hT trivial rfl dX5_step_302
      replace h := ite_n c47 h
      by_cases c51 : r4 = 10
      · replace h := ite_p c51 h
        refine ym 228 (fun B k => z_tableIn (tgt := 228) B dX5_step_83 (by rw [c51]; decide) (by rw [c51]; decide) (show _ = some (145 : Int) by rw [c51]; decide) (by decide) k) ?_
        refine ym 229 (fun B k => z_aload_n B dX5_step_228 rfl 3 rfl k) ?_
        refine ym 231 (fun B k => z_bipush (v := 14) B dX5_step_229 (by decide) k) ?_
        refine ym 232 (fun B k => z_iload_n B dX5_step_231 rfl 1 rfl k) ?_
        refine ym 234 (fun B k => z_bipush (v := 6) B dX5_step_232 (by decide) k) ?_
        refine ym 235 (fun B k => z_irem B dX5_step_234 (by decide) k) ?_
        refine ym 236 (fun B k => z_i2l (v := (jrem r9 6).toInt64) B dX5_step_235 rfl k) ?_
        replace h := br_e h
        obtain ⟨u53, h52, h⟩ := h
        have m54 := ct_X5_want l (g := g) h52 hT hk_t
        refine yc_Vv (Al := [.int 14, .long ((jrem r9 6).toInt64)]) (rest := []) 239 rfl cw_X5_114 cx_6 dX5_step_236 m54 hk_t rfl (by decide) rfl (Nat.le_of_ble_eq_true rfl) ?_
        have hk_t := k_G m54.1.1 (by decide) hk_t
        have hT := m54.1.1.2.2.2
        refine ym 302 (fun B k => z_goto (tgt := 302) B dX5_step_239 (by decide) k) ?_
        obtain rfl := Option.some.inj h
        exact yr_v hT trivial rfl dX5_step_302
      replace h := ite_n c51 h
      by_cases c55 : r4 = 11
      · replace h := ite_p c55 h
        refine ym 254 (fun B k => z_tableIn (tgt := 254) B dX5_step_83 (by rw [c55]; decide) (by rw [c55]; decide) (show _ = some (171 : Int) by rw [c55]; decide) (by decide) k) ?_
        refine ym 255 (fun B k => z_aload_n B dX5_step_254 rfl 3 rfl k) ?_
        refine ym 257 (fun B k => z_bipush (v := 9) B dX5_step_255 (by decide) k) ?_
        refine ym 258 (fun B k => z_iload_n B dX5_step_257 rfl 1 rfl k) ?_
        refine ym 259 (fun B k => z_i2l (v := r9.toInt64) B dX5_step_258 rfl k) ?_
        replace h := br_e h
        obtain ⟨u57, h56, h⟩ := h
        have m58 := ct_X5_want l (g := g) h56 hT hk_t
        refine yc_Vv (Al := [.int 9, .long r9.toInt64]) (rest := []) 262 rfl cw_X5_114 cx_6 dX5_step_259 m58 hk_t rfl (by decide) rfl (Nat.le_of_ble_eq_true rfl) ?_
        have hk_t := k_G m58.1.1 (by decide) hk_t
        have hT := m58.1.1.2.2.2
        refine ym 302 (fun B k => z_goto (tgt := 302) B dX5_step_262 (by decide) k) ?_
        obtain rfl := Option.some.inj h
        exact yr_v hT trivial rfl dX5_step_302
      replace h := ite_n c55 h
      by_cases c59 : r4 = 14
      · replace h := ite_p c59 h
        refine ym 265 (fun B k => z_tableIn (tgt := 265) B dX5_step_83 (by rw [c59]; decide) (by rw [c59]; decide) (show _ = some (182 : Int) by rw [c59]; decide) (by decide) k) ?_
        refine ym 266 (fun B k => z_aload_n B dX5_step_265 rfl 3 rfl k) ?_
        refine ym 268 (fun B k => z_bipush (v := 10) B dX5_step_266 (by decide) k) ?_
        refine ym 269 (fun B k => z_iload_n B dX5_step_268 rfl 1 rfl k) ?_
        refine ym 270 (fun B k => z_i2l (v := r9.toInt64) B dX5_step_269 rfl k) ?_
        replace h := br_e h
        obtain ⟨u61, h60, h⟩ := h
        have m62 := ct_X5_want l (g := g) h60 hT hk_t
        refine yc_Vv (Al := [.int 10, .long r9.toInt64]) (rest := []) 273 rfl cw_X5_114 cx_6 dX5_step_270 m62 hk_t rfl (by decide) rfl (Nat.le_of_ble_eq_true rfl) ?_
        have hk_t := k_G m62.1.1 (by decide) hk_t
        have hT := m62.1.1.2.2.2
        refine ym 302 (fun B k => z_goto (tgt := 302) B dX5_step_273 (by decide) k) ?_
        obtain rfl := Option.some.inj h
        exact yr_v hT trivial rfl dX5_step_302
      replace h := ite_n c59 h
      by_cases c63 : r4 = 17
      · replace h := ite_p c63 h
        refine ym 242 (fun B k => z_tableIn (tgt := 242) B dX5_step_83 (by rw [c63]; decide) (by rw [c63]; decide) (show _ = some (159 : Int) by rw [c63]; decide) (by decide) k) ?_
        refine ym 243 (fun B k => z_aload_n B dX5_step_242 rfl 3 rfl k) ?_
        refine ym 245 (fun B k => z_bipush (v := 14) B dX5_step_243 (by decide) k) ?_
        refine ym 248 (fun B k => z_ldc2 (v := (-1)) B dX5_step_245 wg_369 k) ?_
        replace h := br_e h
        obtain ⟨u65, h64, h⟩ := h
        have m66 := ct_X5_want l (g := g) h64 hT hk_t
        refine yc_Vv (Al := [.int 14, .long (-1)]) (rest := []) 251 rfl cw_X5_114 cx_6 dX5_step_248 m66 hk_t rfl (by decide) rfl (Nat.le_of_ble_eq_true rfl) ?_
        have hk_t := k_G m66.1.1 (by decide) hk_t
        have hT := m66.1.1.2.2.2
        refine ym 302 (fun B k => z_goto (tgt := 302) B dX5_step_251 (by decide) k) ?_
        obtain rfl := Option.some.inj h
        exact yr_v hT trivial rfl dX5_step_302
      replace h := ite_n c63 h
      refine ym 296 (fun B k => z_tabDf (tgt := 296) (vs := [0, 1, 2, 3, 4, 9, 10, 11, 14, 17]) B dX5_step_83 (by decide) (by decide) (by decide) (by intro v hv; simp only [List.mem_cons, List.not_mem_nil, or_false] at hv; rcases hv with rfl | rfl | rfl | rfl | rfl | rfl | rfl | rfl | rfl | rfl; all_goals assumption) k) ?_
      refine ym 297 (fun B k => z_aload_n B dX5_step_296 rfl 3 rfl k) ?_
      refine ym 298 (fun B k => z_iload_n B dX5_step_297 rfl 2 rfl k) ?_
      refine ym 299 (fun B k => z_iload_n B dX5_step_298 rfl 1 rfl k) ?_
      replace h := br_e h
      obtain ⟨u68, h67, h⟩ := h
      have m69 := ct_X5_stepWithoutEvent l (g := g) h67 hT hk_t
      refine yc_Vv (Al := [.int r4, .int r9]) (rest := []) 302 rfl cw_X5_181 cx_6 dX5_step_299 m69 hk_t rfl (by decide) rfl (Nat.le_of_ble_eq_true rfl) ?_
      have hk_t := k_G m69.1.1 (by decide) hk_t
      have hT := m69.1.1.2.2.2
      obtain rfl := Option.some.inj h
      exact yr_v hT trivial rfl dX5_step_302
    · replace h := ite_n c22 h
      refine ym 77 (fun B k => z_if_eq (tgt := 82) B dX5_step_74 (by decide) (fun q => absurd q c22) (fun _ => k)) ?_
      refine y_sub [(0, .ref t)] [3] rfl ?_
      exact tb_X5_step_77 h hT hk_t
set_option maxRecDepth 100000 in
set_option maxHeartbeats 4000000 in
theorem tb_X5_advance_27 {l : Launch} {g : gx_T} {σ : sx_T} {u : sx_T} {As : Array Value} {n0 : Nat} {kl4 : sx_T → Nat → Int32 → Int32 → Int32 → Option sx_T} (hkl4 : ∀ (σ : sx_T) (t : Nat) (x1 : Int32) (x2 : Int32) (x3 : Int32), kl4 σ t x1 x2 x3 = some u → TS g σ → sx_K σ t = 7 → x2 = 0 ∨ x2 = 1 → ZY l g cX5_advance RX5 "advance" none 5 3 71 0 0 false As (QM g As (Qxv g u)) (True) u σ 4 [(0, .ref t), (1, .int x1), (2, .int x2), (3, .int x3)] []) {t : Nat} {x1 : Int32} {x2 : Int32} {x3 : Int32} {y0 : Int32} (h : fb_X5_advance_27 n0 kl4 σ t x1 x2 x3 y0 = some u) (hT : TS g σ) (hk_t : sx_K σ t = 7) (hz_x2 : x2 = 0 ∨ x2 = 1) (hz_y0 : y0 = 0 ∨ y0 = 1) : ZY l g cX5_advance RX5 "advance" none 5 3 71 0 0 false As (QM g As (Qxv g u)) (True) u σ 27 [(0, .ref t), (1, .int x1), (2, .int x2), (3, .int x3)] [.int y0] := by
  unfold fb_X5_advance_27 at h
  refine ym 29 (fun B k => z_istore (lv' := [(4, .int y0), (0, .ref t), (1, .int x1), (2, .int x2), (3, .int x3)]) B dX5_advance_27 (by decide) rfl k) ?_
  refine ym 30 (fun B k => z_aload_n B dX5_advance_29 rfl 1 rfl k) ?_
  refine ym 33 (fun B k => gf_X5_91 (x := (sx_I σ t 19)) B hk_t rfl dX5_advance_30 k) ?_
  by_cases c1 : (sx_I σ t 19) = 0
  · replace h := ite_p c1 h
    refine ym 41 (fun B k => z_if_eq (tgt := 41) B dX5_advance_33 (by decide) (fun _ => k) (fun q => absurd c1 q)) ?_
    refine ym 42 (fun B k => z_aload_n B dX5_advance_41 rfl 1 rfl k) ?_
    refine ym 45 (fun B k => gf_X5_82 (x := (sx_I σ t 16)) B hk_t rfl dX5_advance_42 k) ?_
    refine ym 46 (fun B k => z_iconst (v := (-1)) B dX5_advance_45 (by decide) k) ?_
    by_cases c2 : (sx_I σ t 16) = (-1)
    · replace h := ite_p c2 h
      refine ym 61 (fun B k => z_icmp_eq (tgt := 61) B dX5_advance_46 (by decide) (fun _ => k) (fun q => absurd c2 q)) ?_
      refine ym 62 (fun B k => z_aload_n B dX5_advance_61 rfl 1 rfl k) ?_
      refine ym 65 (fun B k => gf_X5_79 (x := (sx_I σ t 15)) B hk_t rfl dX5_advance_62 k) ?_
      by_cases c3 : (sx_I σ t 15) = 0
      · replace h := ite_p c3 h
        refine ym 79 (fun B k => z_if_eq (tgt := 79) B dX5_advance_65 (by decide) (fun _ => k) (fun q => absurd c3 q)) ?_
        refine ym 80 (fun B k => z_aload_n B dX5_advance_79 rfl 1 rfl k) ?_
        refine ym 83 (fun B k => gf_X5_56 (x := (sx_I σ t 8)) B hk_t rfl dX5_advance_80 k) ?_
        by_cases c4 : (sx_I σ t 8) = 0
        · replace h := ite_p c4 h
          refine ym 98 (fun B k => z_if_eq (tgt := 98) B dX5_advance_83 (by decide) (fun _ => k) (fun q => absurd c4 q)) ?_
          refine ym 99 (fun B k => z_aload_n B dX5_advance_98 rfl 1 rfl k) ?_
          refine ym 102 (fun B k => gf_X5_76 (x := (sx_I σ t 14)) B hk_t rfl dX5_advance_99 k) ?_
          by_cases c5 : (sx_I σ t 14) = 0
          · replace h := ite_p c5 h
            refine ym 112 (fun B k => z_if_eq (tgt := 112) B dX5_advance_102 (by decide) (fun _ => k) (fun q => absurd c5 q)) ?_
            refine ym 113 (fun B k => z_aload_n B dX5_advance_112 rfl 1 rfl k) ?_
            replace h := br_e h
            obtain ⟨u7, h6, h⟩ := h
            have m8 := ct_X5_step l (g := g) h6 hT hk_t
            refine yc_Vv (Al := []) (rest := []) 116 rfl cw_X5_105 cx_6 dX5_advance_113 m8 hk_t rfl (by decide) rfl (Nat.le_of_ble_eq_true rfl) ?_
            have hk_t := k_G m8.1.1 (by decide) hk_t
            have hT := m8.1.1.2.2.2
            refine ym 119 (fun B k => z_iinc (v := x3 + 1) (lv' := [(3, .int (x3 + 1)), (4, .int y0), (0, .ref t), (1, .int x1), (2, .int x2)]) B dX5_advance_116 4 rfl rfl (by decide) rfl k) ?_
            refine ym 4 (fun B k => z_goto (tgt := 4) B dX5_advance_119 (by decide) k) ?_
            refine y_sub [(0, .ref t), (1, .int x1), (2, .int x2), (3, .int (x3 + 1))] [2, 3, 4, 0] rfl ?_
            exact hkl4 _ _ _ _ _ h hT hk_t hz_x2
          · replace h := ite_n c5 h
            refine ym 105 (fun B k => z_if_eq (tgt := 112) B dX5_advance_102 (by decide) (fun q => absurd q c5) (fun _ => k)) ?_
            refine ym 106 (fun B k => z_aload_n B dX5_advance_105 rfl 1 rfl k) ?_
            replace h := br_e h
            obtain ⟨u10, h9, h⟩ := h
            have m11 := ct_X5_undo l (g := g) h9 hT hk_t
            refine yc_Vv (Al := []) (rest := []) 109 rfl cw_X5_102 cx_6 dX5_advance_106 m11 hk_t rfl (by decide) rfl (Nat.le_of_ble_eq_true rfl) ?_
            have hk_t := k_G m11.1.1 (by decide) hk_t
            have hT := m11.1.1.2.2.2
            refine ym 116 (fun B k => z_goto (tgt := 116) B dX5_advance_109 (by decide) k) ?_
            refine ym 119 (fun B k => z_iinc (v := x3 + 1) (lv' := [(3, .int (x3 + 1)), (4, .int y0), (0, .ref t), (1, .int x1), (2, .int x2)]) B dX5_advance_116 4 rfl rfl (by decide) rfl k) ?_
            refine ym 4 (fun B k => z_goto (tgt := 4) B dX5_advance_119 (by decide) k) ?_
            refine y_sub [(0, .ref t), (1, .int x1), (2, .int x2), (3, .int (x3 + 1))] [2, 3, 4, 0] rfl ?_
            exact hkl4 _ _ _ _ _ h hT hk_t hz_x2
        · replace h := ite_n c4 h
          refine ym 86 (fun B k => z_if_eq (tgt := 98) B dX5_advance_83 (by decide) (fun q => absurd q c4) (fun _ => k)) ?_
          refine ym 88 (fun B k => z_iload B dX5_advance_86 0 rfl k) ?_
          refine ym 89 (fun B k => z_istore_n (lv' := [(2, .int y0), (4, .int y0), (0, .ref t), (1, .int x1), (3, .int x3)]) B dX5_advance_88 rfl (by decide) rfl k) ?_
          refine ym 90 (fun B k => z_aload_n B dX5_advance_89 rfl 2 rfl k) ?_
          refine ym 92 (fun B k => z_iload B dX5_advance_90 1 rfl k) ?_
          replace h := br_e h
          obtain ⟨u13, h12, h⟩ := h
          have m14 := ct_X5_takeAwaited l (g := g) h12 hT hk_t hz_y0
          refine yc_Vv (Al := [.int y0]) (rest := []) 95 rfl cw_X5_99 cx_6 dX5_advance_92 m14 hk_t rfl (by decide) rfl (Nat.le_of_ble_eq_true rfl) ?_
          have hk_t := k_G m14.1.1 (by decide) hk_t
          have hT := m14.1.1.2.2.2
          refine ym 116 (fun B k => z_goto (tgt := 116) B dX5_advance_95 (by decide) k) ?_
          refine ym 119 (fun B k => z_iinc (v := x3 + 1) (lv' := [(3, .int (x3 + 1)), (2, .int y0), (4, .int y0), (0, .ref t), (1, .int x1)]) B dX5_advance_116 4 rfl rfl (by decide) rfl k) ?_
          refine ym 4 (fun B k => z_goto (tgt := 4) B dX5_advance_119 (by decide) k) ?_
          refine y_sub [(0, .ref t), (1, .int x1), (2, .int y0), (3, .int (x3 + 1))] [3, 4, 1, 0] rfl ?_
          exact hkl4 _ _ _ _ _ h hT hk_t hz_y0
      · replace h := ite_n c3 h
        refine ym 68 (fun B k => z_if_eq (tgt := 79) B dX5_advance_65 (by decide) (fun q => absurd q c3) (fun _ => k)) ?_
        refine ym 69 (fun B k => z_aload_n B dX5_advance_68 rfl 1 rfl k) ?_
        refine ym 71 (fun B k => z_iload B dX5_advance_69 0 rfl k) ?_
        have j15 := hk_t
        refine ymw (σ' := (wx_I σ t 19 y0)) 74 e_I (fun B hin k => pf_X5_91 (x := y0) B hz_y0 hk_t rfl dX5_advance_71 k) ?_
        have hT := TS_I (k := 19) (x := y0) hT hk_t (Or.inr hz_y0)
        have hk_t := kk_I (σ := σ) (a := t) (k := 19) (x := y0) hk_t
        refine ym 75 (fun B k => z_iconst (v := 0) B dX5_advance_74 (by decide) k) ?_
        refine ym 76 (fun B k => z_istore_n (lv' := [(2, .int 0), (4, .int y0), (0, .ref t), (1, .int x1), (3, .int x3)]) B dX5_advance_75 rfl (by decide) rfl k) ?_
        refine ym 116 (fun B k => z_goto (tgt := 116) B dX5_advance_76 (by decide) k) ?_
        refine ym 119 (fun B k => z_iinc (v := x3 + 1) (lv' := [(3, .int (x3 + 1)), (2, .int 0), (4, .int y0), (0, .ref t), (1, .int x1)]) B dX5_advance_116 4 rfl rfl (by decide) rfl k) ?_
        refine ym 4 (fun B k => z_goto (tgt := 4) B dX5_advance_119 (by decide) k) ?_
        refine y_sub [(0, .ref t), (1, .int x1), (2, .int 0), (3, .int (x3 + 1))] [3, 4, 1, 0] rfl ?_
        exact hkl4 _ _ _ _ _ h hT hk_t (Or.inl rfl)
    · replace h := ite_n c2 h
      refine ym 49 (fun B k => z_icmp_eq (tgt := 61) B dX5_advance_46 (by decide) (fun q => absurd q c2) (fun _ => k)) ?_
      refine ym 51 (fun B k => z_iload B dX5_advance_49 0 rfl k) ?_
      refine ym 52 (fun B k => z_istore_n (lv' := [(2, .int y0), (4, .int y0), (0, .ref t), (1, .int x1), (3, .int x3)]) B dX5_advance_51 rfl (by decide) rfl k) ?_
      refine ym 53 (fun B k => z_aload_n B dX5_advance_52 rfl 2 rfl k) ?_
      refine ym 55 (fun B k => z_iload B dX5_advance_53 1 rfl k) ?_
      replace h := br_e h
      obtain ⟨u17, h16, h⟩ := h
      have m18 := ct_X5_takeWanted l (g := g) h16 hT hk_t hz_y0
      refine yc_Vv (Al := [.int y0]) (rest := []) 58 rfl cw_X5_95 cx_6 dX5_advance_55 m18 hk_t rfl (by decide) rfl (Nat.le_of_ble_eq_true rfl) ?_
      have hk_t := k_G m18.1.1 (by decide) hk_t
      have hT := m18.1.1.2.2.2
      refine ym 116 (fun B k => z_goto (tgt := 116) B dX5_advance_58 (by decide) k) ?_
      refine ym 119 (fun B k => z_iinc (v := x3 + 1) (lv' := [(3, .int (x3 + 1)), (2, .int y0), (4, .int y0), (0, .ref t), (1, .int x1)]) B dX5_advance_116 4 rfl rfl (by decide) rfl k) ?_
      refine ym 4 (fun B k => z_goto (tgt := 4) B dX5_advance_119 (by decide) k) ?_
      refine y_sub [(0, .ref t), (1, .int x1), (2, .int y0), (3, .int (x3 + 1))] [3, 4, 1, 0] rfl ?_
      exact hkl4 _ _ _ _ _ h hT hk_t hz_y0
  · replace h := ite_n c1 h
    refine ym 36 (fun B k => z_if_eq (tgt := 41) B dX5_advance_33 (by decide) (fun q => absurd q c1) (fun _ => k)) ?_
    refine ym 37 (fun B k => z_iconst (v := 0) B dX5_advance_36 (by decide) k) ?_
    refine ym 38 (fun B k => z_istore_n (lv' := [(2, .int 0), (4, .int y0), (0, .ref t), (1, .int x1), (3, .int x3)]) B dX5_advance_37 rfl (by decide) rfl k) ?_
    refine ym 116 (fun B k => z_goto (tgt := 116) B dX5_advance_38 (by decide) k) ?_
    refine ym 119 (fun B k => z_iinc (v := x3 + 1) (lv' := [(3, .int (x3 + 1)), (2, .int 0), (4, .int y0), (0, .ref t), (1, .int x1)]) B dX5_advance_116 4 rfl rfl (by decide) rfl k) ?_
    refine ym 4 (fun B k => z_goto (tgt := 4) B dX5_advance_119 (by decide) k) ?_
    refine y_sub [(0, .ref t), (1, .int x1), (2, .int 0), (3, .int (x3 + 1))] [3, 4, 1, 0] rfl ?_
    exact hkl4 _ _ _ _ _ h hT hk_t (Or.inl rfl)
set_option maxRecDepth 100000 in
set_option maxHeartbeats 4000000 in
theorem tl_X5_advance_4 {l : Launch} {g : gx_T} {u : sx_T} {As : Array Value} {n0 : Nat} : ∀ {n : Nat} {σ : sx_T} {t : Nat} {x1 : Int32} {x2 : Int32} {x3 : Int32}, fl_X5_advance_4 n0 n σ t x1 x2 x3 = some u → TS g σ → sx_K σ t = 7 → x2 = 0 ∨ x2 = 1 → ZY l g cX5_advance RX5 "advance" none 5 3 71 0 0 false As (QM g As (Qxv g u)) (True) u σ 4 [(0, .ref t), (1, .int x1), (2, .int x2), (3, .int x3)] [] := by
  intro n
  induction n with
  | zero =>
    intro σ t x1 x2 x3 h
    exact nomatch h
  | succ n ih_ =>
    have ih := @ih_
    intro σ t x1 x2 x3 h hT hk_t hz_x2
    unfold fl_X5_advance_4 at h
    refine ym 5 (fun B k => z_iload_n B dX5_advance_4 rfl 3 rfl k) ?_
    refine ym 7 (fun B k => z_ldc (v := 1000000) B dX5_advance_5 wg_355 k) ?_
    by_cases c1 : 1000000 ≤ x3
    · replace h := ite_p c1 h
      refine ym 122 (fun B k => z_icmp_ge (tgt := 122) B dX5_advance_7 (by decide) (fun _ => k) (fun q => absurd c1 q)) ?_
      obtain rfl := Option.some.inj h
      exact yr_v hT trivial rfl dX5_advance_122
    · replace h := ite_n c1 h
      refine ym 10 (fun B k => z_icmp_ge (tgt := 122) B dX5_advance_7 (by decide) (fun q => absurd q c1) (fun _ => k)) ?_
      refine ym 11 (fun B k => z_iload_n B dX5_advance_10 rfl 2 rfl k) ?_
      by_cases c2 : x2 = 0
      · replace h := ite_p c2 h
        refine ym 122 (fun B k => z_if_eq (tgt := 122) B dX5_advance_11 (by decide) (fun _ => k) (fun q => absurd c2 q)) ?_
        obtain rfl := Option.some.inj h
        exact yr_v hT trivial rfl dX5_advance_122
      · replace h := ite_n c2 h
        refine ym 14 (fun B k => z_if_eq (tgt := 122) B dX5_advance_11 (by decide) (fun q => absurd q c2) (fun _ => k)) ?_
        refine ym 15 (fun B k => z_aload_n B dX5_advance_14 rfl 0 rfl k) ?_
        refine ym 18 (fun B k => gf_X5_38 (x := (sx_I σ t 4)) B hk_t rfl dX5_advance_15 k) ?_
        refine ym 19 (fun B k => z_iload_n B dX5_advance_18 rfl 1 rfl k) ?_
        by_cases c3 : x1 ≤ (sx_I σ t 4)
        · replace h := ite_p c3 h
          refine ym 26 (fun B k => z_icmp_ge (tgt := 26) B dX5_advance_19 (by decide) (fun _ => k) (fun q => absurd c3 q)) ?_
          refine ym 27 (fun B k => z_iconst (v := 0) B dX5_advance_26 (by decide) k) ?_
          refine y_sub [(0, .ref t), (1, .int x1), (2, .int x2), (3, .int x3)] [0, 1, 2, 3] rfl ?_
          exact tb_X5_advance_27 (fun _ _ _ _ _ => ih) h hT hk_t hz_x2 (Or.inl rfl)
        · replace h := ite_n c3 h
          refine ym 22 (fun B k => z_icmp_ge (tgt := 26) B dX5_advance_19 (by decide) (fun q => absurd q c3) (fun _ => k)) ?_
          refine ym 23 (fun B k => z_iconst (v := 1) B dX5_advance_22 (by decide) k) ?_
          refine ym 27 (fun B k => z_goto (tgt := 27) B dX5_advance_23 (by decide) k) ?_
          refine y_sub [(0, .ref t), (1, .int x1), (2, .int x2), (3, .int x3)] [0, 1, 2, 3] rfl ?_
          exact tb_X5_advance_27 (fun _ _ _ _ _ => ih) h hT hk_t hz_x2 (Or.inr rfl)
set_option maxRecDepth 100000 in
set_option maxHeartbeats 4000000 in
theorem ct_X5_advance (l : Launch) {g : gx_T} {σ : sx_T} {u : sx_T} {n0 : Nat} {t : Nat} {x1 : Int32} (h : f_X5_advance n0 σ t x1 = some u) (hT : TS g σ) (hk_t : sx_K σ t = 7) : CT l g yX5_advance cX5_advance 5 none 3 71 [.ref t, .int x1] (True) u σ (Qxv g u) := by
  refine yc_met (by decide) (Nat.le_of_ble_eq_true rfl) ?_
  refine yc_lv (show lv_args 0 [.ref t, .int x1] = [(0, .ref t), (1, .int x1)] from rfl) ?_
  show ZY l g _ _ _ _ _ _ _ _ _ _ _ _ _ _ σ 0 [(0, .ref t), (1, .int x1)] []
  unfold f_X5_advance at h
  refine ym 1 (fun B k => z_iconst (v := 1) B dX5_advance_0 (by decide) k) ?_
  refine ym 2 (fun B k => z_istore_n (lv' := [(2, .int 1), (0, .ref t), (1, .int x1)]) B dX5_advance_1 rfl (by decide) rfl k) ?_
  refine ym 3 (fun B k => z_iconst (v := 0) B dX5_advance_2 (by decide) k) ?_
  refine ym 4 (fun B k => z_istore_n (lv' := [(3, .int 0), (2, .int 1), (0, .ref t), (1, .int x1)]) B dX5_advance_3 rfl (by decide) rfl k) ?_
  refine y_sub [(0, .ref t), (1, .int x1), (2, .int 1), (3, .int 0)] [2, 3, 1, 0] rfl ?_
  exact tl_X5_advance_4 h hT hk_t (Or.inr rfl)
set_option maxRecDepth 100000 in
set_option maxHeartbeats 4000000 in
theorem ct_X0_findAgain (l : Launch) {g : gx_T} {σ : sx_T} {u : sx_T} {n0 : Nat} {t : Nat} (h : f_X0_findAgain n0 σ t = some u) (hT : TS g σ) (hk_t : sx_K σ t = 2) : CT l g yX0_findAgain cX0_findAgain 1 none 4 95 [.ref t] (True) u σ (Qxv g u) := by
  refine yc_met (by decide) (Nat.le_of_ble_eq_true rfl) ?_
  refine yc_lv (show lv_args 0 [.ref t] = [(0, .ref t)] from rfl) ?_
  show ZY l g _ _ _ _ _ _ _ _ _ _ _ _ _ _ σ 0 [(0, .ref t)] []
  unfold f_X0_findAgain at h
  refine ym 1 (fun B k => z_aload_n B dX0_findAgain_0 rfl 0 rfl k) ?_
  replace h := qv_e h
  obtain ⟨w1, e_w1, h⟩ := h
  have hq_w1 : rk σ w1 7 := rk_T hT hk_t rfl (by decide) e_w1
  refine ym 4 (fun B k => gf_X0_32 (x := w1) B hk_t e_w1 dX0_findAgain_1 k) ?_
  refine ym 5 (fun B k => z_aload_n B dX0_findAgain_4 rfl 0 rfl k) ?_
  replace h := qv_e h
  obtain ⟨w2, e_w2, h⟩ := h
  have hq_w2 : rk σ w2 6 := rk_T hT hk_t rfl (by decide) e_w2
  refine ym 8 (fun B k => gf_X0_24 (x := w2) B hk_t e_w2 dX0_findAgain_5 k) ?_
  refine ym 9 (fun B k => z_aload_n B dX0_findAgain_8 rfl 0 rfl k) ?_
  replace h := qv_e h
  obtain ⟨w3, e_w3, h⟩ := h
  have hq_w3 : rk σ w3 3 := rk_T hT hk_t rfl (by decide) e_w3
  refine ym 12 (fun B k => gf_X0_28 (x := w3) B hk_t e_w3 dX0_findAgain_9 k) ?_
  replace h := bq_e h
  obtain ⟨a4, rfl, h⟩ := h
  have hk_a4 := hq_w1 a4 rfl
  replace h := br_e h
  obtain ⟨u6, h5, h⟩ := h
  have m7 := ct_X5_begin l (g := g) h5 hT hk_a4 hq_w2 hq_w3
  refine yc_Vv (Al := [va_rf w2, va_rf w3]) (rest := []) 15 rfl cw_X0_61 cx_6 dX0_findAgain_12 m7 hk_a4 rfl (by decide) rfl (Nat.le_of_ble_eq_true rfl) ?_
  have hk_t := k_G m7.1.1 (by decide) hk_t
  have hT := m7.1.1.2.2.2
  refine ym 16 (fun B k => z_aload_n B dX0_findAgain_15 rfl 0 rfl k) ?_
  replace h := qv_e h
  obtain ⟨w8, e_w8, h⟩ := h
  have hq_w8 : rk u6 w8 7 := rk_T hT hk_t rfl (by decide) e_w8
  refine ym 19 (fun B k => gf_X0_32 (x := w8) B hk_t e_w8 dX0_findAgain_16 k) ?_
  refine ym 20 (fun B k => z_aload_n B dX0_findAgain_19 rfl 0 rfl k) ?_
  replace h := qv_e h
  obtain ⟨w9, e_w9, h⟩ := h
  have hq_w9 : rk u6 w9 3 := rk_T hT hk_t rfl (by decide) e_w9
  refine ym 23 (fun B k => gf_X0_28 (x := w9) B hk_t e_w9 dX0_findAgain_20 k) ?_
  replace h := bq_e h
  obtain ⟨a10, rfl, h⟩ := h
  have hk_a10 := hq_w9 a10 rfl
  replace h := br_e h
  obtain ⟨r12, h11, h⟩ := h
  have m13 := ct_X1_size l (g := g) h11 hT hk_a10
  refine yc_Vi (Al := []) (rest := [va_rf w8]) 26 rfl cw_X0_46 cx_2 dX0_findAgain_23 m13 hk_a10 rfl (by decide) rfl (by cases w8 <;> exact Nat.le_of_ble_eq_true rfl) ?_
  replace h := bq_e h
  obtain ⟨a14, rfl, h⟩ := h
  have hk_a14 := hq_w8 a14 rfl
  replace h := br_e h
  obtain ⟨u16, h15, h⟩ := h
  have m17 := ct_X5_advance l (g := g) h15 hT hk_a14
  refine yc_Vv (Al := [.int r12]) (rest := []) 29 rfl cw_X0_65 cx_6 dX0_findAgain_26 m17 hk_a14 rfl (by decide) rfl (Nat.le_of_ble_eq_true rfl) ?_
  have hk_t := k_G m17.1.1 (by decide) hk_t
  have hT := m17.1.1.2.2.2
  obtain rfl := Option.some.inj h
  exact yr_v hT trivial rfl dX0_findAgain_29
set_option maxRecDepth 100000 in
set_option maxHeartbeats 4000000 in
theorem tl_X8_crash_4 {l : Launch} {g : gx_T} {u : sx_T} {r : Int32} {As : Array Value} {n0 : Nat} : ∀ {n : Nat} {σ : sx_T} {t : Nat} {x1 : Int32} {x2 : Int32}, fl_X8_crash_4 n0 n σ t x1 x2 = some (r, u) → TS g σ → sx_K σ t = 10 → ZY l g cX8_crash RX8 "crash" (some .int) 4 5 115 0 0 false As (QM g As (Qxi g r u)) (True) u σ 4 [(0, .ref t), (1, .int x1), (2, .int x2)] [] := by
  intro n
  induction n with
  | zero =>
    intro σ t x1 x2 h
    exact nomatch h
  | succ n ih_ =>
    have ih := @ih_
    intro σ t x1 x2 h hT hk_t
    unfold fl_X8_crash_4 at h
    refine ym 5 (fun B k => z_iload_n B dX8_crash_4 rfl 2 rfl k) ?_
    refine ym 6 (fun B k => z_aload_n B dX8_crash_5 rfl 0 rfl k) ?_
    refine ym 9 (fun B k => gf_X8_96 (x := (sx_I σ t 7)) B hk_t rfl dX8_crash_6 k) ?_
    by_cases c1 : (sx_I σ t 7) ≤ x2
    · replace h := ite_p c1 h
      refine ym 42 (fun B k => z_icmp_ge (tgt := 42) B dX8_crash_9 (by decide) (fun _ => k) (fun q => absurd c1 q)) ?_
      refine ym 43 (fun B k => z_iload_n B dX8_crash_42 rfl 1 rfl k) ?_
      obtain ⟨rfl, rfl⟩ := Prod.mk.inj (Option.some.inj h)
      exact yr_i hT trivial rfl dX8_crash_43
    · replace h := ite_n c1 h
      refine ym 12 (fun B k => z_icmp_ge (tgt := 42) B dX8_crash_9 (by decide) (fun q => absurd q c1) (fun _ => k)) ?_
      refine ym 13 (fun B k => z_aload_n B dX8_crash_12 rfl 0 rfl k) ?_
      refine ym 14 (fun B k => z_iload_n B dX8_crash_13 rfl 2 rfl k) ?_
      replace h := br_e h
      obtain ⟨r3, h2, h⟩ := h
      have m4 := ct_X8_flowAt l (g := g) h2 hT hk_t
      refine yc_Vq (Al := [.int x2]) (rest := []) 17 rfl cw_X8_99 cx_9 dX8_crash_14 m4 hk_t rfl (by decide) rfl (Nat.le_of_ble_eq_true rfl) ?_
      have hq_r3 := m4.1.2
      refine ym 18 (fun B k => z_qstore_n (r := r3) (lv' := [(3, va_rf r3), (0, .ref t), (1, .int x1), (2, .int x2)]) B dX8_crash_17 rfl (by decide) rfl k) ?_
      refine ym 19 (fun B k => z_qload_n (r := r3) B dX8_crash_18 rfl 0 rfl k) ?_
      rcases r3 with _ | a5
      · replace h := oc_n h
        refine ym 36 (fun B k => z_ifnull (r := none) (tgt := 36) B dX8_crash_19 (by decide) (fun _ => k) (fun a h => nomatch h)) ?_
        refine ym 39 (fun B k => z_iinc (v := x2 + 1) (lv' := [(2, .int (x2 + 1)), (3, .null), (0, .ref t), (1, .int x1)]) B dX8_crash_36 3 rfl rfl (by decide) rfl k) ?_
        refine ym 4 (fun B k => z_goto (tgt := 4) B dX8_crash_39 (by decide) k) ?_
        refine y_sub [(0, .ref t), (1, .int x1), (2, .int (x2 + 1))] [2, 3, 0] rfl ?_
        exact ih h hT hk_t
      · replace h := oc_s h
        have hk_a5 := hq_r3 a5 rfl
        refine ym 22 (fun B k => z_ifnull (r := (some a5)) (tgt := 36) B dX8_crash_19 (by decide) (fun h => nomatch h) (fun _ _ => k)) ?_
        refine ym 23 (fun B k => z_aload_n B dX8_crash_22 rfl 0 rfl k) ?_
        replace h := br_e h
        obtain ⟨r7, h6, h⟩ := h
        have m8 := ct_X0_hasEnded l (g := g) h6 hT hk_a5
        refine yc_Vi (Al := []) (rest := []) 26 rfl cw_X8_107 cx_1 dX8_crash_23 m8 hk_a5 rfl (by decide) rfl (Nat.le_of_ble_eq_true rfl) ?_
        have hz_r7 := m8.1.2
        by_cases c9 : r7 = 0
        · replace h := ite_p c9 h
          refine ym 29 (fun B k => z_if_ne (tgt := 36) B dX8_crash_26 (by decide) (fun q => absurd c9 q) (fun _ => k)) ?_
          refine ym 30 (fun B k => z_aload_n B dX8_crash_29 rfl 0 rfl k) ?_
          replace h := br_e h
          obtain ⟨u11, h10, h⟩ := h
          have m12 := ct_X0_findAgain l (g := g) h10 hT hk_a5
          refine yc_Vv (Al := []) (rest := []) 33 rfl cw_X8_193 cx_1 dX8_crash_30 m12 hk_a5 rfl (by decide) rfl (Nat.le_of_ble_eq_true rfl) ?_
          have hk_a5 := k_G m12.1.1 (by decide) hk_a5
          have hk_t := k_G m12.1.1 (by decide) hk_t
          have hT := m12.1.1.2.2.2
          refine ym 36 (fun B k => z_iinc (v := x1 + 1) (lv' := [(1, .int (x1 + 1)), (3, .ref a5), (0, .ref t), (2, .int x2)]) B dX8_crash_33 2 rfl rfl (by decide) rfl k) ?_
          refine ym 39 (fun B k => z_iinc (v := x2 + 1) (lv' := [(2, .int (x2 + 1)), (1, .int (x1 + 1)), (3, .ref a5), (0, .ref t)]) B dX8_crash_36 3 rfl rfl (by decide) rfl k) ?_
          refine ym 4 (fun B k => z_goto (tgt := 4) B dX8_crash_39 (by decide) k) ?_
          refine y_sub [(0, .ref t), (1, .int (x1 + 1)), (2, .int (x2 + 1))] [3, 1, 0] rfl ?_
          exact ih h hT hk_t
        · replace h := ite_n c9 h
          refine ym 36 (fun B k => z_if_ne (tgt := 36) B dX8_crash_26 (by decide) (fun _ => k) (fun q => absurd q c9)) ?_
          refine ym 39 (fun B k => z_iinc (v := x2 + 1) (lv' := [(2, .int (x2 + 1)), (3, .ref a5), (0, .ref t), (1, .int x1)]) B dX8_crash_36 3 rfl rfl (by decide) rfl k) ?_
          refine ym 4 (fun B k => z_goto (tgt := 4) B dX8_crash_39 (by decide) k) ?_
          refine y_sub [(0, .ref t), (1, .int x1), (2, .int (x2 + 1))] [2, 3, 0] rfl ?_
          exact ih h hT hk_t
set_option maxRecDepth 100000 in
set_option maxHeartbeats 4000000 in
theorem ct_X8_crash (l : Launch) {g : gx_T} {σ : sx_T} {u : sx_T} {r : Int32} {n0 : Nat} {t : Nat} (h : f_X8_crash n0 σ t = some (r, u)) (hT : TS g σ) (hk_t : sx_K σ t = 10) : CT l g yX8_crash cX8_crash 4 (some .int) 5 115 [.ref t] (True) u σ (Qxi g r u) := by
  refine yc_met (by decide) (Nat.le_of_ble_eq_true rfl) ?_
  refine yc_lv (show lv_args 0 [.ref t] = [(0, .ref t)] from rfl) ?_
  show ZY l g _ _ _ _ _ _ _ _ _ _ _ _ _ _ σ 0 [(0, .ref t)] []
  unfold f_X8_crash at h
  refine ym 1 (fun B k => z_iconst (v := 0) B dX8_crash_0 (by decide) k) ?_
  refine ym 2 (fun B k => z_istore_n (lv' := [(1, .int 0), (0, .ref t)]) B dX8_crash_1 rfl (by decide) rfl k) ?_
  refine ym 3 (fun B k => z_iconst (v := 0) B dX8_crash_2 (by decide) k) ?_
  refine ym 4 (fun B k => z_istore_n (lv' := [(2, .int 0), (1, .int 0), (0, .ref t)]) B dX8_crash_3 rfl (by decide) rfl k) ?_
  refine y_sub [(0, .ref t), (1, .int 0), (2, .int 0)] [2, 1, 0] rfl ?_
  exact tl_X8_crash_4 h hT hk_t
set_option maxRecDepth 100000 in
set_option maxHeartbeats 4000000 in
theorem ct_X8_movingTask (l : Launch) {g : gx_T} {σ : sx_T} {r : Option Nat}  {t : Nat} {x1 : Int32} {x2 : Int32} (h : f_X8_movingTask σ t x1 x2 = some r) (hT : TS g σ) (hk_t : sx_K σ t = 10) : CT l g yX8_movingTask cX8_movingTask 5 (some (.object "Loomkeeper$Task")) 1 22 [.ref t, .int x1, .int x2] (rk σ r 9) σ σ (Qxq g r σ) := by
  refine yc_met (by decide) (Nat.le_of_ble_eq_true rfl) ?_
  refine yc_lv (show lv_args 0 [.ref t, .int x1, .int x2] = [(0, .ref t), (1, .int x1), (2, .int x2)] from rfl) ?_
  show ZY l g _ _ _ _ _ _ _ _ _ _ _ _ _ _ σ 0 [(0, .ref t), (1, .int x1), (2, .int x2)] []
  unfold f_X8_movingTask at h
  refine ym 1 (fun B k => z_aload_n B dX8_movingTask_0 rfl 0 rfl k) ?_
  refine ym 2 (fun B k => z_iload_n B dX8_movingTask_1 rfl 1 rfl k) ?_
  replace h := br_e h
  obtain ⟨r2, h1, h⟩ := h
  have m3 := ct_X8_flowAt l (g := g) h1 hT hk_t
  refine yc_Vq (Al := [.int x1]) (rest := []) 5 rfl cw_X8_99 cx_9 dX8_movingTask_2 m3 hk_t rfl (by decide) rfl (Nat.le_of_ble_eq_true rfl) ?_
  have hq_r2 := m3.1.2
  refine ym 6 (fun B k => z_qstore_n (r := r2) (lv' := [(3, va_rf r2), (0, .ref t), (1, .int x1), (2, .int x2)]) B dX8_movingTask_5 rfl (by decide) rfl k) ?_
  refine ym 7 (fun B k => z_qload_n (r := r2) B dX8_movingTask_6 rfl 0 rfl k) ?_
  rcases r2 with _ | a4
  · replace h := oc_n h
    refine ym 20 (fun B k => z_ifnull (r := none) (tgt := 20) B dX8_movingTask_7 (by decide) (fun _ => k) (fun a h => nomatch h)) ?_
    refine ym 21 (fun B k => z_null B dX8_movingTask_20 k) ?_
    obtain rfl := Option.some.inj h
    exact yr_q (v := none) hT rk_n rfl dX8_movingTask_21
  · replace h := oc_s h
    have hk_a4 := hq_r2 a4 rfl
    refine ym 10 (fun B k => z_ifnull (r := (some a4)) (tgt := 20) B dX8_movingTask_7 (by decide) (fun h => nomatch h) (fun _ _ => k)) ?_
    refine ym 11 (fun B k => z_aload_n B dX8_movingTask_10 rfl 0 rfl k) ?_
    replace h := qv_e h
    obtain ⟨w5, e_w5, h⟩ := h
    have hq_w5 : rk σ w5 7 := rk_T hT hk_a4 rfl (by decide) e_w5
    refine ym 14 (fun B k => gf_X8_249 (x := w5) B hk_a4 e_w5 dX8_movingTask_11 k) ?_
    replace h := bq_e h
    obtain ⟨a6, rfl, h⟩ := h
    have hk_a6 := hq_w5 a6 rfl
    refine ym 17 (fun B k => gf_X8_133 (x := (sx_I σ a6 19)) B hk_a6 rfl dX8_movingTask_14 k) ?_
    by_cases c7 : (sx_I σ a6 19) = 0
    · replace h := ite_p c7 h
      refine ym 22 (fun B k => z_if_eq (tgt := 22) B dX8_movingTask_17 (by decide) (fun _ => k) (fun q => absurd c7 q)) ?_
      refine ym 23 (fun B k => z_aload_n B dX8_movingTask_22 rfl 0 rfl k) ?_
      replace h := qv_e h
      obtain ⟨w8, e_w8, h⟩ := h
      have hq_w8 : rk σ w8 9 := rk_T hT hk_a4 rfl (by decide) e_w8
      refine ym 26 (fun B k => gf_X8_276 (x := w8) B hk_a4 e_w8 dX8_movingTask_23 k) ?_
      refine ym 28 (fun B k => z_qstore (r := w8) (lv' := [(4, va_rf w8), (3, .ref a4), (0, .ref t), (1, .int x1), (2, .int x2)]) B dX8_movingTask_26 (by decide) rfl k) ?_
      refine ym 30 (fun B k => z_qload (r := w8) B dX8_movingTask_28 0 rfl k) ?_
      rcases w8 with _ | a9
      · replace h := oc_n h
        refine ym 47 (fun B k => z_ifnull (r := none) (tgt := 47) B dX8_movingTask_30 (by decide) (fun _ => k) (fun a h => nomatch h)) ?_
        refine ym 48 (fun B k => z_null B dX8_movingTask_47 k) ?_
        obtain rfl := Option.some.inj h
        exact yr_q (v := none) hT rk_n rfl dX8_movingTask_48
      · replace h := oc_s h
        have hk_a9 := hq_w8 a9 rfl
        refine ym 33 (fun B k => z_ifnull (r := (some a9)) (tgt := 47) B dX8_movingTask_30 (by decide) (fun h => nomatch h) (fun _ _ => k)) ?_
        refine ym 35 (fun B k => z_aload B dX8_movingTask_33 0 rfl k) ?_
        refine ym 38 (fun B k => gf_X8_280 (x := (sx_I σ a9 3)) B hk_a9 rfl dX8_movingTask_35 k) ?_
        refine ym 39 (fun B k => z_iload_n B dX8_movingTask_38 rfl 4 rfl k) ?_
        by_cases c10 : (sx_I σ a9 3) = x2
        · replace h := ite_p c10 h
          refine ym 42 (fun B k => z_icmp_ne (tgt := 47) B dX8_movingTask_39 (by decide) (fun q => absurd c10 q) (fun _ => k)) ?_
          refine ym 44 (fun B k => z_aload B dX8_movingTask_42 0 rfl k) ?_
          refine ym 48 (fun B k => z_goto (tgt := 48) B dX8_movingTask_44 (by decide) k) ?_
          obtain rfl := Option.some.inj h
          exact yr_q (v := (some a9)) hT (rk_a hk_a9) rfl dX8_movingTask_48
        · replace h := ite_n c10 h
          refine ym 47 (fun B k => z_icmp_ne (tgt := 47) B dX8_movingTask_39 (by decide) (fun _ => k) (fun q => absurd q c10)) ?_
          refine ym 48 (fun B k => z_null B dX8_movingTask_47 k) ?_
          obtain rfl := Option.some.inj h
          exact yr_q (v := none) hT rk_n rfl dX8_movingTask_48
    · replace h := ite_n c7 h
      refine ym 20 (fun B k => z_if_eq (tgt := 22) B dX8_movingTask_17 (by decide) (fun q => absurd q c7) (fun _ => k)) ?_
      refine ym 21 (fun B k => z_null B dX8_movingTask_20 k) ?_
      obtain rfl := Option.some.inj h
      exact yr_q (v := none) hT rk_n rfl dX8_movingTask_21
set_option maxRecDepth 100000 in
set_option maxHeartbeats 4000000 in
theorem ct_X8_servedAt (l : Launch) {g : gx_T} {σ : sx_T} {r : Int32}  {t : Nat} {x1 : Int32} (h : f_X8_servedAt σ t x1 = some r) (hT : TS g σ) (hk_t : sx_K σ t = 10) : CT l g yX8_servedAt cX8_servedAt 2 (some .int) 0 0 [.ref t, .int x1] (True) σ σ (Qxi g r σ) := by
  refine yc_met (by decide) (Nat.le_of_ble_eq_true rfl) ?_
  refine yc_lv (show lv_args 0 [.ref t, .int x1] = [(0, .ref t), (1, .int x1)] from rfl) ?_
  show ZY l g _ _ _ _ _ _ _ _ _ _ _ _ _ _ σ 0 [(0, .ref t), (1, .int x1)] []
  unfold f_X8_servedAt at h
  refine ym 1 (fun B k => z_iload_n B dX8_servedAt_0 rfl 1 rfl k) ?_
  by_cases c1 : x1 < 0
  · replace h := ite_p c1 h
    refine ym 22 (fun B k => z_if_lt (tgt := 22) B dX8_servedAt_1 (by decide) (fun _ => k) (fun q => absurd c1 q)) ?_
    refine ym 23 (fun B k => z_iconst (v := 0) B dX8_servedAt_22 (by decide) k) ?_
    obtain rfl := Option.some.inj h
    exact yr_i hT trivial rfl dX8_servedAt_23
  · replace h := ite_n c1 h
    refine ym 4 (fun B k => z_if_lt (tgt := 22) B dX8_servedAt_1 (by decide) (fun q => absurd q c1) (fun _ => k)) ?_
    refine ym 5 (fun B k => z_iload_n B dX8_servedAt_4 rfl 1 rfl k) ?_
    refine ym 6 (fun B k => z_aload_n B dX8_servedAt_5 rfl 0 rfl k) ?_
    replace h := qv_e h
    obtain ⟨w2, e_w2, h⟩ := h
    have hq_w2 : rk σ w2 13 := rk_T hT hk_t rfl (by decide) e_w2
    refine ym 9 (fun B k => gf_X8_15 (x := w2) B hk_t e_w2 dX8_servedAt_6 k) ?_
    replace h := bq_e h
    obtain ⟨a3, rfl, h⟩ := h
    have hk_a3 := hq_w2 a3 rfl
    refine ym 10 (fun B k => z_alen (kd := 13) (ti := 1) (v := Int32.ofNat (sx_N σ a3)) B hk_a3 (by decide) rfl rfl dX8_servedAt_9 k) ?_
    by_cases c4 : (Int32.ofNat (sx_N σ a3)) ≤ x1
    · replace h := ite_p c4 h
      refine ym 22 (fun B k => z_icmp_ge (tgt := 22) B dX8_servedAt_10 (by decide) (fun _ => k) (fun q => absurd c4 q)) ?_
      refine ym 23 (fun B k => z_iconst (v := 0) B dX8_servedAt_22 (by decide) k) ?_
      obtain rfl := Option.some.inj h
      exact yr_i hT trivial rfl dX8_servedAt_23
    · replace h := ite_n c4 h
      refine ym 13 (fun B k => z_icmp_ge (tgt := 22) B dX8_servedAt_10 (by decide) (fun q => absurd q c4) (fun _ => k)) ?_
      refine ym 14 (fun B k => z_aload_n B dX8_servedAt_13 rfl 0 rfl k) ?_
      replace h := qv_e h
      obtain ⟨w5, e_w5, h⟩ := h
      have hq_w5 : rk σ w5 13 := rk_T hT hk_t rfl (by decide) e_w5
      refine ym 17 (fun B k => gf_X8_15 (x := w5) B hk_t e_w5 dX8_servedAt_14 k) ?_
      refine ym 18 (fun B k => z_iload_n B dX8_servedAt_17 rfl 1 rfl k) ?_
      replace h := bq_e h
      obtain ⟨a6, rfl, h⟩ := h
      have hk_a6 := hq_w5 a6 rfl
      replace h := ck_e h
      obtain ⟨hi_7, h⟩ := h
      refine ym 19 (fun B k => z_iald (j := (ti x1)) (x := (sx_I σ a6 (ti x1))) B hk_a6 rfl hi_7 rfl dX8_servedAt_18 k) ?_
      refine ym 23 (fun B k => z_goto (tgt := 23) B dX8_servedAt_19 (by decide) k) ?_
      obtain rfl := Option.some.inj h
      exact yr_i hT trivial rfl dX8_servedAt_23
set_option maxRecDepth 100000 in
set_option maxHeartbeats 4000000 in
theorem ct_X8_isAhead (l : Launch) {g : gx_T} {σ : sx_T} {r : Int32}  {t : Nat} {v1 : Option Nat} {v2 : Option Nat} (h : f_X8_isAhead σ t v1 v2 = some r) (hT : TS g σ) (hk_t : sx_K σ t = 10) (hq_v1 : rk σ v1 9) (hq_v2 : rk σ v2 9) : CT l g yX8_isAhead cX8_isAhead 7 (some .boolean) 1 21 [.ref t, va_rf v1, va_rf v2] (r = 0 ∨ r = 1) σ σ (Qxi g r σ) := by
  refine yc_met (by decide) (by cases v1 <;> cases v2 <;> exact Nat.le_of_ble_eq_true rfl) ?_
  refine yc_lv (show lv_args 0 [.ref t, va_rf v1, va_rf v2] = [(0, .ref t), (1, va_rf v1), (2, va_rf v2)] from (by cases v1 <;> cases v2 <;> rfl)) ?_
  show ZY l g _ _ _ _ _ _ _ _ _ _ _ _ _ _ σ 0 [(0, .ref t), (1, va_rf v1), (2, va_rf v2)] []
  unfold f_X8_isAhead at h
  refine ym 1 (fun B k => z_qload_n (r := v1) B dX8_isAhead_0 rfl 1 rfl k) ?_
  replace h := bq_e h
  obtain ⟨a1, rfl, h⟩ := h
  have hk_a1 := hq_v1 a1 rfl
  replace h := qv_e h
  obtain ⟨w2, e_w2, h⟩ := h
  have hq_w2 : rk σ w2 2 := rk_T hT hk_a1 rfl (by decide) e_w2
  refine ym 4 (fun B k => gf_X8_215 (x := w2) B hk_a1 e_w2 dX8_isAhead_1 k) ?_
  replace h := bq_e h
  obtain ⟨a3, rfl, h⟩ := h
  have hk_a3 := hq_w2 a3 rfl
  replace h := qv_e h
  obtain ⟨w4, e_w4, h⟩ := h
  have hq_w4 : rk σ w4 6 := rk_T hT hk_a3 rfl (by decide) e_w4
  refine ym 7 (fun B k => gf_X8_103 (x := w4) B hk_a3 e_w4 dX8_isAhead_4 k) ?_
  replace h := bq_e h
  obtain ⟨a5, rfl, h⟩ := h
  have hk_a5 := hq_w4 a5 rfl
  refine ym 10 (fun B k => gf_X8_219 (x := (sx_I σ a5 0)) B hk_a5 rfl dX8_isAhead_7 k) ?_
  refine ym 11 (fun B k => z_istore_n (lv' := [(3, .int (sx_I σ a5 0)), (0, .ref t), (1, .ref a1), (2, va_rf v2)]) B dX8_isAhead_10 rfl (by decide) (by cases v2 <;> rfl) k) ?_
  refine ym 12 (fun B k => z_qload_n (r := v2) B dX8_isAhead_11 rfl 3 rfl k) ?_
  replace h := bq_e h
  obtain ⟨a6, rfl, h⟩ := h
  have hk_a6 := hq_v2 a6 rfl
  replace h := qv_e h
  obtain ⟨w7, e_w7, h⟩ := h
  have hq_w7 : rk σ w7 2 := rk_T hT hk_a6 rfl (by decide) e_w7
  refine ym 15 (fun B k => gf_X8_215 (x := w7) B hk_a6 e_w7 dX8_isAhead_12 k) ?_
  replace h := bq_e h
  obtain ⟨a8, rfl, h⟩ := h
  have hk_a8 := hq_w7 a8 rfl
  replace h := qv_e h
  obtain ⟨w9, e_w9, h⟩ := h
  have hq_w9 : rk σ w9 6 := rk_T hT hk_a8 rfl (by decide) e_w9
  refine ym 18 (fun B k => gf_X8_103 (x := w9) B hk_a8 e_w9 dX8_isAhead_15 k) ?_
  replace h := bq_e h
  obtain ⟨a10, rfl, h⟩ := h
  have hk_a10 := hq_w9 a10 rfl
  refine ym 21 (fun B k => gf_X8_219 (x := (sx_I σ a10 0)) B hk_a10 rfl dX8_isAhead_18 k) ?_
  refine ym 23 (fun B k => z_istore (lv' := [(4, .int (sx_I σ a10 0)), (3, .int (sx_I σ a5 0)), (0, .ref t), (1, .ref a1), (2, .ref a6)]) B dX8_isAhead_21 (by decide) rfl k) ?_
  refine ym 24 (fun B k => z_iload_n B dX8_isAhead_23 rfl 1 rfl k) ?_
  refine ym 26 (fun B k => z_iload B dX8_isAhead_24 0 rfl k) ?_
  by_cases c11 : (sx_I σ a5 0) = (sx_I σ a10 0)
  · replace h := ite_p c11 h
    refine ym 29 (fun B k => z_icmp_ne (tgt := 46) B dX8_isAhead_26 (by decide) (fun q => absurd c11 q) (fun _ => k)) ?_
    refine ym 30 (fun B k => z_aload_n B dX8_isAhead_29 rfl 3 rfl k) ?_
    refine ym 33 (fun B k => gf_X8_304 (x := (sx_I σ a1 0)) B hk_a1 rfl dX8_isAhead_30 k) ?_
    refine ym 34 (fun B k => z_aload_n B dX8_isAhead_33 rfl 4 rfl k) ?_
    refine ym 37 (fun B k => gf_X8_304 (x := (sx_I σ a6 0)) B hk_a6 rfl dX8_isAhead_34 k) ?_
    by_cases c12 : (sx_I σ a6 0) ≤ (sx_I σ a1 0)
    · replace h := ite_p c12 h
      refine ym 44 (fun B k => z_icmp_ge (tgt := 44) B dX8_isAhead_37 (by decide) (fun _ => k) (fun q => absurd c12 q)) ?_
      refine ym 45 (fun B k => z_iconst (v := 0) B dX8_isAhead_44 (by decide) k) ?_
      obtain rfl := Option.some.inj h
      exact yr_z hT (Or.inl rfl) rfl (Or.inl rfl) dX8_isAhead_45
    · replace h := ite_n c12 h
      refine ym 40 (fun B k => z_icmp_ge (tgt := 44) B dX8_isAhead_37 (by decide) (fun q => absurd q c12) (fun _ => k)) ?_
      refine ym 41 (fun B k => z_iconst (v := 1) B dX8_isAhead_40 (by decide) k) ?_
      refine ym 45 (fun B k => z_goto (tgt := 45) B dX8_isAhead_41 (by decide) k) ?_
      obtain rfl := Option.some.inj h
      exact yr_z hT (Or.inr rfl) rfl (Or.inr rfl) dX8_isAhead_45
  · replace h := ite_n c11 h
    refine ym 46 (fun B k => z_icmp_ne (tgt := 46) B dX8_isAhead_26 (by decide) (fun _ => k) (fun q => absurd q c11)) ?_
    refine ym 47 (fun B k => z_aload_n B dX8_isAhead_46 rfl 2 rfl k) ?_
    refine ym 48 (fun B k => z_iload_n B dX8_isAhead_47 rfl 1 rfl k) ?_
    replace h := br_e h
    obtain ⟨r14, h13, h⟩ := h
    have m15 := ct_X8_servedAt l (g := g) h13 hT hk_t
    refine yc_Vi (Al := [.int (sx_I σ a5 0)]) (rest := []) 51 rfl cw_X8_417 cx_9 dX8_isAhead_48 m15 hk_t rfl (by decide) rfl (Nat.le_of_ble_eq_true rfl) ?_
    refine ym 53 (fun B k => z_istore (lv' := [(5, .int r14), (4, .int (sx_I σ a10 0)), (3, .int (sx_I σ a5 0)), (0, .ref t), (1, .ref a1), (2, .ref a6)]) B dX8_isAhead_51 (by decide) rfl k) ?_
    refine ym 54 (fun B k => z_aload_n B dX8_isAhead_53 rfl 3 rfl k) ?_
    refine ym 56 (fun B k => z_iload B dX8_isAhead_54 1 rfl k) ?_
    replace h := br_e h
    obtain ⟨r17, h16, h⟩ := h
    have m18 := ct_X8_servedAt l (g := g) h16 hT hk_t
    refine yc_Vi (Al := [.int (sx_I σ a10 0)]) (rest := []) 59 rfl cw_X8_417 cx_9 dX8_isAhead_56 m18 hk_t rfl (by decide) rfl (Nat.le_of_ble_eq_true rfl) ?_
    refine ym 61 (fun B k => z_istore (lv' := [(6, .int r17), (5, .int r14), (4, .int (sx_I σ a10 0)), (3, .int (sx_I σ a5 0)), (0, .ref t), (1, .ref a1), (2, .ref a6)]) B dX8_isAhead_59 (by decide) rfl k) ?_
    refine ym 63 (fun B k => z_iload B dX8_isAhead_61 1 rfl k) ?_
    refine ym 65 (fun B k => z_iload B dX8_isAhead_63 0 rfl k) ?_
    by_cases c19 : r14 < r17
    · replace h := ite_p c19 h
      refine ym 81 (fun B k => z_icmp_lt (tgt := 81) B dX8_isAhead_65 (by decide) (fun _ => k) (fun q => absurd c19 q)) ?_
      refine ym 82 (fun B k => z_iconst (v := 1) B dX8_isAhead_81 (by decide) k) ?_
      refine ym 86 (fun B k => z_goto (tgt := 86) B dX8_isAhead_82 (by decide) k) ?_
      obtain rfl := Option.some.inj h
      exact yr_z hT (Or.inr rfl) rfl (Or.inr rfl) dX8_isAhead_86
    · replace h := ite_n c19 h
      refine ym 68 (fun B k => z_icmp_lt (tgt := 81) B dX8_isAhead_65 (by decide) (fun q => absurd q c19) (fun _ => k)) ?_
      refine ym 70 (fun B k => z_iload B dX8_isAhead_68 1 rfl k) ?_
      refine ym 72 (fun B k => z_iload B dX8_isAhead_70 0 rfl k) ?_
      by_cases c20 : r14 = r17
      · replace h := ite_p c20 h
        refine ym 75 (fun B k => z_icmp_ne (tgt := 85) B dX8_isAhead_72 (by decide) (fun q => absurd c20 q) (fun _ => k)) ?_
        refine ym 76 (fun B k => z_iload_n B dX8_isAhead_75 rfl 3 rfl k) ?_
        refine ym 78 (fun B k => z_iload B dX8_isAhead_76 2 rfl k) ?_
        by_cases c21 : (sx_I σ a10 0) ≤ (sx_I σ a5 0)
        · replace h := ite_p c21 h
          refine ym 85 (fun B k => z_icmp_ge (tgt := 85) B dX8_isAhead_78 (by decide) (fun _ => k) (fun q => absurd c21 q)) ?_
          refine ym 86 (fun B k => z_iconst (v := 0) B dX8_isAhead_85 (by decide) k) ?_
          obtain rfl := Option.some.inj h
          exact yr_z hT (Or.inl rfl) rfl (Or.inl rfl) dX8_isAhead_86
        · replace h := ite_n c21 h
          refine ym 81 (fun B k => z_icmp_ge (tgt := 85) B dX8_isAhead_78 (by decide) (fun q => absurd q c21) (fun _ => k)) ?_
          refine ym 82 (fun B k => z_iconst (v := 1) B dX8_isAhead_81 (by decide) k) ?_
          refine ym 86 (fun B k => z_goto (tgt := 86) B dX8_isAhead_82 (by decide) k) ?_
          obtain rfl := Option.some.inj h
          exact yr_z hT (Or.inr rfl) rfl (Or.inr rfl) dX8_isAhead_86
      · replace h := ite_n c20 h
        refine ym 85 (fun B k => z_icmp_ne (tgt := 85) B dX8_isAhead_72 (by decide) (fun _ => k) (fun q => absurd q c20)) ?_
        refine ym 86 (fun B k => z_iconst (v := 0) B dX8_isAhead_85 (by decide) k) ?_
        obtain rfl := Option.some.inj h
        exact yr_z hT (Or.inl rfl) rfl (Or.inl rfl) dX8_isAhead_86
set_option maxRecDepth 100000 in
set_option maxHeartbeats 4000000 in
theorem ct_X7_run (l : Launch) {g : gx_T} {σ : sx_T} {u : sx_T}  {t : Nat} {x1 : Int32} {x2 : Int32} (h : f_X7_run σ t x1 x2 = some u) (hT : TS g σ) (hk_t : sx_K σ t = 9) : CT l g yX7_run cX7_run 3 none 0 0 [.ref t, .int x1, .int x2] (True) u σ (Qxv g u) := by
  refine yc_met (by decide) (Nat.le_of_ble_eq_true rfl) ?_
  refine yc_lv (show lv_args 0 [.ref t, .int x1, .int x2] = [(0, .ref t), (1, .int x1), (2, .int x2)] from rfl) ?_
  show ZY l g _ _ _ _ _ _ _ _ _ _ _ _ _ _ σ 0 [(0, .ref t), (1, .int x1), (2, .int x2)] []
  unfold f_X7_run at h
  refine ym 1 (fun B k => z_aload_n B dX7_run_0 rfl 0 rfl k) ?_
  refine ym 2 (fun B k => z_iconst (v := 1) B dX7_run_1 (by decide) k) ?_
  have j1 := hk_t
  refine ymw (σ' := (wx_I σ t 3 1)) 5 e_I (fun B hin k => pf_X7_9 (x := 1) B hk_t rfl dX7_run_2 k) ?_
  have hT := TS_I (k := 3) (x := 1) hT hk_t (Or.inl rfl)
  have hk_t := kk_I (σ := σ) (a := t) (k := 3) (x := 1) hk_t
  refine ym 6 (fun B k => z_aload_n B dX7_run_5 rfl 0 rfl k) ?_
  refine ym 7 (fun B k => z_iload_n B dX7_run_6 rfl 1 rfl k) ?_
  have j2 := hk_t
  refine ymw (σ' := (wx_I (wx_I σ t 3 1) t 5 x1)) 10 e_I (fun B hin k => pf_X7_31 (x := x1) B hk_t rfl dX7_run_7 k) ?_
  have hT := TS_I (k := 5) (x := x1) hT hk_t (Or.inl rfl)
  have hk_t := kk_I (σ := (wx_I σ t 3 1)) (a := t) (k := 5) (x := x1) hk_t
  refine ym 11 (fun B k => z_aload_n B dX7_run_10 rfl 0 rfl k) ?_
  refine ym 12 (fun B k => z_iload_n B dX7_run_11 rfl 2 rfl k) ?_
  have j3 := hk_t
  refine ymw (σ' := (wx_I (wx_I (wx_I σ t 3 1) t 5 x1) t 6 x2)) 15 e_I (fun B hin k => pf_X7_34 (x := x2) B hk_t rfl dX7_run_12 k) ?_
  have hT := TS_I (k := 6) (x := x2) hT hk_t (Or.inl rfl)
  have hk_t := kk_I (σ := (wx_I (wx_I σ t 3 1) t 5 x1)) (a := t) (k := 6) (x := x2) hk_t
  obtain rfl := Option.some.inj h
  exact yr_v hT trivial rfl dX7_run_15
set_option maxRecDepth 100000 in
set_option maxHeartbeats 4000000 in
theorem ct_X8_serve (l : Launch) {g : gx_T} {σ : sx_T} {u : sx_T}  {t : Nat} {x1 : Int32} (h : f_X8_serve σ t x1 = some u) (hT : TS g σ) (hk_t : sx_K σ t = 10) : CT l g yX8_serve cX8_serve 2 none 0 0 [.ref t, .int x1] (True) u σ (Qxv g u) := by
  refine yc_met (by decide) (Nat.le_of_ble_eq_true rfl) ?_
  refine yc_lv (show lv_args 0 [.ref t, .int x1] = [(0, .ref t), (1, .int x1)] from rfl) ?_
  show ZY l g _ _ _ _ _ _ _ _ _ _ _ _ _ _ σ 0 [(0, .ref t), (1, .int x1)] []
  unfold f_X8_serve at h
  refine ym 1 (fun B k => z_iload_n B dX8_serve_0 rfl 1 rfl k) ?_
  by_cases c1 : x1 < 0
  · replace h := ite_p c1 h
    refine ym 23 (fun B k => z_if_lt (tgt := 23) B dX8_serve_1 (by decide) (fun _ => k) (fun q => absurd c1 q)) ?_
    obtain rfl := Option.some.inj h
    exact yr_v hT trivial rfl dX8_serve_23
  · replace h := ite_n c1 h
    refine ym 4 (fun B k => z_if_lt (tgt := 23) B dX8_serve_1 (by decide) (fun q => absurd q c1) (fun _ => k)) ?_
    refine ym 5 (fun B k => z_iload_n B dX8_serve_4 rfl 1 rfl k) ?_
    refine ym 6 (fun B k => z_aload_n B dX8_serve_5 rfl 0 rfl k) ?_
    replace h := qv_e h
    obtain ⟨w2, e_w2, h⟩ := h
    have hq_w2 : rk σ w2 13 := rk_T hT hk_t rfl (by decide) e_w2
    refine ym 9 (fun B k => gf_X8_15 (x := w2) B hk_t e_w2 dX8_serve_6 k) ?_
    replace h := bq_e h
    obtain ⟨a3, rfl, h⟩ := h
    have hk_a3 := hq_w2 a3 rfl
    refine ym 10 (fun B k => z_alen (kd := 13) (ti := 1) (v := Int32.ofNat (sx_N σ a3)) B hk_a3 (by decide) rfl rfl dX8_serve_9 k) ?_
    by_cases c4 : (Int32.ofNat (sx_N σ a3)) ≤ x1
    · replace h := ite_p c4 h
      refine ym 23 (fun B k => z_icmp_ge (tgt := 23) B dX8_serve_10 (by decide) (fun _ => k) (fun q => absurd c4 q)) ?_
      obtain rfl := Option.some.inj h
      exact yr_v hT trivial rfl dX8_serve_23
    · replace h := ite_n c4 h
      refine ym 13 (fun B k => z_icmp_ge (tgt := 23) B dX8_serve_10 (by decide) (fun q => absurd q c4) (fun _ => k)) ?_
      refine ym 14 (fun B k => z_aload_n B dX8_serve_13 rfl 0 rfl k) ?_
      replace h := qv_e h
      obtain ⟨w5, e_w5, h⟩ := h
      have hq_w5 : rk σ w5 13 := rk_T hT hk_t rfl (by decide) e_w5
      refine ym 17 (fun B k => gf_X8_15 (x := w5) B hk_t e_w5 dX8_serve_14 k) ?_
      refine ym 18 (fun B k => z_iload_n B dX8_serve_17 rfl 1 rfl k) ?_
      refine ym 19 (fun B k => z_aload_n B dX8_serve_18 rfl 0 rfl k) ?_
      refine ym 22 (fun B k => gf_X8_203 (x := (sx_I σ t 9)) B hk_t rfl dX8_serve_19 k) ?_
      replace h := bq_e h
      obtain ⟨a6, rfl, h⟩ := h
      have hk_a6 := hq_w5 a6 rfl
      replace h := ck_e h
      obtain ⟨hi_7, h⟩ := h
      have j8 := hk_a6
      refine ymw (σ' := (wx_I σ a6 (ti x1) (sx_I σ t 9))) 23 e_I (fun B _ k => z_iast (j := (ti x1)) B hk_a6 rfl hi_7 rfl dX8_serve_22 k) ?_
      have hT := TS_I (k := (ti x1)) (x := (sx_I σ t 9)) hT hk_a6 (Or.inl rfl)
      have hk_t := kk_I (σ := σ) (a := a6) (k := (ti x1)) (x := (sx_I σ t 9)) hk_t
      obtain rfl := Option.some.inj h
      exact yr_v hT trivial rfl dX8_serve_23
set_option maxRecDepth 100000 in
set_option maxHeartbeats 4000000 in
theorem tl_X8_poll_4 {l : Launch} {g : gx_T} {u : sx_T} {r : Int32} {As : Array Value} {n0 : Nat} : ∀ {n : Nat} {σ : sx_T} {t : Nat} {v1 : Option Nat} {x2 : Int32}, fl_X8_poll_4 n0 n σ t v1 x2 = some (r, u) → TS g σ → sx_K σ t = 10 → rk σ v1 9 → ZY l g cX8_poll RX8 "poll" (some .int) 4 2 47 0 0 false As (QM g As (Qxi g r u)) (True) u σ 4 [(0, .ref t), (1, va_rf v1), (2, .int x2)] [] := by
  intro n
  induction n with
  | zero =>
    intro σ t v1 x2 h
    exact nomatch h
  | succ n ih_ =>
    have ih := @ih_
    intro σ t v1 x2 h hT hk_t hq_v1
    unfold fl_X8_poll_4 at h
    refine ym 5 (fun B k => z_iload_n B dX8_poll_4 rfl 2 rfl k) ?_
    refine ym 6 (fun B k => z_aload_n B dX8_poll_5 rfl 0 rfl k) ?_
    refine ym 9 (fun B k => gf_X8_96 (x := (sx_I σ t 7)) B hk_t rfl dX8_poll_6 k) ?_
    by_cases c1 : (sx_I σ t 7) ≤ x2
    · replace h := ite_p c1 h
      refine ym 44 (fun B k => z_icmp_ge (tgt := 44) B dX8_poll_9 (by decide) (fun _ => k) (fun q => absurd c1 q)) ?_
      refine ym 45 (fun B k => z_qload_n (r := v1) B dX8_poll_44 rfl 1 rfl k) ?_
      rcases v1 with _ | a2
      · replace h := oc_n h
        refine ym 48 (fun B k => z_ifnonnull (r := none) (tgt := 50) B dX8_poll_45 (by decide) (fun a h => nomatch h) (fun _ => k)) ?_
        refine ym 49 (fun B k => z_iconst (v := (-1)) B dX8_poll_48 (by decide) k) ?_
        obtain ⟨rfl, rfl⟩ := Prod.mk.inj (Option.some.inj h)
        exact yr_i hT trivial rfl dX8_poll_49
      · replace h := oc_s h
        have hk_a2 := hq_v1 a2 rfl
        refine ym 50 (fun B k => z_ifnonnull (r := (some a2)) (tgt := 50) B dX8_poll_45 (by decide) (fun _ _ => k) (fun h => nomatch h)) ?_
        refine ym 51 (fun B k => z_aload_n B dX8_poll_50 rfl 0 rfl k) ?_
        refine ym 52 (fun B k => z_dup B dX8_poll_51 rfl k) ?_
        refine ym 55 (fun B k => gf_X8_203 (x := (sx_I σ t 9)) B hk_t rfl dX8_poll_52 k) ?_
        refine ym 56 (fun B k => z_iconst (v := 1) B dX8_poll_55 (by decide) k) ?_
        refine ym 57 (fun B k => z_iadd B dX8_poll_56 k) ?_
        have j3 := hk_t
        refine ymw (σ' := (wx_I σ t 9 ((sx_I σ t 9) + 1))) 60 e_I (fun B hin k => pf_X8_203 (x := ((sx_I σ t 9) + 1)) B hk_t rfl dX8_poll_57 k) ?_
        have hT := TS_I (k := 9) (x := ((sx_I σ t 9) + 1)) hT hk_t (Or.inl rfl)
        have hk_t := kk_I (σ := σ) (a := t) (k := 9) (x := ((sx_I σ t 9) + 1)) hk_t
        have hk_a2 := kk_I (σ := σ) (a := t) (k := 9) (x := ((sx_I σ t 9) + 1)) hk_a2
        refine ym 61 (fun B k => z_aload_n B dX8_poll_60 rfl 1 rfl k) ?_
        refine ym 62 (fun B k => z_aload_n B dX8_poll_61 rfl 0 rfl k) ?_
        refine ym 65 (fun B k => gf_X8_203 (x := ((sx_I σ t 9) + 1)) B hk_t rI_s dX8_poll_62 k) ?_
        refine ym 66 (fun B k => z_aload_n B dX8_poll_65 rfl 0 rfl k) ?_
        refine ym 69 (fun B k => gf_X8_206 (x := (sx_I σ t 8)) B hk_t (rI_n (by decide) rfl) dX8_poll_66 k) ?_
        refine ym 71 (fun B k => z_bipush (v := 6) B dX8_poll_69 (by decide) k) ?_
        refine ym 72 (fun B k => z_iadd B dX8_poll_71 k) ?_
        replace h := br_e h
        obtain ⟨u5, h4, h⟩ := h
        have m6 := ct_X7_run l (g := g) h4 hT hk_a2
        refine yc_Vv (Al := [.int ((sx_I σ t 9) + 1), .int ((sx_I σ t 8) + 6)]) (rest := []) 75 rfl cw_X8_209 cx_8 dX8_poll_72 m6 hk_a2 rfl (by decide) rfl (Nat.le_of_ble_eq_true rfl) ?_
        have hk_t := k_G m6.1.1 (by decide) hk_t
        have hk_a2 := k_G m6.1.1 (by decide) hk_a2
        have hT := m6.1.1.2.2.2
        refine ym 76 (fun B k => z_aload_n B dX8_poll_75 rfl 0 rfl k) ?_
        refine ym 77 (fun B k => z_aload_n B dX8_poll_76 rfl 1 rfl k) ?_
        replace h := qv_e h
        obtain ⟨w7, e_w7, h⟩ := h
        have hq_w7 : rk u5 w7 2 := rk_T hT hk_a2 rfl (by decide) e_w7
        refine ym 80 (fun B k => gf_X8_215 (x := w7) B hk_a2 e_w7 dX8_poll_77 k) ?_
        replace h := bq_e h
        obtain ⟨a8, rfl, h⟩ := h
        have hk_a8 := hq_w7 a8 rfl
        replace h := qv_e h
        obtain ⟨w9, e_w9, h⟩ := h
        have hq_w9 : rk u5 w9 6 := rk_T hT hk_a8 rfl (by decide) e_w9
        refine ym 83 (fun B k => gf_X8_103 (x := w9) B hk_a8 e_w9 dX8_poll_80 k) ?_
        replace h := bq_e h
        obtain ⟨a10, rfl, h⟩ := h
        have hk_a10 := hq_w9 a10 rfl
        refine ym 86 (fun B k => gf_X8_219 (x := (sx_I u5 a10 0)) B hk_a10 rfl dX8_poll_83 k) ?_
        replace h := br_e h
        obtain ⟨u12, h11, h⟩ := h
        have m13 := ct_X8_serve l (g := g) h11 hT hk_t
        refine yc_Vv (Al := [.int (sx_I u5 a10 0)]) (rest := []) 89 rfl cw_X8_220 cx_9 dX8_poll_86 m13 hk_t rfl (by decide) rfl (Nat.le_of_ble_eq_true rfl) ?_
        have hk_t := k_G m13.1.1 (by decide) hk_t
        have hk_a2 := k_G m13.1.1 (by decide) hk_a2
        have hT := m13.1.1.2.2.2
        refine ym 90 (fun B k => z_aload_n B dX8_poll_89 rfl 0 rfl k) ?_
        refine ym 93 (fun B k => gf_X8_203 (x := (sx_I u12 t 9)) B hk_t rfl dX8_poll_90 k) ?_
        obtain ⟨rfl, rfl⟩ := Prod.mk.inj (Option.some.inj h)
        exact yr_i hT trivial rfl dX8_poll_93
    · replace h := ite_n c1 h
      refine ym 12 (fun B k => z_icmp_ge (tgt := 44) B dX8_poll_9 (by decide) (fun q => absurd q c1) (fun _ => k)) ?_
      refine ym 13 (fun B k => z_aload_n B dX8_poll_12 rfl 0 rfl k) ?_
      refine ym 14 (fun B k => z_iload_n B dX8_poll_13 rfl 2 rfl k) ?_
      refine ym 15 (fun B k => z_iconst (v := 0) B dX8_poll_14 (by decide) k) ?_
      replace h := br_e h
      obtain ⟨r15, h14, h⟩ := h
      have m16 := ct_X8_movingTask l (g := g) h14 hT hk_t
      refine yc_Vq (Al := [.int x2, .int 0]) (rest := []) 18 rfl cw_X8_195 cx_9 dX8_poll_15 m16 hk_t rfl (by decide) rfl (Nat.le_of_ble_eq_true rfl) ?_
      have hq_r15 := m16.1.2
      refine ym 19 (fun B k => z_qstore_n (r := r15) (lv' := [(3, va_rf r15), (0, .ref t), (1, va_rf v1), (2, .int x2)]) B dX8_poll_18 rfl (by decide) rfl k) ?_
      refine ym 20 (fun B k => z_qload_n (r := r15) B dX8_poll_19 rfl 0 rfl k) ?_
      rcases r15 with _ | a17
      · replace h := oc_n h
        refine ym 38 (fun B k => z_ifnull (r := none) (tgt := 38) B dX8_poll_20 (by decide) (fun _ => k) (fun a h => nomatch h)) ?_
        refine ym 41 (fun B k => z_iinc (v := x2 + 1) (lv' := [(2, .int (x2 + 1)), (3, .null), (0, .ref t), (1, va_rf v1)]) B dX8_poll_38 3 rfl rfl (by decide) (by cases v1 <;> rfl) k) ?_
        refine ym 4 (fun B k => z_goto (tgt := 4) B dX8_poll_41 (by decide) k) ?_
        refine y_sub [(0, .ref t), (1, va_rf v1), (2, .int (x2 + 1))] [2, 3, 0] rfl ?_
        exact ih h hT hk_t hq_v1
      · replace h := oc_s h
        have hk_a17 := hq_r15 a17 rfl
        refine ym 23 (fun B k => z_ifnull (r := (some a17)) (tgt := 38) B dX8_poll_20 (by decide) (fun h => nomatch h) (fun _ _ => k)) ?_
        refine ym 24 (fun B k => z_qload_n (r := v1) B dX8_poll_23 rfl 2 rfl k) ?_
        rcases v1 with _ | a18
        · replace h := oc_n h
          refine ym 36 (fun B k => z_ifnull (r := none) (tgt := 36) B dX8_poll_24 (by decide) (fun _ => k) (fun a h => nomatch h)) ?_
          refine ym 37 (fun B k => z_aload_n B dX8_poll_36 rfl 0 rfl k) ?_
          refine ym 38 (fun B k => z_astore_n (lv' := [(1, .ref a17), (3, .ref a17), (0, .ref t), (2, .int x2)]) B dX8_poll_37 rfl (by decide) rfl k) ?_
          refine ym 41 (fun B k => z_iinc (v := x2 + 1) (lv' := [(2, .int (x2 + 1)), (1, .ref a17), (3, .ref a17), (0, .ref t)]) B dX8_poll_38 3 rfl rfl (by decide) rfl k) ?_
          refine ym 4 (fun B k => z_goto (tgt := 4) B dX8_poll_41 (by decide) k) ?_
          refine y_sub [(0, .ref t), (1, .ref a17), (2, .int (x2 + 1))] [3, 1, 0] rfl ?_
          exact ih h hT hk_t (rk_a hk_a17)
        · replace h := oc_s h
          have hk_a18 := hq_v1 a18 rfl
          refine ym 27 (fun B k => z_ifnull (r := (some a18)) (tgt := 36) B dX8_poll_24 (by decide) (fun h => nomatch h) (fun _ _ => k)) ?_
          refine ym 28 (fun B k => z_aload_n B dX8_poll_27 rfl 1 rfl k) ?_
          refine ym 29 (fun B k => z_aload_n B dX8_poll_28 rfl 0 rfl k) ?_
          refine ym 30 (fun B k => z_aload_n B dX8_poll_29 rfl 2 rfl k) ?_
          replace h := br_e h
          obtain ⟨r20, h19, h⟩ := h
          have m21 := ct_X8_isAhead l (g := g) h19 hT hk_t (rk_a hk_a17) (rk_a hk_a18)
          refine yc_Vi (Al := [.ref a17, .ref a18]) (rest := []) 33 rfl cw_X8_199 cx_9 dX8_poll_30 m21 hk_t rfl (by decide) rfl (Nat.le_of_ble_eq_true rfl) ?_
          have hz_r20 := m21.1.2
          by_cases c22 : r20 = 0
          · replace h := ite_p c22 h
            refine ym 38 (fun B k => z_if_eq (tgt := 38) B dX8_poll_33 (by decide) (fun _ => k) (fun q => absurd c22 q)) ?_
            refine ym 41 (fun B k => z_iinc (v := x2 + 1) (lv' := [(2, .int (x2 + 1)), (3, .ref a17), (0, .ref t), (1, .ref a18)]) B dX8_poll_38 3 rfl rfl (by decide) rfl k) ?_
            refine ym 4 (fun B k => z_goto (tgt := 4) B dX8_poll_41 (by decide) k) ?_
            refine y_sub [(0, .ref t), (1, .ref a18), (2, .int (x2 + 1))] [2, 3, 0] rfl ?_
            exact ih h hT hk_t (rk_a hk_a18)
          · replace h := ite_n c22 h
            refine ym 36 (fun B k => z_if_eq (tgt := 38) B dX8_poll_33 (by decide) (fun q => absurd q c22) (fun _ => k)) ?_
            refine ym 37 (fun B k => z_aload_n B dX8_poll_36 rfl 0 rfl k) ?_
            refine ym 38 (fun B k => z_astore_n (lv' := [(1, .ref a17), (3, .ref a17), (0, .ref t), (2, .int x2)]) B dX8_poll_37 rfl (by decide) rfl k) ?_
            refine ym 41 (fun B k => z_iinc (v := x2 + 1) (lv' := [(2, .int (x2 + 1)), (1, .ref a17), (3, .ref a17), (0, .ref t)]) B dX8_poll_38 3 rfl rfl (by decide) rfl k) ?_
            refine ym 4 (fun B k => z_goto (tgt := 4) B dX8_poll_41 (by decide) k) ?_
            refine y_sub [(0, .ref t), (1, .ref a17), (2, .int (x2 + 1))] [3, 1, 0] rfl ?_
            exact ih h hT hk_t (rk_a hk_a17)
set_option maxRecDepth 100000 in
set_option maxHeartbeats 4000000 in
theorem ct_X8_poll (l : Launch) {g : gx_T} {σ : sx_T} {u : sx_T} {r : Int32} {n0 : Nat} {t : Nat} (h : f_X8_poll n0 σ t = some (r, u)) (hT : TS g σ) (hk_t : sx_K σ t = 10) : CT l g yX8_poll cX8_poll 4 (some .int) 2 47 [.ref t] (True) u σ (Qxi g r u) := by
  refine yc_met (by decide) (Nat.le_of_ble_eq_true rfl) ?_
  refine yc_lv (show lv_args 0 [.ref t] = [(0, .ref t)] from rfl) ?_
  show ZY l g _ _ _ _ _ _ _ _ _ _ _ _ _ _ σ 0 [(0, .ref t)] []
  unfold f_X8_poll at h
  refine ym 1 (fun B k => z_null B dX8_poll_0 k) ?_
  refine ym 2 (fun B k => z_qstore_n (r := none) (lv' := [(1, .null), (0, .ref t)]) B dX8_poll_1 rfl (by decide) rfl k) ?_
  refine ym 3 (fun B k => z_iconst (v := 0) B dX8_poll_2 (by decide) k) ?_
  refine ym 4 (fun B k => z_istore_n (lv' := [(2, .int 0), (1, .null), (0, .ref t)]) B dX8_poll_3 rfl (by decide) rfl k) ?_
  refine y_sub [(0, .ref t), (1, .null), (2, .int 0)] [2, 1, 0] rfl ?_
  exact tl_X8_poll_4 h hT hk_t rk_n
set_option maxRecDepth 100000 in
set_option maxHeartbeats 4000000 in
theorem tl_X8_runningTask_2 {l : Launch} {g : gx_T} {r : Option Nat} {As : Array Value} {n0 : Nat} : ∀ {n : Nat} {σ : sx_T} {t : Nat} {x1 : Int32} {x2 : Int32}, fl_X8_runningTask_2 n0 n σ t x1 x2 = some r → TS g σ → sx_K σ t = 10 → ZY l g cX8_runningTask RX8 "runningTask" (some (.object "Loomkeeper$Task")) 4 2 46 0 0 false As (QM g As (Qxq g r σ)) (rk σ r 9) σ σ 2 [(0, .ref t), (1, .int x1), (2, .int x2)] [] := by
  intro n
  induction n with
  | zero =>
    intro σ t x1 x2 h
    exact nomatch h
  | succ n ih_ =>
    have ih := @ih_
    intro σ t x1 x2 h hT hk_t
    unfold fl_X8_runningTask_2 at h
    refine ym 3 (fun B k => z_iload_n B dX8_runningTask_2 rfl 2 rfl k) ?_
    refine ym 4 (fun B k => z_aload_n B dX8_runningTask_3 rfl 0 rfl k) ?_
    refine ym 7 (fun B k => gf_X8_96 (x := (sx_I σ t 7)) B hk_t rfl dX8_runningTask_4 k) ?_
    by_cases c1 : (sx_I σ t 7) ≤ x2
    · replace h := ite_p c1 h
      refine ym 37 (fun B k => z_icmp_ge (tgt := 37) B dX8_runningTask_7 (by decide) (fun _ => k) (fun q => absurd c1 q)) ?_
      refine ym 38 (fun B k => z_null B dX8_runningTask_37 k) ?_
      obtain rfl := Option.some.inj h
      exact yr_q (v := none) hT rk_n rfl dX8_runningTask_38
    · replace h := ite_n c1 h
      refine ym 10 (fun B k => z_icmp_ge (tgt := 37) B dX8_runningTask_7 (by decide) (fun q => absurd q c1) (fun _ => k)) ?_
      refine ym 11 (fun B k => z_aload_n B dX8_runningTask_10 rfl 0 rfl k) ?_
      refine ym 12 (fun B k => z_iload_n B dX8_runningTask_11 rfl 2 rfl k) ?_
      refine ym 13 (fun B k => z_iconst (v := 1) B dX8_runningTask_12 (by decide) k) ?_
      replace h := br_e h
      obtain ⟨r3, h2, h⟩ := h
      have m4 := ct_X8_movingTask l (g := g) h2 hT hk_t
      refine yc_Vq (Al := [.int x2, .int 1]) (rest := []) 16 rfl cw_X8_195 cx_9 dX8_runningTask_13 m4 hk_t rfl (by decide) rfl (Nat.le_of_ble_eq_true rfl) ?_
      have hq_r3 := m4.1.2
      refine ym 17 (fun B k => z_qstore_n (r := r3) (lv' := [(3, va_rf r3), (0, .ref t), (1, .int x1), (2, .int x2)]) B dX8_runningTask_16 rfl (by decide) rfl k) ?_
      refine ym 18 (fun B k => z_qload_n (r := r3) B dX8_runningTask_17 rfl 0 rfl k) ?_
      rcases r3 with _ | a5
      · replace h := oc_n h
        refine ym 31 (fun B k => z_ifnull (r := none) (tgt := 31) B dX8_runningTask_18 (by decide) (fun _ => k) (fun a h => nomatch h)) ?_
        refine ym 34 (fun B k => z_iinc (v := x2 + 1) (lv' := [(2, .int (x2 + 1)), (3, .null), (0, .ref t), (1, .int x1)]) B dX8_runningTask_31 3 rfl rfl (by decide) rfl k) ?_
        refine ym 2 (fun B k => z_goto (tgt := 2) B dX8_runningTask_34 (by decide) k) ?_
        refine y_sub [(0, .ref t), (1, .int x1), (2, .int (x2 + 1))] [2, 3, 0] rfl ?_
        exact ih h hT hk_t
      · replace h := oc_s h
        have hk_a5 := hq_r3 a5 rfl
        refine ym 21 (fun B k => z_ifnull (r := (some a5)) (tgt := 31) B dX8_runningTask_18 (by decide) (fun h => nomatch h) (fun _ _ => k)) ?_
        refine ym 22 (fun B k => z_aload_n B dX8_runningTask_21 rfl 0 rfl k) ?_
        refine ym 25 (fun B k => gf_X8_283 (x := (sx_I σ a5 5)) B hk_a5 rfl dX8_runningTask_22 k) ?_
        refine ym 26 (fun B k => z_iload_n B dX8_runningTask_25 rfl 2 rfl k) ?_
        by_cases c6 : (sx_I σ a5 5) = x1
        · replace h := ite_p c6 h
          refine ym 29 (fun B k => z_icmp_ne (tgt := 31) B dX8_runningTask_26 (by decide) (fun q => absurd c6 q) (fun _ => k)) ?_
          refine ym 30 (fun B k => z_aload_n B dX8_runningTask_29 rfl 0 rfl k) ?_
          obtain rfl := Option.some.inj h
          exact yr_q (v := (some a5)) hT (rk_a hk_a5) rfl dX8_runningTask_30
        · replace h := ite_n c6 h
          refine ym 31 (fun B k => z_icmp_ne (tgt := 31) B dX8_runningTask_26 (by decide) (fun _ => k) (fun q => absurd q c6)) ?_
          refine ym 34 (fun B k => z_iinc (v := x2 + 1) (lv' := [(2, .int (x2 + 1)), (3, .ref a5), (0, .ref t), (1, .int x1)]) B dX8_runningTask_31 3 rfl rfl (by decide) rfl k) ?_
          refine ym 2 (fun B k => z_goto (tgt := 2) B dX8_runningTask_34 (by decide) k) ?_
          refine y_sub [(0, .ref t), (1, .int x1), (2, .int (x2 + 1))] [2, 3, 0] rfl ?_
          exact ih h hT hk_t
set_option maxRecDepth 100000 in
set_option maxHeartbeats 4000000 in
theorem ct_X8_runningTask (l : Launch) {g : gx_T} {σ : sx_T} {r : Option Nat} {n0 : Nat} {t : Nat} {x1 : Int32} (h : f_X8_runningTask n0 σ t x1 = some r) (hT : TS g σ) (hk_t : sx_K σ t = 10) : CT l g yX8_runningTask cX8_runningTask 4 (some (.object "Loomkeeper$Task")) 2 46 [.ref t, .int x1] (rk σ r 9) σ σ (Qxq g r σ) := by
  refine yc_met (by decide) (Nat.le_of_ble_eq_true rfl) ?_
  refine yc_lv (show lv_args 0 [.ref t, .int x1] = [(0, .ref t), (1, .int x1)] from rfl) ?_
  show ZY l g _ _ _ _ _ _ _ _ _ _ _ _ _ _ σ 0 [(0, .ref t), (1, .int x1)] []
  unfold f_X8_runningTask at h
  refine ym 1 (fun B k => z_iconst (v := 0) B dX8_runningTask_0 (by decide) k) ?_
  refine ym 2 (fun B k => z_istore_n (lv' := [(2, .int 0), (0, .ref t), (1, .int x1)]) B dX8_runningTask_1 rfl (by decide) rfl k) ?_
  refine y_sub [(0, .ref t), (1, .int x1), (2, .int 0)] [1, 2, 0] rfl ?_
  exact tl_X8_runningTask_2 h hT hk_t
set_option maxRecDepth 100000 in
set_option maxHeartbeats 4000000 in
theorem ct_X7_close (l : Launch) {g : gx_T} {σ : sx_T} {u : sx_T}  {t : Nat} (h : f_X7_close σ t = some u) (hT : TS g σ) (hk_t : sx_K σ t = 9) : CT l g yX7_close cX7_close 1 none 0 0 [.ref t] (True) u σ (Qxv g u) := by
  refine yc_met (by decide) (Nat.le_of_ble_eq_true rfl) ?_
  refine yc_lv (show lv_args 0 [.ref t] = [(0, .ref t)] from rfl) ?_
  show ZY l g _ _ _ _ _ _ _ _ _ _ _ _ _ _ σ 0 [(0, .ref t)] []
  unfold f_X7_close at h
  refine ym 1 (fun B k => z_aload_n B dX7_close_0 rfl 0 rfl k) ?_
  refine ym 2 (fun B k => z_iconst (v := 3) B dX7_close_1 (by decide) k) ?_
  have j1 := hk_t
  refine ymw (σ' := (wx_I σ t 3 3)) 5 e_I (fun B hin k => pf_X7_9 (x := 3) B hk_t rfl dX7_close_2 k) ?_
  have hT := TS_I (k := 3) (x := 3) hT hk_t (Or.inl rfl)
  have hk_t := kk_I (σ := σ) (a := t) (k := 3) (x := 3) hk_t
  refine ym 6 (fun B k => z_aload_n B dX7_close_5 rfl 0 rfl k) ?_
  refine ym 7 (fun B k => z_iconst (v := 0) B dX7_close_6 (by decide) k) ?_
  have j2 := hk_t
  refine ymw (σ' := (wx_I (wx_I σ t 3 3) t 6 0)) 10 e_I (fun B hin k => pf_X7_34 (x := 0) B hk_t rfl dX7_close_7 k) ?_
  have hT := TS_I (k := 6) (x := 0) hT hk_t (Or.inl rfl)
  have hk_t := kk_I (σ := (wx_I σ t 3 3)) (a := t) (k := 6) (x := 0) hk_t
  refine ym 11 (fun B k => z_aload_n B dX7_close_10 rfl 0 rfl k) ?_
  replace h := qv_e h
  obtain ⟨w3, e_w3, h⟩ := h
  have hq_w3 : rk (wx_I (wx_I σ t 3 3) t 6 0) w3 2 := rk_T hT hk_t rfl (by decide) ((rR_I (rR_I rfl)).trans e_w3)
  refine ym 14 (fun B k => gf_X7_18 (x := w3) B hk_t ((rR_I (rR_I rfl)).trans e_w3) dX7_close_11 k) ?_
  refine ym 15 (fun B k => z_null B dX7_close_14 k) ?_
  replace h := bq_e h
  obtain ⟨a4, rfl, h⟩ := h
  have hk_a4 := hq_w3 a4 rfl
  have j5 := hk_a4
  refine ymw (σ' := (wx_R (wx_I (wx_I σ t 3 3) t 6 0) a4 7 none)) 18 e_R (fun B hin k => pf_X7_37 (x := none) B hk_a4 rfl dX7_close_15 k) ?_
  have hT := TS_R (k := 7) (v := none) hT hk_a4 (Or.inr rk_n) (Or.inl (by decide))
  have hk_t := kk_R (σ := (wx_I (wx_I σ t 3 3) t 6 0)) (a := a4) (k := 7) (x := none) hk_t
  obtain rfl := Option.some.inj h
  exact yr_v hT trivial rfl dX7_close_18
set_option maxRecDepth 100000 in
set_option maxHeartbeats 4000000 in
theorem ct_X1_add (l : Launch) {g : gx_T} {σ : sx_T} {u : sx_T}  {t : Nat} {x1 : Int32} {x2 : Int64} (h : f_X1_add σ t x1 x2 = some u) (hT : TS g σ) (hk_t : sx_K σ t = 3) : CT l g yX1_add cX1_add 4 none 0 0 [.ref t, .int x1, .long x2] (True) u σ (Qxv g u) := by
  refine yc_met (by decide) (Nat.le_of_ble_eq_true rfl) ?_
  refine yc_lv (show lv_args 0 [.ref t, .int x1, .long x2] = [(0, .ref t), (1, .int x1), (2, .long x2)] from rfl) ?_
  show ZY l g _ _ _ _ _ _ _ _ _ _ _ _ _ _ σ 0 [(0, .ref t), (1, .int x1), (2, .long x2)] []
  unfold f_X1_add at h
  refine ym 1 (fun B k => z_aload_n B dX1_add_0 rfl 0 rfl k) ?_
  refine ym 4 (fun B k => gf_X1_19 (x := (sx_I σ t 2)) B hk_t rfl dX1_add_1 k) ?_
  by_cases c1 : (sx_I σ t 2) < 0
  · replace h := ite_p c1 h
    refine ym 62 (fun B k => z_if_lt (tgt := 62) B dX1_add_4 (by decide) (fun _ => k) (fun q => absurd c1 q)) ?_
    obtain rfl := Option.some.inj h
    exact yr_v hT trivial rfl dX1_add_62
  · replace h := ite_n c1 h
    refine ym 7 (fun B k => z_if_lt (tgt := 62) B dX1_add_4 (by decide) (fun q => absurd q c1) (fun _ => k)) ?_
    refine ym 8 (fun B k => z_aload_n B dX1_add_7 rfl 0 rfl k) ?_
    refine ym 11 (fun B k => gf_X1_19 (x := (sx_I σ t 2)) B hk_t rfl dX1_add_8 k) ?_
    refine ym 12 (fun B k => z_aload_n B dX1_add_11 rfl 0 rfl k) ?_
    replace h := qv_e h
    obtain ⟨w2, e_w2, h⟩ := h
    have hq_w2 : rk σ w2 12 := rk_T hT hk_t rfl (by decide) e_w2
    refine ym 15 (fun B k => gf_X1_9 (x := w2) B hk_t e_w2 dX1_add_12 k) ?_
    replace h := bq_e h
    obtain ⟨a3, rfl, h⟩ := h
    have hk_a3 := hq_w2 a3 rfl
    refine ym 16 (fun B k => z_alen (kd := 12) (ti := 0) (v := Int32.ofNat (sx_N σ a3)) B hk_a3 (by decide) rfl rfl dX1_add_15 k) ?_
    by_cases c4 : (Int32.ofNat (sx_N σ a3)) ≤ (sx_I σ t 2)
    · replace h := ite_p c4 h
      refine ym 62 (fun B k => z_icmp_ge (tgt := 62) B dX1_add_16 (by decide) (fun _ => k) (fun q => absurd c4 q)) ?_
      obtain rfl := Option.some.inj h
      exact yr_v hT trivial rfl dX1_add_62
    · replace h := ite_n c4 h
      refine ym 19 (fun B k => z_icmp_ge (tgt := 62) B dX1_add_16 (by decide) (fun q => absurd q c4) (fun _ => k)) ?_
      refine ym 20 (fun B k => z_aload_n B dX1_add_19 rfl 0 rfl k) ?_
      refine ym 23 (fun B k => gf_X1_19 (x := (sx_I σ t 2)) B hk_t rfl dX1_add_20 k) ?_
      refine ym 24 (fun B k => z_aload_n B dX1_add_23 rfl 0 rfl k) ?_
      replace h := qv_e h
      obtain ⟨w5, e_w5, h⟩ := h
      have hq_w5 : rk σ w5 14 := rk_T hT hk_t rfl (by decide) e_w5
      refine ym 27 (fun B k => gf_X1_15 (x := w5) B hk_t e_w5 dX1_add_24 k) ?_
      replace h := bq_e h
      obtain ⟨a6, rfl, h⟩ := h
      have hk_a6 := hq_w5 a6 rfl
      refine ym 28 (fun B k => z_alen (kd := 14) (ti := 2) (v := Int32.ofNat (sx_N σ a6)) B hk_a6 (by decide) rfl rfl dX1_add_27 k) ?_
      by_cases c7 : (Int32.ofNat (sx_N σ a6)) ≤ (sx_I σ t 2)
      · replace h := ite_p c7 h
        refine ym 62 (fun B k => z_icmp_ge (tgt := 62) B dX1_add_28 (by decide) (fun _ => k) (fun q => absurd c7 q)) ?_
        obtain rfl := Option.some.inj h
        exact yr_v hT trivial rfl dX1_add_62
      · replace h := ite_n c7 h
        refine ym 31 (fun B k => z_icmp_ge (tgt := 62) B dX1_add_28 (by decide) (fun q => absurd q c7) (fun _ => k)) ?_
        refine ym 32 (fun B k => z_aload_n B dX1_add_31 rfl 0 rfl k) ?_
        replace h := qv_e h
        obtain ⟨w8, e_w8, h⟩ := h
        have hq_w8 : rk σ w8 12 := rk_T hT hk_t rfl (by decide) e_w8
        refine ym 35 (fun B k => gf_X1_9 (x := w8) B hk_t e_w8 dX1_add_32 k) ?_
        refine ym 36 (fun B k => z_aload_n B dX1_add_35 rfl 0 rfl k) ?_
        refine ym 39 (fun B k => gf_X1_19 (x := (sx_I σ t 2)) B hk_t rfl dX1_add_36 k) ?_
        refine ym 40 (fun B k => z_iload_n B dX1_add_39 rfl 1 rfl k) ?_
        refine ym 41 (fun B k => z_i2b (v := x1.toInt8.toInt32) B dX1_add_40 rfl k) ?_
        replace h := bq_e h
        obtain ⟨a9, rfl, h⟩ := h
        have hk_a9 := hq_w8 a9 rfl
        replace h := ck_e h
        obtain ⟨hi_10, h⟩ := h
        have j11 := hk_a9
        refine ymw (σ' := (wx_I σ a9 (ti (sx_I σ t 2)) x1.toInt8.toInt32.toInt8.toInt32)) 42 e_I (fun B _ k => z_bast (j := (ti (sx_I σ t 2))) B hk_a9 rfl hi_10 rfl dX1_add_41 k) ?_
        have hT := TS_I (k := (ti (sx_I σ t 2))) (x := x1.toInt8.toInt32.toInt8.toInt32) hT hk_a9 (Or.inl rfl)
        have hk_t := kk_I (σ := σ) (a := a9) (k := (ti (sx_I σ t 2))) (x := x1.toInt8.toInt32.toInt8.toInt32) hk_t
        refine ym 43 (fun B k => z_aload_n B dX1_add_42 rfl 0 rfl k) ?_
        replace h := qv_e h
        obtain ⟨w12, e_w12, h⟩ := h
        have hq_w12 : rk (wx_I σ a9 (ti (sx_I σ t 2)) x1.toInt8.toInt32.toInt8.toInt32) w12 14 := rk_T hT hk_t rfl (by decide) ((rR_I rfl).trans e_w12)
        refine ym 46 (fun B k => gf_X1_15 (x := w12) B hk_t ((rR_I rfl).trans e_w12) dX1_add_43 k) ?_
        refine ym 47 (fun B k => z_aload_n B dX1_add_46 rfl 0 rfl k) ?_
        refine ym 50 (fun B k => gf_X1_19 (x := (sx_I σ t 2)) B hk_t (rI_k (by decide) j11 (kd_I hk_t) rfl) dX1_add_47 k) ?_
        refine ym 51 (fun B k => z_lload_n B dX1_add_50 rfl 2 rfl k) ?_
        replace h := bq_e h
        obtain ⟨a13, rfl, h⟩ := h
        have hk_a13 := hq_w12 a13 rfl
        replace h := ck_e h
        obtain ⟨hi_14, h⟩ := h
        have j15 := hk_a13
        refine ymw (σ' := (wx_J (wx_I σ a9 (ti (sx_I σ t 2)) x1.toInt8.toInt32.toInt8.toInt32) a13 (ti (sx_I σ t 2)) x2)) 52 e_J (fun B _ k => z_last (j := (ti (sx_I σ t 2))) B hk_a13 rfl hi_14 rfl dX1_add_51 k) ?_
        have hT := TS_J (a := a13) (k := (ti (sx_I σ t 2))) (x := x2) hT
        have hk_t := kk_J (σ := (wx_I σ a9 (ti (sx_I σ t 2)) x1.toInt8.toInt32.toInt8.toInt32)) (a := a13) (k := (ti (sx_I σ t 2))) (x := x2) hk_t
        refine ym 53 (fun B k => z_aload_n B dX1_add_52 rfl 0 rfl k) ?_
        refine ym 54 (fun B k => z_dup B dX1_add_53 rfl k) ?_
        refine ym 57 (fun B k => gf_X1_19 (x := (sx_I σ t 2)) B hk_t (rI_J (rI_k (by decide) j11 (kd_I (kd_J hk_t)) rfl)) dX1_add_54 k) ?_
        refine ym 58 (fun B k => z_iconst (v := 1) B dX1_add_57 (by decide) k) ?_
        refine ym 59 (fun B k => z_iadd B dX1_add_58 k) ?_
        have j16 := hk_t
        refine ymw (σ' := (wx_I (wx_J (wx_I σ a9 (ti (sx_I σ t 2)) x1.toInt8.toInt32.toInt8.toInt32) a13 (ti (sx_I σ t 2)) x2) t 2 ((sx_I σ t 2) + 1))) 62 e_I (fun B hin k => pf_X1_19 (x := ((sx_I σ t 2) + 1)) B hk_t rfl dX1_add_59 k) ?_
        have hT := TS_I (k := 2) (x := ((sx_I σ t 2) + 1)) hT hk_t (Or.inl rfl)
        have hk_t := kk_I (σ := (wx_J (wx_I σ a9 (ti (sx_I σ t 2)) x1.toInt8.toInt32.toInt8.toInt32) a13 (ti (sx_I σ t 2)) x2)) (a := t) (k := 2) (x := ((sx_I σ t 2) + 1)) hk_t
        obtain rfl := Option.some.inj h
        exact yr_v hT trivial rfl dX1_add_62
set_option maxRecDepth 100000 in
set_option maxHeartbeats 4000000 in
theorem ct_X7_finish (l : Launch) {g : gx_T} {σ : sx_T} {u : sx_T}  {t : Nat} {x1 : Int32} {x2 : Int32} (h : f_X7_finish σ t x1 x2 = some u) (hT : TS g σ) (hk_t : sx_K σ t = 9) : CT l g yX7_finish cX7_finish 3 none 1 23 [.ref t, .int x1, .int x2] (True) u σ (Qxv g u) := by
  refine yc_met (by decide) (Nat.le_of_ble_eq_true rfl) ?_
  refine yc_lv (show lv_args 0 [.ref t, .int x1, .int x2] = [(0, .ref t), (1, .int x1), (2, .int x2)] from rfl) ?_
  show ZY l g _ _ _ _ _ _ _ _ _ _ _ _ _ _ σ 0 [(0, .ref t), (1, .int x1), (2, .int x2)] []
  unfold f_X7_finish at h
  refine ym 1 (fun B k => z_aload_n B dX7_finish_0 rfl 0 rfl k) ?_
  replace h := br_e h
  obtain ⟨u2, h1, h⟩ := h
  have m3 := ct_X7_close l (g := g) h1 hT hk_t
  refine yc_Vv (Al := []) (rest := []) 4 rfl cw_X7_41 cx_8 dX7_finish_1 m3 hk_t rfl (by decide) rfl (Nat.le_of_ble_eq_true rfl) ?_
  have hk_t := k_G m3.1.1 (by decide) hk_t
  have hT := m3.1.1.2.2.2
  refine ym 5 (fun B k => z_aload_n B dX7_finish_4 rfl 0 rfl k) ?_
  replace h := qv_e h
  obtain ⟨w4, e_w4, h⟩ := h
  have hq_w4 : rk u2 w4 2 := rk_T hT hk_t rfl (by decide) e_w4
  refine ym 8 (fun B k => gf_X7_18 (x := w4) B hk_t e_w4 dX7_finish_5 k) ?_
  replace h := bq_e h
  obtain ⟨a5, rfl, h⟩ := h
  have hk_a5 := hq_w4 a5 rfl
  replace h := qv_e h
  obtain ⟨w6, e_w6, h⟩ := h
  have hq_w6 : rk u2 w6 3 := rk_T hT hk_a5 rfl (by decide) e_w6
  refine ym 11 (fun B k => gf_X7_44 (x := w6) B hk_a5 e_w6 dX7_finish_8 k) ?_
  refine ym 12 (fun B k => z_iload_n B dX7_finish_11 rfl 1 rfl k) ?_
  refine ym 13 (fun B k => z_iload_n B dX7_finish_12 rfl 2 rfl k) ?_
  refine ym 14 (fun B k => z_i2l (v := x2.toInt64) B dX7_finish_13 rfl k) ?_
  replace h := bq_e h
  obtain ⟨a7, rfl, h⟩ := h
  have hk_a7 := hq_w6 a7 rfl
  replace h := br_e h
  obtain ⟨u9, h8, h⟩ := h
  have m10 := ct_X1_add l (g := g) h8 hT hk_a7
  refine yc_Vv (Al := [.int x1, .long x2.toInt64]) (rest := []) 17 rfl cw_X7_48 cx_2 dX7_finish_14 m10 hk_a7 rfl (by decide) rfl (Nat.le_of_ble_eq_true rfl) ?_
  have hk_t := k_G m10.1.1 (by decide) hk_t
  have hT := m10.1.1.2.2.2
  obtain rfl := Option.some.inj h
  exact yr_v hT trivial rfl dX7_finish_17
